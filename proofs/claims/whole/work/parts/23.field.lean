/-! THE DEEP LAYER (4): fields, new objects and arrays, constants -/
section DPfield
variable {p : Program} {l : Launch} {e : Env} {R : Room} {s : State} {m : MethodId} {args : Array Value} {below : List Frame} {meth : Method} {c : Code} {H : Heap} {locs : List Loc} {cells slots : Nat} {Q : State → Prop}
variable {cc : ByteArray} {pc : Nat} {ls : Array Slot} {b : Nat} {sa : Nat → Nat} {G : dp_G} {H0 : Heap} {md : Bool} {M : dp_M} {o : Nat}
theorem dp_putw (hx : p.tables.exec = Jvm.exec) (hb : c.code = cc) (hts : ∀ w ∈ dp_T, w.before args s = true) (hown : s.vm.findClass (dp_own o) = some m.cls) (hK : dp_Kn G sa s) (hRp : dp_Rep G b H0 md M H) (hl : ∀ q ∈ locs, b ≤ q.base) {ini : Bool} (hini : ini = true → meth.name = "<init>")
    {ix ci f a : Nat} (hlk : dp_lkF o ix = some (ci, f)) (hfin : ¬ (dp_fin ci f = true ∧ (ini = false ∨ ci ≠ o))) (ht : dp_t md M a = ci + 10) {v : Value} {M' : dp_M} (hfit : ∀ ty, dp_kd (dp_fk ci f) ty → narrow ty v = v ∧ fits ty v = true)
    (hsm : dp_same M M' a) (hR : md = true → ∀ i, a < dp_K0 → dp_sr a i ≠ 0 → dp_R M' a i = dp_R M a i) (hM' : ∀ j, updV (fun i => dp_fv b M a (dp_fk ci i) i) f v j = dp_fv b M' a (dp_fk ci j) j) {rest : List Value} (hd : decode cc pc = .ok (.putfield ix, 3))
    (kk : ∀ H' locs', dp_Rep G b H0 md M' H' → (∀ q ∈ locs', b ≤ q.base) → W p l e R s m args below meth c H' locs' cells slots Q (F0 m (pc + 3) ls rest)) :
    W p l e R s m args below meth c H locs cells slots Q (F0 m pc ls (v :: .ref (b + a) :: rest)) := by
  obtain ⟨C, T, N, hc, hk, hlink⟩ := dp_lkF_ok hlk
  obtain ⟨hin, ⟨ty0, hty, hkd⟩, hnm, -, -⟩ := dp_cl_ok hc
  obtain ⟨hn, hft⟩ := hfit _ (hkd f hk)
  have hap := va_apart (own := C) hts hin ty0 hty hnm hK.1 hc
  obtain ⟨r, hr, cell, q1, q2, q3, q4⟩ : dp_ob G b ci M a H := hRp.arr ht (by omega)
  have hr : r = (C, T, N) := Option.some.inj (hr.symm.trans hc)
  subst hr
  obtain ⟨hS, hfc, kC, hkC, hkind⟩ := hK.1.1 ci _ hc
  obtain ⟨cf, kf, fi, fd, hi, hsl⟩ := hS f hk
  have hlay := hts _ (hin _ (u_in_lay hk))
  have hst := (u_facts hfc hkC (u_lays hts hin hk) hi).1
  have key : ∀ H' : Heap, H'[b + a]? = some (cell.setSlot fd.slot v) → H'.size = H.size → (∀ q : Nat, q ≠ b + a → H'[q]? = H[q]?) → dp_Rep G b H0 md M' H' := by
    intro H' e1 z1 o1
    rw [hsl] at e1
    refine hRp.wr z1 o1 hsm ?_ hR
    rw [ht]
    exact ⟨_, hc, t_OB.to ⟨_, e1, q2, q3, t_set q4 hap hk v⟩ (fun j _ => hM' j)⟩
  unfold u_lay at hlay
  by_cases hF : (T f).2.2.2 = true
  · rw [if_pos hF] at hlay
    have hF2 : dp_fin ci f = true := by rw [← dp_fin_ok hc hk]; exact hF
    have hdc : (T f).1 = dp_own o := by
      rw [dp_decl_ok hc hk]
      by_cases hco : ci = o
      · rw [hco]
      · exact absurd ⟨hF2, Or.inr hco⟩ hfin
    have hcf : m.cls = cf := by
      obtain ⟨_, _, c', _, _, _, -, -, hf', -, -, -, hown2, -⟩ := Cond.laysFinal_spec hlay
      have e1 : c' = cf := by have := hi.symm.trans hf'; simp at this; exact this.1.symm
      rw [hdc] at hown2
      rw [← e1]; exact Option.some.inj (hown.symm.trans hown2)
    have hin2 : meth.name = "<init>" := hini (by
      cases ini with
      | true => rfl
      | false => exact absurd ⟨hF2, Or.inl rfl⟩ hfin)
    have h6 := u_fits hfc hkC hkind (Or.inr hlay) hi (hty f hk) hn hft
    exact W.putFinK hx hb hown (hts _ hlink) hi hst hcf hin2 (by rw [q2]; exact h6) q1 q3 (by rw [hsl]; exact k2_hasslot (q4 f hk)) rfl rfl hd (fun H' e1 e2 e3 => kk H' _ (key H' e1 e2 e3) (dp_locs hl _ _))
  · rw [if_neg hF] at hlay
    have h6 := u_store hfc hkC hkind hlay hi (hty f hk) hn hft
    exact W.putK hx hb (f := fd) ⟨hown, hts _ hlink, ⟨_, _, _, hi⟩, hst⟩ (by rw [q2]; exact h6) q1 q3 (by rw [hsl]; exact k2_hasslot (q4 f hk)) rfl rfl hd (fun H' e1 e2 e3 => kk H' _ (key H' e1 e2 e3) (dp_locs hl _ _))
theorem dp_fvI (M : dp_M) (a f j : Nat) (x : Int32) (kd : Nat → Nat) (hf : kd f = 0) : updV (fun i => dp_fv b M a (kd i) i) f (.int x) j = dp_fv b (dp_setI M a f x) a (kd j) j := by
  by_cases h : j = f
  · subst h; simp [updV, hf, dp_fv, dp_I, dp_setI, dp_up]
  · simp only [updV, if_neg h]; unfold dp_fv; split <;> simp [dp_I, dp_setI, dp_up, h]
theorem dp_fvJ (M : dp_M) (a f j : Nat) (x : Int64) (kd : Nat → Nat) (hf : kd f = 1) : updV (fun i => dp_fv b M a (kd i) i) f (.long x) j = dp_fv b (dp_setJ M a f x) a (kd j) j := by
  by_cases h : j = f
  · subst h; simp [updV, hf, dp_fv, dp_J, dp_setJ, dp_up]
  · simp only [updV, if_neg h]; unfold dp_fv; split <;> simp [dp_J, dp_setJ, dp_up, h]
theorem dp_fvR (M : dp_M) (a f j x : Nat) (kd : Nat → Nat) (hf : kd f = 2) : updV (fun i => dp_fv b M a (kd i) i) f (.ref (b + x)) j = dp_fv b (dp_setR M a f (some x)) a (kd j) j := by
  by_cases h : j = f
  · subst h; simp [updV, hf, dp_fv, dp_R, dp_setR, dp_up, va_rf]
  · simp only [updV, if_neg h]; unfold dp_fv; split <;> simp [dp_R, dp_setR, dp_up, h]
set_option maxHeartbeats 4000000 in
theorem dp_fld_ok (hx : p.tables.exec = Jvm.exec) (hb : c.code = cc) (hts : ∀ w ∈ dp_T, w.before args s = true) (hown : s.vm.findClass (dp_own o) = some m.cls) (hK : dp_Kn G sa s) (hRp : dp_Rep G b H0 md M H) (hl : ∀ q ∈ locs, b ≤ q.base) {ini : Bool} (hini : ini = true → meth.name = "<init>")
    {i : Instr} {st : List Value} {α : Type} {k : List Value → dp_M → Option α} {r : α} (h : dp_fld md o ini i st M k = some r) (hd : decode cc pc = .ok (i, dp_il i))
    (kk : ∀ st' M' H' locs', k st' M' = some r → dp_n M' = dp_n M → dp_z M' = dp_z M → dp_Rep G b H0 md M' H' → (∀ q ∈ locs', b ≤ q.base) → W p l e R s m args below meth c H' locs' cells slots Q (F0 m (pc + dp_il i) ls (st'.map (dp_cv b sa)))) :
    W p l e R s m args below meth c H locs cells slots Q (F0 m pc ls (st.map (dp_cv b sa))) := by
  cases i <;> first | (exfalso; simp only [dp_fld, reduceCtorEq] at h; done) | skip
  case getfield ix =>
    simp only [dp_fld] at h; split at h
    · rename_i ci f hlk
      split at h
      · rename_i a r0
        split at h
        · rename_i ht
          obtain ⟨C, T, N, hc, hk, hlink⟩ := dp_lkF_ok hlk
          obtain ⟨hin, -⟩ := dp_cl_ok hc
          obtain ⟨r9, hr, cell, q1, q2, q3, q4⟩ : dp_ob G b ci M a H := hRp.arr ht (by omega)
          have hr : r9 = (C, T, N) := Option.some.inj (hr.symm.trans hc)
          subst hr
          obtain ⟨hS, hfc, kC, hkC, hkind⟩ := hK.1.1 ci _ hc
          obtain ⟨cf, kf, fi, fd, hi, hsl⟩ := hS f hk
          have h4 := kk _ _ H locs h rfl rfl hRp hl
          rw [List.map_cons, dp_gv_cv hRp] at h4
          exact W.getf hx hb hown (hts _ hlink) hi (u_facts hfc hkC (u_lays hts hin hk) hi).1 q1 (by rw [q3]; exact fun h => by cases h) (by rw [hsl]; exact q4 f hk) rfl rfl hd h4
        · cases h
      · cases h
    · cases h
  case putfield ix =>
    simp only [dp_fld] at h; split at h
    · rename_i ci f hlk
      split at h
      · cases h
      · rename_i hfin
        split at h
        · rename_i x a r0
          split at h
          · rename_i ht
            exact dp_putw hx hb hts hown hK hRp hl hini hlk hfin ht.1 (fun ty hty => by
              rcases hty with ⟨-, rfl⟩ | ⟨h1, -⟩ | ⟨h1, -⟩
              · exact ⟨rfl, rfl⟩
              · rw [ht.2] at h1; cases h1
              · rw [ht.2] at h1; cases h1) (dp_same_I M a f x) (fun _ _ _ _ => rfl) (fun j => dp_fvI M a f j x _ ht.2) hd (fun H' locs' h1 h2 => kk _ _ H' locs' h rfl rfl h1 h2)
          · cases h
        · rename_i x a r0
          split at h
          · rename_i ht
            exact dp_putw hx hb hts hown hK hRp hl hini hlk hfin ht.1 (fun ty hty => by
              rcases hty with ⟨h1, -⟩ | ⟨-, rfl⟩ | ⟨h1, -⟩
              · rw [ht.2] at h1; cases h1
              · exact ⟨rfl, rfl⟩
              · rw [ht.2] at h1; cases h1) (dp_same_J M a f x) (fun _ _ _ _ => rfl) (fun j => dp_fvJ M a f j x _ ht.2) hd (fun H' locs' h1 h2 => kk _ _ H' locs' h rfl rfl h1 h2)
          · cases h
        · rename_i x a r0
          split at h
          · rename_i ht
            exact dp_putw hx hb hts hown hK hRp hl hini hlk hfin ht.1.1 (fun ty hty => by
              rcases hty with ⟨h1, -⟩ | ⟨h1, -⟩ | ⟨-, ⟨n, rfl⟩ | ⟨t, rfl⟩⟩
              · rw [ht.1.2] at h1; cases h1
              · rw [ht.1.2] at h1; cases h1
              · exact ⟨rfl, rfl⟩
              · exact ⟨rfl, rfl⟩) (dp_same_R M a f (some x)) (fun hm i ha hi => by
                rcases ht.2 with q | q
                · rw [q] at hm; cases hm
                · omega) (fun j => dp_fvR M a f j x _ ht.1.2) hd (fun H' locs' h1 h2 => kk _ _ H' locs' h rfl rfl h1 h2)
          · cases h
        · cases h
    · cases h
theorem dp_cst_ok (hx : p.tables.exec = Jvm.exec) (hb : c.code = cc) (hts : ∀ w ∈ dp_T, w.before args s = true) (hown : s.vm.findClass (dp_own o) = some m.cls) (hK : dp_Kn G sa s) {i : Instr} {v : Value} (h : dp_cst o i = some v) (hd : decode cc pc = .ok (i, dp_il i)) {rest : List Value}
    (kk : W p l e R s m args below meth c H locs cells slots Q (F0 m (pc + dp_il i) ls (dp_cv b sa v :: rest))) : W p l e R s m args below meth c H locs cells slots Q (F0 m pc ls rest) := by
  cases i <;> first | (exfalso; simp only [dp_cst, reduceCtorEq] at h; done) | skip
  case ldc ix =>
    simp only [dp_cst] at h; split at h
    · rename_i w hw; cases h; exact lv_ldc hx hb hown (hts _ (dp_lkI_ok hw)) hd kk
    · split at h
      · rename_i j hj; cases h; exact va_ldcS hx hb hown (hK.2.2.1 _ _ _ hj) hd kk
      · cases h
  case ldc_w ix =>
    simp only [dp_cst] at h; split at h
    · rename_i w hw; cases h; exact lv_ldcw hx hb hown (hts _ (dp_lkI_ok hw)) hd kk
    · cases h
  case ldc2_w ix =>
    simp only [dp_cst] at h; split at h
    · rename_i w hw; cases h; exact lv_ldc2 hx hb hown (hts _ (dp_lkJ_ok hw)) hd kk
    · cases h
end DPfield
