/-! THE DEEP LAYER (5): making -/
section DPmake
variable {p : Program} {l : Launch} {e : Env} {R : Room} {s : State} {m : MethodId} {args : Array Value} {below : List Frame} {meth : Method} {c : Code} {H : Heap} {locs : List Loc} {Q : State → Prop}
variable {cc : ByteArray} {pc : Nat} {ls : Array Slot} {b : Nat} {sa : Nat → Nat} {G : dp_G} {H0 : Heap} {md : Bool} {M : dp_M} {o n0 z0 : Nat}
theorem dp_newI (M : dp_M) (n t z : Nat) : dp_I (dp_new M n t z) (dp_n M) = fun _ => 0 := by funext i; simp [dp_I, dp_new, dp_row]
theorem dp_newJ (M : dp_M) (n t z : Nat) : dp_J (dp_new M n t z) (dp_n M) = fun _ => 0 := by funext i; simp [dp_J, dp_new, dp_row]
theorem dp_newR (M : dp_M) (n t z : Nat) : dp_R (dp_new M n t z) (dp_n M) = fun _ => none := by funext i; simp [dp_R, dp_new, dp_row]
theorem dp_newL (M : dp_M) (n t z : Nat) : dp_len (dp_new M n t z) (dp_n M) = n := by simp [dp_len, dp_new, dp_u1]
set_option maxHeartbeats 4000000 in
theorem dp_mk_ok (hx : p.tables.exec = Jvm.exec) (hb : c.code = cc) (hts : ∀ w ∈ dp_T, w.before args s = true) (hown : s.vm.findClass (dp_own o) = some m.cls) (hK : dp_Kn G sa s) (hRp : dp_Rep G b H0 md M H) (hn0 : n0 ≤ dp_n M) (hz0 : z0 ≤ dp_z M)
    {i : Instr} {st : List Value} {α : Type} {k : List Value → dp_M → Option α} {r : α} (h : dp_mk o i st M k = some r) (hd : decode cc pc = .ok (i, dp_il i))
    (hroom : ∀ st' M', k st' M' = some r → dp_n M' ≤ n0 + R.cells ∧ dp_z M' ≤ z0 + R.slots)
    (kk : ∀ st' M' H', k st' M' = some r → n0 ≤ dp_n M' → z0 ≤ dp_z M' → dp_Rep G b H0 md M' H' → W p l e R s m args below meth c H' locs (dp_n M' - n0) (dp_z M' - z0) Q (F0 m (pc + dp_il i) ls (st'.map (dp_cv b sa)))) :
    W p l e R s m args below meth c H locs (dp_n M - n0) (dp_z M - z0) Q (F0 m pc ls (st.map (dp_cv b sa))) := by
  have hKa := hK.1.2
  obtain ⟨ha1, ha2, ha3, ha4⟩ := dp_arr_ok
  have hcnt : ∀ n t z, dp_n (dp_new M n t z) - n0 = dp_n M - n0 + 1 ∧ dp_z (dp_new M n t z) - z0 = dp_z M - z0 + z := fun n t z => ⟨by show dp_n M + 1 - n0 = _; omega, by show dp_z M + z - z0 = _; omega⟩
  have hge : ∀ n t z, n0 ≤ dp_n (dp_new M n t z) ∧ z0 ≤ dp_z (dp_new M n t z) := fun n t z => ⟨by show n0 ≤ dp_n M + 1; omega, by show z0 ≤ dp_z M + z; omega⟩
  have hrm : ∀ n t z, dp_n (dp_new M n t z) ≤ n0 + R.cells ∧ dp_z (dp_new M n t z) ≤ z0 + R.slots → dp_n M - n0 + 1 ≤ R.cells ∧ dp_z M - z0 + z ≤ R.slots := fun n t z hq => by
    have h1 : dp_n (dp_new M n t z) = dp_n M + 1 := rfl
    have h2 : dp_z (dp_new M n t z) = dp_z M + z := rfl
    omega
  cases i <;> first | (exfalso; simp only [dp_mk, reduceCtorEq] at h; done) | skip
  case newarray at_ =>
    simp only [dp_mk] at h; split at h
    · rename_i cnt r0
      split at h
      · cases h
      · rename_i hb0
        have hneg : ¬ cnt < 0 := fun q => hb0 (Or.inl q)
        have hbig : cnt.toNatClampNeg < 1000000 := Nat.not_le.mp fun q => hb0 (Or.inr q)
        split at h
        · obtain ⟨h1, h2⟩ := dp_nk_s h
          obtain ⟨g1, g2⟩ := hrm _ _ _ (hroom _ _ h2)
          refine va_newaK (atype := .int) hx hb (hts _ ha1) rfl hd rfl hneg rfl (by show cnt.toNatClampNeg * 4 ≤ _; omega) g1 g2 rfl (fun H' cA e1 z1 o1 hAr hNm => ?_)
          have hcA : G.2 1 = cA := Option.some.inj ((show s.vm.findClass _ = some _ from (hKa 0 _ rfl).2).symm.trans hNm)
          subst hcA
          have h4 := kk _ _ H' h2 (hge _ _ _).1 (hge _ _ _).2 (hRp.nw z1 o1 h1 (by
            show H'[b + dp_n M]? = some (arrV (G.2 1) (dp_len _ _) _)
            rw [dp_newL, dp_newI, ← hRp.1]; exact e1))
          rw [(hcnt _ _ _).1, (hcnt _ _ _).2] at h4
          rw [hRp.1]; exact h4
        · obtain ⟨h1, h2⟩ := dp_nk_s h
          obtain ⟨g1, g2⟩ := hrm _ _ _ (hroom _ _ h2)
          refine va_newaK (atype := .long) hx hb (hts _ ha2) rfl hd rfl hneg rfl (by show cnt.toNatClampNeg * 8 ≤ _; omega) g1 g2 rfl (fun H' cA e1 z1 o1 hAr hNm => ?_)
          have hcA : G.2 2 = cA := Option.some.inj ((show s.vm.findClass _ = some _ from (hKa 1 _ rfl).2).symm.trans hNm)
          subst hcA
          have h4 := kk _ _ H' h2 (hge _ _ _).1 (hge _ _ _).2 (hRp.nw z1 o1 h1 (by
            show H'[b + dp_n M]? = some (arrV (G.2 2) (dp_len _ _) _)
            rw [dp_newL, dp_newJ, ← hRp.1]; exact e1))
          rw [(hcnt _ _ _).1, (hcnt _ _ _).2] at h4
          rw [hRp.1]; exact h4
        · obtain ⟨h1, h2⟩ := dp_nk_s h
          obtain ⟨g1, g2⟩ := hrm _ _ _ (hroom _ _ h2)
          refine va_newaK (atype := .boolean) hx hb (hts _ ha3) rfl hd rfl hneg rfl (by show cnt.toNatClampNeg * 1 ≤ _; omega) g1 g2 rfl (fun H' cA e1 z1 o1 hAr hNm => ?_)
          have hcA : G.2 3 = cA := Option.some.inj ((show s.vm.findClass _ = some _ from (hKa 2 _ rfl).2).symm.trans hNm)
          subst hcA
          have h4 := kk _ _ H' h2 (hge _ _ _).1 (hge _ _ _).2 (hRp.nw z1 o1 h1 (by
            show H'[b + dp_n M]? = some (arrV (G.2 3) (dp_len _ _) _)
            rw [dp_newL, dp_newI, ← hRp.1]; exact e1))
          rw [(hcnt _ _ _).1, (hcnt _ _ _).2] at h4
          rw [hRp.1]; exact h4
        · obtain ⟨h1, h2⟩ := dp_nk_s h
          obtain ⟨g1, g2⟩ := hrm _ _ _ (hroom _ _ h2)
          refine va_newaK (atype := .char) hx hb (hts _ ha4) rfl hd rfl hneg rfl (by show cnt.toNatClampNeg * 2 ≤ _; omega) g1 g2 rfl (fun H' cA e1 z1 o1 hAr hNm => ?_)
          have hcA : G.2 4 = cA := Option.some.inj ((show s.vm.findClass _ = some _ from (hKa 3 _ rfl).2).symm.trans hNm)
          subst hcA
          have h4 := kk _ _ H' h2 (hge _ _ _).1 (hge _ _ _).2 (hRp.nw z1 o1 h1 (by
            show H'[b + dp_n M]? = some (arrV (G.2 4) (dp_len _ _) _)
            rw [dp_newL, dp_newI, ← hRp.1]; exact e1))
          rw [(hcnt _ _ _).1, (hcnt _ _ _).2] at h4
          rw [hRp.1]; exact h4
        · cases h
    · cases h
  case anewarray ix =>
    simp only [dp_mk] at h; split at h
    · rename_i cnt r0
      split at h
      · cases h
      · rename_i hb0
        have hneg : ¬ cnt < 0 := fun q => hb0 (Or.inl q)
        have hbig : cnt.toNatClampNeg < 1000000 := Nat.not_le.mp fun q => hb0 (Or.inr q)
        split at h
        · rename_i hlk
          obtain ⟨h1, h2⟩ := dp_nk_s h
          obtain ⟨g1, g2⟩ := hrm _ _ _ (hroom _ _ h2)
          refine W.anew hx hb hown (hts _ (dp_lkR_ok hlk)) (va_AO.use hK.2.1) rfl hd rfl hneg (by omega) g1 g2 (fun cA kA comp f1 f2 f3 f4 => ?_)
          obtain ⟨kA', comp', k1, k2, k3, k4⟩ := (hKa 4 _ rfl).2
          have hcA : G.2 5 = cA := Option.some.inj (k4.symm.trans f1)
          subst hcA
          have h4 := kk _ _ _ h2 (hge _ _ _).1 (hge _ _ _).2 (hRp.nw (H' := H.push ({ cls := G.2 5, slots := Array.replicate cnt.toNatClampNeg .null, vm := .none } : Cell)) (by rw [Array.size_push]) (fun q hq => by rw [Array.getElem?_push, if_neg (Nat.ne_of_lt hq)]) h1 (by
            show (H.push _)[b + dp_n M]? = some (arrV (G.2 5) (dp_len _ _) _)
            rw [dp_newL, dp_newR, ← hRp.1, Array.getElem?_push_size, arrV_new]; rfl))
          rw [(hcnt _ _ _).1, (hcnt _ _ _).2] at h4
          rw [hRp.1]; exact h4
        · cases h
    · cases h
  case new ix =>
    simp only [dp_mk] at h; split at h
    · rename_i ci hlk
      obtain ⟨h1, h2⟩ := dp_nk_s h
      obtain ⟨g1, g2⟩ := hrm _ _ _ (hroom _ _ h2)
      obtain ⟨C, T, N, hc, hlink⟩ := dp_lkN_ok hlk
      obtain ⟨hin, ⟨ty0, hty, hkd⟩, hnm, hins, hinit⟩ := dp_cl_ok hc
      rw [dp_nf_ok hc] at g2
      have hKn := hK.1.1 ci _ hc
      refine W.newcK hx hb hown (hts _ hlink) (hts _ hins) (hts _ hinit) rfl hd g1 g2 hKn.2.1 rfl (fun H' kC hkC e1 z1 o1 => ?_)
      have hO := u_born ty0 hts hin hKn hkC e1 hty
      have h4 := kk _ _ H' h2 (hge _ _ _).1 (hge _ _ _).2 (hRp.nw z1 o1 h1 (by
        refine ⟨_, hc, ?_⟩
        rw [← hRp.1]
        refine t_OB.to hO (fun j hj => ?_)
        unfold dp_fv
        rcases hkd j hj with ⟨a1, a2⟩ | ⟨a1, a2⟩ | ⟨a1, ⟨nm, a2⟩ | ⟨tt, a2⟩⟩
        · rw [a1, a2, dp_newI]; rfl
        · rw [a1, a2, dp_newJ]; rfl
        · rw [a1, a2, dp_newR]; rfl
        · rw [a1, a2, dp_newR]; rfl))
      rw [(hcnt _ _ _).1, (hcnt _ _ _).2, dp_nf_ok hc] at h4
      rw [hRp.1]; exact h4
    · cases h
end DPmake
