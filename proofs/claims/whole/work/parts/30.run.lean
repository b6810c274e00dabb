/-! THE DEEP LAYER (11): a method's runs are the machine's -/
section DPrun
variable {p : Program} {l : Launch} {e : Env} {R : Room} {s : State} {m : MethodId} {args : Array Value} {below : List Frame} {meth : Method} {c : Code} {H : Heap} {locs : List Loc}
variable {cc : ByteArray} {pc : Nat} {ls : Array Slot} {b : Nat} {sa : Nat → Nat} {G : dp_G} {H0 : Heap} {md : Bool} {xs : Nat → Int32} {xl : Nat} {M : dp_M} {n0 z0 : Nat}
set_option maxHeartbeats 4000000 in
theorem dp_end_ok {rt : Option FieldType} (hx : p.tables.exec = Jvm.exec) (hb : c.code = cc) (hr : meth.sig.returnType = rt) (hlocks : meth.locks = false) (hRp : dp_Rep G b H0 md M H) (hl : ∀ q ∈ locs, b ≤ q.base) {i : Instr} {st : List Value} {r : dp_Res} (h : dp_end rt i st M = some r) (hd : decode cc pc = .ok (i, dp_il i)) :
    W p l e R s m args below meth c H locs (dp_n M - n0) (dp_z M - z0) (vx_MQ below (dp_Qc G b sa H0 md r) (dp_XC G b H0 md r) args s (dp_n r.2 - n0) (dp_z r.2 - z0) (fun q => b ≤ q)) (F0 m pc ls (st.map (dp_cv b sa))) := by
  have hM := dp_end_f h
  obtain ⟨oc, M1⟩ := r
  dsimp only at hM
  subst hM
  refine vx_ret ?_
  cases i <;> first | (exfalso; simp only [dp_end, reduceCtorEq] at h; done) | skip
  case ireturn =>
    simp only [dp_end] at h; split at h
    · rename_i v
      split at h
      · cases h
        exact W.iret hx hb hr (fun t ht _ => ⟨some (.int v), rfl, rfl, by rw [ht]; exact hRp⟩) hl hd hlocks
      · split at h
        · rename_i hv
          cases h
          exact W.zret hx hb hr (by rcases hv with rfl | rfl <;> rfl) (fun t ht _ => ⟨some (.int v), rfl, rfl, by rw [ht]; exact hRp⟩) hl hd hlocks
        · cases h
      · cases h
    · cases h
  case lreturn =>
    simp only [dp_end] at h; split at h
    · rename_i v
      split at h
      · rename_i hrt
        cases h
        exact W.lret hx hb (hr.trans hrt) (fun t ht _ => ⟨some (.long v), rfl, rfl, by rw [ht]; exact hRp⟩) hl hd hlocks
      · cases h
    · cases h
  case areturn =>
    simp only [dp_end] at h; split at h
    · split at h
      · rename_i a
        cases h
        exact W.aret hx hb hr (Or.inl ⟨_, rfl⟩) (Or.inr ⟨_, rfl⟩) (fun t ht _ => ⟨some (.ref a), rfl, rfl, by rw [ht]; exact hRp⟩) hl hd hlocks
      · cases h
        exact W.aret hx hb hr (Or.inl ⟨_, rfl⟩) (Or.inl rfl) (fun t ht _ => ⟨some .null, rfl, rfl, by rw [ht]; exact hRp⟩) hl hd hlocks
      · cases h
    · split at h
      · rename_i a
        cases h
        exact W.aret hx hb hr (Or.inr ⟨_, rfl⟩) (Or.inr ⟨_, rfl⟩) (fun t ht _ => ⟨some (.ref a), rfl, rfl, by rw [ht]; exact hRp⟩) hl hd hlocks
      · cases h
        exact W.aret hx hb hr (Or.inr ⟨_, rfl⟩) (Or.inl rfl) (fun t ht _ => ⟨some .null, rfl, rfl, by rw [ht]; exact hRp⟩) hl hd hlocks
      · cases h
    · cases h
  case return_ =>
    simp only [dp_end] at h; split at h
    · split at h
      · rename_i hrt
        cases h
        exact W.vret hx hb (hr.trans hrt) (fun t ht _ => ⟨none, rfl, rfl, by rw [ht]; exact hRp⟩) hl hd hlocks
      · cases h
    · cases h
/-- the words of 'throw new E(..)' at a state -/
theorem dp_xat {o ic ex : Nat} (he : ex = 0 ∨ ex = 1 ∨ ex = 2 ∨ ex = 3) (hts : ∀ w ∈ dp_T, w.before args s = true) (hK : dp_Kn G sa s) (hml : Cond.methodLink (dp_own o) ic (Bundle.initS (dp_en ex)) ∈ dp_T) : (∀ w ∈ vx_atS (dp_own o) ic (dp_en ex) dp_xns, w.before args s = true) ∧ ∀ w ∈ vx_atS (dp_own o) ic (dp_en ex) dp_xns, vx_ot w = true := by
  sorry
end DPrun
