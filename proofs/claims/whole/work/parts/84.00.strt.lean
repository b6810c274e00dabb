/-! THE LAW (5): from its entry to its loop; the claim out of the loop's answer -/
def dk (md : Bool) (xs : Nat → Int32) (xl : Nat) (F : dp_Phi) (mi : dp_Mi) (K : dp_Cfg → Option dp_Res) (r : dp_Res) (cf : dp_Cfg) : Prop := ∃ n, dp_runK md xs xl F mi K n cf = some r
section DK
variable {md : Bool} {xs : Nat → Int32} {xl : Nat} {F : dp_Phi} {mi : dp_Mi} {K : dp_Cfg → Option dp_Res} {pc : Nat} {L : dp_L} {st rest as : List Value} {M M' : dp_M} {i : Instr} {r : dp_Res}
theorem dk_s1 {cf : dp_Cfg} (_ : dp_grow F) (hf : dp_ins mi pc = some i) (he : ∀ k, dp_ex md xs xl F mi i pc L st M k = k cf) (h : dk md xs xl F mi K r cf) : dk md xs xl F mi K r (pc, L, st, M) := by
  obtain ⟨n, hn⟩ := h
  refine ⟨n + 1, ?_⟩
  show dp_stp md xs xl F mi (pc, L, st, M) (dp_runK md xs xl F mi K n) = some r
  unfold dp_stp
  dsimp only
  rw [hf]
  dsimp only
  rw [he]
  exact hn
theorem dk_nw {ix ci p : Nat} (hF : dp_grow F) (hf : dp_ins mi pc = some (.new ix)) (hl : dp_lkN (dp_own1 mi) ix = some ci) (hn : dp_n M = p) (hs : dp_sh p = ci + 10) (hM : dp_new M 0 (ci + 10) (dp_nf ci) = M')
    (h : dk md xs xl F mi K r (pc + 3, L, .ref p :: st, M')) : dk md xs xl F mi K r (pc, L, st, M) := by
  subst hM
  refine dk_s1 hF hf (fun k => ?_) h
  simp only [dp_ex, dp_gr, hl, Option.isSome_some, if_true, dp_mk, dq_nk hn hs, dp_il, hn]
theorem dk_na {at_ : ArrayType} {c : Int32} {p t N : Nat} (hF : dp_grow F) (hf : dp_ins mi pc = some (.newarray at_)) (ht : (at_ = .int ∧ t = 1) ∨ (at_ = .long ∧ t = 2) ∨ (at_ = .boolean ∧ t = 3) ∨ (at_ = .char ∧ t = 4)) (hc : ¬ (c < 0 ∨ 1000000 ≤ c.toNatClampNeg)) (hN : c.toNatClampNeg = N) (hn : dp_n M = p) (hs : dp_sh p = t) (hM : dp_new M N t N = M')
    (h : dk md xs xl F mi K r (pc + 2, L, .ref p :: st, M')) : dk md xs xl F mi K r (pc, L, .int c :: st, M) := by
  subst hN hM
  refine dk_s1 hF hf (fun k => ?_) h
  rcases ht with ⟨rfl, rfl⟩ | ⟨rfl, rfl⟩ | ⟨rfl, rfl⟩ | ⟨rfl, rfl⟩ <;> (simp only [dp_ex, dp_gr, dp_mk, if_neg hc, dq_nk hn hs, dp_il, hn])
theorem dk_ct {j : Nat} (hF : dp_grow F) (hf : dp_ins mi pc = some i) (he : ∀ k, dp_ex md xs xl F mi i pc L st M k = dp_back0 pc L rest (F j as M) k) (hd : F j as M = some (.inl none, M')) (h : dk md xs xl F mi K r (pc + 3, L, rest, M')) : dk md xs xl F mi K r (pc, L, st, M) :=
  dk_s1 hF hf (fun k => by rw [he k, hd]; rfl) h
theorem dk_ci {j : Nat} {x : Int32} (hF : dp_grow F) (hf : dp_ins mi pc = some i) (_ : dp_hh mi = []) (he : ∀ k, dp_ex md xs xl F mi i pc L st M k = dp_back mi pc L rest (F j as M) k) (hd : F j as M = some (.inl (some (.int x)), M')) (h : dk md xs xl F mi K r (pc + 3, L, .int x :: rest, M')) : dk md xs xl F mi K r (pc, L, st, M) :=
  dk_s1 hF hf (fun k => by rw [he k, hd]; rfl) h
end DK
def dk_cf (v : Nat → Int32) : dp_Cfg := (73, [some (.retAddr 0), some (.ref 0), some (.ref 114), some (.ref 245), some (.int (5 : Int32)), none, none, none], [], dq_519 v)
theorem dk_law (xs : Nat → Int32) (xl d : Nat) (v : Nat → Int32) (hv : ∀ i, i < 5 → ∀ M, dp_den false xs xl (d + 3) 594 [.retAddr 0, .int (nI i)] M = some (.inl (some (.int (v i))), M)) {K : dp_Cfg → Option dp_Res} {r : dp_Res} (h : K (dk_cf v) = some r) :
    dk false xs xl (dp_den false xs xl (d + 3)) dp_m_L_law K r (0, [some (.retAddr 0), none, none, none, none, none, none, none], [], dq_0 v) := by
  have hF := dp_den_grow (md := false) (xs := xs) (xl := xl) (d + 3)
  refine dk_nw hF (ix := 8) (ci := 11) (p := 0) (M' := dq_1 v) rfl rfl (dqn_0 v) rfl rfl ?_
  refine dk_s1 hF (i := .dup) rfl (fun _ => rfl) ?_
  refine dk_s1 hF (i := .aload_n 0) rfl (fun _ => rfl) ?_
  refine dk_s1 hF (i := .iconst 0) rfl (fun _ => rfl) ?_
  refine dk_ci hF (i := .invokestatic 213) (j := 594) rfl rfl (fun _ => rfl) (hv 0 (by decide) _) ?_
  refine dk_s1 hF (i := .aload_n 0) rfl (fun _ => rfl) ?_
  refine dk_s1 hF (i := .iconst 1) rfl (fun _ => rfl) ?_
  refine dk_ci hF (i := .invokestatic 213) (j := 594) rfl rfl (fun _ => rfl) (hv 1 (by decide) _) ?_
  refine dk_s1 hF (i := .aload_n 0) rfl (fun _ => rfl) ?_
  refine dk_s1 hF (i := .iconst 2) rfl (fun _ => rfl) ?_
  refine dk_ci hF (i := .invokestatic 213) (j := 594) rfl rfl (fun _ => rfl) (hv 2 (by decide) _) ?_
  refine dk_s1 hF (i := .aload_n 0) rfl (fun _ => rfl) ?_
  refine dk_s1 hF (i := .iconst 3) rfl (fun _ => rfl) ?_
  refine dk_ci hF (i := .invokestatic 213) (j := 594) rfl rfl (fun _ => rfl) (hv 3 (by decide) _) ?_
  refine dk_s1 hF (i := .aload_n 0) rfl (fun _ => rfl) ?_
  refine dk_s1 hF (i := .iconst 4) rfl (fun _ => rfl) ?_
  refine dk_ci hF (i := .invokestatic 213) (j := 594) rfl rfl (fun _ => rfl) (hv 4 (by decide) _) ?_
  refine dk_ct hF (i := .invokespecial 219) (j := 249) rfl (fun _ => rfl) (dqc_X11_init xs xl d v) ?_
  refine dk_s1 hF (i := .astore_n 1) rfl (fun _ => rfl) ?_
  refine dk_nw hF (ix := 222) (ci := 12) (p := 114) (M' := dq_249 v) rfl rfl (dqn_248 v) rfl rfl ?_
  refine dk_s1 hF (i := .dup) rfl (fun _ => rfl) ?_
  refine dk_s1 hF (i := .aload_n 0) rfl (fun _ => rfl) ?_
  refine dk_s1 hF (i := .iconst 0) rfl (fun _ => rfl) ?_
  refine dk_ci hF (i := .invokestatic 213) (j := 594) rfl rfl (fun _ => rfl) (hv 0 (by decide) _) ?_
  refine dk_s1 hF (i := .aload_n 0) rfl (fun _ => rfl) ?_
  refine dk_s1 hF (i := .iconst 1) rfl (fun _ => rfl) ?_
  refine dk_ci hF (i := .invokestatic 213) (j := 594) rfl rfl (fun _ => rfl) (hv 1 (by decide) _) ?_
  refine dk_s1 hF (i := .aload_n 0) rfl (fun _ => rfl) ?_
  refine dk_s1 hF (i := .iconst 2) rfl (fun _ => rfl) ?_
  refine dk_ci hF (i := .invokestatic 213) (j := 594) rfl rfl (fun _ => rfl) (hv 2 (by decide) _) ?_
  refine dk_s1 hF (i := .aload_n 0) rfl (fun _ => rfl) ?_
  refine dk_s1 hF (i := .iconst 3) rfl (fun _ => rfl) ?_
  refine dk_ci hF (i := .invokestatic 213) (j := 594) rfl rfl (fun _ => rfl) (hv 3 (by decide) _) ?_
  refine dk_s1 hF (i := .aload_n 0) rfl (fun _ => rfl) ?_
  refine dk_s1 hF (i := .iconst 4) rfl (fun _ => rfl) ?_
  refine dk_ci hF (i := .invokestatic 213) (j := 594) rfl rfl (fun _ => rfl) (hv 4 (by decide) _) ?_
  refine dk_ct hF (i := .invokespecial 224) (j := 369) rfl (fun _ => rfl) (dqc_X12_init xs xl d v) ?_
  refine dk_s1 hF (i := .astore_n 2) rfl (fun _ => rfl) ?_
  refine dk_s1 hF (i := .iconst 1) rfl (fun _ => rfl) ?_
  refine dk_na hF (at_ := .long) (p := 245) (t := 2) (N := 1) (M' := dq_519 v) rfl (Or.inr (Or.inl ⟨rfl, rfl⟩)) (by decide) rfl (dqn_518 v) rfl rfl ?_
  refine dk_s1 hF (i := .astore_n 3) rfl (fun _ => rfl) ?_
  refine dk_s1 hF (i := .iconst 5) rfl (fun _ => rfl) ?_
  refine dk_s1 hF (i := .istore 4) rfl (fun _ => rfl) ?_
  exact ⟨0, h⟩
/-- all fixed places are there -/
theorem dk_rep {G : dp_G} {b : Nat} {H0 H : Heap} {M : dp_M} (hn : dp_n M = 246) (hg : (∀ k, k < dp_K0 → dp_sl k ≠ 0 → dp_len M k = dp_sl k) ∧ ∀ k i, k < dp_K0 → dp_sr k i ≠ 0 → dp_R M k i = some (dp_sr k i - 1)) (h : dp_Rep G b H0 false M H) : dp_Rep G b H0 true M H := by
  have e : ∀ k, dp_t true M k = dp_t false M k := by
    intro k
    unfold dp_t
    by_cases hk : k < dp_K0
    · rw [if_pos hk, if_pos hk, if_pos rfl, if_neg (by decide), if_pos (by rw [hn]; exact hk)]
    · rw [if_neg hk, if_neg hk]
  obtain ⟨h1, h2, h3, -, h5⟩ := h
  exact ⟨h1, h2, fun k hk => by rw [e] at hk ⊢; exact h3 k hk, fun _ => ⟨by rw [hn]; exact Nat.le_refl _, hg.1, hg.2⟩, h5⟩
noncomputable def dk_K (c0 : dp_Cfg) (r : dp_Res) : dp_Cfg → Option dp_Res := fun cf => haveI := Classical.propDecidable (cf = c0); if cf = c0 then some r else none
theorem dk_K_p (c0 : dp_Cfg) (r : dp_Res) : dk_K c0 r c0 = some r := by unfold dk_K; exact if_pos rfl
theorem dk_K_s {c0 cf : dp_Cfg} {r r' : dp_Res} (h : dk_K c0 r cf = some r') : cf = c0 ∧ r' = r := by
  unfold dk_K at h
  split at h
  · rename_i e; cases h; exact ⟨e, rfl⟩
  · cases h
set_option maxHeartbeats 4000000 in
theorem dk_start {p : Program} {e : Env} {s : State} {m : MethodId} {below : List Frame} {meth : Method} {c : Code} (l : Launch) {b L : Nat} {xs : Nat → Int32} (hL : L ≤ 4613) (C0 : lw_At p s m meth c b L xs) (hXO : dp_XOk l) (hst : l.stackTraces = false) (htab : ∀ x ∈ c.exceptionTable.toList, False)
    {r : dp_Res} (hr1 : r.1 = .inl (some (.int 1))) (hroom : dp_n r.2 ≤ 601024 ∧ dp_z r.2 ≤ 7293000)
    (hD : D_L_law_73 xs L 203 5 none none none (dq_519 (dq_c xs L)) = some r) :
    W p l e room_1 s m #[Value.ref b] below meth c s.heap [] 0 0 (lw_Z below #[Value.ref b] s) (entryFrame m ([Value.ref b] : List Value).toArray 8) := by
  obtain ⟨G, sa, hK, hE, hsa, hRp⟩ := dp_entry C0
  obtain ⟨hx, hb, hr, hml, hown, hts0, hX, hbl, hlocks, hgv⟩ := C0
  have hts : ∀ w ∈ dp_T, w.before #[Value.ref b] s = true := fun w hw => hts0 w (dp_T_good w hw).1
  have htab' : c.exceptionTable.toList = tableOf (dp_hh dp_m_L_law) := by
    show c.exceptionTable.toList = []
    exact List.eq_nil_iff_forall_not_mem.mpr htab
  have hown' : s.vm.findClass (dp_own (dp_own1 dp_m_L_law)) = some m.cls := hown
  have hFo : ∀ md, ∀ j mj as M r, dp_mi j = some mj → dp_den md xs L 203 j as M = some r → dp_Ok l G s.heap.size sa s.heap md xs L 203 mj as M r := fun md j mj as M r h1 h2 => dp_den_ok hXO hst dp_ins_all 203 j mj as M r h1 h2
  have hq : ∀ md (r9 : dp_Res) (t : State), vx_MQ below (dp_Qc G s.heap.size sa s.heap md r9) (dp_XC G s.heap.size s.heap md r9) #[Value.ref b] s (dp_n r9.2 - 0) (dp_z r9.2 - 0) (fun q => s.heap.size ≤ q) t → r9 = r → lw_Z below #[Value.ref b] s t := by
    intro md r9 t h9 e9
    subst e9
    obtain ⟨o, a1, a2, a3⟩ := h9
    rcases a3 with ⟨⟨v, hv, ho, -⟩, LL, hfe, hfr⟩ | ⟨q, -, E, ce, LL, ⟨e8, he8, -⟩, -⟩
    · rw [hr1] at hv
      cases hv
      refine ⟨o, a1, a2, ho, hfe.1, hfe.2.1, ?_⟩
      exact (hfe.2.2.weaken (fun y hy hlt => absurd hlt (Nat.not_lt.mpr (hfr y hy))) hroom.1 hroom.2)
    · rw [hr1] at he8; cases he8
  have hdk := dk_law xs L 200 (dq_c xs L) (fun i hi M => dq_c_den xs L 202 (by omega) i (by omega) M) (K := dk_K (dk_cf (dq_c xs L)) r) (r := r) (dk_K_p _ _)
  obtain ⟨n, hn⟩ := hdk
  obtain ⟨n2, hn2⟩ := (dp_lim_s (dp_den_grow 203)).mp (show dp_lim true xs L (dp_den true xs L 203) dp_m_L_law (dk_cf (dq_c xs L)) = some r from hD)
  have hgr := dp_runs_grow (dp_den_grow 203) n2 _ r hn2
  have hkind : dp_kind dp_m_L_law = 2 → meth.name = "<init>" := fun h => by cases h
  have key := dp_runK_ok (l := l) (p := p) (e := e) (R := room_1) (s := s) (m := m) (args := #[Value.ref b]) (below := below) (meth := meth) (c := c) (b := s.heap.size) (sa := sa) (G := G) (H0 := s.heap) (md := false) (xs := xs) (xl := L) (n0 := 0) (z0 := 0) (mi := dp_m_L_law) (d := 203) (F := dp_den false xs L 203) (K := dk_K (dk_cf (dq_c xs L)) r) (Q := fun r9 t => r9 = r → lw_Z below #[Value.ref b] s t)
    (fun r9 t h => hq false r9 t h)
    (fun cf r9 h => by
      obtain ⟨rfl, rfl⟩ := dk_K_s h
      exact hgr)
    (fun cf r9 h hrm H locs ls q1 q2 q3 q4 q5 q6 => by
      obtain ⟨rfl, rfl⟩ := dk_K_s h
      have key2 := dp_runs_ok (l := l) (p := p) (e := e) (R := room_1) (s := s) (m := m) (args := #[Value.ref b]) (below := below) (meth := meth) (c := c) (b := s.heap.size) (sa := sa) (G := G) (H0 := s.heap) (md := true) (xs := xs) (xl := L) (n0 := 0) (z0 := 0) (mi := dp_m_L_law) (d := 203) (F := dp_den true xs L 203)
        hXO hx hb hml hst hts hown' hK hE (fun _ _ => rfl) rfl dp_d_L_law htab' hr hlocks hkind (dp_den_grow 203) (hFo true) (by show 203 + 7 ≤ 2048; omega) (by show 100 * 203 + 200 ≤ 84000; omega) n2 (dk_cf (dq_c xs L)) r9 hn2 hrm H locs ls (dk_rep (dqn_519 (dq_c xs L)) (dq_good (dq_c xs L)) q1) q2 q3 q4 q5 q6
      exact dp_Wm (fun t ht => fun e9 => hq true r9 t ht e9) key2)
    hXO hx hb hml hst hts hown' hK hE (fun _ _ => rfl) rfl dp_d_L_law htab' hr hlocks hkind (dp_den_grow 203) (hFo false) (by show 203 + 7 ≤ 2048; omega) (by show 100 * 203 + 200 ≤ 84000; omega) n _ r hn ⟨by show dp_n r.2 ≤ 0 + 601024; omega, by show dp_z r.2 ≤ 0 + 7293000; omega⟩ s.heap [] _ hRp (fun q hq => by cases hq) (Nat.zero_le _) (Nat.zero_le _) (dp_has_entry s.heap.size sa [.retAddr 0] (n := 8) (by decide)) rfl
  rw [lg_entry_eq]
  have e1 : ([Value.retAddr 0].map (dp_cv s.heap.size sa)) = [Value.ref b] := by
    show [Value.ref (sa 0)] = [Value.ref b]
    rw [hsa]
  rw [e1] at key
  exact dp_Wm (fun t ht => ht rfl) key
