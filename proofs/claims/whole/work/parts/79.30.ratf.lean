-- needs: 71 72 73 74
/-! RATES: the relation; a tape is typed -/
noncomputable def D_X11_rate_0 (xs : Nat → Int32) (xl d : Nat) (v1 : Int32) (M : dp_M) : Option dp_Res := dp_lim true xs xl (dp_den true xs xl d) dp_m_X11_rate (0, [some (.ref 0), some (.int v1), none], [], M)
theorem D_X11_rate_0_den (xs : Nat → Int32) (xl d : Nat) (a0 : Int32) (M : dp_M) : dp_den true xs xl (d + 1) 308 [.ref 0, .int a0] M = D_X11_rate_0 xs xl d a0 M := rfl
set_option maxRecDepth 20000 in
theorem D_X11_rate_0_eq (xs : Nat → Int32) (xl d : Nat) (v1 : Int32) (M : dp_M) : D_X11_rate_0 xs xl d v1 M = dp_bi (dp_den true xs xl d 255 [.ref 0, .int v1] M) (fun r2 M1 => if r2 = 0 then (dp_bv (dp_den true xs xl d 144 [.ref 68] M1) (fun M3 => dp_nk M3 0 (some (.inr 0, dp_new M3 0 0 6)))) else (dp_bo (dp_den true xs xl d 145 [.ref 68] M1) (fun M4 => dp_bv (dp_den true xs xl d 144 [.ref 68] M4) (fun M5 => some (.inl (some (.int ((-1 : Int32) - (dp_I M5 68 2)))), M5))) (fun q6 M7 => dp_bv (dp_den true xs xl d 144 [.ref 68] M7) (fun M8 => if dp_t true M8 q6 = 16 then (if v1 < 0 ∨ 301 ≤ Int32.toNatClampNeg v1 then none else dp_w (dp_setR M8 59 (Int32.toNatClampNeg v1) (some q6)) (fun M9 => if dp_t true M9 q6 = 16 then (some (.inl (some (.int (dp_I M9 q6 0))), M9)) else none)) else none)))) := by
  have hF := dp_den_grow (md := true) (xs := xs) (xl := xl) d
  unfold D_X11_rate_0
  refine dp_s1 hF (i := .aload_n 0) rfl (fun _ => rfl) ?_
  refine dp_s1 hF (i := .iload_n 1) rfl (fun _ => rfl) ?_
  refine dp_si (mj := dp_m_X11_isMeasure) (i := .invokevirtual 437) rfl rfl (Or.inr rfl) rfl (fun _ => rfl) (fun r2 M1 => ?_)
  refine dp_s2 hF (i := .ifCond .ne 21) (a := (8, [some (.ref 0), some (.int v1), none], [], M1)) (b := (26, [some (.ref 0), some (.int v1), none], [], M1)) rfl (fun _ => rfl) ?_ ?_
  · refine dp_s1 hF (i := .aload_n 0) rfl (fun _ => rfl) ?_
    refine dp_s1 hF (i := .getfield 50) rfl (fun _ => rfl) ?_
    refine dp_sv (mj := dp_m_X7_emptyTape) (i := .invokevirtual 488) rfl rfl rfl rfl (fun _ => rfl) (fun M3 => ?_)
    exact dp_s0 hF (i := .new 141) rfl (fun _ => rfl)
  refine dp_s1 hF (i := .aload_n 0) rfl (fun _ => rfl) ?_
  refine dp_s1 hF (i := .getfield 50) rfl (fun _ => rfl) ?_
  refine dp_so (mj := dp_m_X7_readTape) (i := .invokevirtual 491) rfl rfl ⟨_, rfl⟩ rfl (fun _ => rfl) (fun M4 => ?_) (fun q6 M7 => ?_) (fun _ h => dp_den_ob (mi := dp_m_X7_readTape) rfl rfl h)
  · refine dp_s1 hF (i := .astore_n 2) rfl (fun _ => rfl) ?_
    refine dp_s1 hF (i := .aload_n 0) rfl (fun _ => rfl) ?_
    refine dp_s1 hF (i := .getfield 50) rfl (fun _ => rfl) ?_
    refine dp_sv (mj := dp_m_X7_emptyTape) (i := .invokevirtual 488) rfl rfl rfl rfl (fun _ => rfl) (fun M5 => ?_)
    refine dp_s1 hF (i := .aload_n 2) rfl (fun _ => rfl) ?_
    refine dp_s1 hF (i := .ifnonnull 13) rfl (fun _ => rfl) ?_
    refine dp_s1 hF (i := .iconst (-1)) rfl (fun _ => rfl) ?_
    refine dp_s1 hF (i := .aload_n 0) rfl (fun _ => rfl) ?_
    refine dp_s1 hF (i := .getfield 50) rfl (fun _ => rfl) ?_
    refine dp_s1 hF (i := .getfield 495) rfl (fun _ => rfl) ?_
    refine dp_s1 hF (i := .isub) rfl (fun _ => rfl) ?_
    exact dp_s0 hF (i := .ireturn) rfl (fun _ => rfl)
  refine dp_s1 hF (i := .astore_n 2) rfl (fun _ => rfl) ?_
  refine dp_s1 hF (i := .aload_n 0) rfl (fun _ => rfl) ?_
  refine dp_s1 hF (i := .getfield 50) rfl (fun _ => rfl) ?_
  refine dp_sv (mj := dp_m_X7_emptyTape) (i := .invokevirtual 488) rfl rfl rfl rfl (fun _ => rfl) (fun M8 => ?_)
  refine dp_s1 hF (i := .aload_n 2) rfl (fun _ => rfl) ?_
  refine dp_s1 hF (i := .ifnonnull 13) rfl (fun _ => rfl) ?_
  refine dp_s1 hF (i := .aload_n 0) rfl (fun _ => rfl) ?_
  refine dp_s1 hF (i := .getfield 43) rfl (fun _ => rfl) ?_
  refine dp_s1 hF (i := .getfield 498) rfl (fun _ => rfl) ?_
  refine dp_s1 hF (i := .iload_n 1) rfl (fun _ => rfl) ?_
  refine dp_s1 hF (i := .aload_n 2) rfl (fun _ => rfl) ?_
  refine dp_s6w (dp_setR M8 59 (Int32.toNatClampNeg v1) (some q6)) (fun (M9 : dp_M) => (65, [some (.ref 0), some (.int v1), some (.ref q6)], [], M9)) hF (i := .aastore) rfl (fun _ => rfl) (fun M9 => ?_)
  refine dp_s1 hF (i := .aload_n 2) rfl (fun _ => rfl) ?_
  refine dp_s4 hF (i := .getfield 502) rfl (fun _ => rfl) ?_
  exact dp_s0 hF (i := .ireturn) rfl (fun _ => rfl)
def msk (f : Nat → Int32) (L : Nat) : Nat → Int32 := fun i => if i < L then f i else 0
/-- the rate of row r -/
def RtR (M : dp_M) (r : Nat) : Prop := (dp_R M 59 r = none ∧ dp_I M 172 r = 0) ∨ ∃ q l L, dp_R M 59 r = some q ∧ RtO M q l ∧ dp_I M 172 r = nI L ∧ 1 ≤ L ∧ L ≤ 400 ∧ (∀ i, i < L → 32 ≤ (dp_I M 171 (400 * r + i)).toInt ∧ (dp_I M 171 (400 * r + i)).toInt ≤ 126) ∧ rdR (msk (fun i => dp_I M 171 (400 * r + i)) L) L = .inr l
/-- the tapes -/
def TpR (M : dp_M) (L : Nat) : Prop := dp_I M 68 0 = nI L ∧ dp_I M 114 75 = nI L ∧ L ≤ 400 ∧ ∀ i, i < L → dp_I M 70 i = dp_I M 170 i ∧ 32 ≤ (dp_I M 170 i).toInt ∧ (dp_I M 170 i).toInt ≤ 126
/-- what was printed -/
def PrR (M : dp_M) : Prop := ∃ P, P ≤ 1024 ∧ dp_I M 68 1 = nI P ∧ dp_I M 114 104 = nI P ∧ ∀ i, i < P → dp_I M 69 i = dp_I M 190 i
def RelR (M : dp_M) : Prop := 246 ≤ dp_n M ∧ (∃ L, TpR M L) ∧ (∀ r, r < 301 → RtR M r) ∧ PrR M
def RelR_S : List Nat := [59, 68, 69, 70, 170, 171, 172, 190]
def RelR_T : List Nat := [75, 104]
theorem RtR.off {S T : List Nat} {M M' : dp_M} {r : Nat} (h : RtR M r) (o : Off S T M M') (hS : ∀ k ∈ [59, 171, 172], k ∉ S) : RtR M' r := by
  have e59 := (o.1 59 (by decide) (hS 59 (by decide)) (by decide)).2.2
  have e171 := (o.1 171 (by decide) (hS 171 (by decide)) (by decide)).1
  have e172 := (o.1 172 (by decide) (hS 172 (by decide)) (by decide)).1
  unfold RtR at h ⊢
  rw [e59, e171, e172]
  rcases h with h | ⟨q, l, L, h1, h2, h3⟩
  · exact Or.inl h
  · exact Or.inr ⟨q, l, L, h1, h2.off o, h3⟩
theorem RelR_off {S T : List Nat} {M M' : dp_M} (h : RelR M) (o : Off S T M M') (hS : ∀ k ∈ RelR_S, k ∉ S) (hT : ∀ i ∈ RelR_T, i ∉ T) : RelR M' := by
  have e : ∀ k ∈ RelR_S, dp_I M' k = dp_I M k := fun k hk => (o.1 k (by simp only [RelR_S, List.mem_cons, List.not_mem_nil, or_false] at hk; omega) (hS k hk) (by simp only [RelR_S, List.mem_cons, List.not_mem_nil, or_false] at hk; omega)).1
  have f : ∀ i ∈ RelR_T, dp_I M' 114 i = dp_I M 114 i := fun i hi => (o.2.1 i (hT i hi)).1
  obtain ⟨h1, ⟨L, h2⟩, h3, h4⟩ := h
  refine ⟨by have := o.2.2.2.2; omega, ⟨L, ?_⟩, fun r hr => (h3 r hr).off o (fun k hk => hS k (by revert hk; unfold RelR_S; simp only [List.mem_cons, List.not_mem_nil, or_false]; omega)), ?_⟩
  · unfold TpR at h2 ⊢
    rw [e 68 (by decide), e 70 (by decide), e 170 (by decide), f 75 (by decide)]
    exact h2
  · unfold PrR at h4 ⊢
    rw [e 68 (by decide), e 69 (by decide), e 190 (by decide), f 104 (by decide)]
    exact h4
theorem bv8 (v : BitVec 64) (k : Nat) (hk : k ≤ 56) : BitVec.sshiftRight v k &&& 255#64 = (v >>> k) &&& 255#64 := by
  have b : ∀ i, i < 64 → (255#64).getLsbD i = decide (i < 8) := by decide
  refine BitVec.eq_of_getLsbD_eq (fun i hi => ?_)
  rw [BitVec.getLsbD_and, BitVec.getLsbD_and, b i hi]
  by_cases h : i < 8
  · rw [BitVec.getLsbD_sshiftRight, BitVec.getLsbD_ushiftRight]
    have h1 : ¬ 64 ≤ i := by omega
    have h2 : k + i < 64 := by omega
    simp [h1, h2]
  · simp [h]
/-- the sign i of a word -/
def byc (v : Int64) (i : Nat) : Int64 := (v >>> (Int32.toInt64 ((8 : Int32) * nI i) &&& 63)) &&& (255 : Int64)
theorem byc_m {v : Int64} {i : Nat} (h : i < 8) : ((Int64.toUInt64 v >>> ((Int32.toInt64 ((8 : Int32) * nI i)).toUInt64 &&& Int64.toUInt64 63)).toInt64) &&& (255 : Int64) = byc v i := by
  unfold byc
  have es0 : ∀ k, k < 57 → ((BitVec.ofNat 64 k).smod 64).toNat = k := by decide
  have key : ∀ k : Nat, k ≤ 56 → ∀ c : Int64, c.toBitVec = BitVec.ofNat 64 k → (v >>> c) &&& (255 : Int64) = (v.toUInt64 >>> c.toUInt64).toInt64 &&& (255 : Int64) := fun k hk c hc => by
    have e : c.toBitVec.toNat = k := by rw [hc, BitVec.toNat_ofNat]; omega
    have es : (c.toBitVec.smod 64).toNat = k := by
      rw [hc]
      exact es0 k (by omega)
    apply Int64.toBitVec_inj.mp
    rw [Int64.toBitVec_and, Int64.toBitVec_and, Int64.toBitVec_shiftRight]
    show BitVec.sshiftRight v.toBitVec _ &&& 255#64 = (v.toUInt64 >>> c.toUInt64).toBitVec &&& 255#64
    rw [UInt64.toBitVec_shiftRight]
    show BitVec.sshiftRight v.toBitVec (c.toBitVec.smod 64).toNat &&& 255#64 = (v.toBitVec >>> (c.toBitVec % 64#64)) &&& 255#64
    rw [es, bv8 _ _ hk, BitVec.ushiftRight_eq', BitVec.toNat_umod, e]
    show _ = (v.toBitVec >>> (k % 64)) &&& 255#64
    rw [Nat.mod_eq_of_lt (by omega)]
  have c : ∀ i, i < 8 → (Int32.toInt64 ((8 : Int32) * nI i) &&& 63).toBitVec = BitVec.ofNat 64 (8 * i) := by decide
  have := key (8 * i) (by omega) _ (c i h)
  rw [this]
  rfl
