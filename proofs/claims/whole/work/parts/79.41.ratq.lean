-- needs: 71 72 73 74
/-! RATES: reckons -/
section Rq
variable {xs : Nat → Int32} {xl d : Nat} {M : dp_M} {l : List Nd}
theorem ndl_at {j : Nat} (h : ndl l) (hj : j < l.length) : ndk (l.getD j v0) := h _ (by rw [List.getD_eq_getElem?_getD, List.getElem?_eq_getElem hj]; exact List.getElem_mem hj)
theorem m_rkl {pr : Int64} {am : Nat → Int64} (h : FnM M l) (hk : ndl l) (hs : Shp l) (hp : dp_J M 114 100 = pr) (h0 : 0 ≤ pr) (ham : dp_J M 188 = am) : ∀ m n, m + n = l.length → ∀ a1 a2 a3 a4, ((∀ j, j < m → ¬ lack l am j) → D_X12_reckons_7_a xs xl (d + 1) (nI m - 1) a1 a2 a3 a4 (rJ M 189 (vrow l pr am (dp_J M 189) n)) = lR (rval l pr am) (rJ M 189 (vrow l pr am (dp_J M 189) l.length))) ∧ ((∃ j, j < m ∧ lack l am j) → ∃ w, D_X12_reckons_7_a xs xl (d + 1) (nI m - 1) a1 a2 a3 a4 (rJ M 189 (vrow l pr am (dp_J M 189) n)) = lR (-1) (rJ M 189 w))
  | 0, n, hn, a1, a2, a3, a4 => by
    refine ⟨fun _ => ?_, fun ⟨j, hj, _⟩ => by omega⟩
    have hn' : n = l.length := by omega
    have l1 := h.2.1
    subst hn'
    have e : vrow l pr am (dp_J M 189) l.length 0 = vrow l pr am (fun _ => 0) l.length 0 := vrow_c hs h.1 l.length (Nat.le_refl _) 0 (by omega) (by omega)
    rw [D_X12_reckons_7_a_eq, if_pos (by decide), if_neg (by decide), show Int32.toNatClampNeg (0 : Int32) = 0 from rfl, rJ_J, if_pos rfl, e]
    unfold rval
    by_cases z : vrow l pr am (fun _ => 0) l.length 0 < 0
    · rw [if_pos z, if_neg (by rw [lg_cmp_ge]; exact Int64.not_le.mpr z)]
    · rw [if_neg z, if_pos (by rw [lg_cmp_ge]; exact Int64.not_lt.mp z), if_neg (by decide)]
  | m + 1, n, hn, a1, a2, a3, a4 => by
    have jl : m < l.length := by omega
    have ms := m_st1 (xs := xs) (xl := xl) (d := d) (a1 := a1) (a2 := a2) (a3 := a3) (a4 := a4) (w := vrow l pr am (dp_J M 189) n) h jl (ndl_at hk jl) hs hp h0 ham
    have ev : uI (vrow l pr am (dp_J M 189) n) m (nvl l pr am (vrow l pr am (dp_J M 189) n) m) = vrow l pr am (dp_J M 189) (n + 1) := by
      show _ = uI _ (l.length - 1 - n) (nvl _ _ _ _ (l.length - 1 - n))
      rw [show l.length - 1 - n = m by omega]
    rw [ev] at ms
    rw [nI_pr]
    by_cases lk : lack l am m
    · exact ⟨fun q => absurd lk (q m (by omega)), fun _ => ⟨_, ms.1 lk⟩⟩
    · obtain ⟨b1, b2, b3, b4, e⟩ := ms.2 lk
      obtain ⟨i1, i2⟩ := m_rkl h hk hs hp h0 ham m (n + 1) (by omega) b1 b2 b3 b4
      rw [Int32.sub_eq_add_neg] at i1 i2
      rw [e]
      refine ⟨fun q => i1 (fun j hj => q j (by omega)), fun ⟨j, hj, q⟩ => i2 ⟨j, ?_, q⟩⟩
      have : j ≠ m := fun e => lk (by rw [← e]; exact q)
      omega
theorem m_reck {pr : Int64} {am : Nat → Int64} (h : FnM M l) (h92 : dp_I M 114 92 = nI l.length) (hk : ndl l) (hs : Shp l) (hp : dp_J M 114 100 = pr) (h0 : 0 ≤ pr) (ham : dp_J M 188 = am) : ((∀ j, j < l.length → ¬ lack l am j) → ∃ w, dp_den true xs xl (d + 2) 492 [.ref 114] M = lR (rval l pr am) (rJ M 189 w)) ∧ ((∃ j, j < l.length ∧ lack l am j) → ∃ w, dp_den true xs xl (d + 2) 492 [.ref 114] M = lR (-1) (rJ M 189 w)) := by
  have l1 := h.2.1
  obtain ⟨m, hm⟩ : ∃ m, l.length = m + 1 := ⟨l.length - 1, by omega⟩
  have jl : m < l.length := by omega
  have st : dp_den true xs xl (d + 2) 492 [.ref 114] M = D_X12_reckons_7 xs xl (d + 1) (nI m) (rJ M 189 (dp_J M 189)) := by
    rw [D_X12_reckons_0_den, D_X12_reckons_0_eq, dpw, h92, hm, nI_pr, rJ_id]
  have ms := m_st0 (xs := xs) (xl := xl) (d := d) (w := dp_J M 189) h jl (ndl_at hk jl) hs hp h0 ham
  have ev : uI (dp_J M 189) m (nvl l pr am (dp_J M 189) m) = vrow l pr am (dp_J M 189) 1 := by
    show _ = uI (dp_J M 189) (l.length - 1 - 0) (nvl _ _ _ (dp_J M 189) (l.length - 1 - 0))
    rw [show l.length - 1 - 0 = m by omega]
  rw [ev] at ms
  rw [st]
  by_cases lk : lack l am m
  · exact ⟨fun q => absurd lk (q m (by omega)), fun _ => ⟨_, ms.1 lk⟩⟩
  · obtain ⟨b1, b2, b3, b4, e⟩ := ms.2 lk
    obtain ⟨i1, i2⟩ := m_rkl (xs := xs) (xl := xl) (d := d) h hk hs hp h0 ham m 1 (by omega) b1 b2 b3 b4
    rw [Int32.sub_eq_add_neg] at i1 i2
    rw [e]
    refine ⟨fun q => ⟨_, i1 (fun j hj => q j (by omega))⟩, fun ⟨j, hj, q⟩ => i2 ⟨j, ?_, q⟩⟩
    have : j ≠ m := fun e => lk (by rw [← e]; exact q)
    omega
/-- amounts that are not asked for -/
theorem nvl_am {pr : Int64} {am am' w : Nat → Int64} {j : Nat} (h : (l.getD j v0).1 = 2 → am (l.getD j v0).2.2.1.toNatClampNeg = am' (l.getD j v0).2.2.1.toNatClampNeg) : nvl l pr am w j = nvl l pr am' w j := by
  unfold nvl
  by_cases k2 : (l.getD j v0).1 = 2
  · rw [h k2]
  · simp only [if_neg k2]
theorem vrow_am {pr : Int64} {am am' w : Nat → Int64} (h : ∀ j, j < l.length → (l.getD j v0).1 = 2 → am (l.getD j v0).2.2.1.toNatClampNeg = am' (l.getD j v0).2.2.1.toNatClampNeg) : ∀ n, n ≤ l.length → vrow l pr am w n = vrow l pr am' w n
  | 0, _ => rfl
  | n + 1, hn => by
    unfold vrow
    rw [vrow_am h n (by omega), nvl_am (h (l.length - 1 - n) (by omega))]
theorem rval_am {pr : Int64} {am am' : Nat → Int64} (h : ∀ j, j < l.length → (l.getD j v0).1 = 2 → am (l.getD j v0).2.2.1.toNatClampNeg = am' (l.getD j v0).2.2.1.toNatClampNeg) : rval l pr am = rval l pr am' := by
  unfold rval
  rw [vrow_am h l.length (Nat.le_refl _)]
/-- which units are asked for -/
theorem u_or {a b m : Int32} : (a ||| b) &&& m = 0 ↔ a &&& m = 0 ∧ b &&& m = 0 := by
  have e : (a ||| b) &&& m = (a &&& m) ||| (b &&& m) := by
    apply Int32.toBitVec_inj.mp
    rw [Int32.toBitVec_and, Int32.toBitVec_or, Int32.toBitVec_or, Int32.toBitVec_and, Int32.toBitVec_and]
    refine BitVec.eq_of_getLsbD_eq (fun i _ => ?_)
    simp only [BitVec.getLsbD_and, BitVec.getLsbD_or]
    cases a.toBitVec.getLsbD i <;> cases b.toBitVec.getLsbD i <;> cases m.toBitVec.getLsbD i <;> rfl
  rw [e]
  constructor
  · intro h
    have h' : ((a &&& m) ||| (b &&& m)).toBitVec = 0#32 := by rw [h]; rfl
    rw [Int32.toBitVec_or] at h'
    have bits : ∀ i, (a &&& m).toBitVec.getLsbD i = false ∧ (b &&& m).toBitVec.getLsbD i = false := fun i => by
      have := congrArg (fun v => BitVec.getLsbD v i) h'
      simp only [BitVec.getLsbD_or, BitVec.getLsbD_zero, Bool.or_eq_false_iff] at this
      exact this
    refine ⟨Int32.toBitVec_inj.mp (BitVec.eq_of_getLsbD_eq (fun i _ => ?_)), Int32.toBitVec_inj.mp (BitVec.eq_of_getLsbD_eq (fun i _ => ?_))⟩
    · rw [(bits i).1]; exact (BitVec.getLsbD_zero (w := 32) (i := i)).symm
    · rw [(bits i).2]; exact (BitVec.getLsbD_zero (w := 32) (i := i)).symm
  · rintro ⟨h1, h2⟩
    rw [h1, h2]; rfl
theorem umk_u {k : Nat} (hk : k < 8) : ∀ l : List Nd, ndl l → (umk l &&& (((1 : Int32) <<< (nI k &&& 31)) ^^^ (-1 : Int32)) = 0 ↔ ∀ v, v ∈ l → v.1 = 2 → v.2.2.1 = nI k)
  | [], _ => ⟨fun _ v hv => (by cases hv), fun _ => by show (0 : Int32) &&& _ = 0; exact Int32.zero_and⟩
  | v :: l, h => by
    have ih := umk_u hk l (fun w hw => h w (List.mem_cons_of_mem _ hw))
    show ((if v.1 = 2 then (1 : Int32) <<< (v.2.2.1 &&& 31) else 0) ||| umk l) &&& _ = 0 ↔ _
    rw [u_or, ih]
    have dec : ∀ u, u < 8 → ∀ k, k < 8 → (((1 : Int32) <<< (nI u &&& 31)) &&& (((1 : Int32) <<< (nI k &&& 31)) ^^^ (-1 : Int32)) = 0 ↔ u = k) := by decide
    have key : (if v.1 = 2 then (1 : Int32) <<< (v.2.2.1 &&& 31) else 0) &&& (((1 : Int32) <<< (nI k &&& 31)) ^^^ (-1 : Int32)) = 0 ↔ (v.1 = 2 → v.2.2.1 = nI k) := by
      by_cases z : v.1 = 2
      · rw [if_pos z]
        obtain ⟨u, u8, hu⟩ : ∃ u, u < 8 ∧ v.2.2.1 = nI u := by
          rcases h v (List.mem_cons_self ..) with k0 | k1 | ⟨-, hu⟩ | kb | ⟨k7, -⟩
          · rw [k0] at z; exact absurd z (by decide)
          · rw [k1] at z; exact absurd z (by decide)
          · exact hu
          · rw [z] at kb; exact absurd kb (by decide)
          · rw [k7] at z; exact absurd z (by decide)
        rw [hu, dec u u8 k hk]
        exact ⟨fun e _ => by rw [e], fun e => by
          have := e z
          rw [nI_eq (by omega) (by omega)] at this
          exact this⟩
      · rw [if_neg z]
        exact ⟨fun _ q => absurd q z, fun _ => Int32.zero_and⟩
    rw [key]
    constructor
    · rintro ⟨a, b⟩ w hw
      rcases List.mem_cons.mp hw with rfl | hw
      · exact a
      · exact b w hw
    · intro a
      exact ⟨a v (List.mem_cons_self ..), fun w hw => a w (List.mem_cons_of_mem _ hw)⟩
end Rq
