-- needs: 71 72 73 74
/-! RATES: rate -/
theorem rdR_pos {t : Nat → Int32} {L : Nat} {l : List Nd} (h : rdR t L = .inr l) : 1 ≤ L := by
  have g := ps_gt (t := t) (L := L) 802 1 [] 0 0 0 (by omega) (Nat.zero_le _) (by omega) (fun e => by cases e)
  unfold rdR at h
  cases e : ps t L 802 1 [] 0 0 0 with
  | none => rw [e] at h; cases h
  | some r =>
    rw [e] at h g
    cases r with
    | inl b => cases h
    | inr lq =>
      obtain ⟨l', q, c'⟩ := lq
      obtain ⟨g1, g2, -⟩ := g l' q c' rfl
      rw [if_neg (by decide)] at g1
      omega
theorem RtR.ch {M M' : dp_M} {r : Nat} (h : RtR M r) (h1 : dp_R M' 59 r = dp_R M 59 r) (h2 : dp_I M' 172 r = dp_I M 172 r) (h3 : ∀ i, i < 400 → dp_I M' 171 (400 * r + i) = dp_I M 171 (400 * r + i)) (h4 : ∀ q l, RtO M q l → RtO M' q l) : RtR M' r := by
  unfold RtR at h ⊢
  rw [h1, h2]
  rcases h with h | ⟨q, l, L, a1, a2, a3, a4, a5, a6, a7⟩
  · exact Or.inl h
  · refine Or.inr ⟨q, l, L, a1, h4 q l a2, a3, a4, a5, fun i hi => by rw [h3 i (by omega)]; exact a6 i hi, ?_⟩
    have : msk (fun i => dp_I M' 171 (400 * r + i)) L = msk (fun i => dp_I M 171 (400 * r + i)) L := by
      funext i
      unfold msk
      by_cases z : i < L
      · rw [if_pos z, if_pos z]; exact h3 i (by omega)
      · rw [if_neg z, if_neg z]
    rw [this]; exact a7
section Ri
variable {xs : Nat → Int32} {xl d : Nat} {M : dp_M}
theorem c_empty : dp_den true xs xl (d + 1) 144 [.ref 68] M = vR (dp_setI M 68 0 0) := by
  rw [D_X7_emptyTape_0_den, D_X7_emptyTape_0_eq, dpw]
/-- the model takes the tape for a text -/
theorem m_copy {L : Nat} {v1 : Int32} (h75 : dp_I M 114 75 = nI L) (hL : L ≤ 400) : D_X12_rate_10 xs xl d v1 0 M = D_X12_rate_10 xs xl d v1 (nI L) (rI M 173 (fN (dp_I M 173) 0 L (dp_I M 170))) := by
  have key := lp (fun (_ : Nat) i => D_X12_rate_10 xs xl d v1 (nI i) (rI M 173 (fN (dp_I M 173) 0 i (dp_I M 170)))) (fun _ => 0) L (fun i hi => ?_)
  · (try dsimp only at key)
    rw [fN_0, rI_id] at key
    exact key
  · (try dsimp only)
    have e114 : dp_I (rI M 173 (fN (dp_I M 173) 0 i (dp_I M 170))) 114 = dp_I M 114 := by rw [rI_I, if_neg (by decide)]
    have e170 : dp_I (rI M 173 (fN (dp_I M 173) 0 i (dp_I M 170))) 170 = dp_I M 170 := by rw [rI_I, if_neg (by decide)]
    have fs := fN_s (dp_I M 173) 0 i (dp_I M 170)
    rw [Nat.zero_add] at fs
    rw [D_X12_rate_10_eq, e114, h75, if_neg (nI_nge hi (by omega)), nI_cl (by omega), if_neg (by rw [nI_o (show i < 400 by omega) (by omega)]; exact id), if_neg (by rw [nI_o (show i < 400 by omega) (by omega)]; exact id), dpw, dpw, nI_1, rI_set, e170, fs]
/-- the model keeps the text of a row -/
theorem m_keep {L r : Nat} {v2 : Int32} (h79 : dp_I M 114 79 = nI L) (hL : L ≤ 400) (hr : r ≤ 300) : D_X12_rate_81 xs xl d (nI r) v2 0 M = iR v2 (rI M 171 (fN (dp_I M 171) (400 * r) L (dp_I M 173))) := by
  have key := lp (fun (_ : Nat) i => D_X12_rate_81 xs xl d (nI r) v2 (nI i) (rI M 171 (fN (dp_I M 171) (400 * r) i (dp_I M 173)))) (fun _ => 0) L (fun i hi => ?_)
  · (try dsimp only at key)
    rw [fN_0, rI_id] at key
    refine key.trans ?_
    have e114 : dp_I (rI M 171 (fN (dp_I M 171) (400 * r) L (dp_I M 173))) 114 = dp_I M 114 := by rw [rI_I, if_neg (by decide)]
    rw [D_X12_rate_81_eq, e114, h79, if_pos (nI_lle (Nat.le_refl _) (by omega))]
  · (try dsimp only)
    have e114 : dp_I (rI M 171 (fN (dp_I M 171) (400 * r) i (dp_I M 173))) 114 = dp_I M 114 := by rw [rI_I, if_neg (by decide)]
    have e173 : dp_I (rI M 171 (fN (dp_I M 171) (400 * r) i (dp_I M 173))) 173 = dp_I M 173 := by rw [rI_I, if_neg (by decide)]
    have ix : ((400 : Int32) * nI r) + nI i = nI (400 * r + i) := by rw [show (400 : Int32) = nI 400 from rfl, pk_mul, nI_add]
    rw [D_X12_rate_81_eq, e114, h79, if_neg (nI_nge hi (by omega)), ix, nI_cl (show i < 2147483648 by omega), nI_cl (show 400 * r + i < 2147483648 by omega), if_neg (by rw [nI_o (show i < 400 by omega) (by omega)]; exact id), if_neg (by rw [nI_o (show 400 * r + i < 120400 by omega) (by omega)]; exact id), dpw, dpw, nI_1, rI_set, e173, fN_s]
def Rt_S : List Nat := [245, 59, 68, 71, 72, 73, 74, 171, 172, 173, 174, 175, 176, 177, 178, 179, 180, 181, 182, 183, 184, 185, 186, 187]
def Rt_T : List Nat := [0, 75, 79, 80, 81, 90, 91, 92, 97]
def Rt_A : List Nat := [245, 68, 71, 72, 73, 74, 173, 174, 175, 176, 177, 178, 179, 180, 181, 182, 183, 184, 185, 186, 187]
def Rt_B : List Nat := [173, 174, 175, 176, 177, 178, 179, 180, 181, 182, 183, 184, 185, 186, 187]
theorem m_rate0 {L : Nat} {v1 : Int32} (t3 : L ≤ 400) (e : dp_I M 114 75 = nI L) : ∃ N3, N3 = dp_setI (rI (dp_setI M 114 79 (nI L)) 173 (fN (dp_I M 173) 0 L (dp_I M 170))) 114 75 0 ∧ dp_den true xs xl (d + 46) 488 [.ref 114, .int v1] M = dp_bi (dp_den true xs xl (d + 45) 451 [.ref 114, .int v1] N3) (fun r3 M2 => if r3 = 0 then (dp_bi (dp_den true xs xl (d + 45) 366 [.ref 114, .int (1 : Int32)] M2) (fun r5 M4 => some (.inl (some (.int r5)), M4))) else (dp_w (dp_setI M2 114 0 (0 : Int32)) (fun M6 => dp_bi (dp_den true xs xl (d + 45) 487 [.ref 114] M6) (fun r8 M7 => if r8 ≤ 0 then (some (.inl (some (.int r8)), M7)) else (if v1 < 0 ∨ 301 ≤ Int32.toNatClampNeg v1 then none else dp_w (dp_setI M7 172 (Int32.toNatClampNeg v1) (dp_I M7 114 79)) (fun M9 => dp_w (0 : Int32) (fun y10 => D_X12_rate_81 xs xl (d + 45) v1 r8 y10 M9))))))) := by
  refine ⟨_, rfl, ?_⟩
  have e' : dp_I (dp_setI M 114 79 (nI L)) 114 75 = nI L := by rw [gII, if_pos rfl, uI_n (by decide)]; exact e
  have e2 : ∀ f, dp_I (rI (dp_setI M 114 79 (nI L)) 173 f) 114 75 = nI L := fun f => by rw [rI_I, if_neg (by decide)]; exact e'
  rw [D_X12_rate_0_den, D_X12_rate_0_eq, dpw, dpw, e, m_copy e' t3, D_X12_rate_10_eq, e2, if_pos (nI_lle (Nat.le_refl _) (by omega)), dpw]
  have k173 : dp_I (dp_setI M 114 79 (nI L)) 173 = dp_I M 173 := by rw [gII, if_neg (by decide)]
  have k170 : dp_I (dp_setI M 114 79 (nI L)) 170 = dp_I M 170 := by rw [gII, if_neg (by decide)]
  rw [k173, k170]
theorem m_rate {L R r : Nat} {t : Nat → Int32} (t3 : L ≤ 400) (e : dp_I M 114 75 = nI L) (ti : ∀ i, i < L → dp_I M 170 i = t i ∧ 32 ≤ (t i).toInt ∧ (t i).toInt ≤ 126) (a2 : dp_I M 114 55 = nI R) (hR : R ≤ 300) (r1 : 1 ≤ r) (r2 : r ≤ R) : ∃ N, Off Rt_B Rt_T M N ∧ Cst 0 0 M N ∧ dp_I N 114 0 = 0 ∧ dp_I N 114 75 = 0 ∧ (∀ b, rdR t L = .inl b → b ≤ L ∧ dp_den true xs xl (d + 46) 488 [.ref 114, .int (nI r)] M = iR (-1 - nI b) N) ∧ (∀ l, rdR t L = .inr l → 1 ≤ l.length ∧ (∀ i, i < L → dp_I N 173 i = t i) ∧ dp_den true xs xl (d + 46) 488 [.ref 114, .int (nI r)] M = iR (nI l.length) (rI (dp_setI N 172 r (nI L)) 171 (fN (dp_I N 171) (400 * r) L (dp_I N 173)))) := by
  obtain ⟨N3, hN3, st⟩ := m_rate0 (xs := xs) (xl := xl) (d := d) (v1 := nI r) t3 e
  obtain ⟨N4, hN4⟩ : ∃ N4, N4 = dp_setI N3 114 0 0 := ⟨_, rfl⟩
  have o4 : Off Rt_B Rt_T M N4 := by
    rw [hN4, hN3]
    exact Off.F 0 (by decide) _ (Off.F 75 (by decide) _ (Off.rI 173 (by decide) _ (Off.F 79 (by decide) _ (Off.rr _ _ M))))
  have f4 : ∀ i, i ≠ 0 → dp_I N4 114 i = dp_I N3 114 i := fun i hi => by rw [hN4, gII, if_pos rfl, uI_n hi]
  have f3 : ∀ i, i ≠ 75 → i ≠ 79 → dp_I N3 114 i = dp_I M 114 i := fun i h1 h2 => by rw [hN3, gII, if_pos rfl, uI_n h1, rI_I, if_neg (by decide), gII, if_pos rfl, uI_n h2]
  have k79 : dp_I N4 114 79 = nI L := by rw [f4 79 (by decide), hN3, gII, if_pos rfl, uI_n (by decide), rI_I, if_neg (by decide), gII, if_pos rfl, uI_s]
  have k75 : dp_I N4 114 75 = 0 := by rw [f4 75 (by decide), hN3, gII, if_pos rfl, uI_s]
  have k0 : dp_I N4 114 0 = 0 := by rw [hN4, gII, if_pos rfl, uI_s]
  have k173 : dp_I N4 173 = fN (dp_I M 173) 0 L (dp_I M 170) := by rw [hN4, gII, if_neg (by decide), hN3, gII, if_neg (by decide), rI_I, if_pos rfl]
  have q173 : ∀ i, i < L → dp_I N4 173 i = t i := fun i hi => by
    have := fN_in (f := dp_I M 173) (a := 0) (g := dp_I M 170) hi
    rw [Nat.zero_add] at this
    rw [k173, this]; exact (ti i hi).1
  have tx : TxM N4 t L := ⟨k79, t3, fun i hi => ⟨q173 i hi, (ti i hi).2⟩⟩
  have c4 : Cst 0 0 M N4 := by rw [hN4, hN3]; exact ⟨Nat.le_refl _, Nat.le_refl _⟩
  have ms : dp_den true xs xl (d + 45) 451 [.ref 114, .int (nI r)] N3 = iR 1 N3 := by
    rw [tm_meas (d := d + 44) (R := R) (by rw [f3 _ (by decide) (by decide)]; exact a2) hR]
    rw [show bI (wi (nI r) 1 R) = 1 from bI_1.mpr (wi_mk (by omega) (by omega) (by omega))]
  obtain ⟨N5, g1, g2, g3, g4⟩ := m_text (xs := xs) (xl := xl) (d := d + 36) tx
  have o5 : Off Rt_B Rt_T M N5 := o4.tr (g1.mono (by decide) (by decide))
  have c5 : Cst 0 0 M N5 := ⟨by have := c4.1; have := g2.1; omega, by have := c4.2; have := g2.2; omega⟩
  have st' : ∀ {x}, dp_den true xs xl (d + 45) 487 [.ref 114] N4 = iR x N5 → dp_den true xs xl (d + 46) 488 [.ref 114, .int (nI r)] M = if x ≤ 0 then iR x N5 else D_X12_rate_81 xs xl (d + 45) (nI r) x 0 (dp_setI N5 172 r (nI L)) := fun {x} ex => by
    have n79 : dp_I N5 114 79 = nI L := by rw [(g1.2.1 79 (by decide)).1]; exact k79
    rw [st, ms, rb_bi, if_neg (by decide), dpw, ← hN4, ex, rb_bi, n79, nI_cl (by omega), if_neg (show ¬ (nI r < 0 ∨ 301 ≤ r) by rw [nI_o (show r < 301 by omega) (by omega)]; exact id), dpw, dpw]
  refine ⟨N5, o5, c5, by rw [(g1.2.1 0 (by decide)).1]; exact k0, by rw [(g1.2.1 75 (by decide)).1]; exact k75, fun b hb => ?_, fun l hl => ?_⟩
  · obtain ⟨b1, b2⟩ := g3 b hb
    refine ⟨b1, ?_⟩
    rw [st' b2, if_pos]
    have m1 : (-1 : Int32).toInt = -1 := rfl
    have z0 : (0 : Int32).toInt = 0 := rfl
    rw [Int32.le_iff_toInt_le, Int32.toInt_sub, nI_toInt (by omega), m1, z0, Int.bmod_def]
    omega
  · obtain ⟨l1, l2, l3⟩ := g4 l hl
    have p173 : ∀ i, i < L → dp_I N5 173 i = t i := fun i hi => by rw [(g1.1 173 (by decide) (by decide) (by decide)).1]; exact q173 i hi
    refine ⟨l2.2.1, p173, ?_⟩
    have l60 := l2.1
    have l1' := l2.2.1
    rw [st' l1, if_neg (show ¬ nI l.length ≤ (0 : Int32) from nI_nge (i := 0) (n := l.length) (by omega) (by omega)), m_keep (L := L) (r := r) (by rw [gII, if_neg (by decide), (g1.2.1 79 (by decide)).1]; exact k79) t3 (by omega)]
    rw [gII, if_neg (show ¬ 171 = 172 by decide), gII, if_neg (show ¬ 173 = 172 by decide)]
end Ri
