-- needs: 71 72 73 74
/-! RATES: node, printed -/
/-- what is asked of a node -/
def fc (l : List Nd) (j k : Nat) : Int32 := if k = 0 then (l.getD j v0).1 else if k = 1 then (l.getD j v0).2.1 else if k = 2 then (l.getD j v0).2.2.1 else if k = 3 then fL l j else if k = 4 then fR l j else nI (l.getD j v0).2.2.2.length
section Rk
variable {xs : Nat → Int32} {xl d : Nat} {M : dp_M}
theorem bg_rf {p i : Nat} (h : 246 ≤ p) : dp_rf true M p i = dp_R M p i := by
  unfold dp_rf
  rw [if_pos rfl, if_neg (show ¬ p < dp_K0 from by show ¬ p < 246; omega)]
theorem rwF_len {F S : Nat → Int32} {j : Nat} : (rwF F S j).length = (F (j * 7 + 5)).toNatClampNeg := by unfold rwF; rw [List.length_map, List.length_range]
theorem RtO.fv {q : Nat} {l : List Nd} (h : RtO M q l) : ∃ f s S, (246 ≤ f ∧ dp_tag M f = 1 ∧ dp_len M f = l.length * 7) ∧ (246 ≤ s ∧ dp_tag M s = 1 ∧ dp_len M s = S * 2 ∧ S ≤ 133) ∧ dp_R M q 2 = some f ∧ dp_R M q 3 = some s ∧ ∀ j, j < l.length → (∀ k, k < 6 → dp_I M f (j * 7 + k) = fc l j k) ∧ (isBn (l.getD j v0) = true → ∃ m, fR l j = nI m ∧ j + 1 < m ∧ m < l.length) ∧ ∃ b, dp_I M f (j * 7 + 6) = nI b ∧ b + (l.getD j v0).2.2.2.length ≤ S ∧ ∀ k, k < (l.getD j v0).2.2.2.length → (l.getD j v0).2.2.2.getD k (0, 0) = (dp_I M s ((b + k) * 2), dp_I M s ((b + k) * 2 + 1)) := by
  obtain ⟨h1, h2, h3, h4, h5, h6, h7, f, s, S, ⟨f1, f2, f3, f4⟩, ⟨s1, s2, s3, s4, s5⟩, r2, r3, hj⟩ := h
  refine ⟨f, s, S, ⟨f1, f3, f4⟩, ⟨s1, s3, s4, s5⟩, r2, r3, fun j hj' => ?_⟩
  obtain ⟨e1, e2, e3⟩ := hj j hj'
  have a0 : dp_I M f (j * 7 + 0) = (l.getD j v0).1 := congrArg (fun x => x.1.1) e1
  have a1 : dp_I M f (j * 7 + 1) = (l.getD j v0).2.1 := congrArg (fun x => x.1.2.1) e1
  have a2 : dp_I M f (j * 7 + 2) = (l.getD j v0).2.2.1 := congrArg (fun x => x.1.2.2.1) e1
  have ar : rwF (dp_I M f) (dp_I M s) j = (l.getD j v0).2.2.2 := congrArg (fun x => x.1.2.2.2) e1
  have a3 : dp_I M f (j * 7 + 3) = fL l j := congrArg (fun x => x.2.1) e1
  have a4 : dp_I M f (j * 7 + 4) = fR l j := congrArg (fun x => x.2.2) e1
  have n5 := tN_lt (x := dp_I M f (j * 7 + 5)) (by omega)
  have n6 := tN_lt (x := dp_I M f (j * 7 + 6)) (by omega)
  have ln : (l.getD j v0).2.2.2.length = tN (dp_I M f (j * 7 + 5)) := by
    rw [← ar, rwF_len]
    have : (nI (tN (dp_I M f (j * 7 + 5)))).toNatClampNeg = tN (dp_I M f (j * 7 + 5)) := nI_cl (by omega)
    rw [← n5] at this
    exact this
  refine ⟨fun k hk => ?_, e3, tN (dp_I M f (j * 7 + 6)), n6, by omega, fun k hk => ?_⟩
  · unfold fc
    by_cases k0 : k = 0
    · rw [if_pos k0, k0]; exact a0
    rw [if_neg k0]
    by_cases k1 : k = 1
    · rw [if_pos k1, k1]; exact a1
    rw [if_neg k1]
    by_cases k2 : k = 2
    · rw [if_pos k2, k2]; exact a2
    rw [if_neg k2]
    by_cases k3 : k = 3
    · rw [if_pos k3, k3]; exact a3
    rw [if_neg k3]
    by_cases k4 : k = 4
    · rw [if_pos k4, k4]; exact a4
    rw [if_neg k4, ln, show k = 5 by omega]
    exact n5
  · have c6 : (dp_I M f (j * 7 + 6)).toNatClampNeg = tN (dp_I M f (j * 7 + 6)) := by
      have : (nI (tN (dp_I M f (j * 7 + 6)))).toNatClampNeg = tN (dp_I M f (j * 7 + 6)) := nI_cl (by omega)
      rw [← n6] at this
      exact this
    have hk' : k < (dp_I M f (j * 7 + 5)).toNatClampNeg := by rw [← rwF_len (F := dp_I M f) (S := dp_I M s), ar]; exact hk
    rw [← ar]
    unfold rwF
    rw [List.getD_eq_getElem?_getD, List.getElem?_map, List.getElem?_range hk', c6]
    rfl
theorem c_fact {q j k : Nat} {l : List Nd} {v : Int32} (h : RtO M q l) (hj : j < l.length) (hk : k < 6) (hv : v = nI k) : dp_den true xs xl (d + 1) 135 [.ref q, .int (nI j), .int v] M = iR (fc l j k) M := by
  have q1 := h.1
  have q3 := h.2.2.1
  have l60 := h.2.2.2.2.2.2.1
  obtain ⟨f, s, S, ⟨f1, f3, f4⟩, -, r2, -, g⟩ := h.fv
  obtain ⟨g1, -⟩ := g j hj
  subst hv
  rw [D_X6_fact_0_den, D_X6_fact_0_eq, bg_t q1, if_pos q3, bg_rf q1, r2]
  show (if dp_t true M f = 1 then _ else none) = _
  rw [bg_t f1, if_pos f3, t_7, bg_ln f1, f4, nI_cl (by omega), if_neg (by rw [nI_o (show j * 7 + k < l.length * 7 by omega) (by omega)]; exact id), g1 k hk]
theorem w_P {v : Int32} {P : Nat} (hP : P < 2147483648) : ((0 : Int64) ≤ v.toInt64 ∧ v.toInt64 ≤ (nI P - 1 : Int32).toInt64) ↔ qin v P := by
  have z0 : (0 : Int64).toInt = 0 := by decide
  have o1 : (1 : Int32).toInt = 1 := by decide
  rw [qin_iff, Int64.le_iff_toInt_le, Int64.le_iff_toInt_le, Int32.toInt_toInt64, Int32.toInt_toInt64, z0, Int32.toInt_sub, nI_toInt hP, o1, Int.bmod_def]
  omega
theorem s_printed (h : RelR M) (v1 : Int32) : ∃ k b M1 M2, dp_den true xs xl (d + 3) 625 [.ref 0, .int v1, .ref 245] M = iR k M1 ∧ dp_den true xs xl (d + 3) 503 [.ref 114, .int v1] M1 = iR b M2 ∧
    dp_I M2 114 0 = k ∧ (k = 0 → dp_J M2 245 0 = b.toInt64) ∧ RelR M2 ∧ Off [245] [0] M M2 ∧ Cst 1 6 M M2 := by
  have h0 := h
  obtain ⟨hn, -, -, P, p1, p2, p3, p4⟩ := h
  have zb : (0 : Int32).toInt = 0 := rfl
  by_cases z : qin v1 P
  case neg =>
    refine ⟨1, 0, dp_new M 0 0 6, dp_setI (dp_new M 0 0 6) 114 0 1, wL_printed_x2 ?_, ?_, rfl, fun e => (by cases e), RelR_off h0 (((Off.rr [] [0] M).N hn 0 0 6).F 0 (by decide) _) (by decide) (by decide), ((Off.rr _ _ M).N hn 0 0 6).F 0 (by decide) _, ⟨Nat.le_refl _, Nat.le_refl _⟩⟩
    · rw [D_X11_printed_0_den, D_X11_printed_0_eq, q_win, rb_bi, ibz, p2, if_neg (fun q => z ((w_P (by omega)).mp q)), q_nk hn]
    · have e : dp_I (dp_new M 0 0 6) 114 104 = nI P := by rw [gIN (by omega)]; exact p3
      rw [D_X12_printed_0_den, D_X12_printed_0_eq, e]
      have w : v1 < 0 ∨ nI P ≤ v1 := by
        rw [Int32.lt_iff_toInt_lt, Int32.le_iff_toInt_le, nI_toInt (by omega), zb]
        rw [qin_iff] at z
        omega
      by_cases y : v1 < 0
      · rw [if_pos y, dpw, gII, if_pos rfl, uI_s, if_neg (by decide)]
      · rw [if_neg y, if_pos (w.resolve_left y), dpw, gII, if_pos rfl, uI_s, if_neg (by decide)]
  obtain ⟨i, hi, rfl⟩ : ∃ i, i < P ∧ v1 = nI i := by
    have z' := qin_iff.mp z
    refine ⟨v1.toInt.toNat, by omega, Int32.toInt_inj.mp ?_⟩
    rw [nI_toInt (by omega)]; omega
  refine ⟨0, dp_I M 69 i, dp_setJ M 245 0 (dp_I M 69 i).toInt64, dp_setI (dp_setJ M 245 0 (dp_I M 69 i).toInt64) 114 0 0, wL_printed_ok ?_, ?_, rfl, fun _ => rfl, RelR_off h0 (((Off.rr [245] [0] M).J 245 (by decide) _ _).F 0 (by decide) _) (by decide) (by decide), ((Off.rr _ _ M).J 245 (by decide) _ _).F 0 (by decide) _, ⟨Nat.le_add_right _ _, Nat.le_add_right _ _⟩⟩
  · rw [D_X11_printed_0_den, D_X11_printed_0_eq, q_win, rb_bi, ibz, p2, if_pos ((w_P (by omega)).mpr z), nI_cl (by omega), if_neg (by rw [nI_o (show i < 1024 by omega) (by omega)]; exact id)]
  · have e : dp_I (dp_setJ M 245 0 (dp_I M 69 i).toInt64) 114 104 = nI P := p3
    rw [D_X12_printed_0_den, D_X12_printed_0_eq, e, if_neg (r_nn (by omega)), if_neg (nI_nge hi (by omega)), dpw, if_pos (show dp_I (dp_setI (dp_setJ M 245 0 (dp_I M 69 i).toInt64) 114 0 0) 114 0 ≤ 0 by rw [gII, if_pos rfl, uI_s]; decide), nI_cl (by omega), if_neg (by rw [nI_o (show i < 4000 by omega) (by omega)]; exact id), gII, if_neg (show ¬ 190 = 114 by decide), gIJ, p4 i hi]
/-- the model reads the rate of a row again -/
theorem m_rr {r L : Nat} {l : List Nd} (hr : r ≤ 300) (h1 : dp_I M 172 r = nI L) (h2 : 1 ≤ L) (h3 : L ≤ 400) (h4 : ∀ i, i < L → 32 ≤ (dp_I M 171 (400 * r + i)).toInt ∧ (dp_I M 171 (400 * r + i)).toInt ≤ 126) (h5 : rdR (msk (fun i => dp_I M 171 (400 * r + i)) L) L = .inr l) : ∃ N, dp_den true xs xl (d + 10) 489 [.ref 114, .int (nI r)] M = vR N ∧ Off Rt_B [79, 80, 81, 90, 91, 92, 97] M N ∧ Cst 0 0 M N ∧ FnM N l ∧ dp_I N 114 92 = nI l.length := by
  obtain ⟨N1, hN1⟩ : ∃ N1, N1 = dp_setI M 114 79 (nI L) := ⟨_, rfl⟩
  obtain ⟨N2, hN2⟩ : ∃ N2, N2 = rI N1 173 (fN (dp_I N1 173) 0 L (fun i => dp_I M 171 (400 * r + i))) := ⟨_, rfl⟩
  have e79 : dp_I N1 114 79 = nI L := by rw [hN1, gII, if_pos rfl, uI_s]
  have e171 : dp_I N1 171 = dp_I M 171 := by rw [hN1, gII, if_neg (by decide)]
  have lo : D_X12_readsRate_12 xs xl (d + 9) (nI r) 0 N1 = D_X12_readsRate_12 xs xl (d + 9) (nI r) (nI L) N2 := by
    have key := lp (fun (_ : Nat) i => D_X12_readsRate_12 xs xl (d + 9) (nI r) (nI i) (rI N1 173 (fN (dp_I N1 173) 0 i (fun i => dp_I M 171 (400 * r + i))))) (fun _ => 0) L (fun i hi => ?_)
    · (try dsimp only at key)
      rw [fN_0, rI_id] at key
      rw [hN2]
      exact key
    · (try dsimp only)
      have k114 : dp_I (rI N1 173 (fN (dp_I N1 173) 0 i (fun i => dp_I M 171 (400 * r + i)))) 114 = dp_I N1 114 := by rw [rI_I, if_neg (by decide)]
      have k171 : dp_I (rI N1 173 (fN (dp_I N1 173) 0 i (fun i => dp_I M 171 (400 * r + i)))) 171 = dp_I M 171 := by rw [rI_I, if_neg (by decide)]; exact e171
      have fs := fN_s (dp_I N1 173) 0 i (fun i => dp_I M 171 (400 * r + i))
      rw [Nat.zero_add] at fs
      have ix : ((400 : Int32) * nI r) + nI i = nI (400 * r + i) := by rw [show (400 : Int32) = nI 400 from rfl, pk_mul, nI_add]
      rw [D_X12_readsRate_12_eq, k114, e79, if_neg (nI_nge hi (by omega)), ix, nI_cl (show i < 2147483648 by omega), nI_cl (show 400 * r + i < 2147483648 by omega), if_neg (by rw [nI_o (show 400 * r + i < 120400 by omega) (by omega)]; exact id), if_neg (by rw [nI_o (show i < 400 by omega) (by omega)]; exact id), dpw, dpw, nI_1, rI_set, k171, fs]
  obtain ⟨t, hT⟩ : ∃ t, t = msk (fun i => dp_I M 171 (400 * r + i)) L := ⟨_, rfl⟩
  have ti : ∀ i, i < L → t i = dp_I M 171 (400 * r + i) := fun i hi => by rw [hT]; unfold msk; rw [if_pos hi]
  have f79 : dp_I N2 114 79 = nI L := by rw [hN2, rI_I, if_neg (by decide)]; exact e79
  have tx : TxM N2 t L := ⟨f79, h3, fun i hi => by
    have fi := fN_in (f := dp_I N1 173) (a := 0) (g := fun i => dp_I M 171 (400 * r + i)) hi
    rw [Nat.zero_add] at fi
    rw [ti i hi]
    exact ⟨by rw [hN2, rI_I, if_pos rfl, fi], h4 i hi⟩⟩
  obtain ⟨N, g1, g2, -, g4⟩ := m_text (xs := xs) (xl := xl) (d := d) tx
  obtain ⟨l1, l2, l3⟩ := g4 l (by rw [hT]; exact h5)
  have o2 : Off Rt_B [79, 80, 81, 90, 91, 92, 97] M N2 := by rw [hN2, hN1]; exact Off.rI 173 (by decide) _ (Off.F 79 (by decide) _ (Off.rr _ _ M))
  refine ⟨N, ?_, o2.tr (g1.mono (by decide) (by decide)), ⟨?_, ?_⟩, l2, l3⟩
  · rw [D_X12_readsRate_0_den, D_X12_readsRate_0_eq, nI_cl (by omega), if_neg (by rw [nI_o (show r < 301 by omega) (by omega)]; exact id), dpw, dpw, h1, ← hN1, lo, D_X12_readsRate_12_eq, f79, if_pos (nI_lle (Nat.le_refl _) (by omega)), if_neg (fun e => by rw [show (0 : Int32) = nI 0 from rfl, nI_eq (by omega) (by omega)] at e; omega), l1, rb_bi, dpw, sI_self N 114 92 l3]
  · have e1 := g2.1; have : dp_n N2 = dp_n M := by rw [hN2, hN1]; rfl
    omega
  · have e1 := g2.2; have : dp_z N2 = dp_z M := by rw [hN2, hN1]; rfl
    omega
end Rk
