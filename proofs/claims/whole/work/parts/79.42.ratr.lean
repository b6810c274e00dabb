-- needs: 71 72 73 74
/-! RATES: worth -/
section Rr
variable {xs : Nat → Int32} {xl d : Nat} {M : dp_M} {l : List Nd}
def Wt_S : List Nat := 245 :: 112 :: 113 :: 188 :: 189 :: Rt_B
def Wt_T : List Nat := [0, 79, 80, 81, 90, 91, 92, 97, 100]
theorem Wt_off {N : dp_M} (h : RelR M) (ht : RelT M) (o : Off Wt_S Wt_T M N) : RelR N ∧ RelT N := ⟨RelR_off h o (by decide) (by decide), RelT_off ht o (by decide) (by decide)⟩
theorem m_ams {v1 v4 : Int32} {v2 v5 : Int64} {k : Nat} (h4 : v4 = nI k) (hk : k < 8) : D_X12_worth_81 xs xl d v1 v2 v4 v5 0 M = D_X12_worth_81 xs xl d v1 v2 v4 v5 (nI 8) (rJ M 188 (fN (dp_J M 188) 0 8 (fun i => if i = k then v5 else -1))) := by
  have key := lp (fun (_ : Nat) i => D_X12_worth_81 xs xl d v1 v2 v4 v5 (nI i) (rJ M 188 (fN (dp_J M 188) 0 i (fun i => if i = k then v5 else -1)))) (fun _ => 0) 8 (fun i hi => ?_)
  · (try dsimp only at key)
    rw [fN_0, rJ_id] at key
    exact key
  · (try dsimp only)
    have fs := fN_s (dp_J M 188) 0 i (fun i => if i = k then v5 else -1)
    rw [Nat.zero_add] at fs
    have no : ¬ (nI i < 0 ∨ 8 ≤ (nI i).toNatClampNeg) := by rw [nI_cl (by omega), nI_o hi (by omega)]; exact id
    rw [D_X12_worth_81_eq, if_neg (show ¬ (8 : Int32) ≤ nI i from nI_nge (n := 8) hi (by omega)), h4]
    by_cases z : i = k
    · rw [if_pos (by rw [z]), if_neg no, nI_cl (by omega), dpw, dpw, nI_1, rJ_set, ← fs, if_pos z]
    · rw [if_neg (fun e => z (by rw [nI_eq (by omega) (by omega)] at e; exact e)), if_neg no, nI_cl (by omega), dpw, dpw, nI_1, rJ_set, ← fs, if_neg z]
theorem s_worth (h : RelR M) (ht : RelT M) (v1 : Int32) (v2 : Int64) (v4 : Int32) (v5 : Int64) : ∃ k b M1 M2, dp_den true xs xl (d + 12) 626 [.ref 0, .int v1, .long v2, .int v4, .long v5, .ref 245] M = iR k M1 ∧ dp_den true xs xl (d + 12) 494 [.ref 114, .int v1, .long v2, .int v4, .long v5] M1 = lR b M2 ∧
    dp_I M2 114 0 = k ∧ (k = 0 → dp_J M2 245 0 = b) ∧ RelR M2 ∧ RelT M2 ∧ Off Wt_S Wt_T M M2 ∧ Cst 1 6 M M2 := by
  have h0 := h
  have ht0 := ht
  obtain ⟨hn, -, hr, -⟩ := h
  obtain ⟨R, K, hR, hK, a1, a2, -⟩ := ht
  have mm : ∀ (N : dp_M) (e : Nat), dp_I N 114 55 = nI R → dp_den true xs xl (e + 1) 451 [.ref 114, .int v1] N = iR (bI (wi v1 1 R)) N := fun N e hN => tm_meas hN hR
  have oX : Off Wt_S Wt_T M (dp_new M 0 0 6) := (Off.rr _ _ M).N hn 0 0 6
  have x2 : dp_I (dp_new M 0 0 6) 114 55 = nI R := by rw [gIN (by omega)]; exact a2
  have l0 : (0 : Int32).toInt64 = 0 := by decide
  have out : dp_den true xs xl (d + 11) 313 [.ref 0, .int v1, .long v2, .int v4, .long v5] M = some (.inr 0, dp_new M 0 0 6) → dp_den true xs xl (d + 12) 494 [.ref 114, .int v1, .long v2, .int v4, .long v5] (dp_new M 0 0 6) = lR 0 (dp_setI (dp_new M 0 0 6) 114 0 1) → ∃ k b M1 M2, dp_den true xs xl (d + 12) 626 [.ref 0, .int v1, .long v2, .int v4, .long v5, .ref 245] M = iR k M1 ∧ dp_den true xs xl (d + 12) 494 [.ref 114, .int v1, .long v2, .int v4, .long v5] M1 = lR b M2 ∧
    dp_I M2 114 0 = k ∧ (k = 0 → dp_J M2 245 0 = b) ∧ RelR M2 ∧ RelT M2 ∧ Off Wt_S Wt_T M M2 ∧ Cst 1 6 M M2 := fun c e => by
    have oo : Off Wt_S Wt_T M (dp_setI (dp_new M 0 0 6) 114 0 1) := oX.F 0 (by decide) _
    obtain ⟨q1, q2⟩ := Wt_off h0 ht0 oo
    exact ⟨1, 0, _, _, wL_worth_x0 c, e, by rw [gII, if_pos rfl, uI_s], fun e => (by cases e), q1, q2, oo, ⟨Nat.le_refl _, Nat.le_refl _⟩⟩
  rcases c_rateOf (xs := xs) (xl := xl) (d := d + 7) (v1 := v1) a1 hR hr with ⟨c1, c2⟩ | ⟨r, q, l, L, rfl, r1, r2, c1, c2, c3, c4, c5, c6, c7⟩
  · refine out ?_ ?_
    · rw [D_X11_worth_0_den, D_X11_worth_0_eq, c1, rb_bo, q_nk hn]
    · rw [D_X12_worth_0_den, D_X12_worth_0_eq, mm _ _ x2, rb_bi, ibz]
      by_cases z : wi v1 1 R
      · obtain ⟨r, rfl, r1, r2, e172⟩ := c2 z
        rw [if_pos z, mm _ _ x2, rb_bi, ibz, if_pos z, D_X12_worth_25_eq, nI_cl (by omega), if_neg (by rw [nI_o (show r < 301 by omega) (by omega)]; exact id), gIN (by omega), e172, if_pos rfl, q_ref, rb_bi, l0]
      · rw [if_neg z, q_ref, rb_bi, l0]
  have z : wi (nI r) 1 R := wi_mk (by omega) (by omega) (by omega)
  have q1 := c2.1
  have q3 := c2.2.2.1
  have l60 := c2.2.2.2.2.2.2.1
  have nz : ¬ nI L = (0 : Int32) := fun e => by rw [show (0 : Int32) = nI 0 from rfl, nI_eq (by omega) (by omega)] at e; omega
  have cl : dp_den true xs xl (d + 11) 313 [.ref 0, .int (nI r), .long v2, .int v4, .long v5] M = if (0 : Int64) ≤ v2 ∧ v2 ≤ 100000000 then (if (0 : Int64) ≤ v4.toInt64 ∧ v4.toInt64 ≤ 7 then (if (0 : Int64) ≤ v5 ∧ v5 ≤ 100000000 then (if (umk l &&& (((1 : Int32) <<< (v4 &&& 31)) ^^^ (-1 : Int32))) = 0 then dp_bl (dp_den true xs xl (d + 10) 12 [.ref 108, .ref q, .long v2, .int v4, .long v5] M) (fun r11 M10 => some (.inl (some (.long r11)), M10)) else some (.inr 3, dp_new M 0 0 6)) else some (.inr 0, dp_new M 0 0 6)) else some (.inr 0, dp_new M 0 0 6)) else some (.inr 0, dp_new M 0 0 6) := by
    rw [D_X11_worth_0_den, D_X11_worth_0_eq, c1, rb_bo', q_win, rb_bi, ibz, q_win, rb_bi, ibz, q_win, rb_bi, ibz, bg_t q1, if_pos q3, c2.2.2.2.2.1]
    simp only [q_nk hn]
  have ml : ∀ N, dp_I N 114 55 = nI R → dp_I N 172 r = nI L → dp_den true xs xl (d + 12) 494 [.ref 114, .int (nI r), .long v2, .int v4, .long v5] N = if (0 : Int64) ≤ v2 ∧ v2 ≤ 100000000 then (if (0 : Int64) ≤ v4.toInt64 ∧ v4.toInt64 ≤ 7 then (if (0 : Int64) ≤ v5 ∧ v5 ≤ 100000000 then dp_bv (dp_den true xs xl (d + 11) 489 [.ref 114, .int (nI r)] N) (fun N2 => D_X12_worth_81 xs xl (d + 11) (nI r) v2 v4 v5 0 (dp_setJ N2 114 100 v2)) else lR 0 (dp_setI N 114 0 1)) else lR 0 (dp_setI N 114 0 1)) else lR 0 (dp_setI N 114 0 1) := fun N e1 e2 => by
    have ia : dp_den true xs xl (d + 11) 493 [.long v5] N = iR (bI ((0 : Int64) ≤ v5 ∧ v5 ≤ 100000000)) N := by
      rw [D_X12_isAmount_0_den, D_X12_isAmount_0_eq, q_min, rb_bi, if_pos (by rw [bI_01]; trivial)]
    rw [D_X12_worth_0_den, D_X12_worth_0_eq, mm _ _ e1, rb_bi, ibz, if_pos z, mm _ _ e1, rb_bi, ibz, if_pos z, D_X12_worth_25_eq, nI_cl (by omega), if_neg (by rw [nI_o (show r < 301 by omega) (by omega)]; exact id), e2, if_neg nz, q_min, rb_bi, ibz, q_min, rb_bi, ibz, ia, rb_bi, ibz]
    simp only [q_ref, rb_bi, l0, dpw]
  have x172 : dp_I (dp_new M 0 0 6) 172 r = nI L := by rw [gIN (by omega)]; exact c3
  by_cases y2 : (0 : Int64) ≤ v2 ∧ v2 ≤ 100000000
  case neg => exact out (by rw [cl, if_neg y2]) (by rw [ml _ x2 x172, if_neg y2])
  by_cases y4 : (0 : Int64) ≤ v4.toInt64 ∧ v4.toInt64 ≤ 7
  case neg => exact out (by rw [cl, if_pos y2, if_neg y4]) (by rw [ml _ x2 x172, if_pos y2, if_neg y4])
  by_cases y5 : (0 : Int64) ≤ v5 ∧ v5 ≤ 100000000
  case neg => exact out (by rw [cl, if_pos y2, if_pos y4, if_neg y5]) (by rw [ml _ x2 x172, if_pos y2, if_pos y4, if_neg y5])
  obtain ⟨k, k8, rfl⟩ : ∃ k, k < 8 ∧ v4 = nI k := by
    have y4' := y4
    rw [Int64.le_iff_toInt_le, Int64.le_iff_toInt_le, Int32.toInt_toInt64] at y4'
    have z0 : (0 : Int64).toInt = 0 := by decide
    have z7 : (7 : Int64).toInt = 7 := by decide
    refine ⟨v4.toInt.toNat, by omega, Int32.toInt_inj.mp ?_⟩
    rw [nI_toInt (by omega)]; omega
  have hk := rdR_ok c7
  have sh := c2.shp
  have v5n : ¬ v5 = -1 := fun e => by have := y5.1; rw [e] at this; exact absurd this (by decide)
  have eqv : ∀ am : Nat → Int64, (∀ u, u < 8 → am u = if u = k then v5 else -1) → ((umk l &&& (((1 : Int32) <<< (nI k &&& 31)) ^^^ (-1 : Int32))) = 0 ↔ ∀ j, j < l.length → ¬ lack l am j) := fun am amv => by
    rw [umk_u k8 l hk]
    constructor
    · intro a j hj ⟨b1, b2⟩
      have e := a (l.getD j v0) (by rw [List.getD_eq_getElem?_getD, List.getElem?_eq_getElem hj]; exact List.getElem_mem hj) b1
      rw [e, nI_cl (by omega), amv k k8, if_pos rfl] at b2
      exact v5n b2
    · intro a v hv v2'
      obtain ⟨j, hj, e⟩ := List.mem_iff_getElem.mp hv
      have e' : l.getD j v0 = v := by rw [List.getD_eq_getElem?_getD, List.getElem?_eq_getElem hj]; exact e
      have kd := hk v hv
      obtain ⟨u, u8, hu⟩ : ∃ u, u < 8 ∧ v.2.2.1 = nI u := by
        rcases kd with k0 | k1 | ⟨-, hu⟩ | kb | ⟨k7, -⟩
        · rw [k0] at v2'; exact absurd v2' (by decide)
        · rw [k1] at v2'; exact absurd v2' (by decide)
        · exact hu
        · rw [v2'] at kb; exact absurd kb (by decide)
        · rw [k7] at v2'; exact absurd v2' (by decide)
      by_cases uk : u = k
      · rw [hu, uk]
      · exact absurd ⟨by rw [e']; exact v2', by rw [e', hu, nI_cl (by omega), amv u u8, if_neg uk]⟩ (a j hj)
  -- the model, on any memory that has the row
  have run : ∀ N, dp_I N 114 55 = nI R → dp_I N 172 = dp_I M 172 → dp_I N 171 = dp_I M 171 → ∃ am : Nat → Int64, (∀ u, u < 8 → am u = if u = k then v5 else -1) ∧ ((∀ j, j < l.length → ¬ lack l am j) → ∃ N3, Off Wt_S Wt_T N N3 ∧ Cst 0 0 N N3 ∧ dp_J N3 245 = dp_J N 245 ∧ dp_den true xs xl (d + 12) 494 [.ref 114, .int (nI r), .long v2, .int (nI k), .long v5] N = lR (rval l v2 am) (dp_setI N3 114 0 0)) ∧ ((∃ j, j < l.length ∧ lack l am j) → ∃ N3, Off Wt_S Wt_T N N3 ∧ Cst 0 0 N N3 ∧ dp_den true xs xl (d + 12) 494 [.ref 114, .int (nI r), .long v2, .int (nI k), .long v5] N = lR 0 (dp_setI N3 114 0 2)) := fun N e1 e2 e3 => by
    obtain ⟨N1, g1, g2, g3, g4, g5⟩ := m_rr (xs := xs) (xl := xl) (d := d + 1) (M := N) (r := r) (L := L) (l := l) (by omega) (by rw [e2]; exact c3) c4 c5 (by rw [e3]; exact c6) (by rw [e3]; exact c7)
    obtain ⟨am, hAm⟩ : ∃ am : Nat → Int64, am = fN (dp_J N1 188) 0 8 (fun i => if i = k then v5 else -1) := ⟨_, rfl⟩
    obtain ⟨N2, hN2⟩ : ∃ N2, N2 = rJ (dp_setJ N1 114 100 v2) 188 am := ⟨_, rfl⟩
    have k188 : dp_J (dp_setJ N1 114 100 v2) 188 = dp_J N1 188 := by rw [gJJ, if_neg (by decide)]
    have st : dp_den true xs xl (d + 12) 494 [.ref 114, .int (nI r), .long v2, .int (nI k), .long v5] N = D_X12_worth_81 xs xl (d + 11) (nI r) v2 (nI k) v5 (nI 8) N2 := by
      rw [ml N e1 (by rw [e2]; exact c3), if_pos y2, if_pos y4, if_pos y5, g1, rb_bv, m_ams rfl k8, k188, ← hAm, ← hN2]
    have h2 : FnM N2 l := by rw [hN2]; exact g4
    have h92 : dp_I N2 114 92 = nI l.length := by rw [hN2]; exact g5
    have p2 : dp_J N2 114 100 = v2 := by rw [hN2, rJ_J, if_neg (by decide), gJJ, if_pos rfl, uI_s]
    have a188 : dp_J N2 188 = am := by rw [hN2, rJ_J, if_pos rfl]
    obtain ⟨rk1, rk2⟩ := m_reck (xs := xs) (xl := xl) (d := d + 9) h2 h92 hk sh p2 y2.1 a188
    have o2 : Off Wt_S Wt_T N N2 := by
      rw [hN2]
      exact Off.rJ 188 (by decide) _ (Off.G 100 (by decide) _ (g2.mono (by decide) (by decide)))
    have c2' : Cst 0 0 N N2 := by rw [hN2]; exact g3
    have j245 : dp_J N2 245 = dp_J N 245 := by rw [hN2, rJ_J, if_neg (by decide), gJJ, if_neg (by decide), (g2.1 245 (by decide) (by decide) (by decide)).2.1]
    refine ⟨am, fun u hu => ?_, fun nl => ?_, fun lk => ?_⟩
    · have := fN_in (f := dp_J N1 188) (a := 0) (g := fun i => if i = k then v5 else -1) hu
      rw [Nat.zero_add] at this
      rw [hAm]; exact this
    · obtain ⟨w, e⟩ := rk1 nl
      have nn : (0 : Int64) ≤ rval l v2 am := by
        unfold rval
        split
        · exact Int64.le_refl _
        · rename_i q; exact Int64.not_lt.mp q
      refine ⟨rJ N2 189 w, o2.rJ 189 (by decide) _, c2', by rw [rJ_J, if_neg (by decide)]; exact j245, ?_⟩
      rw [st, D_X12_worth_81_eq, if_pos (by decide), e, rb_bl, if_pos (by rw [lg_cmp_ge]; exact nn), dpw, if_pos (by rw [lg_cmp_ge]; exact nn)]
    · obtain ⟨w, e⟩ := rk2 lk
      refine ⟨rJ N2 189 w, o2.rJ 189 (by decide) _, c2', ?_⟩
      rw [st, D_X12_worth_81_eq, if_pos (by decide), e, rb_bl, if_neg (by decide), dpw, if_neg (by decide)]
  by_cases ok : (umk l &&& (((1 : Int32) <<< (nI k &&& 31)) ^^^ (-1 : Int32))) = 0
  case neg =>
    obtain ⟨am, amv, -, r3⟩ := run (dp_new M 0 0 6) x2 (gIN (by omega)) (gIN (by omega))
    obtain ⟨N3, o3, cs3, e3⟩ := r3 (Classical.byContradiction (fun q => ok ((eqv am amv).mpr (fun j hj lk => q ⟨j, hj, lk⟩))))
    have oo : Off Wt_S Wt_T M (dp_setI N3 114 0 2) := (oX.tr o3).F 0 (by decide) _
    obtain ⟨w1, w2⟩ := Wt_off h0 ht0 oo
    refine ⟨2, 0, dp_new M 0 0 6, _, wL_worth_x3 ?_, e3, by rw [gII, if_pos rfl, uI_s], fun e => (by cases e), w1, w2, oo, ?_⟩
    · rw [cl, if_pos y2, if_pos y4, if_pos y5, if_neg ok]
    · have n1 := cs3.1; have n2 := cs3.2
      have n3 : dp_n (dp_new M 0 0 6) = dp_n M + 1 := rfl
      have n4 : dp_z (dp_new M 0 0 6) = dp_z M + 6 := rfl
      exact ⟨show dp_n N3 ≤ dp_n M + 1 by omega, show dp_z N3 ≤ dp_z M + 6 by omega⟩
  obtain ⟨Ma, hMa⟩ : ∃ Ma, Ma = dp_setJ M 112 k v5 := ⟨_, rfl⟩
  have ca : RtO Ma q l := by rw [hMa]; exact c2.off (S := [112]) (T := []) ((Off.rr _ _ M).J 112 (by decide) _ _)
  have cv := c_value (xs := xs) (xl := xl) (d := d + 4) (pr := v2) ca hk
  obtain ⟨Mb, hMb⟩ : ∃ Mb, Mb = rJ Ma 113 (vrow l v2 (dp_J Ma 112) (dp_J Ma 113) l.length) := ⟨_, rfl⟩
  rw [← hMb] at cv
  have j112 : dp_J Ma 112 = uI (dp_J M 112) k v5 := by rw [hMa, gJJ, if_pos rfl]
  obtain ⟨M1, hM1⟩ : ∃ M1, M1 = dp_setJ Mb 245 0 (rval l v2 (dp_J Ma 112)) := ⟨_, rfl⟩
  have i1 : dp_I M1 = dp_I M := by rw [hM1, hMb, hMa]; rfl
  have o1 : Off Wt_S Wt_T M M1 := by rw [hM1, hMb, hMa]; exact Off.J 245 (by decide) _ _ (Off.rJ 113 (by decide) _ (Off.J 112 (by decide) _ _ (Off.rr _ _ M)))
  obtain ⟨am, amv, r3, -⟩ := run M1 (by rw [i1]; exact a2) (by rw [i1]) (by rw [i1])
  obtain ⟨N3, o3, cs3, j3, e3⟩ := r3 ((eqv am amv).mp ok)
  have oo : Off Wt_S Wt_T M (dp_setI N3 114 0 0) := (o1.tr o3).F 0 (by decide) _
  obtain ⟨w1, w2⟩ := Wt_off h0 ht0 oo
  have uni := (umk_u k8 l hk).mp ok
  have same : rval l v2 (dp_J Ma 112) = rval l v2 am := rval_am (fun j hj k2 => by
    rw [uni _ (by rw [List.getD_eq_getElem?_getD, List.getElem?_eq_getElem hj]; exact List.getElem_mem hj) k2, nI_cl (by omega), j112, uI_s, amv k k8, if_pos rfl])
  refine ⟨0, rval l v2 am, M1, dp_setI N3 114 0 0, ?_, e3, by rw [gII, if_pos rfl, uI_s], fun _ => ?_, w1, w2, oo, ?_⟩
  · rw [hM1]
    refine wL_worth_ok ?_
    have Ta : dp_t true Ma q = 16 := by rw [bg_t q1, hMa]; exact q3
    rw [cl, if_pos y2, if_pos y4, if_pos y5, if_pos ok, D_X0_valueWithOne_0_den, D_X0_valueWithOne_0_eq, nI_cl (by omega), if_neg (show ¬ (nI k < 0 ∨ 8 ≤ k) by rw [nI_o k8 (by omega)]; exact id), dpw, ← hMa, if_pos Ta, cv, rb_bl, rb_bl]
  · rw [gJI, j3, hM1, gJJ, if_pos rfl, uI_s, same]
  · have n1 := cs3.1; have n2 := cs3.2
    have n3 : dp_n M1 = dp_n M := by rw [hM1, hMb, hMa]; rfl
    have n4 : dp_z M1 = dp_z M := by rw [hM1, hMb, hMa]; rfl
    exact ⟨show dp_n N3 ≤ dp_n M + 1 by omega, show dp_z N3 ≤ dp_z M + 6 by omega⟩
end Rr
