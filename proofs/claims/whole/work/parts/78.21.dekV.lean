-- needs: 71 72 73 74 75 76 77
/-! DECLARATIONS: pay, side by side -/
section DW
variable {xs : Nat → Int32} {xl d : Nat} {M : dp_M}
def Py_S : List Nat := [245, 90, 95, 96, 97, 100, 101, 102, 103, 104, 111, 215, 216, 221, 222, 223, 224, 225, 226, 227, 228, 229, 230, 241, 244]
/-- the gate keeps its goods where one goes from one free state to another -/
theorem PR.st {K : dp_M} {n B T c i : Nat} {s : Int32} {S U : List Nat} (hp : PR M n B T c) (o : Off S U M K) (hS : ∀ k ∈ PR_S, k ∉ S ∨ k = 241) (hU : ∀ i ∈ PR_T, i ∉ U) (hst : wi (dp_I M 241 i) 1 3) (hs : wi s 1 3) (k241 : dp_I K 241 = uI (dp_I M 241) i s) : PR K n B T c := by
  obtain ⟨p1, p2, p3, p4, p5, p6, p7⟩ := hp
  have x : ∀ k, k ∈ PR_S → k ≠ 241 → k ∉ S := fun k hk hne => (hS k hk).resolve_right hne
  have s1 : ∀ k ∈ PHY_S, k ∈ PR_S ∧ k ≠ 241 := by decide
  have s2 : ∀ i ∈ PHY_T, i ∈ PR_T := by decide
  have s3 : ∀ k ∈ [37, 50, 154], k ∈ PR_S ∧ k ≠ 241 := by decide
  have s4 : ∀ k ∈ [37, 42, 44, 45, 46, 47, 147, 148, 233], k ∈ PR_S ∧ k ≠ 241 ∧ k < 246 ∧ k ≠ 114 := by decide
  have s5 : ∀ i ∈ [44, 160], i ∈ PR_T := by decide
  have s6 : ∀ k ∈ [48, 49, 149, 150], k ∈ PR_S ∧ k ≠ 241 := by decide
  have s7 : ∀ k ∈ [43, 146], k ∈ PR_S ∧ k ≠ 241 := by decide
  have s8 : ∀ k ∈ [5, 11, 41, 145], k ∈ PR_S ∧ k ≠ 241 := by decide
  have s9 : ∀ k ∈ [38, 39, 40, 151, 152, 153], k ∈ PR_S ∧ k ≠ 241 := by decide
  refine ⟨PHY_off p1 o (fun k hk => x k (s1 k hk).1 (s1 k hk).2) (fun i hi => hU i (s2 i hi)), GTl_off p2 o (fun k hk => x k (s3 k hk).1 (s3 k hk).2) (hU 52 (by decide)), p3.st (fun k hk => (o.1 k (s4 k hk).2.2.1 (x k (s4 k hk).1 (s4 k hk).2.1) (s4 k hk).2.2.2).1) (fun i hi => (o.2.1 i (hU i (s5 i hi))).1) (fun q j => ?_), GBr_off p4 o (fun k hk => x k (s6 k hk).1 (s6 k hk).2), GLd_off p5 o (fun k hk => x k (s7 k hk).1 (s7 k hk).2), GRl_off p6 o (fun k hk => x k (s8 k hk).1 (s8 k hk).2), GRu_off p7 o (fun k hk => x k (s9 k hk).1 (s9 k hk).2)⟩
  unfold frf
  rw [k241]
  by_cases z : j = i
  · subst z
    rw [uI_s]
    exact decide_eq_decide.mpr ⟨fun w => ⟨w.1, hst⟩, fun w => ⟨w.1, hs⟩⟩
  · rw [uI_n z]
theorem s_pay {n B T c : Nat} (hp : PR M n B T c) (hl : RelL M) (hsx : RelS M) (hd : RelD M) (hn : 246 ≤ dp_n M) (v1 v2 : Int32) : ∃ k b M1 M2, dp_den true xs xl (d + 8) 650 [.ref 0, .int v1, .int v2, .ref 245] M = iR k M1 ∧ dp_den true xs xl (d + 8) 580 [.ref 114, .int v1, .int v2] M1 = iR b M2 ∧
    dp_I M2 114 0 = k ∧ (k = 0 → dp_J M2 245 0 = b.toInt64) ∧ (PR M2 n B T c ∧ RelL M2 ∧ RelS M2 ∧ RelD M2) ∧ Off Py_S [0, 141, 142, 144] M M2 ∧ Cst 1 6 M M2 := by
  have hd0 := hd
  obtain ⟨D, A, R, hb⟩ := hd
  have hb0 := hb
  obtain ⟨h1, h2, h3, h4, h5, h6, h7, h8, h9, h10, h11, h12, h13, h14⟩ := hb
  have hl0 := hl
  obtain ⟨Bt, E, hB8, hE4, a1, a2, a3, a4, a5, a6, -⟩ := hl
  have st : ∀ i, i < D → dp_J M 111 (i * 23 + 7) = (dp_I M 241 i).toInt64 := fun i hi => (h8 i hi).2.1.1
  have n114 : ∀ q, dp_I (dp_new M 0 0 6) 114 q = dp_I M 114 q := fun q => by rw [gIN (by omega)]
  have ni : ∀ k, k < 246 → dp_I (dp_new M 0 0 6) k = dp_I M k := fun k hk => gIN (by omega)
  by_cases z : (qin v1 D ∧ dp_I M 241 v1.toNatClampNeg = 1) ∧ qin v2 100001
  case neg =>
    refine ⟨1, 0, dp_new M 0 0 6, dp_setI (dp_new M 0 0 6) 114 0 1, wL_pay_x0 ?_, ?_, rfl, (fun e => by cases e), ⟨(hp.refused hn 1).1, (hl0.refused hn 1).1, (hsx.refused hn 1).1, (hd0.refused hn 1).1⟩, ((Off.rr _ _ M).N hn 0 0 6).F 0 (by decide) 1, ⟨Nat.le_refl _, Nat.le_refl _⟩⟩
    · rw [D_X11_pay_0_den, D_X11_pay_0_eq, dc_in h2 h1 st, rb_bi, ibz]
      by_cases y : qin v1 D ∧ dp_I M 241 v1.toNatClampNeg = 1
      · rw [if_pos y, lc_day, rb_bi, ibz, if_neg (fun q => z ⟨y, q⟩), q_nk hn]
      · rw [if_neg y, q_nk hn]
    · rw [D_X12_pay_0_den, D_X12_pay_0_eq, dm_in (by rw [n114]; exact h3) h1, ni 241 (by decide), rb_bi, ibz]
      by_cases y : qin v1 D ∧ dp_I M 241 v1.toNatClampNeg = 1
      · rw [if_pos y, lm_day, rb_bi, ibz, if_neg (fun q => z ⟨y, q⟩), q_ref, rb_bi]
      · rw [if_neg y, q_ref, rb_bi]
  obtain ⟨z1, z2⟩ := z
  have z1' := z1
  obtain ⟨zq, zs⟩ := z1
  obtain ⟨i, hi, rfl⟩ := qin_of zq (by omega)
  have hst : dp_I M 241 i = 1 := by rw [nI_cl (by omega)] at zs; exact zs
  have hst' : dp_I M 241 i = 1 := hst
  obtain ⟨k1, k2, k3, k4⟩ := h8 i hi
  have k20 := k2
  obtain ⟨m1, m2, m3, m4, m5, m6, m7, m8, m9⟩ := k2
  have m3' : dp_J M 111 (i * 23 + 8) = dp_J M 242 i := m3
  have m6' : dp_J M 111 (i * 23 + 9) = (dp_I M 243 i).toInt64 := m6
  -- the class and the model up to the duty
  have cl : ∀ d, dp_den true xs xl (d + 7) 354 [.ref 0, .int (nI i), .int v2] M = if dp_J M 242 i = 0 then dp_bi (dp_den true xs xl (d + 6) 20 [.ref 108, .int (nI i), .int v2] M) (fun r8 M7 => some (.inl (some (.int r8)), M7)) else if (Bt < 800 ∧ dp_I M 97 2 < v2 ∧ dp_I M 97 3 ≤ v2 ∧ E + 2 ≤ 4000) then dp_bi (dp_den true xs xl (d + 6) 20 [.ref 108, .int (nI i), .int v2] M) (fun r8 M7 => some (.inl (some (.int r8)), M7)) else some (.inr 1, dp_new M 0 0 6) := fun d => by
    rw [D_X11_pay_0_den, D_X11_pay_0_eq, dc_in h2 h1 st, rb_bi, ibz, if_pos z1', lc_day, rb_bi, ibz, if_pos z2, dc_duty (by omega), rb_bl, m3']
    simp only [lg_cmp_eq]
    by_cases y : dp_J M 242 i = 0
    · rw [if_pos y, if_pos y]
    · rw [if_neg y, if_neg y, lc_take (v1 := 2) (n := 2) rfl a1 hB8 a3 hE4 (by omega), rb_bi, ibz, q_nk hn]
  have dle : dp_J M 242 i ≤ 0 ↔ dp_J M 242 i = 0 := by
    have m4' : 0 ≤ (dp_J M 242 i).toInt := m4
    rw [Int64.le_iff_toInt_le, ← Int64.toInt_inj]
    have : (0 : Int64).toInt = 0 := rfl
    omega
  have ml : ∀ N d, dp_I N 114 160 = nI D → dp_I N 241 = dp_I M 241 → dp_J N 242 = dp_J M 242 → dp_den true xs xl (d + 8) 580 [.ref 114, .int (nI i), .int v2] N = if dp_J M 242 i = 0 then iR (dp_I N 244 i) (dp_setI (dp_setI N 114 0 0) 241 i 2) else (dp_bi (dp_den true xs xl (d + 7) 578 [.ref 114, .int (nI i), .int v2] N) (fun r12 M11 => if r12 = 0 then iR 0 (dp_setI M11 114 0 2) else (dp_bv (dp_den true xs xl (d + 7) 545 [.ref 114, .int (dp_I M11 114 141), .int (dp_I M11 234 i), .long (-(dp_J M11 242 i))] M11) (fun M15 => (dp_bv (dp_den true xs xl (d + 7) 545 [.ref 114, .int (dp_I M15 114 141), .int (8 : Int32), .long (dp_J M15 242 i)] M15) (fun M16 => dp_bi (dp_den true xs xl (d + 7) 579 [.ref 114, .int (nI i)] M16) (fun r18 M17 => if r18 = 0 then iR 0 (dp_setI M17 114 0 2) else (dp_bv (dp_den true xs xl (d + 7) 530 [.ref 114, .int (dp_I M17 243 i), .int (2 : Int32)] M17) (fun M21 => iR (dp_I M21 244 i) (dp_setI (dp_setI M21 114 0 0) 241 i 2)))))))))) := fun N d n1 n2 n3 => by
    rw [D_X12_pay_0_den, D_X12_pay_0_eq, dm_in n1 h1, n2, rb_bi, ibz, if_pos z1', lm_day, rb_bi, ibz, if_pos z2]
    simp only [nI_cl (show i < 2147483648 by omega), nI_o (show i < 400 by omega) (by omega), if_false, n3, lg_cmp_le, dle, dp_w, q_ref, rb_bi, gII, Nat.reduceEqDiff]
  by_cases y : dp_J M 242 i = 0
  · -- nothing is due
    have w244 : dp_I M 244 i = -1 := m7.2 (Or.inr hst)
    obtain ⟨C, hC⟩ : ∃ C, C = dp_setJ M 111 (i * 23 + 7) 2 := ⟨_, rfl⟩
    obtain ⟨K, hK⟩ : ∃ K, K = dp_setI (dp_setI (dp_setJ C 245 0 (-1 : Int32).toInt64) 114 0 0) 241 i 2 := ⟨_, rfl⟩
    have oK : Off [111, 241, 245] [0] M K := by rw [hK, hC]; exact ((((Off.rr _ _ M).J 111 (by decide) _ _).J 245 (by decide) _ _).F 0 (by decide) _).I 241 (by decide) _ _
    have k241 : dp_I K 241 = uI (dp_I M 241) i 2 := by rw [hK, gII, if_pos rfl, gII, if_neg (by decide), gIJ, hC, gIJ]
    have k111 : dp_J K 111 = uI (dp_J M 111) (i * 23 + 7) 2 := by rw [hK, gJI, gJI, gJJ, if_neg (by decide), hC, gJJ, if_pos rfl]
    have k244 : dp_I K 244 = dp_I M 244 := (oK.1 244 (by decide) (by decide) (by decide)).1
    refine ⟨0, -1, dp_setJ C 245 0 (-1 : Int32).toInt64, K, wL_pay_ok ?_, ?_, ?_, fun _ => ?_, ⟨?_, ?_, ?_, ⟨D, A, R, ?_⟩⟩, oK.mono (by decide) (by decide), ?_⟩
    · rw [cl, if_pos y, D_X0_settle_0_den, D_X0_settle_0_eq, dc_set (v2 := 7) (k := 7) rfl (by omega) (by omega), rb_bv, ← hC, dc_duty (by omega), rb_bl]
      have : dp_J C 111 (i * 23 + 8) = 0 := by rw [hC, gJJ, if_pos rfl, uI_n (by omega), m3', y]
      rw [this]
      simp only [lg_cmp_eq]
      rw [if_pos trivial, rb_bi]
    · rw [ml _ _ (by rw [gIJ, hC, gIJ]; exact h3) (by rw [gIJ, hC, gIJ]) (by rw [gJJ, if_neg (by decide), hC, gJJ, if_neg (by decide)]), if_pos y, hK]
      rw [gIJ, hC, gIJ, w244]
    · rw [hK, gII, if_neg (by decide), gII, if_pos rfl, uI_s]
    · rw [hK, gJI, gJI, gJJ, if_pos rfl, uI_s]
    · exact hp.st oK (by decide) (by decide) (by rw [hst']; decide) (by decide) k241
    · exact RelL_off hl0 oK (by decide) (by decide)
    · exact RelS_off hsx oK (by decide) (by decide)
    · refine hb0.step hi hst (Or.inl rfl) (by rw [k111, uI_s]; rfl) ?_ (fun j k hk hz => by rw [k111, uI_n (by omega)]) k241 (fun j _ => by rw [k244]) (fun k hk => ?_) (fun k hk => ?_) ?_ (fun q hq => ?_) (fun j hj hne hj1 q hq1 hq2 hq3 => ?_)
      · rw [k111, uI_n (by omega), k244]; exact m7.1
      · have w : ∀ k ∈ [109, 110, 196, 233, 234, 235, 236, 237, 238, 243], k < 246 ∧ k ∉ [111, 241, 245] ∧ k ≠ 114 := by decide
        exact (oK.1 k (w k hk).1 (w k hk).2.1 (w k hk).2.2).1
      · have w : ∀ k ∈ [239, 240, 242], k < 246 ∧ k ∉ [111, 241, 245] ∧ k ≠ 114 := by decide
        exact (oK.1 k (w k hk).1 (w k hk).2.1 (w k hk).2.2).2.1
      · rw [(oK.1 108 (by decide) (by decide) (by decide)).1]
      · have w : ∀ q ∈ RelD_T, q ∉ [0] := by decide
        exact (oK.2.1 q (w q hq)).1
      · rw [(oK.1 215 (by decide) (by decide) (by decide)).1, (oK.1 96 (by decide) (by decide) (by decide)).2.1]; exact ⟨rfl, rfl⟩
    · rw [hK, hC]; exact ⟨Nat.le_add_right _ _, Nat.le_add_right _ _⟩
  have vb : -1000000000 ≤ (dp_J M 242 i).toInt ∧ (dp_J M 242 i).toInt ≤ 1000000000 := by
    have m4' : 0 ≤ (dp_J M 242 i).toInt := m4
    have m5' : (dp_J M 242 i).toInt ≤ 1000000000 := m5
    omega
  obtain ⟨ce1, ce2, ce3, ce4⟩ := bk2_ce y vb.1 vb.2
  have hneg : ¬ -(dp_J M 242 i) = 0 := fun q => y (by
    have := congrArg Int64.toInt q
    rw [Int64.toInt_neg] at this
    have e0 : (0 : Int64).toInt = 0 := rfl
    rw [← Int64.toInt_inj]
    have hb : (-(dp_J M 242 i).toInt).bmod (2 ^ 64) = -(dp_J M 242 i).toInt := by apply Int.bmod_eq_of_le <;> omega
    omega)
  have fa1 : qin (dp_I M 234 i) 8 := k1.2.2.1
  have hac : ∀ k, k < 2 → qin (bkAc (dp_I M 234 i) k) 12 := fun k hk => by
    have : k = 0 ∨ k = 1 := by omega
    rcases this with rfl | rfl
    · show qin (dp_I M 234 i) 12
      obtain ⟨w, hw, ew⟩ := qin_of fa1 (by omega)
      rw [ew]; exact qin_nI (by omega) (by omega)
    · show qin 8 12
      decide
  -- the model's entries
  have ents : ∀ N, dp_I N 234 = dp_I M 234 → dp_J N 242 = dp_J M 242 → dp_I N 114 141 = nI Bt → Bt < 800 → ∀ P0, MBk N P0 Bt 0 (dp_I M 238 i) v2 (bkAc (dp_I M 234 i)) (bkCe (dp_J M 242 i)) → ∃ P2, MBk N P2 Bt 2 (dp_I M 238 i) v2 (bkAc (dp_I M 234 i)) (bkCe (dp_J M 242 i)) ∧ ∀ {d} {Y : dp_M → Option dp_Res}, dp_bv (dp_den true xs xl (d + 1) 545 [.ref 114, .int (dp_I P0 114 141), .int (dp_I P0 234 i), .long (-(dp_J P0 242 i))] P0) (fun M15 => (dp_bv (dp_den true xs xl (d + 1) 545 [.ref 114, .int (dp_I M15 114 141), .int (8 : Int32), .long (dp_J M15 242 i)] M15) Y)) = Y P2 := fun N n1 n2 n3 hB P0 mb => by
    obtain ⟨P1, q1, q2⟩ := mb.ent (xs := xs) (xl := xl) (v2 := dp_I M 234 i) (v3 := -(dp_J M 242 i)) (by omega) (by omega) rfl ce3 hneg
    obtain ⟨P2, r1, r2⟩ := q2.ent (xs := xs) (xl := xl) (v2 := 8) (v3 := dp_J M 242 i) (by omega) (by omega) rfl ce4 y
    refine ⟨P2, r2, fun {d} {Y} => ?_⟩
    have g1 : ∀ P m, MBk N P Bt m (dp_I M 238 i) v2 (bkAc (dp_I M 234 i)) (bkCe (dp_J M 242 i)) → dp_I P 114 141 = nI Bt ∧ dp_I P 234 = dp_I M 234 ∧ dp_J P 242 = dp_J M 242 := fun P m hm => ⟨by rw [(hm.1.2.1 141 (by decide)).1]; exact n3, by rw [(hm.1.1 234 (by decide) (by decide) (by decide)).1, n1], by rw [(hm.1.1 242 (by decide) (by decide) (by decide)).2.1, n2]⟩
    rw [(g1 P0 0 mb).1, (g1 P0 0 mb).2.1, (g1 P0 0 mb).2.2, q1, rb_bv, (g1 P1 1 q2).1, (g1 P1 1 q2).2.2, r1, rb_bv]
  have tk : (Bt < 800 ∧ dp_I M 97 2 < v2 ∧ dp_I M 97 3 ≤ v2 ∧ E + 2 ≤ 4000) ↔ (Bt < 800 ∧ dp_I M 114 143 < v2 ∧ dp_I M 114 144 ≤ v2 ∧ E + 2 ≤ 4000) := by rw [a5, a6]
  by_cases w : Bt < 800 ∧ dp_I M 97 2 < v2 ∧ dp_I M 97 3 ≤ v2 ∧ E + 2 ≤ 4000
  case neg =>
    have hcl : dp_den true xs xl (d + 7) 354 [.ref 0, .int (nI i), .int v2] M = some (.inr 1, dp_new M 0 0 6) := by rw [cl, if_neg y, if_neg w]
    obtain ⟨N, hN⟩ : ∃ N, N = dp_new M 0 0 6 := ⟨_, rfl⟩
    have oN : Off [] [] M N := by rw [hN]; exact (Off.rr _ _ M).N hn 0 0 6
    have eN : ∀ k, k < 246 → k ≠ 114 → dp_I N k = dp_I M k ∧ dp_J N k = dp_J M k := fun k q1 q2 => ⟨(oN.1 k q1 (by simp) q2).1, (oN.1 k q1 (by simp) q2).2.1⟩
    have tN : ∀ q, dp_I N 114 q = dp_I M 114 q := fun q => (oN.2.1 q (by simp)).1
    have bN : dp_I N 114 141 = nI Bt := by rw [tN]; exact a2
    have mlN := ml N d (by rw [tN]; exact h3) (eN 241 (by decide) (by decide)).1 (eN 242 (by decide) (by decide)).2
    rw [if_neg y] at mlN
    have lN : RelL N := RelL_off hl0 oN (by simp) (by simp)
    obtain ⟨bf1, bf2⟩ := dm_begin (xs := xs) (xl := xl) (d := d + 5) (M := N) (B := Bt) (i := i) (v2 := v2) (ac := bkAc (dp_I M 234 i)) (ce := bkCe (dp_J M 242 i)) (by omega) bN hB8
    have fin : ∀ P, dp_den true xs xl (d + 8) 580 [.ref 114, .int (nI i), .int v2] N = iR 0 (dp_setI P 114 0 2) → Off MBk_S [] N P → Cst 0 0 N P → RelL (dp_setI P 114 0 2) → ∃ k b M1 M2, dp_den true xs xl (d + 8) 650 [.ref 0, .int (nI i), .int v2, .ref 245] M = iR k M1 ∧ dp_den true xs xl (d + 8) 580 [.ref 114, .int (nI i), .int v2] M1 = iR b M2 ∧
        dp_I M2 114 0 = k ∧ (k = 0 → dp_J M2 245 0 = b.toInt64) ∧ (PR M2 n B T c ∧ RelL M2 ∧ RelS M2 ∧ RelD M2) ∧ Off Py_S [0, 141, 142, 144] M M2 ∧ Cst 1 6 M M2 := fun P e1 oP cP rl => by
      have oK : Off MBk_S [0] M (dp_setI P 114 0 2) := ((oN.mono (by simp) (by simp)).tr (oP.mono (fun _ h => h) (by simp))).F 0 (by decide) _
      refine ⟨2, 0, N, dp_setI P 114 0 2, ?_, e1, by rw [gII, if_pos rfl, uI_s], (fun e => by cases e), ⟨PR_off hp oK (by decide) (by decide), rl, RelS_off hsx oK (by decide) (by decide), RelD_off hd0 oK (by decide) (by decide)⟩, oK.mono (by decide) (by decide), ?_⟩
      · rw [hN]; exact wL_pay_x1 hcl
      · have c1 : Cst 1 6 M N := by rw [hN]; exact ⟨Nat.le_refl _, Nat.le_refl _⟩
        exact ⟨Nat.le_trans (show dp_n P ≤ dp_n N + 0 from cP.1) c1.1, Nat.le_trans (show dp_z P ≤ dp_z N + 0 from cP.2) c1.2⟩
    by_cases wB : Bt < 800
    · obtain ⟨P0, q1, q2⟩ := bf2 wB
      rw [(eN 238 (by decide) (by decide)).1] at q2
      obtain ⟨P2, r1, r2⟩ := ents N (eN 234 (by decide) (by decide)).1 (eN 242 (by decide) (by decide)).2 bN wB P0 q2
      have cn : ¬ (dp_I N 114 143 < v2 ∧ dp_I N 114 144 ≤ v2 ∧ E + 2 ≤ 4000) := fun q => w (tk.mpr ⟨wB, by rw [tN, tN] at q; exact q⟩)
      refine fin P2 ?_ r1.1 r1.2.1 (lN.bkno bN hB8 r1 ((Off.rr [] [0] P2).F 0 (by decide) _) (by decide) (by decide))
      rw [mlN, q1, rb_bi, if_neg one_ne, r2, bk_no r1 bN (by omega) (by omega) (by omega) (by rw [tN]; exact a4) hE4 ce2 cn, rb_bi, if_pos rfl]
    · have wB' : Bt = 800 := by omega
      refine fin N ?_ (Off.rr _ _ N) (Cst.r N) (RelL_off lN ((Off.rr [] [0] N).F 0 (by decide) _) (by decide) (by decide))
      rw [mlN, bf1 wB', rb_bi, if_pos rfl]
  -- paid
  have wm := tk.mp w
  rcases k20.rv (Or.inr hst) with zr | ⟨r, r1, r2, r3, r4, -, r5, r6⟩
  · rcases m9 hst with q | ⟨q, r, q1, q2, q3, -⟩
    · exact absurd q.1 y
    · have zr' : dp_I M 243 i = 0 := zr
      have q3' : dp_I M 243 i = nI r := q3
      rw [zr', show (0 : Int32) = nI 0 from rfl, nI_eq (by omega) (by omega)] at q3'
      omega
  have r3' : dp_I M 243 i = nI r := r3
  obtain ⟨C0, hC0⟩ : ∃ C0, C0 = dp_setJ M 111 (i * 23 + 7) 2 := ⟨_, rfl⟩
  have o0 : Off [111] [] M C0 := by rw [hC0]; exact (Off.rr _ _ M).J 111 (by decide) _ _
  obtain ⟨C1, c1, c2, c3, c4⟩ := s_fin12 (xs := xs) (xl := xl) (M := C0) (R := R) (r := r) (how := 2) (RelS_off hsx o0 (by decide) (by decide)) (by rw [(o0.2.1 133 (by decide)).1]; exact h6) h7 r1 r2 (by rw [(o0.1 215 (by decide) (by decide) (by decide)).1]; exact r4) (Or.inr rfl)
  have o1 : Off [111, 90, 95, 96] [] M C1 := (o0.mono (by decide) (by decide)).tr (c2.mono (by decide) (by decide))
  have l1 : RelL C1 := RelL_off hl0 o1 (by decide) (by decide)
  have e111 : dp_J C1 111 = uI (dp_J M 111) (i * 23 + 7) 2 := by rw [(c2.1 111 (by decide) (by decide) (by decide)).2.1, hC0, gJJ, if_pos rfl]
  have eC1 : ∀ k, k < 246 → k ∉ [111, 90, 95, 96] → k ≠ 114 → dp_I C1 k = dp_I M k ∧ dp_J C1 k = dp_J M k := fun k q1 q2 q3 => ⟨(o1.1 k q1 q2 q3).1, (o1.1 k q1 q2 q3).2.1⟩
  have fa : DFa C1 i := by
    unfold DFa at k1 ⊢
    rw [e111, uI_n (by omega), uI_n (by omega), uI_n (by omega), uI_n (by omega), uI_n (by omega), uI_n (by omega), uI_n (by omega), (eC1 233 (by decide) (by decide) (by decide)).1, (eC1 234 (by decide) (by decide) (by decide)).1, (eC1 235 (by decide) (by decide) (by decide)).1, (eC1 236 (by decide) (by decide) (by decide)).1, (eC1 237 (by decide) (by decide) (by decide)).1, (eC1 238 (by decide) (by decide) (by decide)).1, (eC1 239 (by decide) (by decide) (by decide)).2]; exact k1
  obtain ⟨C2, b1, b2⟩ := dc_book2 (xs := xs) (xl := xl) (d := d + 1) (M := C1) (B := Bt) (E := E) (i := i) (v := dp_J M 242 i) (v2 := v2) l1 (by omega) fa y (by rw [(o1.2.1 141 (by decide)).1]; exact a2) wm.1 (by rw [(o1.2.1 142 (by decide)).1]; exact a4) wm.2.2.2
  rw [(eC1 234 (by decide) (by decide) (by decide)).1, (eC1 238 (by decide) (by decide) (by decide)).1] at b2
  obtain ⟨N, hN⟩ : ∃ N, N = dp_setJ (dp_setJ C2 111 (i * 23 + 10) (nI Bt).toInt64) 245 0 (nI Bt).toInt64 := ⟨_, rfl⟩
  have oCN : Off [111, 245] [] C2 N := by rw [hN]; exact ((Off.rr _ _ C2).J 111 (by decide) _ _).J 245 (by decide) _ _
  have oN : Off [245, 90, 95, 96, 97, 100, 101, 102, 103, 104, 111] [] M N := ((o1.mono (by decide) (by decide)).tr (b2.1.mono (by decide) (by decide))).tr (oCN.mono (by decide) (by decide))
  have o1N : Off [245, 97, 100, 101, 102, 103, 104, 111] [] C1 N := (b2.1.mono (by decide) (by decide)).tr (oCN.mono (by decide) (by decide))
  have eN : ∀ k, k < 246 → k ∉ [245, 90, 95, 96, 97, 100, 101, 102, 103, 104, 111] → k ≠ 114 → dp_I N k = dp_I M k ∧ dp_J N k = dp_J M k := fun k q1 q2 q3 => ⟨(oN.1 k q1 q2 q3).1, (oN.1 k q1 q2 q3).2.1⟩
  have tN : ∀ q, dp_I N 114 q = dp_I M 114 q := fun q => (oN.2.1 q (by simp)).1
  have bN : dp_I N 114 141 = nI Bt := by rw [tN]; exact a2
  have n111 : dp_J N 111 = uI (uI (dp_J M 111) (i * 23 + 7) 2) (i * 23 + 10) (nI Bt).toInt64 := by rw [hN, gJJ, if_neg (by decide), gJJ, if_pos rfl, (b2.1.1 111 (by decide) (by decide) (by decide)).2.1, e111]
  obtain ⟨P0, q1, q2⟩ := (dm_begin (xs := xs) (xl := xl) (d := d + 5) (M := N) (B := Bt) (i := i) (v2 := v2) (ac := bkAc (dp_I M 234 i)) (ce := bkCe (dp_J M 242 i)) (by omega) bN hB8).2 wm.1
  rw [(eN 238 (by decide) (by decide) (by decide)).1] at q2
  obtain ⟨P2, s1, s2⟩ := ents N (eN 234 (by decide) (by decide) (by decide)).1 (eN 242 (by decide) (by decide) (by decide)).2 bN wm.1 P0 q2
  obtain ⟨K1, t1, t2, t3, t4, t5⟩ := bk_yes (xs := xs) (xl := xl) (d := d + 2) (M := C1) (C := C2) (N := N) (P := P2) (i := i) l1 b2 oCN (by decide) (by decide) s1 (by rw [(o1.2.1 141 (by decide)).1]; exact a2) wm.1 (by omega) (by omega) (by rw [(o1.2.1 142 (by decide)).1]; exact a4) hE4 ce2 (by omega) hac ce1 (by rw [(o1.2.1 143 (by decide)).1, (o1.2.1 144 (by decide)).1]; exact wm.2)
  have o1K : Off [245, 97, 100, 101, 102, 103, 104, 111, 221, 222, 223, 224, 225, 226, 227, 228, 229, 230, 244] [141, 142, 144] C1 K1 := (o1N.mono (by decide) (by decide)).tr (t3.mono (by decide) (by decide))
  obtain ⟨u1, u2, u3, u4, u5⟩ := c4 K1 (SameS.off o1K (by decide) (by decide))
  obtain ⟨K2, hK2⟩ : ∃ K2, K2 = enM K1 r 2 := ⟨_, rfl⟩
  rw [← hK2] at u2 u3 u4 u5
  obtain ⟨K, hK⟩ : ∃ K, K = dp_setI (dp_setI K2 114 0 0) 241 i 2 := ⟨_, rfl⟩
  have oK12 : Off [215, 216, 241] [0] K1 K := by rw [hK]; exact ((u3.mono (by decide) (by decide)).F 0 (by decide) _).I 241 (by decide) _ _
  have oNK : Off [215, 216, 221, 222, 223, 224, 225, 226, 227, 228, 229, 230, 241, 244] [0, 141, 142, 144] N K := (t3.mono (by decide) (by decide)).tr (oK12.mono (by decide) (by decide))
  have oK : Off Py_S [0, 141, 142, 144] M K := (oN.mono (by decide) (by decide)).tr (oNK.mono (by decide) (by decide))
  have k241 : dp_I K 241 = uI (dp_I M 241) i 2 := by rw [hK, gII, if_pos rfl, gII, if_neg (by decide), (u3.1 241 (by decide) (by decide) (by decide)).1, (t3.1 241 (by decide) (by decide) (by decide)).1, (eN 241 (by decide) (by decide) (by decide)).1]
  have k244 : dp_I K2 244 = uI (dp_I M 244) i (nI Bt) := by rw [(u3.1 244 (by decide) (by decide) (by decide)).1, t5, (eN 244 (by decide) (by decide) (by decide)).1]
  have k244' : dp_I K 244 = uI (dp_I M 244) i (nI Bt) := by rw [hK, gII, if_neg (by decide), gII, if_neg (by decide), k244]
  have k111 : dp_J K 111 = uI (uI (dp_J M 111) (i * 23 + 7) 2) (i * 23 + 10) (nI Bt).toInt64 := by rw [(oNK.1 111 (by decide) (by decide) (by decide)).2.1, n111]
  have k243 : dp_I K1 243 i = nI r := by rw [(t3.1 243 (by decide) (by decide) (by decide)).1, (eN 243 (by decide) (by decide) (by decide)).1]; exact r3'
  refine ⟨0, nI Bt, N, K, ?_, ?_, ?_, fun _ => ?_, ⟨?_, ?_, ?_, ⟨D, A, R, ?_⟩⟩, oK, ?_⟩
  · rw [hN]
    refine wL_pay_ok ?_
    have e0 : dp_J C0 111 (i * 23 + 8) = dp_J M 242 i := by rw [hC0, gJJ, if_pos rfl, uI_n (by omega), m3']
    have e9 : dp_J C0 111 (i * 23 + 9) = (nI r).toInt64 := by rw [hC0, gJJ, if_pos rfl, uI_n (by omega), m6', r3']
    have e18 : dp_J C1 111 (i * 23 + 8) = dp_J M 242 i := by rw [e111, uI_n (by omega), m3']
    rw [cl, if_neg y, if_pos w, D_X0_settle_0_den, D_X0_settle_0_eq, dc_set (v2 := 7) (k := 7) rfl (by omega) (by omega), rb_bv, ← hC0, dc_duty (by omega), rb_bl, e0]
    simp only [lg_cmp_eq]
    rw [if_neg y, dc_small (v2 := 9) (k := 9) rfl (by omega) (by omega) e9, rb_bi, c1, rb_bl, dc_duty (by omega), rb_bl, e18, b1, rb_bi, rb_bi]
  · rw [ml N d (by rw [tN]; exact h3) (eN 241 (by decide) (by decide) (by decide)).1 (eN 242 (by decide) (by decide) (by decide)).2, if_neg y, q1, rb_bi, if_neg one_ne, s2, t1, rb_bi, if_neg one_ne, k243, u1, rb_bv, ← hK2, k244, uI_s, hK]
  · rw [hK, gII, if_neg (by decide), gII, if_pos rfl, uI_s]
  · rw [(oNK.1 245 (by decide) (by decide) (by decide)).2.1, hN, gJJ, if_pos rfl, uI_s]
  · exact hp.st oK (by decide) (by decide) (by rw [hst']; decide) (by decide) k241
  · exact RelL_off t2 oK12 (by decide) (by decide)
  · exact RelS_off u2 (show Off [241] [0] K2 K by rw [hK]; exact ((Off.rr _ _ K2).F 0 (by decide) _).I 241 (by decide) _ _) (by decide) (by decide)
  · refine hb0.step hi hst (Or.inl rfl) (by rw [k111, uI_n (by omega), uI_s]; rfl) (by rw [k111, uI_s, k244', uI_s]) (fun j k hk hz => by rw [k111, uI_n (by omega), uI_n (by omega)]) k241 (fun j hj => by rw [k244', uI_n hj]) (fun k hk => ?_) (fun k hk => ?_) ?_ (fun q hq => ?_) (fun j hj hne hj1 q hq1 hq2 hq3 => ?_)
    · have w : ∀ k ∈ [109, 110, 196, 233, 234, 235, 236, 237, 238, 243], k < 246 ∧ k ∉ Py_S ∧ k ≠ 114 := by decide
      exact (oK.1 k (w k hk).1 (w k hk).2.1 (w k hk).2.2).1
    · have w : ∀ k ∈ [239, 240, 242], k < 246 ∧ k ∉ Py_S ∧ k ≠ 114 := by decide
      exact (oK.1 k (w k hk).1 (w k hk).2.1 (w k hk).2.2).2.1
    · rw [(oK.1 108 (by decide) (by decide) (by decide)).1]
    · have w : ∀ q ∈ RelD_T, q ∉ [0, 141, 142, 144] := by decide
      exact (oK.2.1 q (w q hq)).1
    · have ne := hb0.res hi hst hj hne hj1 hq1 hq2 hq3
      have hqr : q ≠ r := fun e => ne (by rw [r3, e])
      have e215 : dp_I K 215 q = dp_I M 215 q := by
        rw [hK, gII, if_neg (by decide), gII, if_neg (by decide), hK2, enM_215, uI_n hqr, (o1K.1 215 (by decide) (by decide) (by decide)).1, (eC1 215 (by decide) (by decide) (by decide)).1]
      have e96 : dp_J K 96 (q * 12 + 1) = dp_J M 96 (q * 12 + 1) := by
        rw [hK, gJI, gJI, u5 q 1 hqr (by omega), (o0.1 96 (by decide) (by decide) (by decide)).2.1]
      exact ⟨e215, e96⟩
  · have cs0 : Cst 0 0 M C0 := by rw [hC0]; exact ⟨Nat.le_refl _, Nat.le_refl _⟩
    have cs1 : Cst 0 0 C2 N := by rw [hN]; exact ⟨Nat.le_refl _, Nat.le_refl _⟩
    have cs2 : Cst 0 0 K2 K := by rw [hK]; exact ⟨Nat.le_refl _, Nat.le_refl _⟩
    exact ((((((cs0.tr0 c3).tr0 b2.2.1).tr0 cs1).tr0 t4).tr0 u4).tr0 cs2).mono (by omega) (by omega)
end DW
