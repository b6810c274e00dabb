-- needs: 71 72 73 74 75 76 77
/-! DECLARATIONS: claim, side by side -/
section DY
variable {xs : Nat → Int32} {xl d : Nat} {M : dp_M}
def Cl_S : List Nat := [245, 90, 95, 96, 97, 100, 101, 102, 103, 104, 111, 203, 210, 211, 212, 215, 216, 221, 222, 223, 224, 225, 226, 227, 228, 229, 230, 241, 244]
theorem s_claim {n B T c : Nat} (hp : PR M n B T c) (hl : RelL M) (hsx : RelS M) (hd : RelD M) (hn : 246 ≤ dp_n M) (v1 v2 : Int32) : ∃ k b M1 M2, dp_den true xs xl (d + 8) 651 [.ref 0, .int v1, .int v2, .ref 245] M = iR k M1 ∧ dp_den true xs xl (d + 8) 581 [.ref 114, .int v1, .int v2] M1 = lR b M2 ∧
    dp_I M2 114 0 = k ∧ (k = 0 → dp_J M2 245 0 = b) ∧ (PR M2 n B T c ∧ RelL M2 ∧ RelS M2 ∧ RelD M2) ∧ Off Cl_S [0, 141, 142, 144] M M2 ∧ Cst 1 6 M M2 := by
  have hd0 := hd
  obtain ⟨D, A, R, hb⟩ := hd
  have hb0 := hb
  obtain ⟨h1, h2, h3, h4, h5, h6, h7, h8, h9, h10, h11, h12, h13, h14⟩ := hb
  have hl0 := hl
  obtain ⟨Bt, E, hB8, hE4, a1, a2, a3, a4, a5, a6, -⟩ := hl
  have st : ∀ i, i < D → dp_J M 111 (i * 23 + 7) = (dp_I M 241 i).toInt64 := fun i hi => (h8 i hi).2.1.1
  have n114 : ∀ q, dp_I (dp_new M 0 0 6) 114 q = dp_I M 114 q := fun q => by rw [gIN (by omega)]
  have ni : ∀ k, k < 246 → dp_I (dp_new M 0 0 6) k = dp_I M k := fun k hk => gIN (by omega)
  have n242 : dp_J (dp_new M 0 0 6) 242 = dp_J M 242 := by
    have o : Off [] [] M (dp_new M 0 0 6) := (Off.rr _ _ M).N hn 0 0 6
    exact (o.1 242 (by decide) (by simp) (by decide)).2.1
  have ref : dp_den true xs xl (d + 7) 355 [.ref 0, .int v1, .int v2] M = some (.inr 0, dp_new M 0 0 6) → dp_den true xs xl (d + 8) 581 [.ref 114, .int v1, .int v2] (dp_new M 0 0 6) = lR (0 : Int32).toInt64 (dp_setI (dp_new M 0 0 6) 114 0 1) → ∃ k b M1 M2, dp_den true xs xl (d + 8) 651 [.ref 0, .int v1, .int v2, .ref 245] M = iR k M1 ∧ dp_den true xs xl (d + 8) 581 [.ref 114, .int v1, .int v2] M1 = lR b M2 ∧
    dp_I M2 114 0 = k ∧ (k = 0 → dp_J M2 245 0 = b) ∧ (PR M2 n B T c ∧ RelL M2 ∧ RelS M2 ∧ RelD M2) ∧ Off Cl_S [0, 141, 142, 144] M M2 ∧ Cst 1 6 M M2 := fun e1 e2 =>
    ⟨1, _, dp_new M 0 0 6, _, wL_claim_x0 e1, e2, rfl, (fun e => by cases e), ⟨(hp.refused hn 1).1, (hl0.refused hn 1).1, (hsx.refused hn 1).1, (hd0.refused hn 1).1⟩, ((Off.rr _ _ M).N hn 0 0 6).F 0 (by decide) 1, ⟨Nat.le_refl _, Nat.le_refl _⟩⟩
  by_cases z1 : qin v1 D ∧ dp_I M 241 v1.toNatClampNeg = 1
  case neg =>
    refine ref ?_ ?_
    · rw [D_X11_claim_0_den, D_X11_claim_0_eq, dc_in h2 h1 st, rb_bi, ibz, if_neg z1, q_nk hn]
    · rw [D_X12_claim_0_den, D_X12_claim_0_eq, dm_in (by rw [n114]; exact h3) h1, ni 241 (by decide), rb_bi, ibz, if_neg z1, q_ref, rb_bi]
  have z1' := z1
  obtain ⟨zq, zs⟩ := z1
  have zq' := zq
  obtain ⟨i, hi, rfl⟩ := qin_of zq (by omega)
  have hst : dp_I M 241 i = 1 := by rw [nI_cl (by omega)] at zs; exact zs
  have hst' : dp_I M 241 i = 1 := hst
  obtain ⟨k1, k2, k3, k4⟩ := h8 i hi
  have k20 := k2
  obtain ⟨m1, m2, m3, m4, m5, m6, m7, m8, m9⟩ := k2
  have m3' : dp_J M 111 (i * 23 + 8) = dp_J M 242 i := m3
  have m6' : dp_J M 111 (i * 23 + 9) = (dp_I M 243 i).toInt64 := m6
  have m4' : 0 ≤ (dp_J M 242 i).toInt := m4
  have m5' : (dp_J M 242 i).toInt ≤ 1000000000 := m5
  have dle : dp_J M 242 i ≤ 0 ↔ dp_J M 242 i = 0 := by
    rw [Int64.le_iff_toInt_le, q_z]
    have : (0 : Int64).toInt = 0 := rfl
    omega
  have cl : ∀ d, dp_den true xs xl (d + 7) 355 [.ref 0, .int (nI i), .int v2] M = if dp_J M 242 i = 0 ∨ ¬ qin v2 100001 then some (.inr 0, dp_new M 0 0 6) else (dp_bi (dp_den true xs xl (d + 6) 21 [.ref 108, .int (nI i)] M) (fun r8 M7 => dp_bi (dp_den true xs xl (d + 6) 87 [.ref 97, .int r8, .int v2] M7) (fun r10 M9 => if r10 = 0 then (dp_nk M9 0 (some (.inr 1, dp_new M9 0 0 6))) else (dp_bl (dp_den true xs xl (d + 6) 22 [.ref 108, .int (nI i), .int v2] M9) (fun r12 M11 => some (.inl (some (.long r12)), M11)))))) := fun d => by
    rw [D_X11_claim_0_den, D_X11_claim_0_eq, dc_in h2 h1 st, rb_bi, ibz, if_pos z1', dc_duty (by omega), rb_bl, m3']
    simp only [lg_cmp_le, dle]
    by_cases y : dp_J M 242 i = 0
    · rw [if_pos y, if_pos (Or.inl y), q_nk hn]
    · rw [if_neg y, lc_day, rb_bi, ibz]
      by_cases y2 : qin v2 100001
      · rw [if_pos y2, if_neg (fun q => q.elim y (fun q => q y2))]
      · rw [if_neg y2, if_pos (Or.inr y2), q_nk hn]
  have ml : ∀ N d, dp_I N 114 160 = nI D → dp_I N 241 = dp_I M 241 → dp_J N 242 = dp_J M 242 → dp_den true xs xl (d + 8) 581 [.ref 114, .int (nI i), .int v2] N = if dp_J M 242 i = 0 ∨ ¬ qin v2 100001 then lR (0 : Int32).toInt64 (dp_setI N 114 0 1) else (dp_bi (dp_den true xs xl (d + 7) 578 [.ref 114, .int (nI i), .int v2] N) (fun r8 M7 => if r8 = 0 then lR (0 : Int32).toInt64 (dp_setI M7 114 0 2) else (dp_bl (dp_den true xs xl (d + 7) 532 [.ref 114, .int (dp_I M7 243 i)] M7) (fun r12 M11 => dp_bv (dp_den true xs xl (d + 7) 545 [.ref 114, .int (dp_I M11 114 141), .int (9 : Int32), .long (-r12)] M11) (fun M13 => dp_bv (dp_den true xs xl (d + 7) 545 [.ref 114, .int (dp_I M13 114 141), .int (dp_I M13 234 i), .long (r12 - (dp_J M13 242 i))] M13) (fun M14 => dp_bv (dp_den true xs xl (d + 7) 545 [.ref 114, .int (dp_I M14 114 141), .int (8 : Int32), .long (dp_J M14 242 i)] M14) (fun M15 => dp_bi (dp_den true xs xl (d + 7) 579 [.ref 114, .int (nI i)] M15) (fun r17 M16 => if r17 = 0 then lR (0 : Int32).toInt64 (dp_setI M16 114 0 2) else (dp_bv (dp_den true xs xl (d + 7) 533 [.ref 114, .int (dp_I (dp_setI M16 114 0 0) 243 i)] (dp_setI M16 114 0 0)) (fun M21 => lR r12 (dp_setI M21 241 i 3))))))))))) := fun N d n1 n2 n3 => by
    rw [D_X12_claim_0_den, D_X12_claim_0_eq, dm_in n1 h1, n2, rb_bi, ibz, if_pos z1', dm_is n1 h1, rb_bi, ibz, if_pos zq', D_X12_claim_26_eq]
    simp only [nI_cl (show i < 2147483648 by omega), nI_o (show i < 400 by omega) (by omega), if_false, n3, lg_cmp_eq, dp_w, q_ref, rb_bi, lm_day, ibz]
    by_cases y : dp_J M 242 i = 0
    · rw [if_pos y, if_pos (Or.inl y)]
    · rw [if_neg y]
      by_cases y2 : qin v2 100001
      · rw [if_pos y2, if_neg (fun q => q.elim y (fun q => q y2))]
      · rw [if_neg y2, if_pos (Or.inr y2)]
  by_cases y0 : dp_J M 242 i = 0 ∨ ¬ qin v2 100001
  · refine ref (by rw [cl, if_pos y0]) ?_
    rw [ml _ _ (by rw [n114]; exact h3) (ni 241 (by decide)) n242, if_pos y0]
  have y : ¬ dp_J M 242 i = 0 := fun q => y0 (Or.inl q)
  rcases k20.rv (Or.inr hst) with zr | ⟨r, r1, r2, r3, r4, -, r5, r6⟩
  · rcases m9 hst with q | ⟨q, r, q1, q2, q3, -⟩
    · exact absurd q.1 y
    · have zr' : dp_I M 243 i = 0 := zr
      have q3' : dp_I M 243 i = nI r := q3
      rw [zr', show (0 : Int32) = nI 0 from rfl, nI_eq (by omega) (by omega)] at q3'
      omega
  have r3' : dp_I M 243 i = nI r := r3
  have r6' : dp_J M 96 (r * 12 + 1) = dp_J M 242 i := r6
  obtain ⟨tk, C1, c0, c1, t1, t2, c2, c3, c4⟩ := s_fin3 (xs := xs) (xl := xl) hsx h6 h7 r1 r2 r4
  rw [r6'] at t2
  have du0 : 1 ≤ (dp_J M 242 i).toInt := by
    have := mt q_z.mpr y
    omega
  obtain ⟨fh, hfh⟩ : ∃ fh, fh = dp_J M 242 i - tk := ⟨_, rfl⟩
  have ed : fh.toInt = (dp_J M 242 i).toInt - tk.toInt := by
    rw [hfh, Int64.toInt_sub]
    apply Int.bmod_eq_of_le <;> omega
  obtain ⟨ce1, ce2, ce3, ce4, ce5⟩ := b3_ce (fs := tk) (fh := fh) t1 (by omega) (by omega) (by omega)
  have fa1 : qin (dp_I M 234 i) 8 := k1.2.2.1
  have hac : ∀ k, k < b3n tk fh → qin (b3Ac (dp_I M 234 i) tk fh k) 12 := fun k _ => b3_ac fa1 k
  have p1 : b2p tk ≤ 1 := by unfold b2p; split <;> omega
  have p2 : b2p fh ≤ 1 := by unfold b2p; split <;> omega
  have p3 : b3n tk fh ≤ 3 := by unfold b3n b3p; omega
  have p4 : b3n tk fh ≠ 0 := by unfold b3n; omega
  -- how many entries
  have cnt : ∀ d, dp_den true xs xl (d + 5) 21 [.ref 108, .int (nI i)] M = iR (nI (b3n tk fh)) M := fun d => by
    have e9 : dp_J M 111 (i * 23 + 9) = (nI r).toInt64 := by rw [m6', r3']
    rw [D_X0_claimEntries_0_den, D_X0_claimEntries_0_eq, dc_small (v2 := 9) (k := 9) rfl (by omega) (by omega) e9, rb_bi, c0, rb_bl]
    have q1 : tk ≤ 0 ↔ tk = 0 := by
      rw [Int64.le_iff_toInt_le, q_z]
      have : (0 : Int64).toInt = 0 := rfl
      omega
    have q2 : dp_J M 242 i ≤ tk ↔ fh = 0 := by rw [Int64.le_iff_toInt_le, q_z, ed]; omega
    simp only [lg_cmp_le, lg_cmp_ge, q1]
    unfold b3n b3p
    by_cases u : tk = 0
    · rw [if_pos u, dc_duty (by omega), rb_bl, m3', b2p_0 u]
      by_cases v : fh = 0
      · rw [if_pos (q2.mpr v), b2p_0 v]; rfl
      · rw [if_neg (fun q => v (q2.mp q)), b2p_1 v]; rfl
    · rw [if_neg u, dc_duty (by omega), rb_bl, m3', b2p_1 u]
      by_cases v : fh = 0
      · rw [if_pos (q2.mpr v), b2p_0 v]; rfl
      · rw [if_neg (fun q => v (q2.mp q)), b2p_1 v]; rfl
  have tke : (Bt < 800 ∧ dp_I M 97 2 < v2 ∧ dp_I M 97 3 ≤ v2 ∧ E + b3n tk fh ≤ 4000) ↔ (Bt < 800 ∧ dp_I M 114 143 < v2 ∧ dp_I M 114 144 ≤ v2 ∧ E + b3n tk fh ≤ 4000) := by rw [a5, a6]
  by_cases w : Bt < 800 ∧ dp_I M 97 2 < v2 ∧ dp_I M 97 3 ≤ v2 ∧ E + b3n tk fh ≤ 4000
  case neg =>
    have hcl : dp_den true xs xl (d + 7) 355 [.ref 0, .int (nI i), .int v2] M = some (.inr 1, dp_new M 0 0 6) := by
      rw [cl, if_neg y0, cnt (d + 1), rb_bi, lc_take (n := b3n tk fh) rfl a1 hB8 a3 hE4 (by omega), rb_bi, ibz, if_neg w, q_nk hn]
    obtain ⟨N, hN⟩ : ∃ N, N = dp_new M 0 0 6 := ⟨_, rfl⟩
    have oN : Off [] [] M N := by rw [hN]; exact (Off.rr _ _ M).N hn 0 0 6
    have eN : ∀ k, k < 246 → k ≠ 114 → dp_I N k = dp_I M k ∧ dp_J N k = dp_J M k := fun k q1 q2 => ⟨(oN.1 k q1 (by simp) q2).1, (oN.1 k q1 (by simp) q2).2.1⟩
    have tN : ∀ q, dp_I N 114 q = dp_I M 114 q := fun q => (oN.2.1 q (by simp)).1
    have bN : dp_I N 114 141 = nI Bt := by rw [tN]; exact a2
    have mlN := ml N d (by rw [tN]; exact h3) (eN 241 (by decide) (by decide)).1 (eN 242 (by decide) (by decide)).2
    rw [if_neg y0] at mlN
    have lN : RelL N := RelL_off hl0 oN (by simp) (by simp)
    obtain ⟨bf1, bf2⟩ := dm_begin (xs := xs) (xl := xl) (d := d + 5) (M := N) (B := Bt) (i := i) (v2 := v2) (ac := b3Ac (dp_I M 234 i) tk fh) (ce := b3Ce tk fh) (by omega) bN hB8
    have fin : ∀ P, dp_den true xs xl (d + 8) 581 [.ref 114, .int (nI i), .int v2] N = lR (0 : Int32).toInt64 (dp_setI P 114 0 2) → Off MBk_S [] N P → Cst 0 0 N P → RelL (dp_setI P 114 0 2) → ∃ k b M1 M2, dp_den true xs xl (d + 8) 651 [.ref 0, .int (nI i), .int v2, .ref 245] M = iR k M1 ∧ dp_den true xs xl (d + 8) 581 [.ref 114, .int (nI i), .int v2] M1 = lR b M2 ∧
        dp_I M2 114 0 = k ∧ (k = 0 → dp_J M2 245 0 = b) ∧ (PR M2 n B T c ∧ RelL M2 ∧ RelS M2 ∧ RelD M2) ∧ Off Cl_S [0, 141, 142, 144] M M2 ∧ Cst 1 6 M M2 := fun P e1 oP cP rl => by
      have oK : Off MBk_S [0] M (dp_setI P 114 0 2) := ((oN.mono (by simp) (by simp)).tr (oP.mono (fun _ h => h) (by simp))).F 0 (by decide) _
      refine ⟨2, _, N, dp_setI P 114 0 2, ?_, e1, by rw [gII, if_pos rfl, uI_s], (fun e => by cases e), ⟨PR_off hp oK (by decide) (by decide), rl, RelS_off hsx oK (by decide) (by decide), RelD_off hd0 oK (by decide) (by decide)⟩, oK.mono (by decide) (by decide), ?_⟩
      · rw [hN]; exact wL_claim_x1 hcl
      · have c1 : Cst 1 6 M N := by rw [hN]; exact ⟨Nat.le_refl _, Nat.le_refl _⟩
        exact ⟨Nat.le_trans (show dp_n P ≤ dp_n N + 0 from cP.1) c1.1, Nat.le_trans (show dp_z P ≤ dp_z N + 0 from cP.2) c1.2⟩
    by_cases wB : Bt < 800
    · obtain ⟨P0, q1, q2⟩ := bf2 wB
      rw [(eN 238 (by decide) (by decide)).1] at q2
      have q20 := q2
      rw [hfh] at q2
      obtain ⟨P2, s1, s2⟩ := bk3_ents (xs := xs) (xl := xl) (N := N) (P0 := P0) (B := Bt) (i := i) (fs := tk) (du := dp_J M 242 i) (w := dp_I M 234 i) t1 t2 du0 m5' wB (by rw [(eN 234 (by decide) (by decide)).1]) (by rw [(eN 242 (by decide) (by decide)).2]) bN q2
      rw [← hfh] at s1
      have cn : ¬ (dp_I N 114 143 < v2 ∧ dp_I N 114 144 ≤ v2 ∧ E + b3n tk fh ≤ 4000) := fun q => w (tke.mpr ⟨wB, by rw [tN, tN] at q; exact q⟩)
      have oP0 : Off MBk_S [] M P0 := (oN.mono (by simp) (by simp)).tr q20.1
      have k243 : dp_I P0 243 i = nI r := by rw [(oP0.1 243 (by decide) (by decide) (by decide)).1]; exact r3'
      have hw := sm_wouldN (xs := xs) (xl := xl) (d := d + 6) (M := M) (N := P0) (tk := tk) hsx h6 h7 r1 r2 c0 (fun k hk => by
        have w : ∀ k ∈ [216, 217], k < 246 ∧ k ∉ MBk_S ∧ k ≠ 114 := by decide
        exact (oP0.1 k (w k hk).1 (w k hk).2.1 (w k hk).2.2).1) (fun k hk => by
        have w : ∀ k ∈ [203, 218], k < 246 ∧ k ∉ MBk_S ∧ k ≠ 114 := by decide
        exact (oP0.1 k (w k hk).1 (w k hk).2.1 (w k hk).2.2).2.1)
      refine fin P2 ?_ s1.1 s1.2.1 (lN.bkno bN hB8 s1 ((Off.rr [] [0] P2).F 0 (by decide) _) (by decide) (by decide))
      rw [mlN, q1, rb_bi, if_neg one_ne, k243, hw, rb_bl, s2, bk_no s1 bN (by omega) (by omega) p4 (by rw [tN]; exact a4) hE4 ce2 cn, rb_bi, if_pos rfl]
    · have wB' : Bt = 800 := by omega
      refine fin N ?_ (Off.rr _ _ N) (Cst.r N) (RelL_off lN ((Off.rr [] [0] N).F 0 (by decide) _) (by decide) (by decide))
      rw [mlN, bf1 wB', rb_bi, if_pos rfl]
  -- claimed
  have wm := tke.mp w
  have o1 : Off [90, 95, 96] [] M C1 := c2
  have l1 : RelL C1 := RelL_off hl0 o1 (by decide) (by decide)
  have eC1 : ∀ k, k < 246 → k ∉ [90, 95, 96] → k ≠ 114 → dp_I C1 k = dp_I M k ∧ dp_J C1 k = dp_J M k := fun k q1 q2 q3 => ⟨(o1.1 k q1 q2 q3).1, (o1.1 k q1 q2 q3).2.1⟩
  have fa : DFa C1 i := by
    unfold DFa at k1 ⊢
    rw [(eC1 111 (by decide) (by decide) (by decide)).2, (eC1 233 (by decide) (by decide) (by decide)).1, (eC1 234 (by decide) (by decide) (by decide)).1, (eC1 235 (by decide) (by decide) (by decide)).1, (eC1 236 (by decide) (by decide) (by decide)).1, (eC1 237 (by decide) (by decide) (by decide)).1, (eC1 238 (by decide) (by decide) (by decide)).1, (eC1 239 (by decide) (by decide) (by decide)).2]; exact k1
  obtain ⟨C2, b1, b2⟩ := dc_book3 (xs := xs) (xl := xl) (d := d + 1) (M := C1) (B := Bt) (E := E) (i := i) (fs := tk) (fh := fh) (v2 := v2) l1 (by omega) fa (by rw [(o1.2.1 141 (by decide)).1]; exact a2) wm.1 (by rw [(o1.2.1 142 (by decide)).1]; exact a4) wm.2.2.2
  rw [(eC1 234 (by decide) (by decide) (by decide)).1, (eC1 238 (by decide) (by decide) (by decide)).1] at b2
  obtain ⟨N, hN⟩ : ∃ N, N = dp_setJ (dp_setJ (dp_setJ C2 111 (i * 23 + 10) (nI Bt).toInt64) 111 (i * 23 + 7) 3) 245 0 tk := ⟨_, rfl⟩
  have oCN : Off [111, 245] [] C2 N := by rw [hN]; exact (((Off.rr _ _ C2).J 111 (by decide) _ _).J 111 (by decide) _ _).J 245 (by decide) _ _
  have oN : Off [245, 90, 95, 96, 97, 100, 101, 102, 103, 104, 111] [] M N := ((o1.mono (by decide) (by decide)).tr (b2.1.mono (by decide) (by decide))).tr (oCN.mono (by decide) (by decide))
  have o1N : Off [245, 97, 100, 101, 102, 103, 104, 111] [] C1 N := (b2.1.mono (by decide) (by decide)).tr (oCN.mono (by decide) (by decide))
  have eN : ∀ k, k < 246 → k ∉ [245, 90, 95, 96, 97, 100, 101, 102, 103, 104, 111] → k ≠ 114 → dp_I N k = dp_I M k ∧ dp_J N k = dp_J M k := fun k q1 q2 q3 => ⟨(oN.1 k q1 q2 q3).1, (oN.1 k q1 q2 q3).2.1⟩
  have tN : ∀ q, dp_I N 114 q = dp_I M 114 q := fun q => (oN.2.1 q (by simp)).1
  have bN : dp_I N 114 141 = nI Bt := by rw [tN]; exact a2
  have n111 : dp_J N 111 = uI (uI (dp_J M 111) (i * 23 + 10) (nI Bt).toInt64) (i * 23 + 7) 3 := by rw [hN, gJJ, if_neg (by decide), gJJ, if_pos rfl, gJJ, if_pos rfl, (b2.1.1 111 (by decide) (by decide) (by decide)).2.1, (eC1 111 (by decide) (by decide) (by decide)).2]
  obtain ⟨P0, q1, q2⟩ := (dm_begin (xs := xs) (xl := xl) (d := d + 5) (M := N) (B := Bt) (i := i) (v2 := v2) (ac := b3Ac (dp_I M 234 i) tk fh) (ce := b3Ce tk fh) (by omega) bN hB8).2 wm.1
  rw [(eN 238 (by decide) (by decide) (by decide)).1] at q2
  have q20 := q2
  rw [hfh] at q2
  obtain ⟨P2, s1, s2⟩ := bk3_ents (xs := xs) (xl := xl) (N := N) (P0 := P0) (B := Bt) (i := i) (fs := tk) (du := dp_J M 242 i) (w := dp_I M 234 i) t1 t2 du0 m5' wm.1 (by rw [(eN 234 (by decide) (by decide) (by decide)).1]) (by rw [(eN 242 (by decide) (by decide) (by decide)).2]) bN q2
  rw [← hfh] at s1
  have o1P : Off [245, 97, 100, 101, 102, 103, 104, 111, 221, 222, 223, 224, 225, 226, 227, 228, 229] [] C1 P0 := (o1N.mono (by decide) (by decide)).tr (q20.1.mono (by decide) (by decide))
  obtain ⟨wt, -⟩ := c4 P0 (SameS.off o1P (by decide) (by decide))
  have p243 : dp_I P0 243 i = nI r := by rw [(o1P.1 243 (by decide) (by decide) (by decide)).1, (eC1 243 (by decide) (by decide) (by decide)).1]; exact r3'
  obtain ⟨K1, x1, x2, x3, x4, x5⟩ := bk_yes (xs := xs) (xl := xl) (d := d + 2) (M := C1) (C := C2) (N := N) (P := P2) (i := i) l1 b2 oCN (by decide) (by decide) s1 (by rw [(o1.2.1 141 (by decide)).1]; exact a2) wm.1 (by omega) p4 (by rw [(o1.2.1 142 (by decide)).1]; exact a4) hE4 ce2 (by omega) hac ce1 (by rw [(o1.2.1 143 (by decide)).1, (o1.2.1 144 (by decide)).1]; exact wm.2)
  obtain ⟨K0, hK0⟩ : ∃ K0, K0 = dp_setI K1 114 0 0 := ⟨_, rfl⟩
  have oNK0 : Off Bk_S [0, 141, 142, 144] N K0 := by rw [hK0]; exact (x3.mono (by decide) (by decide)).F 0 (by decide) _
  have o1K : Off [245, 97, 100, 101, 102, 103, 104, 111, 221, 222, 223, 224, 225, 226, 227, 228, 229, 230, 244] [0, 141, 142, 144] C1 K0 := (o1N.mono (by decide) (by decide)).tr (oNK0.mono (by decide) (by decide))
  obtain ⟨-, K2, u1, u2, u3, u4, u5⟩ := c4 K0 (SameS.off o1K (by decide) (by decide))
  obtain ⟨K, hK⟩ : ∃ K, K = dp_setI K2 241 i 3 := ⟨_, rfl⟩
  have oK0K : Off [203, 210, 211, 212, 215, 216, 241] [] K0 K := by rw [hK]; exact (u3.mono (by decide) (by decide)).I 241 (by decide) _ _
  have oNK : Off [203, 210, 211, 212, 215, 216, 221, 222, 223, 224, 225, 226, 227, 228, 229, 230, 241, 244] [0, 141, 142, 144] N K := (oNK0.mono (by decide) (by decide)).tr (oK0K.mono (by decide) (by decide))
  have oK : Off Cl_S [0, 141, 142, 144] M K := (oN.mono (by decide) (by decide)).tr (oNK.mono (by decide) (by decide))
  have k241 : dp_I K 241 = uI (dp_I M 241) i 3 := by rw [hK, gII, if_pos rfl, (u3.1 241 (by decide) (by decide) (by decide)).1, (oNK0.1 241 (by decide) (by decide) (by decide)).1, (eN 241 (by decide) (by decide) (by decide)).1]
  have k244 : dp_I K 244 = uI (dp_I M 244) i (nI Bt) := by rw [(oK0K.1 244 (by decide) (by decide) (by decide)).1, hK0, gII, if_neg (by decide), x5, (eN 244 (by decide) (by decide) (by decide)).1]
  have k111 : dp_J K 111 = uI (uI (dp_J M 111) (i * 23 + 10) (nI Bt).toInt64) (i * 23 + 7) 3 := by rw [(oNK.1 111 (by decide) (by decide) (by decide)).2.1, n111]
  have k243 : dp_I K0 243 i = nI r := by rw [(oNK0.1 243 (by decide) (by decide) (by decide)).1, (eN 243 (by decide) (by decide) (by decide)).1]; exact r3'
  refine ⟨0, tk, N, K, ?_, ?_, ?_, fun _ => ?_, ⟨?_, ?_, ?_, ⟨D, A, R, ?_⟩⟩, oK, ?_⟩
  · rw [hN]
    refine wL_claim_ok ?_
    have e9 : dp_J M 111 (i * 23 + 9) = (nI r).toInt64 := by rw [m6', r3']
    have e18 : dp_J C1 111 (i * 23 + 8) = dp_J M 242 i := by rw [(eC1 111 (by decide) (by decide) (by decide)).2, m3']
    rw [cl, if_neg y0, cnt (d + 1), rb_bi, lc_take (n := b3n tk fh) rfl a1 hB8 a3 hE4 (by omega), rb_bi, ibz, if_pos w, D_X0_callIn_0_den, D_X0_callIn_0_eq, dc_small (v2 := 9) (k := 9) rfl (by omega) (by omega) e9, rb_bi, c1, rb_bl, dc_duty (by omega), rb_bl, e18, ← hfh, b1, rb_bi, dc_set (v2 := 7) (k := 7) rfl (by omega) (by omega), rb_bv, rb_bl]
  · rw [ml N d (by rw [tN]; exact h3) (eN 241 (by decide) (by decide) (by decide)).1 (eN 242 (by decide) (by decide) (by decide)).2, if_neg y0, q1, rb_bi, if_neg one_ne, p243, wt, rb_bl, s2, x1, rb_bi, if_neg one_ne, ← hK0, k243, u1, rb_bv, hK]
  · rw [(oK0K.2.1 0 (by decide)).1, hK0, gII, if_pos rfl, uI_s]
  · rw [(oNK.1 245 (by decide) (by decide) (by decide)).2.1, hN, gJJ, if_pos rfl, uI_s]
  · exact hp.st oK (by decide) (by decide) (by rw [hst']; decide) (by decide) k241
  · exact RelL_off x2 (show Off [203, 210, 211, 212, 215, 216, 241] [0] K1 K from Off.tr (by rw [hK0]; exact (Off.rr _ _ K1).F 0 (by decide) _) (oK0K.mono (fun _ h => h) (by decide))) (by decide) (by decide)
  · exact RelS_off u2 (show Off [241] [] K2 K by rw [hK]; exact (Off.rr _ _ K2).I 241 (by decide) _ _) (by decide) (by decide)
  · refine hb0.step hi hst (Or.inr rfl) (by rw [k111, uI_s]; rfl) (by rw [k111, uI_n (by omega), uI_s, k244, uI_s]) (fun j k hk hz => by rw [k111, uI_n (by omega), uI_n (by omega)]) k241 (fun j hj => by rw [k244, uI_n hj]) (fun k hk => ?_) (fun k hk => ?_) ?_ (fun q hq => ?_) (fun j hj hne hj1 q hq1 hq2 hq3 => ?_)
    · have w : ∀ k ∈ [109, 110, 196, 233, 234, 235, 236, 237, 238, 243], k < 246 ∧ k ∉ Cl_S ∧ k ≠ 114 := by decide
      exact (oK.1 k (w k hk).1 (w k hk).2.1 (w k hk).2.2).1
    · have w : ∀ k ∈ [239, 240, 242], k < 246 ∧ k ∉ Cl_S ∧ k ≠ 114 := by decide
      exact (oK.1 k (w k hk).1 (w k hk).2.1 (w k hk).2.2).2.1
    · rw [(oK.1 108 (by decide) (by decide) (by decide)).1]
    · have w : ∀ q ∈ RelD_T, q ∉ [0, 141, 142, 144] := by decide
      exact (oK.2.1 q (w q hq)).1
    · have ne := hb0.res hi hst hj hne hj1 hq1 hq2 hq3
      have hqr : q ≠ r := fun e => ne (by rw [r3, e])
      have e96 : dp_J K 96 (q * 12 + 1) = dp_J M 96 (q * 12 + 1) := by
        rw [hK, gJI, (u5 q 1 hqr (by omega)).1]
      have e215 : dp_I K 215 q = dp_I M 215 q := by
        rw [hK, gII, if_neg (by decide), (u5 q 1 hqr (by omega)).2, (o1K.1 215 (by decide) (by decide) (by decide)).1, (eC1 215 (by decide) (by decide) (by decide)).1]
      exact ⟨e215, e96⟩
  · have cs1 : Cst 0 0 C2 N := by rw [hN]; exact ⟨Nat.le_refl _, Nat.le_refl _⟩
    have cs0 : Cst 0 0 K1 K0 := by rw [hK0]; exact ⟨Nat.le_refl _, Nat.le_refl _⟩
    have cs2 : Cst 0 0 K2 K := by rw [hK]; exact ⟨Nat.le_refl _, Nat.le_refl _⟩
    exact ((((((c3.tr0 b2.2.1).tr0 cs1).tr0 x4).tr0 cs0).tr0 u4).tr0 cs2).mono (by omega) (by omega)
end DY
