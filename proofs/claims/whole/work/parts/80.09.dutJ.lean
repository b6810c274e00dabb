-- needs: 71 72 73 74 75 76 77 78 79
/-! ASSESS: secure, class and model -/
section DuM
variable {xs : Nat → Int32} {xl d : Nat} {M : dp_M}
/-- nothing of the declarations changes; reservations that are not given yet may -/
theorem DBd.c96 {S T : List Nat} {K : dp_M} {D A R : Nat} (h : DBd M D A R) (o : Off S T M K) (hS : ∀ k ∈ [108, 109, 110, 111, 196, 215, 233, 234, 235, 236, 237, 238, 239, 240, 241, 242, 243, 244], k ∉ S) (hT : ∀ i ∈ [111, 160], i ∉ T) (k133 : dp_I K 114 133 = nI R) (h96 : ∀ r, r ≤ R → dp_J K 96 (r * 12 + 1) = dp_J M 96 (r * 12 + 1)) : DBd K D A R := by
  have q : ∀ k ∈ [108, 109, 110, 111, 196, 215, 233, 234, 235, 236, 237, 238, 239, 240, 241, 242, 243, 244], k < 246 ∧ k ≠ 114 := by decide
  have e : ∀ k ∈ [108, 109, 110, 111, 196, 215, 233, 234, 235, 236, 237, 238, 239, 240, 241, 242, 243, 244], dp_I K k = dp_I M k ∧ dp_J K k = dp_J M k := fun k hk => ⟨(o.1 k (q k hk).1 (hS k hk) (q k hk).2).1, (o.1 k (q k hk).1 (hS k hk) (q k hk).2).2.1⟩
  have f : ∀ i ∈ [111, 160], dp_I K 114 i = dp_I M 114 i := fun i hi => (o.2.1 i (hT i hi)).1
  obtain ⟨h1, h2, h3, h4, h5, h6, h7, h8, h9, h10, h11, h12, h13, h14⟩ := h
  refine ⟨h1, by rw [(e 108 (by decide)).1]; exact h2, by rw [f 160 (by decide)]; exact h3, by rw [f 111 (by decide)]; exact h4, h5, k133, h7, fun i hi => ?_, fun i hi1 hi2 => ?_, by rw [(e 196 (by decide)).1]; exact h10, by rw [(e 110 (by decide)).1, (e 233 (by decide)).1, (e 241 (by decide)).1]; exact h11, by rw [(e 241 (by decide)).1, (e 243 (by decide)).1]; exact h12, by rw [(e 241 (by decide)).1]; exact h13, by rw [(e 233 (by decide)).1, (e 241 (by decide)).1]; exact h14⟩
  · obtain ⟨k1, k2, k3, k4⟩ := h8 i hi
    refine ⟨?_, ?_, ?_, k4.c (by rw [(e 109 (by decide)).1]) (fun a _ => by rw [(e 196 (by decide)).1])⟩
    · unfold DFa at k1 ⊢
      rw [(e 111 (by decide)).2, (e 233 (by decide)).1, (e 234 (by decide)).1, (e 235 (by decide)).1, (e 236 (by decide)).1, (e 237 (by decide)).1, (e 238 (by decide)).1, (e 239 (by decide)).2]; exact k1
    · obtain ⟨m1, m2, m3, m4, m5, m6, m7, m8, m9⟩ := k2
      unfold DSt
      rw [(e 111 (by decide)).2, (e 215 (by decide)).1, (e 241 (by decide)).1, (e 242 (by decide)).2, (e 243 (by decide)).1, (e 244 (by decide)).1]
      refine ⟨m1, m2, m3, m4, m5, m6, m7, m8, fun w => ?_⟩
      rcases m9 w with w | ⟨w1, x, r1, r2, r3, r4, r5⟩
      · exact Or.inl w
      · exact Or.inr ⟨w1, x, r1, r2, r3, r4, (h96 x r2).trans r5⟩
    · unfold DUn at k3 ⊢
      rw [(e 111 (by decide)).2, (e 240 (by decide)).2]; exact k3
  · have := h9 i hi1 hi2
    unfold DNw at this ⊢
    rw [(e 111 (by decide)).2, (e 241 (by decide)).1, (e 242 (by decide)).2, (e 243 (by decide)).1, (e 240 (by decide)).2]; exact this
def Sc_S : List Nat := [45, 47, 90, 92, 93, 95, 96, 111]
def Sm_S : List Nat := [214, 216, 217, 218, 219, 220, 241, 242, 243]
def Sn_S : List Nat := [37, 42, 44, 45, 46, 47, 90, 91, 92, 93, 94, 95, 96, 108, 109, 110, 111, 147, 148, 196, 202, 203, 204, 205, 206, 207, 208, 209, 210, 211, 212, 213, 214, 215, 216, 217, 218, 219, 220, 233, 234, 235, 236, 237, 238, 239, 240, 241, 242, 243, 244]
def Sn_T : List Nat := [44, 111, 119, 120, 133, 160]
/-- the model's end of assess -/
noncomputable def asT (xs : Nat → Int32) (xl d : Nat) (i : Nat) (v2 : Int32) (v : Int64) (N : dp_M) : Option dp_Res := if (lg_cmp v (0 : Int64)) = 0 then (D_X12_assess_75 xs xl d (nI i) v2 v (0 : Int64) N) else (dp_bl (dp_den true xs xl d 529 [.ref 114, .int (dp_I N 235 i), .int (dp_I N 234 i), .long v] N) (fun r13 M12 => D_X12_assess_75 xs xl d (nI i) v2 v r13 M12))
theorem s_secure {D A R i n : Nat} {v : Int64} {v2 : Int32} (hg : GGd M n) (hn : n ≤ 100) (hs : RelS M) (hb : DBd M D A R) (hi : i < D) (hst : dp_I M 241 i = 0) (v0 : 0 ≤ v.toInt) (v1 : v.toInt ≤ 1000000000) :
    ∃ (w : Int64) (C : dp_M), (∀ {d}, dp_den true xs xl (d + 6) 18 [.ref 108, .int (nI i), .long v] M = lR w C) ∧ Off Sc_S [] M C ∧ Cst 0 0 M C ∧ ∀ S T N, Off S T C N → (∀ k ∈ Sn_S, k ∉ S) → (∀ k ∈ Sn_T, k ∉ T) → ∃ K, (∀ {d}, asT xs xl (d + 6) i v2 v N = lR w K) ∧ Off Sm_S [133] N K ∧ Cst 0 0 N K ∧ GGd K n ∧ RelS K ∧ RelD K := by
  have hb0 := hb
  have rm := hb.roomR hi hst
  obtain ⟨h1, h2, h3, h4, h5, h6, h7, h8, h9, h10, h11, h12, h13, h14⟩ := hb
  have hg0 := hg
  obtain ⟨G, D', hG, hD', g1, g2, g3, g4, g5, g6, g7, g8⟩ := hg
  have eD : D' = D := by rw [h3, nI_eq (by omega) (by omega)] at g3; exact g3.symm
  subst eD
  obtain ⟨g, hg3, eg⟩ := qin_of (g8 i hi) (by omega)
  have eg' : dp_I M 233 i = nI g := eg
  have hst' : dp_I M 241 i = 0 := hst
  obtain ⟨k1, k2, -, -⟩ := h8 i hi
  obtain ⟨f0, f1, f1', f2, f2', -⟩ := k1
  obtain ⟨w, hw, ew⟩ := qin_of f1' (by omega)
  obtain ⟨k, hk, ek⟩ := qin_of f2' (by omega)
  have ew' : dp_I M 234 i = nI w := ew
  have ek' : dp_I M 235 i = nI k := ek
  obtain ⟨-, -, m3, -, -, m6, m7, m8, -⟩ := k2
  have r0 : dp_I M 243 i = 0 := (m8 hst).2
  have t9 : dp_J M 111 (i * 23 + 9) = 0 := by have := m6; rw [show dp_I M 243 i = 0 from r0] at this; exact this
  have z0 : (0 : Int64).toInt = 0 := by decide
  have i4 : i < 400 := by omega
  have ni : ¬ (nI i < 0 ∨ 400 ≤ i) := by rw [nI_o i4 (by omega)]; exact id
  -- the end, where it is secured: X1 is the memory with the reservation
  have fin : ∀ (C1 X1 : dp_M) (r : Int32) (R2 : Nat), Off [90, 92, 93, 95, 96] [] M C1 → Cst 0 0 M C1 → X1 = dp_setJ C1 111 (i * 23 + 9) r.toInt64 → ((v = 0 ∧ r = 0 ∧ R2 = R) ∨ (¬ v = 0 ∧ r = nI (R + 1) ∧ R2 = R + 1)) →
      (∀ N, SameS N C1 → ∃ M2, (∀ {d}, (if (lg_cmp v (0 : Int64)) = 0 then (lR 0 N : Option dp_Res) else dp_den true xs xl (d + 6) 529 [.ref 114, .int (nI k), .int (nI w), .long v] N) = lR r.toInt64 M2) ∧ RelS M2 ∧ Off [214, 216, 217, 218, 219, 220] [133] N M2 ∧ Cst 0 0 N M2 ∧ (∀ r i, r ≤ R → i < 12 → dp_J M2 96 (r * 12 + i) = dp_J M 96 (r * 12 + i)) ∧ dp_I M2 114 133 = nI R2 ∧ (¬ v = 0 → dp_J M2 96 ((R + 1) * 12 + 1) = v ∧ dp_I M2 215 (R + 1) = 0)) →
      ∃ (C : dp_M), (∀ {d} (u : Int32), D_X0_secure_73 xs xl (d + 5) (nI i) v u X1 = lR v C ∧ ∀ u', D_X0_secure_73_a xs xl (d + 5) (nI i) v u u' X1 = lR v C) ∧ Off Sc_S [] M C ∧ Cst 0 0 M C ∧ ∀ S T N, Off S T C N → (∀ k ∈ Sn_S, k ∉ S) → (∀ k ∈ Sn_T, k ∉ T) → ∃ K, (∀ {d}, asT xs xl (d + 6) i v2 v N = lR v K) ∧ Off Sm_S [133] N K ∧ Cst 0 0 N K ∧ GGd K n ∧ RelS K ∧ RelD K := by
    intro C1 X1 r R2 o1 c1 hX1 hr hm
    obtain ⟨X3, hX3⟩ : ∃ X3, X3 = dp_setJ (dp_setJ X1 111 (i * 23 + 8) v) 111 (i * 23 + 7) 1 := ⟨_, rfl⟩
    have o3 : Off [90, 92, 93, 95, 96, 111] [] M X3 := by
      rw [hX3, hX1]
      exact ((((o1.mono (by decide) (by decide)).J 111 (by decide) _ _).J 111 (by decide) _ _).J 111 (by decide) _ _)
    have oc3 : Off [111] [] C1 X3 := by
      rw [hX3, hX1]
      exact ((((Off.rr _ _ C1).J 111 (by decide) _ _).J 111 (by decide) _ _).J 111 (by decide) _ _)
    have c3 : Cst 0 0 M X3 := by rw [hX3, hX1]; exact c1
    obtain ⟨X4, s1, s2, s3, s4⟩ := gc_setFree (xs := xs) (xl := xl) (M := X3) (n := n) (g := g) (G := G) (D := D') (v := 1) (GGd_off hg0 o3 (by decide) (by decide)) hn (by rw [(o3.2.1 44 (by decide)).1]; exact g2) hG (by rw [(o3.2.1 160 (by decide)).1]; exact h3) h1 hg3 (Or.inr rfl)
    have o4 : Off Sc_S [] M X4 := (o3.mono (by decide) (by decide)).tr (s2.mono (by decide) (by decide))
    have t0 : dp_J X3 111 (i * 23 + 0) = (nI g).toInt64 := by
      rw [hX3, gJJ, if_pos rfl, uI_n (by omega), gJJ, if_pos rfl, uI_n (by omega), hX1, gJJ, if_pos rfl, uI_n (by omega), (o1.1 111 (by decide) (by decide) (by decide)).2.1, ← eg']
      exact f0
    refine ⟨X4, fun {d} u => ⟨?_, fun u' => ?_⟩, o4, ⟨by have := c3.1; have := s3.1; omega, by have := c3.2; have := s3.2; omega⟩, fun S T N oN hS hT => ?_⟩
    · rw [D_X0_secure_73_eq, dc_set (d := d + 4) (v2 := 8) (k := 8) rfl i4 (by omega), rb_bv, dc_set (d := d + 4) (v2 := 7) (k := 7) rfl i4 (by omega), rb_bv]
      show dp_bi (dp_den true xs xl (d + 5) 2 [.ref 108, .int (nI i), .int (0 : Int32)] (dp_setJ (dp_setJ X1 111 (i * 23 + 8) v) 111 (i * 23 + 7) 1)) _ = _
      rw [← hX3, dc_small (d := d + 3) (v2 := 0) (k := 0) (w := nI g) rfl i4 (by omega) t0, rb_bi, s1, rb_bv]
    · rw [D_X0_secure_73_a_eq, dc_set (d := d + 4) (v2 := 8) (k := 8) rfl i4 (by omega), rb_bv, dc_set (d := d + 4) (v2 := 7) (k := 7) rfl i4 (by omega), rb_bv]
      show dp_bi (dp_den true xs xl (d + 5) 2 [.ref 108, .int (nI i), .int (0 : Int32)] (dp_setJ (dp_setJ X1 111 (i * 23 + 8) v) 111 (i * 23 + 7) 1)) _ = _
      rw [← hX3, dc_small (d := d + 3) (v2 := 0) (k := 0) (w := nI g) rfl i4 (by omega) t0, rb_bi, s1, rb_bv]
    · -- the model
      have qS : ∀ k ∈ Sn_S, k < 246 ∧ k ≠ 114 := by decide
      have eN : ∀ k ∈ Sn_S, dp_I N k = dp_I X4 k ∧ dp_J N k = dp_J X4 k := fun k hk => ⟨(oN.1 k (qS k hk).1 (hS k hk) (qS k hk).2).1, (oN.1 k (qS k hk).1 (hS k hk) (qS k hk).2).2.1⟩
      have eT : ∀ q ∈ Sn_T, dp_I N 114 q = dp_I X4 114 q := fun q hq => (oN.2.1 q (hT q hq)).1
      have o34 : Off [45, 47, 111] [] C1 X4 := (oc3.mono (by decide) (by decide)).tr (s2.mono (by decide) (by decide))
      have sm : SameS N C1 := by
        have a1 : ∀ k ∈ RelS_S, k ∈ Sn_S ∧ k < 246 ∧ k ∉ [45, 47, 111] ∧ k ≠ 114 := by decide
        have a2 : ∀ q ∈ RelS_T, q ∈ Sn_T := by decide
        refine ⟨fun k hk => ?_, fun q hq => ?_⟩
        · obtain ⟨b1, b2, b3, b4⟩ := a1 k hk
          obtain ⟨y1, y2⟩ := eN k b1
          obtain ⟨x1, x2, -⟩ := o34.1 k b2 b3 b4
          rw [y1, y2, x1, x2]; exact ⟨rfl, rfl⟩
        · rw [eT q (a2 q hq), (o34.2.1 q (by simp)).1]
      obtain ⟨M2, b1, b2, b3, b4, b5, b6, b7⟩ := hm N sm
      obtain ⟨K, hK⟩ : ∃ K, K = dp_setI (dp_setJ (dp_setI M2 243 i r) 242 i v) 241 i 1 := ⟨_, rfl⟩
      have oK : Off [241, 242, 243] [] M2 K := by rw [hK]; exact (((Off.rr _ _ M2).I 243 (by decide) _ _).J 242 (by decide) _ _).I 241 (by decide) _ _
      have oNK : Off Sm_S [133] N K := (b3.mono (by decide) (by decide)).tr (oK.mono (by decide) (by decide))
      -- back to M
      have eM : ∀ k ∈ Sn_S, k ∉ Sc_S → k ∉ Sm_S → dp_I K k = dp_I M k ∧ dp_J K k = dp_J M k := fun k hk y1 y2 => by
        obtain ⟨x1, x2⟩ := eN k hk
        obtain ⟨u1, u2, -⟩ := oNK.1 k (qS k hk).1 y2 (qS k hk).2
        obtain ⟨w1, w2, -⟩ := o4.1 k (qS k hk).1 y1 (qS k hk).2
        rw [u1, u2, x1, x2, w1, w2]; exact ⟨rfl, rfl⟩
      have eMT : ∀ q ∈ Sn_T, q ≠ 133 → dp_I K 114 q = dp_I M 114 q := fun q hq h => by
        rw [(oNK.2.1 q (by simpa using h)).1, eT q hq, (o4.2.1 q (by simp)).1]
      have m241 : dp_I M2 241 = dp_I M 241 := by rw [(b3.1 241 (by decide) (by decide) (by decide)).1, (eN 241 (by decide)).1, (o4.1 241 (by decide) (by decide) (by decide)).1]
      have m242 : dp_J M2 242 = dp_J M 242 := by rw [(b3.1 242 (by decide) (by decide) (by decide)).2.1, (eN 242 (by decide)).2, (o4.1 242 (by decide) (by decide) (by decide)).2.1]
      have m243 : dp_I M2 243 = dp_I M 243 := by rw [(b3.1 243 (by decide) (by decide) (by decide)).1, (eN 243 (by decide)).1, (o4.1 243 (by decide) (by decide) (by decide)).1]
      have k241 : dp_I K 241 = uI (dp_I M 241) i 1 := by rw [hK, gII, if_pos rfl, gIJ, gII, if_neg (by decide), m241]
      have k242 : dp_J K 242 = uI (dp_J M 242) i v := by rw [hK, gJI, gJJ, if_pos rfl, gJI, m242]
      have k243 : dp_I K 243 = uI (dp_I M 243) i r := by rw [hK, gII, if_neg (by decide), gIJ, gII, if_pos rfl, m243]
      have k111 : dp_J K 111 = uI (uI (uI (dp_J M 111) (i * 23 + 9) r.toInt64) (i * 23 + 8) v) (i * 23 + 7) 1 := by
        rw [(oNK.1 111 (by decide) (by decide) (by decide)).2.1, (eN 111 (by decide)).2, (s2.1 111 (by decide) (by decide) (by decide)).2.1, hX3, gJJ, if_pos rfl, gJJ, if_pos rfl, hX1, gJJ, if_pos rfl, (o1.1 111 (by decide) (by decide) (by decide)).2.1]
      have k96 : ∀ q, q ≤ R → dp_J K 96 (q * 12 + 1) = dp_J M 96 (q * 12 + 1) := fun q hq => by
        rw [(oK.1 96 (by decide) (by decide) (by decide)).2.1]; exact b5 q 1 hq (by omega)
      have k215 : dp_I K 215 = dp_I M2 215 := (oK.1 215 (by decide) (by decide) (by decide)).1
      have k215' : dp_I K 215 = dp_I M 215 := (eM 215 (by decide) (by decide) (by decide)).1
      have rn : ¬ r.toInt64 < 0 := by
        rcases hr with ⟨-, b, -⟩ | ⟨-, b, -⟩
        · rw [b]; decide
        · rw [b, Int64.lt_iff_toInt_lt, nJ64 (by omega), z0]; omega
      have r32 : Int64.toInt32 r.toInt64 = r := Int32.toInt32_toInt64 r
      have n235 : dp_I N 235 i = nI k := by rw [(eN 235 (by decide)).1, (o4.1 235 (by decide) (by decide) (by decide)).1]; exact ek'
      have n234 : dp_I N 234 i = nI w := by rw [(eN 234 (by decide)).1, (o4.1 234 (by decide) (by decide) (by decide)).1]; exact ew'
      have end75 : ∀ {d}, D_X12_assess_75 xs xl d (nI i) v2 v r.toInt64 M2 = lR v K := fun {d} => by
        rw [D_X12_assess_75_eq, if_pos ((lg_cmp_ge _ _).mpr (Int64.not_lt.mp rn)), nI_cl (by omega), if_neg ni, dpw, if_neg ni, dpw, if_neg ni, dpw, r32, ← hK]
      refine ⟨K, fun {d} => ?_, oNK, ?_, ?_, RelS_off b2 oK (by decide) (by decide), ⟨D', A, R2, ?_⟩⟩
      · unfold asT
        rcases hr with ⟨a, b, -⟩ | ⟨a, b, -⟩
        · have b1' := b1 (d := d)
          rw [if_pos ((lg_cmp_eq _ _).mpr a)] at b1'
          have e2 := (lR_inj b1').2
          have e1 := (lR_inj b1').1
          rw [if_pos ((lg_cmp_eq _ _).mpr a), e2, e1]; exact end75
        · have b1' := b1 (d := d)
          rw [if_neg (fun q => a ((lg_cmp_eq _ _).mp q))] at b1'
          rw [if_neg (fun q => a ((lg_cmp_eq _ _).mp q)), n235, n234, b1', rb_bl]; exact end75
      · have cK : Cst 0 0 M2 K := by rw [hK]; exact ⟨Nat.le_refl _, Nat.le_refl _⟩
        exact ⟨by have := b4.1; have := cK.1; omega, by have := b4.2; have := cK.2; omega⟩
      · have x241 : dp_I X3 241 = dp_I M 241 := (o3.1 241 (by decide) (by decide) (by decide)).1
        have x233 : dp_I X3 233 = dp_I M 233 := (o3.1 233 (by decide) (by decide) (by decide)).1
        refine s4 K (fun k hk => ?_) ?_ ?_ ?_ ?_ ?_ (fun q hq hne => ?_) ?_
        · have u : ∀ k ∈ [42, 44, 46, 147, 148, 233], k ∈ Sn_S ∧ k ∉ Sc_S ∧ k ∉ Sm_S ∧ k < 246 ∧ k ∉ [90, 92, 93, 95, 96, 111] ∧ k ≠ 114 := by decide
          obtain ⟨u1, u2, u3, u4, u5, u6⟩ := u k hk
          rw [(eM k u1 u2 u3).1, (o3.1 k u4 u5 u6).1]
        · rw [(oNK.1 45 (by decide) (by decide) (by decide)).1, (eN 45 (by decide)).1]
        · rw [(oNK.1 47 (by decide) (by decide) (by decide)).1, (eN 47 (by decide)).1]
        · rw [(eM 37 (by decide) (by decide) (by decide)).1, (o3.1 37 (by decide) (by decide) (by decide)).1]
        · rw [eMT 44 (by decide) (by decide), (o3.2.1 44 (by decide)).1]
        · rw [eMT 160 (by decide) (by decide), (o3.2.1 160 (by decide)).1]
        · rw [x233, x241, k241]
          refine an_c (fun j hj => ?_)
          by_cases y : j = i
          · subst y
            have q1 : ∀ st, frf (dp_I M 233) st q j = false := fun st => Bool.eq_false_iff.mpr (fun r => by
              have := (frf_t.mp r).1
              rw [eg', nI_eq (by omega) (by omega)] at this
              exact hne this.symm)
            rw [q1, q1]
          · unfold frf; rw [uI_n y]
        · rw [x233, k241, bI_t]
          refine an_iff.mpr ⟨i, hi, frf_t.mpr ⟨eg', ?_⟩⟩
          rw [uI_s]; decide
      · refine hb0.secure (r := r) hi hst v0 v1 ?_ ?_ ?_ ?_ (fun j q hq hne => ?_) k241 k242 k243 (fun k hk => ?_) (fun k hk => ?_) ?_ (fun q hq => ?_) ?_ (fun q hq => ⟨by show dp_I K 215 q = dp_I M 215 q; rw [k215'], k96 q hq⟩)
        · rcases hr with ⟨a, b, c⟩ | ⟨a, b, c⟩
          · exact Or.inl ⟨a, b, c⟩
          · refine Or.inr ⟨a, b, c, ?_, ?_⟩
            · show dp_I K 215 (R + 1) = 0
              rw [k215]; exact (b7 a).2
            · rw [(oK.1 96 (by decide) (by decide) (by decide)).2.1]; exact (b7 a).1
        · rw [k111, uI_s]
        · rw [k111, uI_n (by omega), uI_s]
        · rw [k111, uI_n (by omega), uI_n (by omega), uI_s]
        · rw [k111]
          have ne : ∀ c, c < 23 → (j ≠ i ∨ q ≠ c) → ¬ j * 23 + q = i * 23 + c := fun c hc y => by omega
          rw [uI_n (ne 7 (by omega) (by omega)), uI_n (ne 8 (by omega) (by omega)), uI_n (ne 9 (by omega) (by omega))]
        · have u : ∀ k ∈ [109, 110, 196, 233, 234, 235, 236, 237, 238, 244], k ∈ Sn_S ∧ k ∉ Sc_S ∧ k ∉ Sm_S := by decide
          exact (eM k (u k hk).1 (u k hk).2.1 (u k hk).2.2).1
        · have u : ∀ k ∈ [239, 240], k ∈ Sn_S ∧ k ∉ Sc_S ∧ k ∉ Sm_S := by decide
          exact (eM k (u k hk).1 (u k hk).2.1 (u k hk).2.2).2
        · rw [(eM 108 (by decide) (by decide) (by decide)).1]
        · have u : ∀ q ∈ [111, 160], q ∈ Sn_T ∧ q ≠ 133 := by decide
          exact eMT q (u q hq).1 (u q hq).2
        · rw [(oK.2.1 133 (by decide)).1]; exact b6
  have cl0 : ∀ {d}, dp_den true xs xl (d + 6) 18 [.ref 108, .int (nI i), .long v] M = if (lg_cmp v (0 : Int64)) ≤ 0 then (D_X0_secure_73 xs xl (d + 5) (nI i) v (nI w) M) else (dp_bi (dp_den true xs xl (d + 5) 200 [.ref 90, .int (nI w), .int (nI k), .long v] M) (fun r6 M5 => if 0 < r6 then (dp_bv (dp_den true xs xl (d + 5) 3 [.ref 108, .int (nI i), .int (9 : Int32), .long (Int32.toInt64 r6)] M5) (fun M7 => D_X0_secure_73_a xs xl (d + 5) (nI i) v (nI w) r6 M7)) else (if r6 = (-1 : Int32) then (some (.inl (some (.long (-1 : Int64))), M5)) else (dp_bl (dp_den true xs xl (d + 5) 195 [.ref 90, .int (nI w)] M5) (fun r9 M8 => some (.inl (some (.long ((-2 : Int64) - r9))), M8)))))) := fun {d} => by
    rw [D_X0_secure_0_den, D_X0_secure_0_eq, dc_small (d := d + 3) (v2 := 1) (k := 1) (w := nI w) rfl i4 (by omega) (by rw [← ew]; exact f1), rb_bi, dc_small (d := d + 3) (v2 := 2) (k := 2) (w := nI k) rfl i4 (by omega) (by rw [← ek]; exact f2), rb_bi]
  by_cases vz : v = 0
  · -- nothing to secure
    have hX : M = dp_setJ M 111 (i * 23 + 9) (0 : Int32).toInt64 := by
      have e : uI (dp_J M 111) (i * 23 + 9) (0 : Int32).toInt64 = dp_J M 111 := by
        funext x
        by_cases y2 : x = i * 23 + 9
        · rw [y2, uI_s]; exact t9.symm
        · rw [uI_n y2]
      rw [rJ_of, e, rJ_id]
    obtain ⟨C, e1, e2, e3, e4⟩ := fin M M 0 R (Off.rr _ _ _) (Cst.r _) hX (Or.inl ⟨vz, rfl, rfl⟩) (fun N hN => ⟨N, fun {d} => by rw [if_pos ((lg_cmp_eq _ _).mpr vz)]; rfl, hs.sm hN, Off.rr _ _ _, Cst.r _, fun r i _ _ => by rw [(hN.1 96 (by decide)).2], by rw [hN.2 133 (by decide)]; exact h6, fun q => absurd vz q⟩)
    refine ⟨v, C, fun {d} => ?_, e2, e3, e4⟩
    rw [cl0, if_pos ((lg_cmp_le _ _).mpr (by rw [vz]; decide)), (e1 (d := d) (nI w)).1]
  · have vp : ¬ v ≤ 0 := fun q => vz (Int64.toInt_inj.mp (by rw [Int64.le_iff_toInt_le, z0] at q; rw [z0]; omega))
    obtain ⟨r6, C1, f, a1, a2, a3, a4, a5, a6, a7⟩ := s_cover' (xs := xs) (xl := xl) hs h6 (by omega) hw hk v0 v1
    by_cases rr : r6 = nI (R + 1)
    · have n0 : ¬ r6 = 0 := by rw [rr]; exact nI_n0' (by omega) (by omega)
      have n1 : ¬ r6 = -1 := by rw [rr]; exact m1n (by omega)
      obtain ⟨C, e1, e2, e3, e4⟩ := fin C1 (dp_setJ C1 111 (i * 23 + 9) r6.toInt64) r6 (R + 1) a2 a3 rfl (Or.inr ⟨vz, rr, rfl⟩) (fun N hN => by
        obtain ⟨M2, b1, b2, b3, b4, b5, b6, b7⟩ := a7 N hN
        refine ⟨M2, fun {d} => ?_, b2, b3, b4, b5, ?_, fun _ => b7 rr⟩
        · rw [if_neg (fun q => vz ((lg_cmp_eq _ _).mp q)), b1, if_neg n0]
        · rw [b6, if_neg (fun q => q.elim n0 n1)])
      refine ⟨v, C, fun {d} => ?_, e2, e3, e4⟩
      rw [cl0, if_neg (fun q => vp ((lg_cmp_le _ _).mp q)), a1, rb_bi, if_pos (by rw [rr]; exact nI_lt (a := 0) (by omega) (by omega)), dc_set (d := d + 4) (v2 := 9) (k := 9) rfl i4 (by omega), rb_bv]
      exact (e1 (d := d) (nI w)).2 r6
    · -- nothing reserved
      have rs : r6 = 0 ∨ r6 = -1 := a5.imp id (fun q => q.resolve_right rr)
      obtain ⟨x, hx⟩ : ∃ x : Int64, x = if r6 = 0 then -2 - f else r6.toInt64 := ⟨_, rfl⟩
      have xn : x < 0 := by
        rw [hx]
        rcases rs with q | q
        · rw [if_pos q]; exact a6 q
        · rw [q, if_neg (by decide)]; decide
      have o4 : Off Sc_S [] M C1 := a2.mono (by decide) (by decide)
      refine ⟨x, C1, fun {d} => ?_, o4, a3, fun S T N oN hS hT => ?_⟩
      · rw [cl0, if_neg (fun q => vp ((lg_cmp_le _ _).mp q)), a1, rb_bi, hx]
        rcases rs with q | q
        · rw [q, if_neg (by decide), if_neg (by decide), a4 q (d := d + 1), rb_bl, if_pos rfl]
        · rw [q, if_neg (by decide), if_pos rfl, if_neg (by decide)]; rfl
      · have qS : ∀ k ∈ Sn_S, k < 246 ∧ k ≠ 114 := by decide
        have sm : SameS N C1 := by
          have a1 : ∀ k ∈ RelS_S, k ∈ Sn_S := by decide
          have a2 : ∀ q ∈ RelS_T, q ∈ Sn_T := by decide
          exact SameS.off oN (fun k hk => hS k (a1 k hk)) (fun q hq => hT q (a2 q hq))
        obtain ⟨M2, b1, b2, b3, b4, b5, b6, b7⟩ := a7 N sm
        have oNK : Off Sm_S [133] N M2 := b3.mono (by decide) (by decide)
        have n235 : dp_I N 235 i = nI k := by rw [(oN.1 235 (by decide) (hS 235 (by decide)) (by decide)).1, (a2.1 235 (by decide) (by decide) (by decide)).1]; exact ek'
        have n234 : dp_I N 234 i = nI w := by rw [(oN.1 234 (by decide) (hS 234 (by decide)) (by decide)).1, (a2.1 234 (by decide) (by decide) (by decide)).1]; exact ew'
        refine ⟨M2, fun {d} => ?_, oNK, b4, ?_, b2, ⟨D', A, R, ?_⟩⟩
        · unfold asT
          rw [if_neg (fun q => vz ((lg_cmp_eq _ _).mp q)), n235, n234, b1, rb_bl, ← hx, D_X12_assess_75_eq, if_neg (fun q => Int64.not_le.mpr xn ((lg_cmp_ge _ _).mp q))]
        · have gC : GGd C1 n := GGd_off hg0 a2 (by decide) (by decide)
          have gN : GGd N n := by
            have u1 : ∀ k ∈ [37, 42, 44, 45, 46, 47, 147, 148, 233, 241], k ∈ Sn_S := by decide
            have u2 : ∀ q ∈ [44, 160], q ∈ Sn_T := by decide
            exact GGd_off gC oN (fun k hk => hS k (u1 k hk)) (fun q hq => hT q (u2 q hq))
          exact GGd_off gN b3 (by decide) (by decide)
        · have r133 : dp_I M2 114 133 = nI R := by rw [b6, if_pos rs]
          have d1 : ∀ k ∈ [108, 109, 110, 111, 196, 215, 233, 234, 235, 236, 237, 238, 239, 240, 241, 242, 243, 244], k ∈ Sn_S := by decide
          have d2 : ∀ q ∈ [111, 160], q ∈ Sn_T := by decide
          have e96 : dp_J M2 96 = dp_J N 96 := (b3.1 96 (by decide) (by decide) (by decide)).2.1
          have e96' : dp_J N 96 = dp_J C1 96 := (oN.1 96 (by decide) (hS 96 (by decide)) (by decide)).2.1
          have x1 : DBd C1 D' A R := hb0.c96 a2 (by decide) (by decide) (by rw [(a2.2.1 133 (by simp)).1]; exact h6) (fun r hr => by
            have := b5 r 1 hr (by omega)
            rw [e96, e96'] at this; exact this)
          have x2 : DBd N D' A R := x1.c96 oN (fun k hk => hS k (d1 k hk)) (fun q hq => hT q (d2 q hq)) (by rw [(oN.2.1 133 (hT 133 (by decide))).1, (a2.2.1 133 (by simp)).1]; exact h6) (fun r _ => by rw [e96'])
          exact x2.c96 b3 (by decide) (by decide) r133 (fun r _ => by rw [e96])
end DuM
