/-! SECURITIES: parts used and set free; the class's cover -/
def useR (sg : Int64) (nd : Nat → Int64 → Int64) (T : Nat → Int64) (g : Nat) (c : Int64) : Nat → Int64 := uI (uI T (g * 16 + 2) (T (g * 16 + 2) + sg * nd g c)) (g * 16 + 5) (T (g * 16 + 5) + sg)
def tbs (sg : Int64) (nd : Nat → Int64 → Int64) (P : Nat → Int32) (C : Nat → Int64) (T : Nat → Int64) : Nat → (Nat → Int64)
  | 0 => T
  | i + 1 => useR sg nd (tbs sg nd P C T i) (P i).toNatClampNeg (C i)
theorem useR_o {sg : Int64} {nd : Nat → Int64 → Int64} {T : Nat → Int64} {g g' k : Nat} {c : Int64} (hk : k < 16) (h : g' ≠ g ∨ (k ≠ 2 ∧ k ≠ 5)) : useR sg nd T g c (g' * 16 + k) = T (g' * 16 + k) := by
  unfold useR; rw [uI_n (by omega), uI_n (by omega)]
theorem useR_2 {sg : Int64} {nd : Nat → Int64 → Int64} {T : Nat → Int64} {g : Nat} {c : Int64} : useR sg nd T g c (g * 16 + 2) = T (g * 16 + 2) + sg * nd g c := by
  unfold useR; rw [uI_n (by omega), uI_s]
theorem useR_5 {sg : Int64} {nd : Nat → Int64 → Int64} {T : Nat → Int64} {g : Nat} {c : Int64} : useR sg nd T g c (g * 16 + 5) = T (g * 16 + 5) + sg := by
  unfold useR; rw [uI_s]
section SP
variable {sg : Int64} {nd : Nat → Int64 → Int64} {P : Nat → Int32} {C T : Nat → Int64}
theorem tbs_o {g k : Nat} (hk : k < 16) (h : k ≠ 2 ∧ k ≠ 5) : ∀ i, tbs sg nd P C T i (g * 16 + k) = T (g * 16 + k)
  | 0 => rfl
  | i + 1 => by rw [tbs, useR_o hk (Or.inr h), tbs_o hk h i]
theorem tbs_2 {g : Nat} (hg : g < 2147483648) : ∀ i, (∀ j, j < i → ∃ b, b < 2147483648 ∧ P j = nI b) → tbs sg nd P C T i (g * 16 + 2) = T (g * 16 + 2) + sl (fun k => if P k = nI g then sg * nd g (C k) else 0) i
  | 0, _ => by rw [sl, Int64.add_zero]; rfl
  | i + 1, h => by
    obtain ⟨b, hb, eb⟩ := h i (by omega)
    have ih := tbs_2 hg i (fun j hj => h j (by omega))
    rw [tbs, eb, nI_cl hb, sl, ← Int64.add_assoc, ← ih]
    by_cases z : b = g
    · subst z; rw [useR_2, if_pos eb]
    · rw [useR_o (by omega) (Or.inl (fun q => z q.symm)), if_neg (fun q => z (by rw [eb, nI_eq hb hg] at q; exact q)), Int64.add_zero]
theorem tbs_5 {g : Nat} (hg : g < 2147483648) : ∀ i, (∀ j, j < i → ∃ b, b < 2147483648 ∧ P j = nI b) → tbs sg nd P C T i (g * 16 + 5) = T (g * 16 + 5) + sl (fun k => if P k = nI g then sg else 0) i
  | 0, _ => by rw [sl, Int64.add_zero]; rfl
  | i + 1, h => by
    obtain ⟨b, hb, eb⟩ := h i (by omega)
    have ih := tbs_5 hg i (fun j hj => h j (by omega))
    rw [tbs, eb, nI_cl hb, sl, ← Int64.add_assoc, ← ih]
    by_cases z : b = g
    · subst z; rw [useR_5, if_pos eb]
    · rw [useR_o (by omega) (Or.inl (fun q => z q.symm)), if_neg (fun q => z (by rw [eb, nI_eq hb hg] at q; exact q)), Int64.add_zero]
end SP
theorem nJ_add {a b : Nat} (h : a + b < 2147483648) : (nI a).toInt64 + (nI b).toInt64 = (nI (a + b)).toInt64 := by
  rw [← Int64.toInt_inj, Int64.toInt_add, Int32.toInt_toInt64, Int32.toInt_toInt64, Int32.toInt_toInt64, nI_toInt (by omega), nI_toInt (by omega), nI_toInt h]
  rw [Int.bmod_eq_of_le] <;> omega
theorem sl_ctJ {p : Nat → Bool} : ∀ n, n < 2147483648 → sl (fun k => if p k = true then 1 else 0) n = (nI (ct p n)).toInt64
  | 0, _ => rfl
  | n + 1, h => by
    rw [sl, sl_ctJ n (by omega), ct]
    have := ct_le p n
    by_cases z : p n = true
    · rw [if_pos z, if_pos z, ← nJ_add (by omega)]; rfl
    · rw [if_neg z, if_neg z, Int64.add_zero]; rfl
section SQ
variable {xs : Nat → Int32} {xl d : Nat} {M : dp_M}
theorem nJ_32 {a : Nat} (h : a < 2147483648) : (nI a).toInt64.toInt32 = nI a := Int32.toInt32_toInt64 _
theorem sc_gof {r i : Nat} (hr : r < 401) (hi : i < 4) {g : Nat} (hg : g < 2147483648) (e : dp_J M 96 (r * 12 + (4 + i)) = (nI g).toInt64) : dp_den true xs xl (d + 1) 202 [.ref 90, .int (nI r), .int (nI i)] M = iR (nI g) M := by
  rw [D_X8_guaranteeOf_0_den, D_X8_guaranteeOf_0_eq]
  simp only [show (4 : Int32) = nI 4 from rfl, t_12, nI_add, Nat.add_assoc, nI_cl (show r * 12 + (4 + i) < 2147483648 by omega), nI_o (show r * 12 + (4 + i) < 4812 by omega) (by omega), if_false, e, nJ_32 hg]
theorem sc_cov {r i : Nat} (hr : r < 401) (hi : i < 4) : dp_den true xs xl (d + 1) 203 [.ref 90, .int (nI r), .int (nI i)] M = lR (dp_J M 96 (r * 12 + (8 + i))) M := by
  rw [D_X8_coveredBy_0_den, D_X8_coveredBy_0_eq]
  simp only [show (8 : Int32) = nI 8 from rfl, t_12, nI_add, Nat.add_assoc, nI_cl (show r * 12 + (8 + i) < 2147483648 by omega), nI_o (show r * 12 + (8 + i) < 4812 by omega) (by omega), if_false]
theorem sc_need {g u n : Nat} {c : Int64} (hg : g < 41) (h1 : 1 ≤ n) (h2 : n ≤ 100) (b8 : dp_J M 95 (g * 16 + 9) = (nI u).toInt64) (b10 : dp_J M 95 (g * 16 + 10) = (nI n).toInt64) : dp_den true xs xl (d + 2) 192 [.ref 90, .int (nI g), .long c] M = lR ((c * (nI u).toInt64 + (nI n).toInt64 - 1) / (nI n).toInt64) M := by
  have e1 : ¬ (nI n).toInt64 < 1 := by
    rw [Int64.lt_iff_toInt_lt, Int32.toInt_toInt64, nI_toInt (by omega)]
    have : (1 : Int64).toInt = 1 := rfl
    omega
  have e2 : ¬ (nI n).toInt64 = 0 := fun q => by
    rw [← Int64.toInt_inj, Int32.toInt_toInt64, nI_toInt (by omega)] at q
    have : (0 : Int64).toInt = 0 := rfl
    omega
  rw [D_X8_neededFor_0_den, D_X8_neededFor_0_eq, sc_get (v2 := 10) (g := g) (k := 10) rfl hg (by omega), rb_bl, b10]
  simp only [dp_w]
  rw [if_neg e1, sc_get (v2 := 9) (g := g) (k := 9) rfl hg (by omega), rb_bl, b8, if_neg e2]
theorem sc_use {B : dp_M} {T : Nat → Int64} {r i g u n : Nat} {c : Int64} {v3 : Int32} (hr : r < 401) (hi : i < 4) (hg : g < 41) (h1 : 1 ≤ n) (h2 : n ≤ 100) (b8 : T (g * 16 + 9) = (nI u).toInt64) (b10 : T (g * 16 + 10) = (nI n).toInt64) (e4 : dp_J B 96 (r * 12 + (4 + i)) = (nI g).toInt64) (e8 : dp_J B 96 (r * 12 + (8 + i)) = c) {nd : Nat → Int64 → Int64} (hnd : nd g c = (c * (nI u).toInt64 + (nI n).toInt64 - 1) / (nI n).toInt64) : dp_den true xs xl (d + 3) 204 [.ref 90, .int (nI r), .int (nI i), .int v3] (rJ B 95 T) = vR (rJ B 95 (useR v3.toInt64 nd T g c)) := by
  have r95 : dp_J (rJ B 95 T) 95 = T := by rw [rJ_J, if_pos rfl]
  have r96 : dp_J (rJ B 95 T) 96 = dp_J B 96 := by rw [rJ_J, if_neg (by decide)]
  rw [D_X8_use_0_den, D_X8_use_0_eq, sc_gof hr hi (show g < 2147483648 by omega) (by rw [r96]; exact e4), rb_bi, sc_cov hr hi, rb_bl, r96, e8, sc_need hg h1 h2 (by rw [r95]; exact b8) (by rw [r95]; exact b10), rb_bl, ← hnd, sc_get (v2 := 2) (g := g) (k := 2) rfl hg (by omega), rb_bl, r95, sc_set (v2 := 2) (g := g) (k := 2) rfl hg (by omega), rb_bv, rJ_set, sc_get (v2 := 5) (g := g) (k := 5) rfl hg (by omega), rb_bl, sc_set (v2 := 5) (g := g) (k := 5) rfl hg (by omega), rb_bv, rJ_J, if_pos rfl, rJ_set, uI_n (show g * 16 + 5 ≠ g * 16 + 2 by omega)]
  rfl
/-- what cover leaves behind where it covers -/
def cvB (M : dp_M) (R : Nat) (H : Nat → Int64) : dp_M := dp_setI (dp_setI (rJ M 96 H) 90 1 (nI (R + 1))) 90 2 (dp_I M 90 2 + 1)
theorem sc_cover {G R w k : Nat} {cn : Int64} (hG : G ≤ 40) (hR : R < 400) (hw : w < 8) (hk : k < 4) (c0 : 0 ≤ cn.toInt) (a3 : dp_I M 90 1 = nI R) (a10 : ∀ g, 1 ≤ g → g ≤ G → SRw M R g) (a13 : SOr M G) (a14 : ∀ r, 1 ≤ r → r ≤ R → SRv M G r) :
    ∀ s, s = ly M w R cn G → ∀ H, H = ovH (ovC (dp_J M 96) ((R + 1) * 12) s.2.1 s.2.2.2.1 s.2.2.2.2) ((R + 1) * 12) w cn s.2.1 →
    (s.1 = true → dp_den true xs xl (d + 5) 200 [.ref 90, .int (nI w), .int (nI k), .long cn] M = iR 0 (rJ M 96 (ovC (dp_J M 96) ((R + 1) * 12) s.2.1 s.2.2.2.1 s.2.2.2.2))) ∧
    (s.1 = false → ¬ s.2.2.1 = 0 → dp_den true xs xl (d + 5) 200 [.ref 90, .int (nI w), .int (nI k), .long cn] M = iR 0 (rJ M 96 H)) ∧
    (s.1 = false → s.2.2.1 = 0 → ¬ dp_I M 92 k = 0 → dp_den true xs xl (d + 5) 200 [.ref 90, .int (nI w), .int (nI k), .long cn] M = iR (-1) (dp_setI (dp_setI (rJ M 96 H) 92 k 0) 93 k (dp_I M 93 k + 1))) ∧
    (s.1 = false → s.2.2.1 = 0 → dp_I M 92 k = 0 → dp_den true xs xl (d + 5) 200 [.ref 90, .int (nI w), .int (nI k), .long cn] M = iR (nI (R + 1)) (rJ (cvB M R H) 95 (tbs 1 (ndF M) s.2.2.2.1 s.2.2.2.2 (dp_J M 95) s.2.1))) := by
  intro s hs H hH
  have sp := sc_spread (xs := xs) (xl := xl) (d := d) (M := M) (cn := cn) hG (by omega) hw (q := R + 1) (by omega) (by omega) c0 a10 a13 a14
  rw [← hs, ← hH] at sp
  have ls := ly_I (M := M) (G := G) (w := w) (R := R) (cn := cn) c0 a13.2.1 G (Nat.le_refl _)
  rw [← hs] at ls
  have st : dp_den true xs xl (d + 5) 200 [.ref 90, .int (nI w), .int (nI k), .long cn] M = dp_bi (dp_den true xs xl (d + 4) 201 [.ref 90, .int (nI (R + 1)), .int (nI w), .long cn] M) (fun r3 M2 => if r3 = 0 then iR 0 M2 else (if dp_I M2 92 k = 0 then D_X8_cover_78 xs xl (d + 4) (nI w) (nI k) cn (nI (R + 1)) 0 (dp_setI (dp_setI M2 90 1 (nI (R + 1))) 90 2 (dp_I (dp_setI M2 90 1 (nI (R + 1))) 90 2 + 1)) else iR (-1) (dp_setI (dp_setI M2 92 k 0) 93 k (dp_I (dp_setI M2 92 k 0) 93 k + 1)))) := by
    rw [D_X8_cover_0_den, D_X8_cover_0_eq, a3]
    simp only [dp_w, nI_1, nI_cl (show k < 2147483648 by omega), nI_o hk (by omega), if_false]
    rw [if_neg (show ¬ (400 : Int32) ≤ nI (R) from nI_ge (a := R) (b := 400) (by omega) (by omega))]
    rfl
  refine ⟨fun z => ?_, fun z y => ?_, fun z y x => ?_, fun z y x => ?_⟩
  · rw [st, sp, if_pos z, rb_bi, if_pos rfl]
  · rw [st, sp, if_neg (by rw [z]; decide), rb_bi, bI_f y, if_pos rfl]
  · rw [st, sp, if_neg (by rw [z]; decide), rb_bi, bI_t y, if_neg (by decide), rJ_I, if_neg x, gII, if_neg (by decide), rJ_I]
  · rw [st, sp, if_neg (by rw [z]; decide), rb_bi, bI_t y, if_neg (by decide), rJ_I, if_pos x]
    rw [show dp_I (dp_setI (rJ M 96 H) 90 1 (nI (R + 1))) 90 2 = dp_I M 90 2 by rw [gII, if_pos rfl, uI_n (by decide), rJ_I]]
    rw [show dp_setI (dp_setI (rJ M 96 H) 90 1 (nI (R + 1))) 90 2 (dp_I M 90 2 + 1) = cvB M R H from rfl]
    have eB : dp_J (cvB M R H) 96 = H := by unfold cvB; rw [gJI, gJI, rJ_J, if_pos rfl]
    have eT : dp_J (cvB M R H) 95 = dp_J M 95 := by unfold cvB; rw [gJI, gJI, rJ_J, if_neg (by decide)]
    have key := lpb (F := fun (_ : Nat) i => D_X8_cover_78 xs xl (d + 4) (nI w) (nI k) cn (nI (R + 1)) (nI i) (rJ (cvB M R H) 95 (tbs 1 (ndF M) s.2.2.2.1 s.2.2.2.2 (dp_J M 95) i))) (s := fun _ => 0) (N := s.2.1) (r := (.inl (some (.int (nI (R + 1)))), rJ (cvB M R H) 95 (tbs 1 (ndF M) s.2.2.2.1 s.2.2.2.2 (dp_J M 95) s.2.1))) ?_ (fun i hi hr => ?_)
    · (try dsimp only at key)
      rw [tbs, ← eT, rJ_id] at key; rw [← eT]; exact key
    · (try dsimp only)
      rw [D_X8_cover_78_eq, sc_parts (n := s.2.1) (by omega) ls.1 (by rw [rJ_J, if_neg (by decide), eB, hH]; unfold ovH; rw [uI_s]), rb_bi, if_pos (nI_lle (Nat.le_refl _) (by have := ls.1; omega))]
    · (try dsimp only at hr); (try dsimp only)
      have n4 := ls.1
      obtain ⟨⟨j, j1, j2⟩, j3, j4⟩ := ls.2.2.2.2.1 i hi
      obtain ⟨g, g1, g2, eg⟩ := wi_of (a := 1) (b := G) (a13.1 j j1) (by omega)
      rw [eg] at j2
      obtain ⟨h, u, n, b1, b2, b3, b4, b5, b6, b7, b8, b9, b10, -⟩ := a10 g g1 g2
      rw [D_X8_cover_78_eq, sc_parts (n := s.2.1) (by omega) ls.1 (by rw [rJ_J, if_neg (by decide), eB, hH]; unfold ovH; rw [uI_s]), rb_bi, if_neg (nI_nge hi (by omega))]
      rw [sc_use (nd := ndF M) (v3 := 1) (g := g) (u := u) (n := n) (c := s.2.2.2.2 i) (by omega) (by omega) (by omega) b3 b4 (by rw [tbs_o (by omega) (by omega)]; exact b8) (by rw [tbs_o (by omega) (by omega)]; exact b10) (by
        rw [eB, hH]; unfold ovH
        rw [uI_n (by omega), uI_n (by omega), uI_n (by omega), uI_n (by omega)]; unfold ovC
        rw [if_pos (by omega), show (R + 1) * 12 + (4 + i) - ((R + 1) * 12 + 4) = i by omega, j2]) (by
        rw [eB, hH]; unfold ovH
        rw [uI_n (by omega), uI_n (by omega), uI_n (by omega), uI_n (by omega)]; unfold ovC
        rw [if_neg (by omega), if_pos (by omega), show (R + 1) * 12 + (8 + i) - ((R + 1) * 12 + 8) = i by omega]) (by unfold ndF; rw [b7, b9]), rb_bv]
      simp only [dp_w, nI_1]
      rw [tbs, j2, nI_cl (by omega)] at hr
      exact hr
end SQ
