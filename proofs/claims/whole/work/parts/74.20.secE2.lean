/-! SECURITIES: a reservation ends; the model's way -/
theorem mext {A B : dp_M} (h1 : ∀ k, dp_I A k = dp_I B k) (h2 : ∀ k, dp_J A k = dp_J B k) (h3 : A.2.2 = B.2.2) : A = B := Prod.ext (funext h1) (Prod.ext (funext h2) h3)
section SV
variable {xs : Nat → Int32} {xl d : Nat} {M : dp_M}
def caM (N : dp_M) (A K E : Nat → Int64) (S : Nat → Int32) : dp_M := rJ (rJ (rI (rJ N 211 E) 212 S) 203 A) 210 K
theorem caM_I (N : dp_M) (A K E : Nat → Int64) (S : Nat → Int32) (k : Nat) : dp_I (caM N A K E S) k = if k = 212 then S else dp_I N k := by
  unfold caM; rw [rJ_I, rJ_I, rI_I, rJ_I]
theorem caM_J (N : dp_M) (A K E : Nat → Int64) (S : Nat → Int32) (k : Nat) : dp_J (caM N A K E S) k = if k = 210 then K else if k = 203 then A else if k = 211 then E else dp_J N k := by
  unfold caM; rw [rJ_J, rJ_J, rI_J, rJ_J]
theorem caM_id (N : dp_M) : caM N (dp_J N 203) (dp_J N 210) (dp_J N 211) (dp_I N 212) = N := by
  refine mext (fun k => ?_) (fun k => ?_) rfl
  · rw [caM_I]
    by_cases z : k = 212
    · rw [if_pos z, z]
    · rw [if_neg z]
  · rw [caM_J]
    by_cases z : k = 210
    · rw [if_pos z, z]
    rw [if_neg z]
    by_cases z1 : k = 203
    · rw [if_pos z1, z1]
    rw [if_neg z1]
    by_cases z2 : k = 211
    · rw [if_pos z2, z2]
    · rw [if_neg z2]
theorem caM_s {N : dp_M} {A K E : Nat → Int64} {S : Nat → Int32} {g : Nat} {a k e : Int64} {s : Int32} : dp_setJ (dp_setJ (dp_setI (dp_setJ (caM N A K E S) 211 g e) 212 g s) 203 g a) 210 g k = caM N (uI A g a) (uI K g k) (uI E g e) (uI S g s) := by
  refine mext (fun q => ?_) (fun q => ?_) rfl
  · rw [gIJ, gIJ, gII, gIJ, caM_I, caM_I, caM_I]
    by_cases z : q = 212
    · rw [if_pos z, if_pos z, if_pos rfl]
    · rw [if_neg z, if_neg z, if_neg z]
  · simp only [gJJ, gJI, caM_J]
    by_cases z : q = 210
    · subst z; simp
    by_cases z1 : q = 203
    · subst z1; simp
    by_cases z2 : q = 211
    · subst z2; simp
    simp [z, z1, z2]
/-- claimable -/
theorem sc_clm {G R r : Nat} (hG : G ≤ 40) (hR : R ≤ 400) (hr : r ≤ R) (a10 : ∀ g, 1 ≤ g → g ≤ G → SRw M R g) (a14 : SRv M G r) : ∃ n, n ≤ 4 ∧ dp_I M 216 r = nI n ∧ dp_den true xs xl (d + 3) 206 [.ref 90, .int (nI r)] M = lR (sl (rX M r) n) M := by
  obtain ⟨n, c1, c2, c3, c4, c5, c6, c7⟩ := a14
  refine ⟨n, c1, c2, ?_⟩
  rw [D_X8_claimable_0_den, D_X8_claimable_0_eq]
  simp only [dp_w]
  refine lpb (F := fun (t : Int64) i => D_X8_claimable_5 xs xl (d + 2) (nI r) t (nI i) M) (s := sl (rX M r)) (N := n) ?_ (fun i hi hq => ?_)
  · (try dsimp only)
    rw [D_X8_claimable_5_eq, sc_parts (n := n) (by omega) c1 c6, rb_bi, if_pos (nI_lle (Nat.le_refl _) (by omega))]
  · (try dsimp only at hq); (try dsimp only)
    obtain ⟨d1, d2, d3, d4, d5⟩ := c7 i hi
    obtain ⟨g, g1, g2, eg⟩ := wi_of (a := 1) (b := G) d3 (by omega)
    have ePi : rP M r i = nI g := eg
    obtain ⟨x1, -⟩ := (a10 g g1 g2).x
    rw [D_X8_claimable_5_eq, sc_parts (n := n) (by omega) c1 c6, rb_bi, if_neg (nI_nge hi (by omega)), sc_clb (g := g) (by omega) (by omega) (by omega) (by rw [d1, eg]), rb_bl, x1, d2]
    rw [show mnJ (dp_J M 218 (r * 4 + i)) (dp_J M 203 g) = rX M r i by unfold rX; rw [ePi, nI_cl (by omega)]; rfl]
    simp only [dp_w, nI_1]
    rw [sl] at hq
    exact hq
/-- wouldTake -/
theorem sm_would {G r n : Nat} (hG : G ≤ 40) (hr : r ≤ 400) (hn : n ≤ 4) (c2 : dp_I M 216 r = nI n) (c7 : ∀ k, k < n → wi (rP M r k) 1 G) : dp_den true xs xl (d + 1) 532 [.ref 114, .int (nI r)] M = lR (sl (rX M r) n) M := by
  rw [D_X12_wouldTake_0_den, D_X12_wouldTake_0_eq]
  simp only [dp_w, t_4']
  refine lpb (F := fun (t : Int64) i => D_X12_wouldTake_7 xs xl d (nI r) t (nI (r * 4 + i)) M) (s := sl (rX M r)) (N := n) ?_ (fun i hi hq => ?_)
  · (try dsimp only)
    rw [D_X12_wouldTake_7_eq]
    simp only [nI_cl (show r < 2147483648 by omega), nI_o (show r < 402 by omega) (by omega), if_false, c2, t_4'']
    rw [if_pos (nI_lle (Nat.le_refl _) (by omega))]
  · (try dsimp only at hq); (try dsimp only)
    obtain ⟨g, g1, g2, eg⟩ := wi_of (a := 1) (b := G) (c7 i hi) (by omega)
    have eg' : dp_I M 217 (r * 4 + i) = nI g := eg
    rw [sl] at hq
    rw [D_X12_wouldTake_7_eq]
    simp only [nI_cl (show r < 2147483648 by omega), nI_o (show r < 402 by omega) (by omega), nI_cl (show r * 4 + i < 2147483648 by omega), nI_o (show r * 4 + i < 1608 by omega) (by omega), if_false, c2, t_4'', eg', nI_cl (show g < 2147483648 by omega), nI_o (show g < 41 by omega) (by omega), lg_cmp_ge, dp_w, nI_1]
    rw [if_neg (nI_nge (by omega) (by omega))]
    have ex : rX M r i = if dp_J M 218 (r * 4 + i) < dp_J M 203 g then dp_J M 218 (r * 4 + i) else dp_J M 203 g := by unfold rX mnJ rC; rw [eg, nI_cl (by omega)]
    by_cases z : dp_J M 203 g ≤ dp_J M 218 (r * 4 + i)
    · rw [ex, if_neg (Int64.not_lt.mpr z)] at hq
      rw [if_pos z]; exact hq
    · rw [ex, if_pos (Int64.not_le.mp z)] at hq
      rw [if_neg z]; exact hq
def enM (N : dp_M) (r : Nat) (how : Int32) : dp_M := dp_setI (dp_setI N 215 r how) 216 r 0
theorem sm_ends {r : Nat} (hr : r ≤ 400) (how : Int32) : dp_den true xs xl (d + 1) 530 [.ref 114, .int (nI r), .int how] M = vR (enM M r how) := by
  rw [D_X12_endsAs_0_den, D_X12_endsAs_0_eq]
  simp only [nI_cl (show r < 2147483648 by omega), nI_o (show r < 402 by omega) (by omega), if_false, dp_w]
  rfl
theorem sm_claims {G r n : Nat} (hG : G ≤ 40) (hr : r ≤ 400) (hn : n ≤ 4) (c2 : dp_I M 216 r = nI n) (c7 : ∀ k, k < n → wi (rP M r k) 1 G) (a17 : ∀ j k, j < n → k < n → rP M r j = rP M r k → j = k) : dp_den true xs xl (d + 2) 533 [.ref 114, .int (nI r)] M = vR (enM (caM M (rU (rP M r) (rX M r) (fun j => -(rX M r j)) (dp_J M 203) n) (rU (rP M r) (rX M r) (rX M r) (dp_J M 210) n) (rU (rP M r) (rX M r) (rR M r) (dp_J M 211) n) (rV (rP M r) (rX M r) (dp_I M 114 120) (dp_I M 212) n)) r 3) := by
  obtain ⟨Q, hQ⟩ : ∃ Q : Nat → dp_M, Q = fun i => caM M (rU (rP M r) (rX M r) (fun j => -(rX M r j)) (dp_J M 203) i) (rU (rP M r) (rX M r) (rX M r) (dp_J M 210) i) (rU (rP M r) (rX M r) (rR M r) (dp_J M 211) i) (rV (rP M r) (rX M r) (dp_I M 114 120) (dp_I M 212) i) := ⟨_, rfl⟩
  have goal : D_X12_claimsAll_4 xs xl (d + 1) (nI r) (nI (r * 4)) M = vR (enM (Q n) r 3) := by
    have key := lpb (F := fun (_ : Nat) i => D_X12_claimsAll_4 xs xl (d + 1) (nI r) (nI (r * 4 + i)) (Q i)) (s := fun _ => 0) (N := n) (r := (.inl none, enM (Q n) r 3)) ?_ (fun i hi hq => ?_)
    · (try dsimp only at key)
      rw [show Q 0 = M by rw [hQ]; exact caM_id M] at key
      exact key
    · (try dsimp only)
      rw [D_X12_claimsAll_4_eq]
      simp only [nI_cl (show r < 2147483648 by omega), nI_o (show r < 402 by omega) (by omega), if_false]
      rw [show dp_I (Q n) 216 r = nI n by rw [hQ]; show dp_I (caM _ _ _ _ _) 216 r = _; rw [caM_I, if_neg (by decide)]; exact c2, t_4'', if_pos (nI_lle (Nat.le_refl _) (by omega)), sm_ends hr, rb_bv]
    · (try dsimp only at hq); (try dsimp only)
      obtain ⟨g, g1, g2, eg⟩ := wi_of (a := 1) (b := G) (c7 i hi) (by omega)
      have new : ∀ j, j < i → (rP M r j).toNatClampNeg ≠ g := fun j hj q => by
        obtain ⟨g', g1', g2', eg'⟩ := wi_of (a := 1) (b := G) (c7 j (by omega)) (by omega)
        rw [eg', nI_cl (by omega)] at q
        have := a17 j i (by omega) hi (by rw [eg, eg', q])
        omega
      have qI : ∀ k, k ≠ 212 → dp_I (Q i) k = dp_I M k := fun k hk => by rw [hQ]; show dp_I (caM _ _ _ _ _) k = _; rw [caM_I, if_neg hk]
      have qJ : ∀ k, k ≠ 203 → k ≠ 210 → k ≠ 211 → dp_J (Q i) k = dp_J M k := fun k h1 h2 h3 => by rw [hQ]; show dp_J (caM _ _ _ _ _) k = _; rw [caM_J, if_neg h2, if_neg h1, if_neg h3]
      have q203 : dp_J (Q i) 203 = rU (rP M r) (rX M r) (fun j => -(rX M r j)) (dp_J M 203) i := by rw [hQ]; show dp_J (caM _ _ _ _ _) 203 = _; rw [caM_J, if_neg (by decide), if_pos rfl]
      have q210 : dp_J (Q i) 210 = rU (rP M r) (rX M r) (rX M r) (dp_J M 210) i := by rw [hQ]; show dp_J (caM _ _ _ _ _) 210 = _; rw [caM_J, if_pos rfl]
      have q211 : dp_J (Q i) 211 = rU (rP M r) (rX M r) (rR M r) (dp_J M 211) i := by rw [hQ]; show dp_J (caM _ _ _ _ _) 211 = _; rw [caM_J, if_neg (by decide), if_neg (by decide), if_pos rfl]
      have q212 : dp_I (Q i) 212 = rV (rP M r) (rX M r) (dp_I M 114 120) (dp_I M 212) i := by rw [hQ]; show dp_I (caM _ _ _ _ _) 212 = _; rw [caM_I, if_pos rfl]
      have a203 : dp_J (Q i) 203 g = dp_J M 203 g := by rw [q203, rU_g i new]
      have a212 : dp_I (Q i) 212 g = dp_I M 212 g := by rw [q212, rV_g i new]
      have el : lrow (Q i) g = lrow M g := by
        unfold lrow lst
        rw [a203, a212, qI 208 (by decide), qI 209 (by decide), qI 207 (by decide), qI 114 (by decide)]
      have ex : rX M r i = if dp_J M 218 (r * 4 + i) < dp_J M 203 g then dp_J M 218 (r * 4 + i) else dp_J M 203 g := by unfold rX mnJ rC; rw [eg, nI_cl (by omega)]
      have er : rR M r i = lrow M g := by unfold rR; rw [eg, nI_cl (by omega)]
      have eg' : dp_I M 217 (r * 4 + i) = nI g := eg
      have e56 : D_X12_claimsAll_56 xs xl (d + 1) (nI r) (nI (r * 4 + i)) (nI g) (rX M r i) (Q i) = some (.inl none, enM (Q n) r 3) := by
        rw [D_X12_claimsAll_56_eq]
        simp only [lg_cmp_le, nI_cl (show g < 2147483648 by omega), nI_o (show g < 41 by omega) (by omega), if_false, dp_w, nI_1, sm_row (show g < 41 by omega), rb_bl, el]
        by_cases z : rX M r i ≤ 0
        · rw [if_pos z]
          have e : Q (i + 1) = Q i := by rw [hQ]; show caM _ _ _ _ _ = caM _ _ _ _ _; rw [rU, rU, rU, rV, if_neg (Int64.not_lt.mpr z), if_neg (Int64.not_lt.mpr z), if_neg (Int64.not_lt.mpr z), if_neg (Int64.not_lt.mpr z)]
          rw [e] at hq
          exact D_X12_claimsAll_4_to_4_a _ _ _ _ hq
        · rw [if_neg z]
          have z' := Int64.not_le.mp z
          have e : Q (i + 1) = dp_setJ (dp_setJ (dp_setI (dp_setJ (Q i) 211 g (dp_J (Q i) 211 g + lrow M g)) 212 g (dp_I M 114 120)) 203 g (dp_J (Q i) 203 g - rX M r i)) 210 g (dp_J (Q i) 210 g + rX M r i) := by
            rw [q203, q210, q211]
            have : Q i = caM M (rU (rP M r) (rX M r) (fun j => -(rX M r j)) (dp_J M 203) i) (rU (rP M r) (rX M r) (rX M r) (dp_J M 210) i) (rU (rP M r) (rX M r) (rR M r) (dp_J M 211) i) (rV (rP M r) (rX M r) (dp_I M 114 120) (dp_I M 212) i) := by rw [hQ]
            rw [this, caM_s, hQ]
            show caM _ _ _ _ _ = caM _ _ _ _ _
            rw [rU, rU, rU, rV, if_pos z', if_pos z', if_pos z', if_pos z', eg, nI_cl (by omega), er, Int64.sub_eq_add_neg]
          have e1 : dp_I (dp_setJ (Q i) 211 g (dp_J (Q i) 211 g + lrow M g)) 114 120 = dp_I M 114 120 := by rw [gIJ, qI 114 (by decide)]
          have e2 : dp_J (dp_setI (dp_setJ (Q i) 211 g (dp_J (Q i) 211 g + lrow M g)) 212 g (dp_I M 114 120)) 203 g = dp_J (Q i) 203 g := by rw [gJI, gJJ, if_neg (by decide)]
          have e3 : dp_J (dp_setJ (dp_setI (dp_setJ (Q i) 211 g (dp_J (Q i) 211 g + lrow M g)) 212 g (dp_I M 114 120)) 203 g (dp_J (Q i) 203 g - rX M r i)) 210 g = dp_J (Q i) 210 g := by rw [gJJ, if_neg (by decide), gJI, gJJ, if_neg (by decide)]
          rw [e1, e2, e3, ← e]
          exact D_X12_claimsAll_4_to_4_a _ _ _ _ hq
      rw [D_X12_claimsAll_4_eq]
      simp only [nI_cl (show r < 2147483648 by omega), nI_o (show r < 402 by omega) (by omega), nI_cl (show r * 4 + i < 2147483648 by omega), nI_o (show r * 4 + i < 1608 by omega) (by omega), if_false, qI 216 (by decide), qI 217 (by decide), qJ 218 (by decide) (by decide) (by decide), c2, t_4'', eg', dp_w, nI_cl (show g < 2147483648 by omega), nI_o (show g < 41 by omega) (by omega), lg_cmp_ge, a203]
      rw [if_neg (nI_nge (by omega) (by omega))]
      by_cases z : dp_J M 203 g ≤ dp_J M 218 (r * 4 + i)
      · rw [ex, if_neg (Int64.not_lt.mpr z)] at e56
        rw [if_pos z]; exact e56
      · rw [ex, if_pos (Int64.not_le.mp z)] at e56
        rw [if_neg z]; exact e56
  rw [D_X12_claimsAll_0_den, D_X12_claimsAll_0_eq]
  simp only [dp_w, t_4']
  rw [goal, hQ]
end SV
