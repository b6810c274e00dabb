-- needs: 71 72 73 74
/-! RATES: the class reads steps -/
theorem gd_l {a : List (Nat × Nat)} {x : Nat × Nat} {j : Nat} (h : j < a.length) : (a ++ [x]).getD j (0, 0) = a.getD j (0, 0) := by
  simp [List.getD_eq_getElem?_getD, List.getElem?_append, h]
theorem gd_r {a : List (Nat × Nat)} {x : Nat × Nat} : (a ++ [x]).getD a.length (0, 0) = x := by
  simp [List.getD_eq_getElem?_getD]
theorem lsf_a {a : List (Nat × Nat)} {x : Nat × Nat} : lsf (a ++ [x]) = x.1 := by
  unfold lsf
  simp
theorem rWh_sk {t : Nat → Int32} {L p : Nat} : rWh t L (sk t L p) = rWh t L p := by unfold rWh; rw [sk_sk]
def StC (M : dp_M) (s : Nat) (a : List (Nat × Nat)) : Prop := ∀ j, j < a.length → dp_I M 72 ((s + j) * 2) = nI (a.getD j (0, 0)).1 ∧ dp_I M 72 ((s + j) * 2 + 1) = nI (a.getD j (0, 0)).2
theorem rws_eq {S : Nat → Int32} {s : Nat} {a : List (Nat × Nat)} (h : ∀ j, j < a.length → S ((s + j) * 2) = nI (a.getD j (0, 0)).1 ∧ S ((s + j) * 2 + 1) = nI (a.getD j (0, 0)).2) : (List.range a.length).map (fun k => (S ((s + k) * 2), S ((s + k) * 2 + 1))) = rws a := by
  unfold rws
  apply List.ext_getElem
  · simp
  · intro n h1 h2
    simp only [List.length_map, List.length_range] at h1
    rw [List.getElem_map, List.getElem_map, List.getElem_range, (h n h1).1, (h n h1).2]
    simp [List.getD_eq_getElem?_getD, List.getElem?_eq_getElem h1]
section RG
variable {xs : Nat → Int32} {xl d : Nat} {M : dp_M} {t : Nat → Int32} {L : Nat}
theorem c_rows {c s : Nat} : ∀ n (a : List (Nat × Nat)) (p : Nat) (M : dp_M) (v1 : Int32), a.length + n = 7 → a.length ≤ 6 → CSt M t L p c (s + a.length) → StC M s a → v1.toInt = lsf a →
    (∀ a' q, rRo t L n a p = .inr (a', q) → ∃ M', D_X7_readStepRows_4 xs xl (d + 3) v1 (nI a.length) M = iR (nI a'.length) M' ∧ FrC M M' ∧ CSt M' t L q c (s + a'.length) ∧ StC M' s a' ∧ dp_I M' 71 = dp_I M 71 ∧ (∀ i, i < s * 2 → dp_I M' 72 i = dp_I M 72 i) ∧ dp_I M' 68 12 = dp_I M 68 12 ∧ a'.length ≤ 6) ∧
    (∀ b, rRo t L n a p = .inl b → ∃ M', D_X7_readStepRows_4 xs xl (d + 3) v1 (nI a.length) M = iR (-1) M' ∧ BdC M M' b) := by
  intro n
  induction n with
  | zero => intro a p M v1 h1 h2; omega
  | succ n ih =>
    intro a p M v1 hn ha h hst hv
    have h0 := h
    obtain ⟨h1, h2, h3, h4, h5, h6, h7, h8, h9⟩ := h
    have hL := h1.2.1
    have sl := sk_le (t := t) h3
    have sg := sk_ge (t := t) (L := L) (p := p)
    have s1 := h0.pl (q := sk t L p) sg sl
    have begin' : ∀ r M2, dp_den true xs xl (d + 3) 165 [.ref 68] (plc M (sk t L p)) = iR r M2 → D_X7_readStepRows_4 xs xl (d + 3) v1 (nI a.length) M = (if r = (-1 : Int32) then (D_X7_readStepRows_49 xs xl (d + 3) v1 (nI a.length) (nI (sk t L p)) r (-1 : Int32) M2) else (dp_bi (dp_den true xs xl (d + 3) 149 [.ref 68, .int (61 : Int32)] M2) (fun r7 M6 => if r7 = 0 then (D_X7_readStepRows_49 xs xl (d + 3) v1 (nI a.length) (nI (sk t L p)) r (-1 : Int32) M6) else (dp_bi (dp_den true xs xl (d + 3) 165 [.ref 68] M6) (fun r9 M8 => D_X7_readStepRows_49 xs xl (d + 3) v1 (nI a.length) (nI (sk t L p)) r r9 M8))))) := fun r M2 e => by
      rw [D_X7_readStepRows_4_eq, if_neg (show ¬ (6 : Int32) < nI (a.length) from nI_nlt (a := 6) (b := a.length) (by omega) (by omega)), c_next h1 h3 h2, rb_bi]
      have e9 : dp_I (plc M (sk t L p)) 68 9 = nI (sk t L p) := plc_p _ _
      simp only [dp_w, e9]
      rw [e, rb_bi]
    have none49 : ∀ v2 v3 v4 N, D_X7_readStepRows_49 xs xl (d + 3) v1 v2 v3 v4 (-1) N = iR (-1) N := fun v2 v3 v4 N => by rw [D_X7_readStepRows_49_eq, if_pos rfl]
    obtain ⟨g1, g2⟩ := c_whole (xs := xs) (xl := xl) (d := d) s1.1 s1.2.2.1 s1.2.1 s1.2.2.2.1
    rw [rWh_sk] at g1 g2
    have badR : ∀ b, rSt t L p = .inl b → rRo t L (n + 1) a p = .inl b := fun b e => by rw [rRo, e]
    have badF : ∀ b M', rSt t L p = .inl b → D_X7_readStepRows_4 xs xl (d + 3) v1 (nI a.length) M = iR (-1) M' → BdC M M' b → (∀ a' q, rRo t L (n + 1) a p = .inr (a', q) → ∃ M', D_X7_readStepRows_4 xs xl (d + 3) v1 (nI a.length) M = iR (nI a'.length) M' ∧ FrC M M' ∧ CSt M' t L q c (s + a'.length) ∧ StC M' s a' ∧ dp_I M' 71 = dp_I M 71 ∧ (∀ i, i < s * 2 → dp_I M' 72 i = dp_I M 72 i) ∧ dp_I M' 68 12 = dp_I M 68 12 ∧ a'.length ≤ 6) ∧ (∀ b, rRo t L (n + 1) a p = .inl b → ∃ M', D_X7_readStepRows_4 xs xl (d + 3) v1 (nI a.length) M = iR (-1) M' ∧ BdC M M' b) := fun b M' e1 e2 e3 =>
      ⟨fun a' q e => (by rw [badR b e1] at e; cases e), fun b' e => (by rw [badR b e1] at e; injection e with e; subst e; exact ⟨M', e2, e3⟩)⟩
    cases hw : rWh t L p with
    | inl b =>
      obtain ⟨M2, b1, b2⟩ := g2 b hw
      refine badF b M2 (by unfold rSt; rw [hw]) ?_ (b2.fr FrC.pl)
      rw [begin' _ _ b1, if_pos rfl, none49]
    | inr fq =>
      obtain ⟨f, q⟩ := fq
      obtain ⟨b1, b2, b3, b4⟩ := g1 f q hw
      rw [plc_pl] at b1
      have s2 := s1.pl (q := q) (by omega) b2
      rw [plc_pl] at s2
      have st1 := begin' _ _ b1
      rw [if_neg (m1n (by omega))] at st1
      obtain ⟨p1, p2⟩ := c_pass (xs := xs) (xl := xl) (d := d) (c := 61) s2.1 s2.2.2.1 s2.2.1 s2.2.2.2.1 (by decide)
      cases hp : pss t L 61 q with
      | inl b =>
        obtain ⟨M3, c1, c2⟩ := p2 b hp
        refine badF b M3 (by unfold rSt; rw [hw]; simp only [hp]) ?_ (c2.fr FrC.pl)
        rw [st1, c1, rb_bi, if_pos rfl, none49]
      | inr q2 =>
        obtain ⟨c1, c2, c3⟩ := p1 q2 hp
        rw [plc_pl] at c1
        have s3 := s2.pl (q := q2) (by omega) c2
        rw [plc_pl] at s3
        rw [c1, rb_bi, if_neg r1_ne] at st1
        obtain ⟨w1, w2⟩ := c_whole (xs := xs) (xl := xl) (d := d) s3.1 s3.2.2.1 s3.2.1 s3.2.2.2.1
        cases hw2 : rWh t L q2 with
        | inl b =>
          obtain ⟨M3, e1, e2⟩ := w2 b hw2
          refine badF b M3 (by unfold rSt; rw [hw]; simp only [hp, hw2]) ?_ (e2.fr FrC.pl)
          rw [st1, e1, rb_bi, none49]
        | inr cq =>
          obtain ⟨ce, q3⟩ := cq
          obtain ⟨e1, e2, e3, e4⟩ := w1 ce q3 hw2
          rw [plc_pl] at e1
          have s4 := s3.pl (q := q3) (by omega) e2
          rw [plc_pl] at s4
          rw [e1, rb_bi, D_X7_readStepRows_49_eq, if_neg (m1n (by omega))] at st1
          have hS : rSt t L p = .inr (f, ce, q3) := by unfold rSt; rw [hw]; simp only [hp, hw2]
          have ro : rRo t L (n + 1) a p = if a.length = 6 ∨ (f : Int) ≤ lsf a then .inl (sk t L p) else if isAt t L (sk t L q3) 44 then rRo t L n (a ++ [(f, ce)]) (sk t L q3 + 1) else .inr (a ++ [(f, ce)], sk t L q3) := by rw [rRo, hS]
          have cmp : nI f ≤ v1 ↔ (f : Int) ≤ lsf a := by rw [Int32.le_iff_toInt_le, nI_toInt (by omega), hv]
          rw [ro]
          by_cases z : a.length = 6 ∨ (f : Int) ≤ lsf a
          · rw [if_pos z]
            refine ⟨fun a' q e => (by cases e), fun b e => ?_⟩
            injection e with e
            subst e
            refine ⟨_, ?_, BdC.mk' (FrC.pl (p := q3))⟩
            rw [st1]
            by_cases y : a.length = 6
            · rw [if_pos (show (6 : Int32) ≤ nI (a.length) from nI_le (a := 6) (b := a.length) (by omega) (by omega)), c_ref s4.2.2.2.1, rb_bi]
            · rw [if_neg (show ¬ (6 : Int32) ≤ nI (a.length) from nI_ge (a := a.length) (b := 6) (by omega) (by omega)), if_pos (cmp.mpr (z.resolve_left y)), c_ref s4.2.2.2.1, rb_bi]
          · rw [if_neg z]
            have z1 : ¬ a.length = 6 := fun q => z (Or.inl q)
            have z2 : ¬ (f : Int) ≤ lsf a := fun q => z (Or.inr q)
            have as : dp_I (plc M q3) 68 11 = nI (s + a.length) := s4.2.2.2.2.2.2.1
            obtain ⟨k, hk⟩ : ∃ k, k = s + a.length := ⟨_, rfl⟩
            rw [← hk] at as
            have k2 : nI k * (2 : Int32) = nI (k * 2) := by rw [show (2 : Int32) = nI 2 from rfl, pk_mul]
            have k200 : k < 200 := by omega
            obtain ⟨M5, hM5⟩ : ∃ M5, M5 = dp_setI (dp_setI (dp_setI (plc M q3) 72 (k * 2) (nI f)) 72 (k * 2 + 1) (nI ce)) 68 11 (nI (k + 1)) := ⟨_, rfl⟩
            rw [if_neg (show ¬ (6 : Int32) ≤ nI (a.length) from nI_ge (a := a.length) (b := 6) (by omega) (by omega)), if_neg (fun q => z2 (cmp.mp q)), as, if_pos (show nI (k) < (200 : Int32) from nI_lt (a := k) (b := 200) (by omega) (by omega))] at st1
            have g1 : dp_I (dp_setI (plc M q3) 72 (k * 2) (nI f)) 68 11 = nI k := by rw [gII, if_neg (by decide)]; exact as
            have g2 : dp_I (dp_setI (dp_setI (plc M q3) 72 (k * 2) (nI f)) 72 (k * 2 + 1) (nI ce)) 68 11 = nI k := by rw [gII, if_neg (by decide)]; exact g1
            simp only [dp_w, k2, nI_1, nI_cl (show k * 2 < 2147483648 by omega), nI_o (show k * 2 < 400 by omega) (by omega), nI_cl (show k * 2 + 1 < 2147483648 by omega), nI_o (show k * 2 + 1 < 400 by omega) (by omega), if_false, g1, g2] at st1
            rw [← hM5] at st1
            have f5 : FrC M M5 := by rw [hM5]; exact ((FrC.pl.t _ _).t _ _).s 11 (by decide) _
            have e68 : dp_I M5 68 = uI (dp_I (plc M q3) 68) 11 (nI (k + 1)) := by rw [hM5, gII, if_pos rfl, gII, if_neg (by decide), gII, if_neg (by decide)]
            have e71 : dp_I M5 71 = dp_I M 71 := by rw [hM5, gII, if_neg (by decide), gII, if_neg (by decide), gII, if_neg (by decide), plc_I _ _ _ (by decide)]
            have e72 : dp_I M5 72 = uI (uI (dp_I M 72) (k * 2) (nI f)) (k * 2 + 1) (nI ce) := by rw [hM5, gII, if_neg (by decide), gII, if_pos rfl, gII, if_pos rfl, plc_I _ _ _ (by decide)]
            have s5 : CSt M5 t L q3 c (s + (a ++ [(f, ce)]).length) := by
              rw [List.length_append, List.length_singleton, ← Nat.add_assoc, ← hk]
              exact ⟨h1.fr f5, by rw [e68, uI_n (by decide)]; exact plc_p _ _, e2, by rw [e68, uI_n (by decide), plc_o _ _ _ (by decide)]; exact h4, by rw [e68, uI_n (by decide), plc_o _ _ _ (by decide)]; exact h5, h6, by rw [e68, uI_s], by omega, fun x hx => by rw [e71]; exact Nat.le_trans (h9 x hx) (by omega)⟩
            have st5 : StC M5 s (a ++ [(f, ce)]) := fun j hj => by
              rw [List.length_append, List.length_singleton] at hj
              rw [e72]
              by_cases y : j = a.length
              · subst y
                rw [gd_r, ← hk, uI_n (by omega), uI_s, uI_s]; exact ⟨rfl, rfl⟩
              · rw [gd_l (by omega), uI_n (by omega), uI_n (by omega), uI_n (by omega), uI_n (by omega)]; exact hst j (by omega)
            have lo5 : ∀ i, i < s * 2 → dp_I M5 72 i = dp_I M 72 i := fun i hi => by rw [e72, uI_n (by omega), uI_n (by omega)]
            have u5 : dp_I M5 68 12 = dp_I M 68 12 := by rw [e68, uI_n (by decide), plc_o _ _ _ (by decide)]
            have sl3 := sk_le (t := t) e2
            have sg3 := sk_ge (t := t) (L := L) (p := q3)
            rw [c_next s5.1 s5.2.2.1 s5.2.1, rb_bi] at st1
            by_cases y : isAt t L (sk t L q3) 44
            · rw [if_pos y]
              have y1 := y.1
              have e9 : dp_I (plc M5 (sk t L q3)) 68 9 = nI (sk t L q3) := plc_p _ _
              rw [if_pos ((sgC_at (by decide)).mpr y), e9, nI_1, show dp_setI (plc M5 (sk t L q3)) 68 9 (nI (sk t L q3 + 1)) = plc (plc M5 (sk t L q3)) (sk t L q3 + 1) from rfl, plc_pl] at st1
              have s6 := s5.pl (q := sk t L q3 + 1) (by omega) (by omega)
              have al : (a ++ [(f, ce)]).length = a.length + 1 := by rw [List.length_append, List.length_singleton]
              obtain ⟨i1, i2⟩ := ih (a ++ [(f, ce)]) (sk t L q3 + 1) (plc M5 (sk t L q3 + 1)) (nI f) (by omega) (by omega) s6 (fun j hj => by rw [plc_I _ _ _ (by decide)]; exact st5 j hj) (by rw [nI_toInt (by omega), lsf_a])
              refine ⟨fun a' q e => ?_, fun b e => ?_⟩
              · obtain ⟨M', j1, j2, j3, j4, j5, j6, j7, j8⟩ := i1 a' q e
                rw [al] at j1
                refine ⟨M', by rw [st1]; exact D_X7_readStepRows_4_to_4_a _ _ _ _ _ j1, (f5.tr FrC.pl).tr j2, j3, j4, by rw [j5, plc_I _ _ _ (by decide), e71], fun i hi => by rw [j6 i hi, plc_I _ _ _ (by decide)]; exact lo5 i hi, by rw [j7, plc_o _ _ _ (by decide)]; exact u5, j8⟩
              · obtain ⟨M', j1, j2⟩ := i2 b e
                rw [al] at j1
                exact ⟨M', by rw [st1]; exact D_X7_readStepRows_4_to_4_a _ _ _ _ _ j1, (j2.fr FrC.pl).fr f5⟩
            · rw [if_neg y]
              rw [if_neg (fun q => y ((sgC_at (by decide)).mp q))] at st1
              refine ⟨fun a' q e => ?_, fun b e => (by cases e)⟩
              injection e with e
              injection e with e1 e2
              subst e1 e2
              refine ⟨plc M5 (sk t L q3), by rw [st1, List.length_append, List.length_singleton], f5.tr FrC.pl, s5.pl sg3 sl3, fun j hj => by rw [plc_I _ _ _ (by decide)]; exact st5 j hj, by rw [plc_I _ _ _ (by decide), e71], fun i hi => by rw [plc_I _ _ _ (by decide)]; exact lo5 i hi, by rw [plc_o _ _ _ (by decide)]; exact u5, by rw [List.length_append, List.length_singleton]; omega⟩
end RG
