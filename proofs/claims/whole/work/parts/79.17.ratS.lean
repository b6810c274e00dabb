-- needs: 71 72 73 74
/-! RATES: the model closes what is open -/
section RS
variable {xs : Nat → Int32} {xl d : Nat} {M : dp_M} {t : Nat → Int32} {L : Nat}
theorem ps_stop : ∀ n m (l : List Nd) (k p c : Nat) (l' : List Nd) (q c' : Nat), m = 1 ∨ m = 2 → ps t L n m l k p c = some (.inr (l', q, c')) → sk t L q = q ∧ ¬ isAt t L q 43 ∧ ¬ isAt t L q 45 := by
  intro n
  induction n with
  | zero => intro m l k p c l' q c' _ e; rw [ps] at e; cases e
  | succ n ih =>
    intro m l k p c l' q c' hm e
    rcases hm with rfl | rfl
    · rw [ps] at e
      split at e
      · exact ih 2 _ k _ _ l' q c' (Or.inr rfl) e
      · rename_i e1; exact absurd e (e1 l' q c')
    · rw [ps] at e
      split at e
      · split at e
        · split at e
          · exact ih 2 _ k _ _ l' q c' (Or.inr rfl) e
          · rename_i e1; exact absurd e (e1 l' q c')
        · cases e
      · rename_i z
        injection e with e; injection e with e; injection e with e3 e4; injection e4 with e4 e5
        subst e3 e4 e5
        exact ⟨sk_sk, fun w => z (Or.inl w), fun w => z (Or.inr w)⟩
theorem m_joinB {k nr : Nat} {v : Int32} (h97 : dp_I M 114 97 = nI (k + 1)) (hk : k ≤ 12) (h90 : dp_I M 114 90 = nI nr) (hn : nr < 120) : ∃ M5, (∀ {d}, dp_den true xs xl (d + 2) 484 [.ref 114, .int v] M = vR M5) ∧ FrM M M5 ∧ dp_I M5 114 81 = dp_I M 114 81 := by
  by_cases z : dp_I M 185 k = 0
  · refine ⟨dp_setI (dp_setI M 184 k v) 185 k 0, fun {d} => ?_, ((FrM.r M).w 184 (by decide) _ _).w 185 (by decide) _ _, by rw [gII, if_neg (by decide), gII, if_neg (by decide)]⟩
    rw [D_X12_joins_0_den, D_X12_joins_0_eq]
    simp only [dp_w, h97, nI_pred, nI_cl (show k < 2147483648 by omega), nI_o (show k < 14 by omega) (by omega), if_false, z, if_true]
  · refine ⟨dp_setI (dp_setI (mkM M nr (dp_I M 185 k) 0 (-1) (dp_I M 184 k) v) 184 k (nI nr)) 185 k 0, fun {d} => ?_, (mkM_fr.w 184 (by decide) _ _).w 185 (by decide) _ _, by rw [gII, if_neg (by decide), gII, if_neg (by decide), mkM_114, uI_n (by decide)]⟩
    rw [D_X12_joins_0_den, D_X12_joins_0_eq]
    simp only [dp_w, h97, nI_pred, nI_cl (show k < 2147483648 by omega), nI_o (show k < 14 by omega) (by omega), if_false, z]
    rw [D_X12_makes_0_den, D_X12_makes_0_eq]
    simp only [dp_w, h90, nI_cl (show nr < 2147483648 by omega), nI_o (show nr < 120 by omega) (by omega), if_false, nI_1, rb_bi]
    rfl
/-- the top, and what it is -/
theorem m_bh {q c nr k : Nat} (h : MSt M t L q c nr k) (hq : sk t L q = q) (h43 : ¬ isAt t L q 43) (h45 : ¬ isAt t L q 45) : dp_den true xs xl (d + 2) 485 [.ref 114] M = D_X12_takesBehind_92 xs xl (d + 1) (sgM t L q) (nI k) (if dp_I M 182 k = 5 ∨ dp_I M 182 k = 6 then 1 else 0) M := by
  obtain ⟨h1, h2, h3, h4, h5, h6, h7, h8, h9, h10, h11⟩ := h
  have h9' : dp_I M 114 97 = nI (k + 1) := h9
  rw [D_X12_takesBehind_0_den, D_X12_takesBehind_0_eq, m_next h1 h3 h2, rb_bi, hq, plm_self h2]
  simp only [dp_w, h9', nI_pred, nI_cl (show k < 2147483648 by omega), nI_o (show k < 14 by omega) (by omega), if_false]
  rw [if_neg (fun w => h43 ((sgM_at (by decide)).mp w)), if_neg (fun w => h45 ((sgM_at (by decide)).mp w))]
  by_cases z : dp_I M 182 k = 5
  · rw [if_pos z, if_pos (Or.inl z)]
  · rw [if_neg z]
    by_cases y : dp_I M 182 k = 6
    · rw [if_pos y, if_pos (Or.inr y)]
    · rw [if_neg y, if_neg (fun w => w.elim z y)]
theorem m_bad247 {q c nr k : Nat} {v3 : Int32} (h : MSt M t L q c nr k) (hq : sk t L q = q) : D_X12_takesBehind_247 xs xl (d + 1) (sgM t L q) (nI k) v3 M = iR 0 (dp_setI M 114 81 (nI q)) := by
  obtain ⟨h1, h2, h3, h4, -⟩ := h
  have h2' : dp_I M 114 80 = nI q := h2
  have h79 : dp_I M 114 79 = nI L := h1.1
  rw [D_X12_takesBehind_247_eq, h2', h79]
  by_cases z : q < L
  · rw [if_neg (fun w => (sgM_end h1).mp w z), m_stop h4, rb_bv]
  · rw [if_pos ((sgM_end h1).mpr z), show L = q by omega, m_stop h4, rb_bv]
/-- nothing fits -/
theorem m_bhBad {q c nr k : Nat} (h : MSt M t L q c nr k) (hq : sk t L q = q) (h43 : ¬ isAt t L q 43) (h45 : ¬ isAt t L q 45) (hs : q < L ∨ 0 < k) (h44 : ¬ (isAt t L q 44 ∧ (dp_I M 182 k = 5 ∨ dp_I M 182 k = 6) ∧ dp_I M 183 k = -1)) (h41 : ¬ (isAt t L q 41 ∧ (dp_I M 182 k = 8 ∨ (dp_I M 182 k = 5 ∨ dp_I M 182 k = 6) ∧ ¬ dp_I M 183 k = -1))) : dp_den true xs xl (d + 2) 485 [.ref 114] M = iR 0 (dp_setI M 114 81 (nI q)) := by
  have h0 := h
  have hk := h.2.2.2.2.2.2.2.2.2.1
  rw [m_bh h hq h43 h45, D_X12_takesBehind_92_eq]
  have ends : ∀ v3 : Int32, (if sgM t L q = (-1 : Int32) then (if nI k ≤ 0 then (some (.inl (some (.int (0 : Int32))), M)) else (D_X12_takesBehind_247 xs xl (d + 1) (sgM t L q) (nI k) v3 M)) else (D_X12_takesBehind_247 xs xl (d + 1) (sgM t L q) (nI k) v3 M)) = iR 0 (dp_setI M 114 81 (nI q)) := fun v3 => by
    rw [m_bad247 h0 hq]
    by_cases z : sgM t L q = -1
    · have k0 := hs.resolve_left ((sgM_end h0.1).mp z)
      rw [if_pos z, if_neg (show ¬ nI k ≤ 0 from nI_ge (a := 0) (b := k) (by omega) (by omega))]
    · rw [if_neg z]
  have r144 : ∀ v3 : Int32, (v3 = 0 ∧ ¬ (dp_I M 182 k = 5 ∨ dp_I M 182 k = 6) ∨ v3 = 1 ∧ (dp_I M 182 k = 5 ∨ dp_I M 182 k = 6)) → D_X12_takesBehind_144 xs xl (d + 1) (sgM t L q) (nI k) v3 M = iR 0 (dp_setI M 114 81 (nI q)) := fun v3 hv => by
    rw [D_X12_takesBehind_144_eq]
    simp only [nI_cl (show k < 2147483648 by omega), nI_o (show k < 14 by omega) (by omega), if_false]
    by_cases z : isAt t L q 41
    · rw [if_pos ((sgM_at (by decide)).mpr z), if_neg (fun w => h41 ⟨z, Or.inl w⟩)]
      rcases hv with ⟨v0, w⟩ | ⟨v1, w⟩
      · rw [if_pos v0, ends]
      · rw [if_neg (by rw [v1]; decide)]
        have : dp_I M 183 k = -1 := Classical.byContradiction (fun u => h41 ⟨z, Or.inr ⟨w, u⟩⟩)
        rw [if_pos this, ends]
    · rw [if_neg (fun w => z ((sgM_at (by decide)).mp w)), ends]
  by_cases two : dp_I M 182 k = 5 ∨ dp_I M 182 k = 6
  · rw [if_pos two]
    by_cases z : isAt t L q 44
    · rw [if_pos ((sgM_at (by decide)).mpr z), if_neg (by decide)]
      simp only [nI_cl (show k < 2147483648 by omega), nI_o (show k < 14 by omega) (by omega), if_false]
      rw [if_neg (fun w => h44 ⟨z, two, w⟩), r144 1 (Or.inr ⟨rfl, two⟩)]
    · rw [if_neg (fun w => z ((sgM_at (by decide)).mp w)), r144 1 (Or.inr ⟨rfl, two⟩)]
  · rw [if_neg two]
    by_cases z : isAt t L q 44
    · rw [if_pos ((sgM_at (by decide)).mpr z), if_pos rfl, r144 0 (Or.inl ⟨rfl, two⟩)]
    · rw [if_neg (fun w => z ((sgM_at (by decide)).mp w)), r144 0 (Or.inl ⟨rfl, two⟩)]
/-- the first of a pair is read -/
theorem m_bhComma {q c nr k : Nat} (h : MSt M t L q c nr k) (hq : sk t L q = q) (h44 : isAt t L q 44) (two : dp_I M 182 k = 5 ∨ dp_I M 182 k = 6) (h183 : dp_I M 183 k = -1) : dp_den true xs xl (d + 2) 485 [.ref 114] M = iR 1 (plm (dp_setI (dp_setI M 183 k (dp_I M 184 k)) 184 k (-1)) (q + 1)) := by
  have hk := h.2.2.2.2.2.2.2.2.2.1
  have e80 : dp_I M 114 80 = nI q := h.2.1
  have hL := h.1.2.1
  have q1 := h44.1
  rw [m_bh h hq (fun w => absurd (h44.2.symm.trans w.2) (by decide)) (fun w => absurd (h44.2.symm.trans w.2) (by decide)), if_pos two, D_X12_takesBehind_92_eq, if_pos ((sgM_at (by decide)).mpr h44), if_neg (by decide)]
  simp only [nI_cl (show k < 2147483648 by omega), nI_o (show k < 14 by omega) (by omega), if_false]
  rw [if_pos h183]
  simp only [dp_w, gII, Nat.reduceEqDiff, if_false, e80, nI_1]
  rfl
/-- a bracket is closed -/
theorem m_bhClose8 {q c nr k : Nat} {M3 : dp_M} (h : MSt M t L q c nr (k + 1)) (hq : sk t L q = q) (h41 : isAt t L q 41) (h8 : dp_I M 182 (k + 1) = 8) (hj : dp_den true xs xl (d + 1) 484 [.ref 114, .int (dp_I M 184 (k + 1))] (dp_setI (plm M (q + 1)) 114 97 (nI (k + 1))) = vR M3) : dp_den true xs xl (d + 2) 485 [.ref 114] M = iR 0 M3 := by
  have hk := h.2.2.2.2.2.2.2.2.2.1
  have e80 : dp_I M 114 80 = nI q := h.2.1
  have e97 : dp_I (plm M (q + 1)) 114 97 = nI (k + 1 + 1) := by rw [plm_o _ _ _ (by decide)]; exact h.2.2.2.2.2.2.2.2.1
  have e184 : dp_I (dp_setI (plm M (q + 1)) 114 97 (nI (k + 1))) 184 (k + 1) = dp_I M 184 (k + 1) := by rw [gII, if_neg (by decide), plm_I _ _ _ (by decide)]
  have two : ¬ (dp_I M 182 (k + 1) = 5 ∨ dp_I M 182 (k + 1) = 6) := by rw [h8]; decide
  rw [m_bh h hq (fun w => absurd (h41.2.symm.trans w.2) (by decide)) (fun w => absurd (h41.2.symm.trans w.2) (by decide)), if_neg two, D_X12_takesBehind_92_eq, if_neg (fun w => absurd (h41.2.symm.trans ((sgM_at (by decide)).mp w).2) (by decide)), D_X12_takesBehind_144_eq, if_pos ((sgM_at (by decide)).mpr h41)]
  simp only [nI_cl (show k + 1 < 2147483648 by omega), nI_o (show k + 1 < 14 by omega) (by omega), if_false]
  rw [if_pos h8, D_X12_takesBehind_175_eq]
  simp only [dp_w]
  rw [e80, nI_1, show dp_setI M 114 80 (nI (q + 1)) = plm M (q + 1) from rfl, e97, nI_pred, if_pos trivial]
  simp only [nI_cl (show k + 1 < 2147483648 by omega), nI_o (show k + 1 < 14 by omega) (by omega), if_false]
  rw [e184, hj, rb_bv]
/-- a pair is closed -/
theorem m_bhClose2 {q c nr k : Nat} {M3 : dp_M} (h : MSt M t L q c nr (k + 1)) (hn : nr < c) (hq : sk t L q = q) (h41 : isAt t L q 41) (two : dp_I M 182 (k + 1) = 5 ∨ dp_I M 182 (k + 1) = 6) (h183 : ¬ dp_I M 183 (k + 1) = -1) (hj : dp_den true xs xl (d + 1) 484 [.ref 114, .int (nI nr)] (mkM (dp_setI (plm M (q + 1)) 114 97 (nI (k + 1))) nr (dp_I M 182 (k + 1)) 0 (-1) (dp_I M 183 (k + 1)) (dp_I M 184 (k + 1))) = vR M3) : dp_den true xs xl (d + 2) 485 [.ref 114] M = iR 0 M3 := by
  have hk := h.2.2.2.2.2.2.2.2.2.1
  have e80 : dp_I M 114 80 = nI q := h.2.1
  have e97 : dp_I (plm M (q + 1)) 114 97 = nI (k + 1 + 1) := by rw [plm_o _ _ _ (by decide)]; exact h.2.2.2.2.2.2.2.2.1
  have e90 : dp_I (dp_setI (plm M (q + 1)) 114 97 (nI (k + 1))) 114 90 = nI nr := by rw [gII, if_pos rfl, uI_n (by decide), plm_o _ _ _ (by decide)]; exact h.2.2.2.2.2.2.1
  have c60 := h.2.2.2.2.2.1
  have eK : ∀ K, K ≠ 114 → dp_I (dp_setI (plm M (q + 1)) 114 97 (nI (k + 1))) K = dp_I M K := fun K hK => by rw [gII, if_neg hK, plm_I _ _ _ hK]
  have n8 : ¬ dp_I M 182 (k + 1) = 8 := by rcases two with w | w <;> rw [w] <;> decide
  rw [m_bh h hq (fun w => absurd (h41.2.symm.trans w.2) (by decide)) (fun w => absurd (h41.2.symm.trans w.2) (by decide)), if_pos two, D_X12_takesBehind_92_eq, if_neg (fun w => absurd (h41.2.symm.trans ((sgM_at (by decide)).mp w).2) (by decide)), D_X12_takesBehind_144_eq, if_pos ((sgM_at (by decide)).mpr h41)]
  simp only [nI_cl (show k + 1 < 2147483648 by omega), nI_o (show k + 1 < 14 by omega) (by omega), if_false]
  rw [if_neg n8, if_neg (by decide), if_neg h183, D_X12_takesBehind_175_eq]
  simp only [dp_w]
  rw [e80, nI_1, show dp_setI M 114 80 (nI (q + 1)) = plm M (q + 1) from rfl, e97, nI_pred, if_neg (by decide)]
  simp only [nI_cl (show k + 1 < 2147483648 by omega), nI_o (show k + 1 < 14 by omega) (by omega), if_false]
  rw [eK 182 (by decide), eK 183 (by decide), eK 184 (by decide), D_X12_makes_0_den, D_X12_makes_0_eq]
  simp only [dp_w, e90, nI_cl (show nr < 2147483648 by omega), nI_o (show nr < 120 by omega) (by omega), if_false, nI_1, rb_bi]
  unfold mkM at hj
  rw [hj, rb_bv]
/-- a sign between two -/
theorem m_bhSign {p c nr k : Nat} {kd : Int32} (h : MSt M t L p c nr k) (hp : isAt t L (sk t L p) 43 ∧ kd = 3 ∨ ¬ isAt t L (sk t L p) 43 ∧ isAt t L (sk t L p) 45 ∧ kd = 4) : (c < 60 → dp_den true xs xl (d + 3) 485 [.ref 114] (plm M (sk t L p)) = iR 1 (plm (dp_setI (dp_setI (plm M (sk t L p)) 114 91 (nI (c + 1))) 185 k kd) (sk t L p + 1))) ∧ (¬ c < 60 → ∃ M', dp_den true xs xl (d + 3) 485 [.ref 114] (plm M (sk t L p)) = iR 0 M' ∧ BdM M M' (sk t L p)) := by
  have h0 := h
  obtain ⟨h1, h2, h3, h4, h5, h6, h7, h8, h9, h10, h11⟩ := h
  have sl := sk_le (t := t) h3
  have s1 := h0.pl (q := sk t L p) sl
  have h9' : dp_I (plm M (sk t L p)) 114 97 = nI (k + 1) := s1.2.2.2.2.2.2.2.2.1
  have e80 : dp_I (plm M (sk t L p)) 114 80 = nI (sk t L p) := plm_p _ _
  have hL := h1.2.1
  have st : dp_den true xs xl (d + 3) 485 [.ref 114] (plm M (sk t L p)) = D_X12_takesBehind_24 xs xl (d + 2) (sgM t L (sk t L p)) (nI k) (plm M (sk t L p)) := by
    rw [D_X12_takesBehind_0_den, D_X12_takesBehind_0_eq, m_next s1.1 s1.2.2.1 s1.2.1, rb_bi, sk_sk, plm_pl]
    simp only [dp_w, h9', nI_pred]
    rcases hp with ⟨w, -⟩ | ⟨w, w2, -⟩
    · rw [if_pos ((sgM_at (by decide)).mpr w)]
    · rw [if_neg (fun u => w ((sgM_at (by decide)).mp u)), if_pos ((sgM_at (by decide)).mpr w2)]
  obtain ⟨c1, c2⟩ := m_count (xs := xs) (xl := xl) (w := sk t L p) s1
  constructor
  · intro hc
    obtain ⟨g1, g2, g3, g4, g5⟩ := c1 hc
    have e80' : dp_I (dp_setI (dp_setI (plm M (sk t L p)) 114 91 (nI (c + 1))) 185 k kd) 114 80 = nI (sk t L p) := by rw [gII, if_neg (by decide), gII, if_pos rfl, uI_n (by decide)]; exact e80
    rw [st, D_X12_takesBehind_24_eq, e80, g1, rb_bi, if_neg (by decide)]
    simp only [nI_cl (show k < 2147483648 by omega), nI_o (show k < 14 by omega) (by omega), if_false, dp_w]
    rcases hp with ⟨w, rfl⟩ | ⟨w, w2, rfl⟩
    · rw [if_pos ((sgM_at (by decide)).mpr w), e80', nI_1]; rfl
    · rw [if_neg (fun u => w ((sgM_at (by decide)).mp u)), e80', nI_1]; rfl
  · intro hc
    obtain ⟨M', g1, g2⟩ := c2 hc
    refine ⟨M', ?_, g2.fr FrM.pl⟩
    rw [st, D_X12_takesBehind_24_eq, e80, g1, rb_bi, if_pos rfl]
end RS
