-- needs: 71 72 73 74 75 76
/-! PLAN: the class reads a state -/
def Pf (S F : List Nat) (M M' : dp_M) : Prop := Off (14 :: S) [] M M' ∧ dp_n M' = dp_n M ∧ dp_z M' = dp_z M ∧ ∀ k, k ∉ F → dp_I M' 14 k = dp_I M 14 k
theorem Pf.r (S F : List Nat) (M : dp_M) : Pf S F M M := ⟨Off.rr _ _ _, rfl, rfl, fun _ _ => rfl⟩
theorem Pf.tr {S F : List Nat} {M M' M'' : dp_M} (h : Pf S F M M') (h' : Pf S F M' M'') : Pf S F M M'' :=
  ⟨h.1.tr h'.1, h'.2.1.trans h.2.1, h'.2.2.1.trans h.2.2.1, fun k hk => (h'.2.2.2 k hk).trans (h.2.2.2 k hk)⟩
theorem Pf.mono {S F S' F' : List Nat} {M M' : dp_M} (h : Pf S F M M') (hS : ∀ k ∈ S, k ∈ S') (hF : ∀ k ∈ F, k ∈ F') : Pf S' F' M M' :=
  ⟨h.1.mono (fun k hk => by rcases List.mem_cons.mp hk with e | e; exact List.mem_cons.mpr (Or.inl e); exact List.mem_cons.mpr (Or.inr (hS k e))) (fun _ h => h), h.2.1, h.2.2.1, fun k hk => h.2.2.2 k (fun q => hk (hF k q))⟩
theorem Pf.I {S F : List Nat} {M M' : dp_M} (k : Nat) (hk : (k ∈ S ∧ k < 246) ∧ k ≠ 114 ∧ k ≠ 14) (i : Nat) (x : Int32) (h : Pf S F M M') : Pf S F M (dp_setI M' k i x) :=
  ⟨h.1.I k ⟨⟨List.mem_cons.mpr (Or.inr hk.1.1), hk.1.2⟩, hk.2.1⟩ i x, h.2.1, h.2.2.1, fun j hj => by rw [gII, if_neg (fun e => hk.2.2 e.symm)]; exact h.2.2.2 j hj⟩
theorem Pf.F {S F : List Nat} {M M' : dp_M} (i : Nat) (hi : i ∈ F) (x : Int32) (h : Pf S F M M') : Pf S F M (dp_setI M' 14 i x) :=
  ⟨h.1.I 14 ⟨⟨List.mem_cons.mpr (Or.inl rfl), by decide⟩, by decide⟩ i x, h.2.1, h.2.2.1, fun j hj => by rw [gII, if_pos rfl, uI_n (fun e => hj (by rw [e]; exact hi))]; exact h.2.2.2 j hj⟩
theorem Pf.row {S F : List Nat} {M M' : dp_M} (h : Pf S F M M') {k : Nat} (hk : k < 246) (h1 : k ∉ 14 :: S) (h2 : k ≠ 114) : dp_I M' k = dp_I M k := (h.1.1 k hk h1 h2).1
/-- the heights and tops of the stacks, the boxes ashore, as the class reads them -/
def hgt (c : Nat) : Nat → Nat → Nat
  | 0, _ => 0
  | k + 1, s => if pl c k < 12 ∧ pl c k / 4 = s ∧ hgt c k s < pl c k % 4 + 1 then pl c k % 4 + 1 else hgt c k s
def tpp (c : Nat) : Nat → Nat → Nat
  | 0, _ => 0
  | k + 1, s => if pl c k < 12 ∧ pl c k / 4 = s ∧ hgt c k s < pl c k % 4 + 1 then k else tpp c k s
def ash (c : Nat) : Nat → Nat
  | 0 => 0
  | k + 1 => if pl c k = 12 then ash c k + 2 ^ k else ash c k
theorem hgt_le (c : Nat) : ∀ k s, hgt c k s ≤ 4
  | 0, _ => Nat.zero_le _
  | k + 1, s => by
    rw [hgt]
    split
    · omega
    · exact hgt_le c k s
theorem tpp_lt (c : Nat) : ∀ k s, 0 < hgt c k s → tpp c k s < k
  | 0, _ => fun h => absurd h (Nat.lt_irrefl 0)
  | k + 1, s => fun h => by
    rw [tpp]
    rw [hgt] at h
    split
    · omega
    · rename_i z
      rw [if_neg z] at h
      have := tpp_lt c k s h
      omega
theorem ash_lt (c : Nat) : ∀ k, ash c k < 2 ^ k
  | 0 => (by decide : 0 < 2 ^ 0)
  | k + 1 => by
    have := ash_lt c k
    rw [ash, Nat.pow_succ]
    split <;> omega
def RdK (M : dp_M) (c k : Nat) : Prop := (∀ i, i < k → dp_I M 20 i = nI (pl c i)) ∧ (∀ s, s < 3 → dp_I M 23 s = nI (hgt c k s)) ∧ (∀ s, s < 3 → 0 < hgt c k s → dp_I M 24 s = nI (tpp c k s)) ∧ dp_I M 14 14 = nI (ash c k)
section PnC
variable {xs : Nat → Int32} {xl d : Nat} {M : dp_M}
theorem c_note {i s h : Nat} (hi : i < 4) (hs : s < 3) : dp_den true xs xl (d + 1) 111 [.ref 14, .int (nI i), .int (nI s), .int (nI h)] M = vR (if nI h ≤ dp_I M 23 s then M else dp_setI (dp_setI M 23 s (nI h)) 24 s (nI i)) := by
  rw [D_X4_noteHeight_0_den, D_X4_noteHeight_0_eq]
  simp only [dp_w, nI_cl (show s < 2147483648 by omega), nI_o (show s < 3 by omega) (by omega), if_false]
  by_cases z : nI h ≤ dp_I M 23 s
  · rw [if_pos z, if_pos z]
  · rw [if_neg z, if_neg z]
theorem rd_o : ∀ k, k < 4 → ∀ a, a < 2 ^ k → nI a ||| ((1 : Int32) <<< (nI k &&& 31)) = nI (a + 2 ^ k) := by decide
theorem rd_d : ∀ p, p < 12 → nI p / (4 : Int32) = nI (p / 4) ∧ nI p - nI p / (4 : Int32) * 4 + 1 = nI (p % 4 + 1) := by decide
theorem c_read' {n c : Nat} (hn : n ≤ 4) (hb : dp_I M 14 12 = nI n) (hc : c < 65536) (ht : dp_t true M 23 = 1) (hl : dp_ln true M 23 = 3) : ∃ M', dp_den true xs xl (d + 2) 110 [.ref 14, .int (nI c)] M = vR M' ∧ RdK M' c n ∧ Pf [20, 23, 24] [14] M M' := by
  obtain ⟨M0, f1, f2, f3, f4, f5, f6⟩ := q_fillI (xs := xs) (xl := xl) (d := d) (M := M) (p := 23) (N := 3) (x := 0) (by decide) (by decide) ht hl (by decide)
  have p0 : Pf [20, 23, 24] [14] M (dp_setI M0 14 14 0) := Pf.F 14 (by decide) 0 ⟨f2.mono (by decide) (by decide), f3, f4, fun k _ => by rw [f6, if_neg (by decide)]⟩
  have key := lpi (F := fun i N => D_X4_readState_15 xs xl (d + 1) (nI c) (nI i) N) (a := 0) (N := n)
    (Inv := fun i N => RdK N c i ∧ Pf [20, 23, 24] [14] M N) (Post := fun r => ∃ M', r = (.inl none, M') ∧ RdK M' c n ∧ Pf [20, 23, 24] [14] M M') (Nat.zero_le _) ?_ ?_ (dp_setI M0 14 14 0) ?_
  · obtain ⟨r, hr, M', rfl, q⟩ := key
    refine ⟨M', ?_, q⟩
    rw [D_X4_readState_0_den, D_X4_readState_0_eq]
    rw [f1]
    exact hr
  · rintro N ⟨h1, h2⟩
    refine ⟨(.inl none, N), ?_, N, rfl, h1, h2⟩
    (try dsimp only)
    rw [D_X4_readState_15_eq, h2.2.2.2 12 (by decide), hb, if_pos (nI_lle (Nat.le_refl _) (by omega))]
  · rintro i N - hi ⟨⟨h1, h2, h3, h4⟩, h5⟩
    have hp := pl_lt c i
    have hh := hgt_le c i
    have e20 : dp_I (dp_setI N 20 i (nI (pl c i))) 20 i = nI (pl c i) := by rw [gII, if_pos rfl, uI_s]
    have p1 : Pf [20, 23, 24] [14] M (dp_setI N 20 i (nI (pl c i))) := h5.I 20 (by decide) _ _
    have row : ∀ N', dp_I N' 20 = dp_I (dp_setI N 20 i (nI (pl c i))) 20 → ∀ j, j < i + 1 → dp_I N' 20 j = nI (pl c j) := fun N' e j hj => by
      rw [e, gII, if_pos rfl]
      by_cases z : j = i
      · rw [z, uI_s]
      · rw [uI_n z]; exact h1 j (by omega)
    by_cases z1 : pl c i = 12
    · refine ⟨dp_setI (dp_setI N 20 i (nI (pl c i))) 14 14 (nI (ash c (i + 1))), ⟨⟨row _ (by rw [gII, if_neg (by decide)]), fun s hs => ?_, fun s hs h => ?_, ?_⟩, p1.F 14 (by decide) _⟩, fun r hr => ?_⟩
      · rw [hgt, if_neg (fun q => by omega), gII, if_neg (by decide), gII, if_neg (by decide)]; exact h2 s hs
      · rw [hgt, if_neg (fun q => by omega)] at h
        rw [tpp, if_neg (fun q => by omega), gII, if_neg (by decide), gII, if_neg (by decide)]; exact h3 s hs h
      · rw [gII, if_pos rfl, uI_s]
      · (try dsimp only at hr); (try dsimp only)
        rw [D_X4_readState_15_eq, h5.2.2.2 12 (by decide), hb, if_neg (nI_nge hi (by omega))]
        simp only [dp_w, c_pl hc (show i < 4 by omega), nI_cl (show i < 2147483648 by omega), nI_o (show i < 4 by omega) (by omega), if_false, nI_1]
        rw [e20, if_pos (show nI (pl c i) = 12 by rw [z1]; rfl)]
        have : dp_I (dp_setI N 20 i (nI (pl c i))) 14 14 = nI (ash c i) := by rw [gII, if_neg (by decide)]; exact h4
        rw [this, rd_o i (by omega) _ (ash_lt c i)]
        rw [ash, if_pos z1] at hr
        exact hr
    by_cases z2 : pl c i < 12
    case neg =>
      refine ⟨dp_setI N 20 i (nI (pl c i)), ⟨⟨row _ rfl, fun s hs => ?_, fun s hs h => ?_, ?_⟩, p1⟩, fun r hr => ?_⟩
      · rw [hgt, if_neg (fun q => z2 q.1), gII, if_neg (by decide)]; exact h2 s hs
      · rw [hgt, if_neg (fun q => z2 q.1)] at h
        rw [tpp, if_neg (fun q => z2 q.1), gII, if_neg (by decide)]; exact h3 s hs h
      · rw [ash, if_neg z1, gII, if_neg (by decide)]; exact h4
      · (try dsimp only at hr); (try dsimp only)
        rw [D_X4_readState_15_eq, h5.2.2.2 12 (by decide), hb, if_neg (nI_nge hi (by omega))]
        simp only [dp_w, c_pl hc (show i < 4 by omega), nI_cl (show i < 2147483648 by omega), nI_o (show i < 4 by omega) (by omega), if_false, nI_1]
        rw [e20, if_neg (show ¬ nI (pl c i) = 12 from fun q => z1 ((nI_eq (by omega) (by omega)).mp (show nI (pl c i) = nI 12 from q))), if_pos (show (12 : Int32) ≤ nI (pl c i) from nI_lle (n := 12) (by omega) (by omega))]
        exact hr
    obtain ⟨s, hs, es⟩ : ∃ s, s < 3 ∧ pl c i / 4 = s := ⟨_, by omega, rfl⟩
    have e23 : dp_I (dp_setI N 20 i (nI (pl c i))) 23 s = nI (hgt c i s) := by rw [gII, if_neg (by decide)]; exact h2 s hs
    have nt := c_note (xs := xs) (xl := xl) (d := d) (M := dp_setI N 20 i (nI (pl c i))) (i := i) (s := s) (h := pl c i % 4 + 1) (by omega) hs
    have go : ∀ N' r, dp_den true xs xl (d + 1) 111 [.ref 14, .int (nI i), .int (nI s), .int (nI (pl c i % 4 + 1))] (dp_setI N 20 i (nI (pl c i))) = vR N' → D_X4_readState_15 xs xl (d + 1) (nI c) (nI (i + 1)) N' = some r → D_X4_readState_15 xs xl (d + 1) (nI c) (nI i) N = some r := fun N' r e hr => by
      rw [D_X4_readState_15_eq, h5.2.2.2 12 (by decide), hb, if_neg (nI_nge hi (by omega))]
      simp only [dp_w, c_pl hc (show i < 4 by omega), nI_cl (show i < 2147483648 by omega), nI_o (show i < 4 by omega) (by omega), if_false, nI_1]
      rw [e20, if_neg (show ¬ nI (pl c i) = 12 from fun q => z1 ((nI_eq (by omega) (by omega)).mp (show nI (pl c i) = nI 12 from q))), if_neg (show ¬ (12 : Int32) ≤ nI (pl c i) from nI_nge (n := 12) (by omega) (by omega))]
      rw [(rd_d _ z2).2, (rd_d _ z2).1, es, e, rb_bv]
      exact hr
    by_cases z3 : hgt c i s < pl c i % 4 + 1
    · rw [e23, if_neg (nI_nge z3 (by omega))] at nt
      refine ⟨_, ⟨⟨row _ ?_, fun t ht => ?_, fun t ht h => ?_, ?_⟩, (p1.I 23 (by decide) _ _).I 24 (by decide) _ _⟩, fun r hr => go _ r nt hr⟩
      · rw [gII, if_neg (by decide), gII, if_neg (by decide)]
      · rw [gII, if_neg (by decide), gII, if_pos rfl, hgt]
        by_cases y : t = s
        · rw [y, uI_s, if_pos ⟨z2, es, z3⟩]
        · rw [uI_n y, if_neg (fun q => y (by rw [← es]; exact q.2.1.symm)), gII, if_neg (by decide)]; exact h2 t ht
      · rw [gII, if_pos rfl, tpp]
        by_cases y : t = s
        · rw [y, uI_s, if_pos ⟨z2, es, z3⟩]
        · have y' : ¬ (pl c i < 12 ∧ pl c i / 4 = t ∧ hgt c i t < pl c i % 4 + 1) := fun q => y (by rw [← es]; exact q.2.1.symm)
          rw [hgt, if_neg y'] at h
          rw [uI_n y, if_neg y', gII, if_neg (by decide), gII, if_neg (by decide)]; exact h3 t ht h
      · rw [ash, if_neg z1, gII, if_neg (by decide), gII, if_neg (by decide), gII, if_neg (by decide)]; exact h4
    · rw [e23, if_pos (nI_lle (by omega) (by have := hh s; omega))] at nt
      have y' : ∀ t, ¬ (pl c i < 12 ∧ pl c i / 4 = t ∧ hgt c i t < pl c i % 4 + 1) := fun t q => z3 (by have e := es.symm.trans q.2.1; rw [e]; exact q.2.2)
      refine ⟨_, ⟨⟨row _ rfl, fun t ht => ?_, fun t ht h => ?_, ?_⟩, p1⟩, fun r hr => go _ r nt hr⟩
      · rw [hgt, if_neg (y' t), gII, if_neg (by decide)]; exact h2 t ht
      · rw [hgt, if_neg (y' t)] at h
        rw [tpp, if_neg (y' t), gII, if_neg (by decide)]; exact h3 t ht h
      · rw [ash, if_neg z1, gII, if_neg (by decide)]; exact h4
  · refine ⟨⟨fun i hi => by omega, fun s hs => ?_, fun s hs h => absurd h (Nat.lt_irrefl 0), ?_⟩, p0⟩
    · rw [gII, if_neg (by decide), f6, if_pos rfl, hgt, fN, if_pos ⟨Nat.zero_le _, by omega⟩]; rfl
    · rw [gII, if_pos rfl, uI_s]; rfl
end PnC
