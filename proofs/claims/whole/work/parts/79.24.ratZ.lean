-- needs: 71 72 73 74
/-! RATES: the model reads a text -/
section RZ
variable {xs : Nat → Int32} {xl d : Nat} {M : dp_M} {t : Nat → Int32} {L : Nat}
/-- the first i have their new names -/
def rnM (N : dp_M) (l : List Nd) (i : Nat) : dp_M := rI (rI N 177 (fN (dp_I N 177) 60 i (fL l))) 178 (fN (dp_I N 178) 60 i (fR l))
theorem rnM_I {N : dp_M} {l : List Nd} {i : Nat} (K : Nat) (h1 : K ≠ 177) (h2 : K ≠ 178) : dp_I (rnM N l i) K = dp_I N K := by unfold rnM; rw [rI_I, if_neg h2, rI_I, if_neg h1]
theorem rnM_177 {N : dp_M} {l : List Nd} {i : Nat} : dp_I (rnM N l i) 177 = fN (dp_I N 177) 60 i (fL l) := by unfold rnM; rw [rI_I, if_neg (by decide), rI_I, if_pos rfl]
theorem rnM_178 {N : dp_M} {l : List Nd} {i : Nat} : dp_I (rnM N l i) 178 = fN (dp_I N 178) 60 i (fR l) := by unfold rnM; rw [rI_I, if_pos rfl]
theorem rnM_s {N : dp_M} {l : List Nd} {i : Nat} : dp_setI (dp_setI (rnM N l i) 177 (60 + i) (fL l i)) 178 (60 + i) (fR l i) = rnM N l (i + 1) := mext (fun K => by
  by_cases z : K = 178
  · subst z; rw [gII, if_pos rfl, gII, if_neg (by decide), rnM_178, rnM_178, ← fN_s]
  · by_cases y' : K = 177
    · subst y'; rw [gII, if_neg (by decide), gII, if_pos rfl, rnM_177, rnM_177, ← fN_s]
    · rw [gII, if_neg z, gII, if_neg y', rnM_I K y' z, rnM_I K y' z]) (fun K => by rw [gJI, gJI]; rfl) rfl
theorem rnM_0 {N : dp_M} {l : List Nd} : rnM N l 0 = N := mext (fun K => by
  by_cases z : K = 178
  · subst z; rw [rnM_178, fN_0]
  · by_cases y' : K = 177
    · subst y'; rw [rnM_177, fN_0]
    · rw [rnM_I K y' z]) (fun K => rfl) rfl
theorem m_ren {M0 N : dp_M} {l : List Nd} {ix : List Nat} {v1 v3 : Int32} (hC6 : l.length ≤ 60) (hix : ∀ j, j < l.length → ix.getD j 0 < 60) (hch : ∀ j, j < l.length → Ch (rdN M0) l ix j) (hcp : ∀ i, i < l.length → rdN N (60 + i) = rdN M0 (ix.getD i 0)) (hnum : ∀ i, i < l.length → dp_I N 187 (ix.getD i 0) = nI i) : D_X12_numbers_249 xs xl d v1 (nI l.length) v3 60 N = vR (dp_setI (rnM N l l.length) 114 92 (nI l.length)) := by
  have key := lpb (F := fun (_ : Nat) i => D_X12_numbers_249 xs xl d v1 (nI l.length) v3 (nI (60 + i)) (rnM N l i)) (s := fun _ => 0) (N := l.length) (r := (.inl none, dp_setI (rnM N l l.length) 114 92 (nI l.length))) ?_ (fun i hi hr => ?_)
  · (try dsimp only at key)
    rw [rnM_0] at key; exact key
  · (try dsimp only)
    rw [D_X12_numbers_249_eq, show (60 : Int32) + nI l.length = nI (60 + l.length) from by rw [show (60 : Int32) = nI 60 from rfl, nI_add], if_pos (nI_lle (Nat.le_refl _) (by omega))]
    rfl
  · (try dsimp only at hr); (try dsimp only)
    rw [D_X12_numbers_249_eq, show (60 : Int32) + nI l.length = nI (60 + l.length) from by rw [show (60 : Int32) = nI 60 from rfl, nI_add], if_neg (nI_nge (by omega) (by omega))]
    obtain ⟨c1, c2⟩ := hch i hi
    have cp := hcp i hi
    have e177 : dp_I (rnM N l i) 177 (60 + i) = (rdN M0 (ix.getD i 0)).2.1 := by rw [rnM_177, fN_ge (by omega), ← cp]; rfl
    have e178 : dp_I (rnM N l i) 178 (60 + i) = (rdN M0 (ix.getD i 0)).2.2 := by rw [rnM_178, fN_ge (by omega), ← cp]; rfl
    simp only [nI_cl (show 60 + i < 2147483648 by omega), nI_o (show 60 + i < 120 by omega) (by omega), if_false, dp_w, nI_1]
    rcases c2 with ⟨b1, b2⟩ | ⟨b1, m, m1, m2, m3, m4, b2⟩
    · have q1 : dp_I (rnM N l i) 177 (60 + i) = -1 := by rw [e177, b2]
      have q2 : dp_I (rnM N l i) 178 (60 + i) = -1 := by rw [e178, b2]
      have f1 : fL l i = -1 := by unfold fL; rw [if_neg (by rw [b1]; decide)]
      have f2 : fR l i = -1 := by unfold fR; rw [if_neg (by rw [b1]; decide)]
      have same : rnM N l (i + 1) = rnM N l i := by
        rw [← rnM_s, sI_self _ 177 (60 + i) (by rw [q1, f1]), sI_self _ 178 (60 + i) (by rw [q2, f2])]
      rw [if_pos q1]
      rw [same] at hr
      exact hr
    · have q1 : dp_I (rnM N l i) 177 (60 + i) = nI (ix.getD (i + 1) 0) := by rw [e177, b2]
      have q2 : dp_I (rnM N l i) 178 (60 + i) = nI (ix.getD m 0) := by rw [e178, b2]
      have a6 := hix (i + 1) m1
      have b6 := hix m m2
      have f1 : fL l i = nI (i + 1) := by unfold fL; rw [if_pos b1]
      have f2 : fR l i = nI m := by
        unfold fR
        have := m4 []
        rw [List.append_nil] at this
        rw [if_pos b1, ← this]
      have n1 : dp_I (rnM N l i) 187 (ix.getD (i + 1) 0) = fL l i := by rw [rnM_I _ (by decide) (by decide), f1]; exact hnum (i + 1) m1
      have n2 : dp_I (dp_setI (rnM N l i) 177 (60 + i) (fL l i)) 187 (ix.getD m 0) = fR l i := by rw [gII, if_neg (by decide), rnM_I _ (by decide) (by decide), f2]; exact hnum m m2
      have q2' : dp_I (dp_setI (rnM N l i) 177 (60 + i) (fL l i)) 178 (60 + i) = nI (ix.getD m 0) := by rw [gII, if_neg (by decide)]; exact q2
      rw [q1, if_neg (m1n (by omega))]
      simp only [nI_cl (show ix.getD (i + 1) 0 < 2147483648 by omega), nI_o (show ix.getD (i + 1) 0 < 60 by omega) (by omega), if_false, n1, q2', nI_cl (show ix.getD m 0 < 2147483648 by omega), nI_o (show ix.getD m 0 < 60 by omega) (by omega), n2]
      rw [rnM_s]; exact hr
/-- the tree stands in the model's arrays -/
def FnM (M : dp_M) (l : List Nd) : Prop := l.length ≤ 60 ∧ 1 ≤ l.length ∧ ∀ i, i < l.length → rdN M (60 + i) = (l.getD i v0, fL l i, fR l i) ∧ tN (dp_I M 179 (60 + i)) ≤ 6
theorem m_numbers {l : List Nd} {ix : List Nat} {n y : Nat} (h6 : ∀ y, y < l.length → tN (dp_I M 179 y) ≤ 6) (hR : Rp (rdN M) n y l ix) (hn : n ≤ 100) (hnd : ix.Nodup) (h60' : ∀ x, x ∈ ix → x < l.length) (hl : l.length ≤ 60) : ∃ N, dp_den true xs xl (d + 1) 486 [.ref 114, .int (nI y)] M = vR N ∧ Off Nm_S [92] M N ∧ Cst 0 0 M N ∧ FnM N l ∧ dp_I N 114 92 = nI l.length := by
  have len := hR.len
  have h60 : ∀ x, x ∈ ix → x < 60 := fun x hx => by have := h60' x hx; omega
  obtain ⟨M1, hM1⟩ : ∃ M1, M1 = dp_setI M 186 0 (nI y) := ⟨_, rfl⟩
  have hx : ∀ j, j < l.length → ix.getD j 0 < 60 := fun j hj => h60 _ (by
    rw [List.getD_eq_getElem?_getD, List.getElem?_eq_getElem (by omega)]; exact List.getElem_mem (by omega))
  have hch := fun j hj => rp_ch hR hn j hj
  have nK : ∀ K, K ≠ 186 → dp_I M1 K = dp_I M K := fun K hK => by rw [hM1, gII, if_neg hK]
  have r1 : ∀ y, rdN M1 y = rdN M y := fun y => by
    unfold rdN rwN
    rw [nK 174 (by decide), nK 175 (by decide), nK 176 (by decide), nK 177 (by decide), nK 178 (by decide), nK 179 (by decide), nK 180 (by decide), nK 181 (by decide)]
  have sr : SR (rdN M) [y] l ix := ⟨l, ix, [], [], ⟨n, hR⟩, ⟨rfl, rfl⟩, (List.append_nil _).symm, (List.append_nil _).symm⟩
  have st : dp_den true xs xl (d + 1) 486 [.ref 114, .int (nI y)] M = D_X12_numbers_11 xs xl d (nI y) (nI 0) (nI 1) M1 := by
    rw [D_X12_numbers_0_den, D_X12_numbers_0_eq]
    simp only [dp_w]
    rw [hM1]
    rfl
  obtain ⟨N', ⟨q1, q2, q3, q4, q5⟩, q6⟩ := m_num (xs := xs) (xl := xl) (d := d) (M0 := M) (C := l.length) (v1 := nI y) l [y] ix [] M1 sr hnd h60' (by simp) hl (by rw [hM1]; exact (Off.rr _ _ M).I 186 (by decide) _ _) (by rw [hM1]; exact ⟨Nat.le_refl _, Nat.le_refl _⟩) (fun y _ => r1 y) (fun y hy => by rw [nK 179 (by decide)]; exact h6 y (hy.resolve_right (fun q => by have := q.2; simp at this; omega))) (fun i hi => absurd hi (by simp)) (fun i hi => absurd hi (by simp)) (fun i hi => by
      have : i = 0 := by rw [List.length_singleton] at hi; omega
      subst this
      rw [hM1, gII, if_pos rfl]; exact uI_s _ _ _)
  have q6' := q6 _ (m_ren (xs := xs) (xl := xl) (d := d) (v1 := nI y) (v3 := 0) hl hx hch q4 q5)
  refine ⟨dp_setI (rnM N' l l.length) 114 92 (nI l.length), by rw [st]; exact q6', ?_, ?_, ⟨hl, len.2, fun i hi => ?_⟩, by rw [gII, if_pos rfl, uI_s]⟩
  · refine Off.F 92 (by decide) _ (Off.tr (q1.mono (fun _ h => h) (by simp)) ?_)
    unfold rnM
    exact ((Off.rr _ _ N').rI 177 (by decide) _).rI 178 (by decide) _
  · exact q2
  · have c1 := (hch i hi).1
    have cp := q4 i hi
    have cp' : rdN N' (60 + i) = rdN M (ix.getD i 0) := cp
    have f1 : (rdN N' (60 + i)).1 = l.getD i v0 := by rw [cp', c1]
    have e177 : dp_I (rnM N' l l.length) 177 (60 + i) = fL l i := by rw [rnM_177, fN_in hi]
    have e178 : dp_I (rnM N' l l.length) 178 (60 + i) = fR l i := by rw [rnM_178, fN_in hi]
    have e179 : dp_I (rnM N' l l.length) 179 = dp_I N' 179 := rnM_I _ (by decide) (by decide)
    refine ⟨?_, by rw [gII, if_neg (by decide), e179]; exact q3 _ (by omega) (by omega)⟩
    rw [rd_114, ← f1]
    unfold rdN rwN
    rw [e177, e178, e179, rnM_I 174 (by decide) (by decide), rnM_I 175 (by decide) (by decide), rnM_I 176 (by decide) (by decide), rnM_I 180 (by decide) (by decide), rnM_I 181 (by decide) (by decide)]
end RZ
