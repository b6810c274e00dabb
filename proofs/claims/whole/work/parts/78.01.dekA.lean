/-! DECLARATIONS: amount -/
section DB
variable {xs : Nat → Int32} {xl d : Nat} {M : dp_M}
theorem DAk.c {M M' : dp_M} {A i : Nat} (h : DAk M A i) (e1 : dp_I M' 109 i = dp_I M 109 i) (e2 : ∀ a, a < A → dp_I M' 196 a = dp_I M 196 a) : DAk M' A i := by
  rcases h with ⟨h1, h2⟩ | ⟨a, h1, h2, h3, h4⟩
  · exact Or.inl ⟨by rw [e1]; exact h1, fun a ha => by rw [e2 a ha]; exact h2 a ha⟩
  · exact Or.inr ⟨a, h1, by rw [e1]; exact h2, by rw [e2 a h1]; exact h3, fun b hb => by rw [e2 b hb]; exact h4 b hb⟩
/-- only facts of one declaration's amounts change -/
theorem DBd.unit {K : dp_M} {D A R i u : Nat} {v : Int64} (h : DBd M D A R) (hi : i < D) (hu : u < 8) (hv1 : -1 ≤ v.toInt) (hv2 : v.toInt ≤ 100000000) (o : Off [111, 240] [0] M K) (e111 : dp_J K 111 = uI (dp_J M 111) (i * 23 + (15 + u)) v) (e240 : dp_J K 240 = uI (dp_J M 240) (i * 8 + u) v) : DBd K D A R := by
  obtain ⟨h1, h2, h3, h4, h5, h6, h7, h8, h9, h10, h11, h12, h13⟩ := h
  have q : ∀ k ∈ RelD_S, k < 246 ∧ k ≠ 114 := by decide
  have e : ∀ k ∈ RelD_S, k ≠ 111 → k ≠ 240 → dp_I K k = dp_I M k ∧ dp_J K k = dp_J M k := fun k hk n1 n2 => ⟨(o.1 k (q k hk).1 (by simp only [List.mem_cons, List.not_mem_nil, or_false]; omega) (q k hk).2).1, (o.1 k (q k hk).1 (by simp only [List.mem_cons, List.not_mem_nil, or_false]; omega) (q k hk).2).2.1⟩
  have f : ∀ j, j ≠ 0 → dp_I K 114 j = dp_I M 114 j := fun j hj => (o.2.1 j (by simp only [List.mem_cons, List.not_mem_nil, or_false]; exact hj)).1
  have t : ∀ j k, k < 15 → dp_J K 111 (j * 23 + k) = dp_J M 111 (j * 23 + k) := fun j k hk => by rw [e111, uI_n (by omega)]
  refine ⟨h1, by rw [(e 108 (by decide) (by decide) (by decide)).1]; exact h2, by rw [f 160 (by decide)]; exact h3, by rw [f 111 (by decide)]; exact h4, h5, by rw [f 133 (by decide)]; exact h6, h7, fun j hj => ?_, fun j hj1 hj2 => ?_, fun a ha => by rw [(e 196 (by decide) (by decide) (by decide)).1]; exact h10 a ha, fun g hg => by rw [(e 110 (by decide) (by decide) (by decide)).1, (e 233 (by decide) (by decide) (by decide)).1, (e 241 (by decide) (by decide) (by decide)).1]; exact h11 g hg, by rw [(e 241 (by decide) (by decide) (by decide)).1, (e 243 (by decide) (by decide) (by decide)).1]; exact h12, by rw [(e 241 (by decide) (by decide) (by decide)).1, (e 233 (by decide) (by decide) (by decide)).1]; exact h13⟩
  · obtain ⟨k1, k2, k3, k4⟩ := h8 j hj
    refine ⟨?_, ?_, fun w hw => ?_, k4.c (by rw [(e 109 (by decide) (by decide) (by decide)).1]) (fun a _ => by rw [(e 196 (by decide) (by decide) (by decide)).1])⟩
    · unfold DFa at k1 ⊢
      rw [t j 0 (by omega), t j 1 (by omega), t j 2 (by omega), t j 3 (by omega), t j 4 (by omega), t j 5 (by omega), t j 6 (by omega), (e 233 (by decide) (by decide) (by decide)).1, (e 234 (by decide) (by decide) (by decide)).1, (e 235 (by decide) (by decide) (by decide)).1, (e 236 (by decide) (by decide) (by decide)).1, (e 237 (by decide) (by decide) (by decide)).1, (e 238 (by decide) (by decide) (by decide)).1, (e 239 (by decide) (by decide) (by decide)).2]; exact k1
    · unfold DSt at k2 ⊢
      rw [t j 7 (by omega), t j 8 (by omega), t j 9 (by omega), t j 10 (by omega), (e 241 (by decide) (by decide) (by decide)).1, (e 242 (by decide) (by decide) (by decide)).2, (e 243 (by decide) (by decide) (by decide)).1, (e 244 (by decide) (by decide) (by decide)).1, (e 215 (by decide) (by decide) (by decide)).1, (e 96 (by decide) (by decide) (by decide)).2]; exact k2
    · rw [e111, e240]
      by_cases z : j = i ∧ w = u
      · obtain ⟨rfl, rfl⟩ := z
        rw [uI_s, uI_s]; exact ⟨rfl, hv1, hv2⟩
      · rw [uI_n (by omega), uI_n (by omega)]; exact k3 w hw
  · obtain ⟨k1, k2, k3, k4, k5, k6, k7⟩ := h9 j hj1 hj2
    unfold DNw
    rw [t j 7 (by omega), t j 8 (by omega), t j 9 (by omega), (e 241 (by decide) (by decide) (by decide)).1, (e 242 (by decide) (by decide) (by decide)).2, (e 243 (by decide) (by decide) (by decide)).1]
    exact ⟨k1, k2, k3, k4, k5, k6, fun w hw => by rw [e240, uI_n (by omega)]; exact k7 w hw⟩
theorem s_amount (h : RelD M) (v1 v2 : Int32) (v3 : Int64) : ∃ v M1 M2, dp_den true xs xl (d + 5) 349 [.ref 0, .int v1, .int v2, .long v3] M = iR v M1 ∧ dp_den true xs xl (d + 5) 569 [.ref 114, .int v1, .int v2, .long v3] M1 = iR v M2 ∧ RelD M2 ∧ Off [111, 240] [0] M M2 ∧ Cst 0 0 M M2 := by
  obtain ⟨D, A, R, hb⟩ := h
  have hb0 := hb
  obtain ⟨h1, h2, h3, h4, h5, h6, h7, h8, h9, h10, h11, h12, h13⟩ := hb
  have st : ∀ i, i < D → dp_J M 111 (i * 23 + 7) = (dp_I M 241 i).toInt64 := fun i hi => (h8 i hi).2.1.1
  have same : RelD (dp_setI M 114 0 0) ∧ Off [111, 240] [0] M (dp_setI M 114 0 0) ∧ Cst 0 0 M (dp_setI M 114 0 0) := ⟨(RelD.same ⟨D, A, R, hb0⟩).1, (Off.rr _ _ M).F 0 (by decide) 0, ⟨Nat.le_refl _, Nat.le_refl _⟩⟩
  have m3 : ∀ N : dp_M, dp_I N 114 160 = nI D → dp_I (dp_setI N 114 0 0) 114 160 = nI D := fun N q => by rw [gII, if_pos rfl, uI_n (by decide)]; exact q
  have e241 : ∀ N : dp_M, dp_I (dp_setI N 114 0 0) 241 = dp_I N 241 := fun N => by rw [gII, if_neg (by decide)]
  have am : (-1 ≤ v3 ∧ v3 ≤ 100000000) ↔ (v3 = -1 ∨ (0 ≤ v3 ∧ v3 ≤ 100000000)) := by
    rw [Int64.le_iff_toInt_le, Int64.le_iff_toInt_le, Int64.le_iff_toInt_le, ← Int64.toInt_inj]
    have e1 : (-1 : Int64).toInt = -1 := rfl
    have e2 : (0 : Int64).toInt = 0 := rfl
    have e3 : (100000000 : Int64).toInt = 100000000 := rfl
    omega
  by_cases g : (qin v1 D ∧ dp_I M 241 v1.toNatClampNeg = 0) ∧ qin v2 8 ∧ (-1 ≤ v3 ∧ v3 ≤ 100000000)
  case neg =>
    refine ⟨0, M, dp_setI M 114 0 0, ?_, ?_, same⟩
    · rw [D_X11_amount_0_den, D_X11_amount_0_eq, dc_in h2 h1 st, rb_bi, ibz]
      by_cases z1 : qin v1 D ∧ dp_I M 241 v1.toNatClampNeg = 0
      · rw [if_pos z1]
        simp only [q_win, rb_bi, ibz, w_7]
        by_cases z2 : qin v2 8
        · rw [if_pos z2, if_neg (fun q => g ⟨z1, z2, q⟩)]
        · rw [if_neg z2]
      · rw [if_neg z1]
    · rw [D_X12_amount_0_den, D_X12_amount_0_eq]
      simp only [dp_w]
      rw [dm_in (m3 M h3) h1, rb_bi, ibz, e241]
      by_cases z1 : qin v1 D ∧ dp_I M 241 v1.toNatClampNeg = 0
      · rw [if_pos z1]
        simp only [q_min, rb_bi, ibz, w_7, lg_cmp_eq, D_X12_isAmount_0_den, D_X12_isAmount_0_eq, rb_ok]
        by_cases z2 : qin v2 8
        · have z3 : ¬ (v3 = -1 ∨ (0 ≤ v3 ∧ v3 ≤ 100000000)) := fun q => g ⟨z1, z2, am.mpr q⟩
          rw [if_pos z2, if_neg (fun q => z3 (Or.inl q)), if_neg (fun q => z3 (Or.inr q))]
        · rw [if_neg z2]
      · rw [if_neg z1]
  obtain ⟨z1, z2, z3⟩ := g
  have z1' := z1
  have z2' := z2
  obtain ⟨i, hi, rfl⟩ := qin_of z1.1 (by omega)
  obtain ⟨u, hu, rfl⟩ := qin_of z2 (by omega)
  obtain ⟨K, hK⟩ : ∃ K, K = dp_setJ (dp_setI (dp_setJ M 111 (i * 23 + (15 + u)) v3) 114 0 0) 240 (i * 8 + u) v3 := ⟨_, rfl⟩
  have oK : Off [111, 240] [0] M K := by rw [hK]; exact (((Off.rr _ _ M).J 111 (by decide) _ _).F 0 (by decide) 0).J 240 (by decide) _ _
  refine ⟨1, dp_setJ M 111 (i * 23 + (15 + u)) v3, K, ?_, ?_, ⟨D, A, R, hb0.unit (v := v3) hi hu ?_ ?_ oK ?_ ?_⟩, oK, by rw [hK]; exact ⟨Nat.le_refl _, Nat.le_refl _⟩⟩
  · rw [D_X11_amount_0_den, D_X11_amount_0_eq, dc_in h2 h1 st, rb_bi, ibz, if_pos z1']
    simp only [q_win, rb_bi, ibz, w_7]
    rw [if_pos z2', if_pos z3, D_X0_setAmount_0_den, D_X0_setAmount_0_eq, dc_set (k := 15 + u) (by rw [show (15 : Int32) = nI 15 from rfl, nI_add]) (by omega) (by omega), rb_bv, rb_bv]
  · rw [D_X12_amount_0_den, D_X12_amount_0_eq]
    simp only [dp_w]
    rw [dm_in (m3 _ (by rw [gIJ]; exact h3)) h1, rb_bi, ibz, e241, gIJ, if_pos z1']
    simp only [q_min, rb_bi, ibz, w_7, lg_cmp_eq, D_X12_isAmount_0_den, D_X12_isAmount_0_eq, rb_ok, t_8d, nI_cl (show i * 8 + u < 2147483648 by omega), nI_o (show i * 8 + u < 3200 by omega) (by omega), if_false]
    rw [if_pos z2', ← hK]
    by_cases z4 : v3 = -1
    · rw [if_pos z4]
    · rw [if_neg z4, if_pos ((am.mp z3).resolve_left z4)]
  · have := z3.1; rw [Int64.le_iff_toInt_le] at this; exact this
  · have := z3.2; rw [Int64.le_iff_toInt_le] at this; exact this
  · rw [hK, gJJ, if_neg (by decide), gJI, gJJ, if_pos rfl]
  · rw [hK, gJJ, if_pos rfl, gJI, gJJ, if_neg (by decide)]
end DB
