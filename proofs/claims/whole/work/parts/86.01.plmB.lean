-- needs: 71 72 73 74 75 76 77 78 85
/-! PLAN: the model's comes -/
section PmB
variable {xs : Nat → Int32} {xl d : Nat} {M : dp_M}
theorem m_comes {N : Nat} {w : Int64} {f b : Int32} (h : HI (dp_I M 129) (dp_J M 126) N) (hw : dp_I M 114 19 = nI N) (hN : N < 2047) :
    ∃ M', dp_den true xs xl (d + 1) 385 [.ref 114, .long w, .int f, .int b] M = vR M' ∧
      ((∃ j, j < N ∧ dp_J M 126 j = w ∧ M' = M) ∨ ((∀ j, j < N → ¬ dp_J M 126 j = w) ∧ dp_I M' 114 19 = nI (N + 1) ∧ HI (dp_I M' 129) (dp_J M' 126) (N + 1) ∧ dp_J M' 126 = uI (dp_J M 126) N w ∧ dp_I M' 127 = uI (dp_I M 127) N f ∧ dp_I M' 128 = uI (dp_I M 128) N b ∧
        Off [126, 127, 128, 129] [19] M M' ∧ dp_n M' = dp_n M ∧ dp_z M' = dp_z M)) := by
  have key := lpw (F := fun t : Nat => D_X12_comes_15 xs xl d w f b (nI ((hsh w + t) % 4096)) M) (fun t => 4096 - t)
    (Inv := fun t => t ≤ 4096 ∧ ∀ u, u < t → ¬ dp_I M 129 ((hsh w + u) % 4096) = 0 ∧ ∀ j, j < N → dp_I M 129 ((hsh w + u) % 4096) = nI (j + 1) → ¬ dp_J M 126 j = w)
    (Post := fun r => ∃ M', r = (.inl none, M') ∧ ((∃ j, j < N ∧ dp_J M 126 j = w ∧ M' = M) ∨ ((∀ j, j < N → ¬ dp_J M 126 j = w) ∧ dp_I M' 114 19 = nI (N + 1) ∧ HI (dp_I M' 129) (dp_J M' 126) (N + 1) ∧ dp_J M' 126 = uI (dp_J M 126) N w ∧ dp_I M' 127 = uI (dp_I M 127) N f ∧ dp_I M' 128 = uI (dp_I M 128) N b ∧
        Off [126, 127, 128, 129] [19] M M' ∧ dp_n M' = dp_n M ∧ dp_z M' = dp_z M))) ?_ 0 ⟨Nat.zero_le _, fun u hu => absurd hu (Nat.not_lt_zero u)⟩
  · obtain ⟨r, hr, M', rfl, q⟩ := key
    refine ⟨M', ?_, q⟩
    rw [D_X12_comes_0_den, D_X12_comes_0_eq]
    have e := hs_e w
    (try dsimp only at hr)
    rw [hsw] at e
    rw [dp_w, e]
    exact hr
  · rintro t ⟨ht, hb⟩
    have ht' : t < 4096 := by
      by_cases z : t = 4096
      · exact absurd (fun u hu => (hb u (by omega)).1) (h.room (by omega) (hsh w))
      · omega
    obtain ⟨s, es⟩ : ∃ s, s = (hsh w + t) % 4096 := ⟨_, rfl⟩
    have hs : s < 4096 := by rw [es]; exact Nat.mod_lt _ (by decide)
    obtain ⟨x, hx, ex⟩ := h.1 s hs
    (try dsimp only)
    rw [← es]
    by_cases z : x = 0
    · left
      rw [z] at ex
      have he : dp_I M 129 ((hsh w + t) % 4096) = 0 := by rw [← es, ex]; rfl
      refine ⟨_, ?_, dp_setI (dp_setI (dp_setI (dp_setI (dp_setJ M 126 N w) 127 N f) 128 N b) 114 19 (nI (N + 1))) 129 s (nI (N + 1)), rfl, Or.inr ⟨h.new (by omega) ht' he (fun u hu => (hb u hu).2), ?_, ?_, ?_, ?_, ?_, ?_, rfl, rfl⟩⟩
      · rw [D_X12_comes_15_eq, if_neg (nI_inn hs (by omega)), nI_cl (by omega), ex, if_pos (show nI 0 ≤ (0 : Int32) by decide)]
        have c1 : dp_I (dp_setJ M 126 N w) 114 19 = nI N := by rw [gIJ]; exact hw
        have c2 : dp_I (dp_setI (dp_setJ M 126 N w) 127 N f) 114 19 = nI N := by rw [gII, if_neg (by decide)]; exact c1
        have c3 : dp_I (dp_setI (dp_setI (dp_setJ M 126 N w) 127 N f) 128 N b) 114 19 = nI N := by rw [gII, if_neg (by decide)]; exact c2
        have c4 : dp_I (dp_setI (dp_setI (dp_setI (dp_setJ M 126 N w) 127 N f) 128 N b) 114 19 (nI (N + 1))) 114 19 = nI (N + 1) := by rw [gII, if_pos rfl, uI_s]
        simp only [dp_w, hw, c1, c2, c3, nI_cl (show N < 2147483648 by omega), nI_o (show N < 2048 by omega) (by omega), if_false, nI_1, c4, nI_o hs (show s < 2147483648 by omega)]
      · rw [gII, if_neg (by decide), gII, if_pos rfl, uI_s]
      · have e1 : dp_I (dp_setI (dp_setI (dp_setI (dp_setI (dp_setJ M 126 N w) 127 N f) 128 N b) 114 19 (nI (N + 1))) 129 s (nI (N + 1))) 129 = uI (dp_I M 129) s (nI (N + 1)) := by
          rw [gII, if_pos rfl, gII, if_neg (by decide), gII, if_neg (by decide), gII, if_neg (by decide), gIJ]
        have e2 : dp_J (dp_setI (dp_setI (dp_setI (dp_setI (dp_setJ M 126 N w) 127 N f) 128 N b) 114 19 (nI (N + 1))) 129 s (nI (N + 1))) 126 = uI (dp_J M 126) N w := by
          rw [gJI, gJI, gJI, gJI, gJJ, if_pos rfl]
        rw [e1, e2, es]
        exact h.add hN ht' he (fun u hu => (hb u hu).1)
      · rw [gJI, gJI, gJI, gJI, gJJ, if_pos rfl]
      · rw [gII, if_neg (by decide), gII, if_neg (by decide), gII, if_neg (by decide), gII, if_pos rfl, gIJ]
      · rw [gII, if_neg (by decide), gII, if_neg (by decide), gII, if_pos rfl, gII, if_neg (by decide), gIJ]
      · exact (((((Off.rr _ _ M).J 126 (by decide) N w).I 127 (by decide) N f).I 128 (by decide) N b).F 19 (by decide) _).I 129 (by decide) s _
    · obtain ⟨y, ey⟩ : ∃ y, x = y + 1 := ⟨x - 1, by omega⟩
      rw [ey] at ex hx
      have ep : nI (y + 1) - 1 = nI y := by rw [nI_pred]
      by_cases g : dp_J M 126 y = w
      · left
        refine ⟨(.inl none, M), ?_, M, rfl, Or.inl ⟨y, by omega, g, rfl⟩⟩
        rw [D_X12_comes_15_eq, if_neg (nI_inn hs (by omega)), nI_cl (by omega), ex, if_neg (show ¬ nI (y + 1) ≤ (0 : Int32) from nI_nge (n := y + 1) (i := 0) (by omega) (by omega)), ep, nI_cl (by omega)]
        simp only [nI_o hs (show s < 2147483648 by omega), nI_o (show y < 2048 by omega) (by omega), if_false]
        rw [if_pos ((lg_cmp_eq _ _).mpr g)]
      · right
        refine ⟨t + 1, ⟨by omega, fun u hu => ?_⟩, by omega, fun r hr => ?_⟩
        · by_cases e : u = t
          · subst e
            rw [← es, ex]
            refine ⟨fun q => by rw [show (0 : Int32) = nI 0 from rfl, nI_eq (by omega) (by omega)] at q; omega, fun j hj e => ?_⟩
            rw [nI_eq (by omega) (by omega)] at e
            rw [show j = y by omega]; exact g
          · exact hb u (by omega)
        · (try dsimp only at hr)
          rw [D_X12_comes_15_eq, if_neg (nI_inn hs (by omega)), nI_cl (by omega), ex, if_neg (show ¬ nI (y + 1) ≤ (0 : Int32) from nI_nge (n := y + 1) (i := 0) (by omega) (by omega)), ep, nI_cl (by omega)]
          simp only [nI_o hs (show s < 2147483648 by omega), nI_o (show y < 2048 by omega) (by omega), if_false, dp_w, nI_1]
          rw [if_neg (fun q => g ((lg_cmp_eq _ _).mp q))]
          have e : nI (s + 1) &&& (4095 : Int32) = nI ((hsh w + (t + 1)) % 4096) := by
            rw [show (4095 : Int32) = nI 4095 from rfl, nI_and (by omega) (by omega), show (4095 : Nat) = 2 ^ 12 - 1 from rfl, Nat.and_two_pow_sub_one_eq_mod]
            congr 1
            rw [show (2 : Nat) ^ 12 = 4096 from rfl]; omega
          rw [e]; exact hr
end PmB
