-- needs: 71 72 73 74 75 76 77
/-! DECLARATIONS: the ask of a declaration -/
section DG
variable {xs : Nat → Int32} {xl d : Nat} {M : dp_M}
theorem dm_af {A i : Nat} (hA : A ≤ 400) (h : dp_I M 114 111 = nI A) (hk : DAk M A i) : dp_den true xs xl (d + 1) 570 [.ref 114, .int (nI i)] M = iR (dp_I M 109 i) M := by
  rw [D_X12_askFor_0_den, D_X12_askFor_0_eq]
  simp only [dp_w]
  rcases hk with ⟨h1, h2⟩ | ⟨a, h1, h2, h3, h4⟩
  · rw [h1]
    refine lpb (F := fun (_ : Nat) k => D_X12_askFor_4 xs xl d (nI i) (-1) (nI k) M) (s := fun _ => 0) (N := A) ?_ (fun k hk hr => ?_)
    · (try dsimp only)
      rw [D_X12_askFor_4_eq, h, if_pos (nI_lle (Nat.le_refl _) (by omega))]
    · (try dsimp only at hr); (try dsimp only)
      rw [D_X12_askFor_4_eq, h, if_neg (nI_nge hk (by omega))]
      simp only [nI_cl (show k < 2147483648 by omega), nI_o (show k < 400 by omega) (by omega), if_false, dp_w, nI_1]
      rw [if_neg (h2 k hk)]; exact hr
  · rw [h2]
    have key := lpb (F := fun (v : Int32) k => D_X12_askFor_4 xs xl d (nI i) v (nI k) M) (s := fun k => if k ≤ a then -1 else nI a) (N := A) (r := (.inl (some (.int (nI a))), M)) ?_ (fun k hk hr => ?_)
    · (try dsimp only at key)
      rw [if_pos (by omega)] at key; exact key
    · (try dsimp only)
      rw [if_neg (by omega), D_X12_askFor_4_eq, h, if_pos (nI_lle (Nat.le_refl _) (by omega))]
    · (try dsimp only at hr); (try dsimp only)
      rw [D_X12_askFor_4_eq, h, if_neg (nI_nge hk (by omega))]
      simp only [nI_cl (show k < 2147483648 by omega), nI_o (show k < 400 by omega) (by omega), if_false, dp_w, nI_1]
      by_cases z : k = a
      · subst z
        rw [if_neg (by omega)] at hr
        rw [if_pos h3]; exact hr
      · rw [if_neg (fun q => z (h4 k hk q))]
        by_cases y : k ≤ a
        · rw [if_pos (by omega)] at hr
          rw [if_pos y]; exact hr
        · rw [if_neg (by omega)] at hr
          rw [if_neg y]; exact hr
end DG
