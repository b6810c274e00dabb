-- needs: 71 72 73 74 75 76 77
/-! DECLARATIONS: declare, side by side -/
theorem if7 {α : Type} {a b c e f g h : Prop} [Decidable a] [Decidable b] [Decidable c] [Decidable e] [Decidable f] [Decidable g] [Decidable h] {X Y : α} (n : ¬ (a ∧ b ∧ c ∧ e ∧ f ∧ g ∧ h)) : (if a then (if b then (if c then (if e then (if f then (if g then (if h then Y else X) else X) else X) else X) else X) else X) else X) = X := by
  by_cases h1 : a
  · rw [if_pos h1]
    by_cases h2 : b
    · rw [if_pos h2]
      by_cases h3 : c
      · rw [if_pos h3]
        by_cases h4 : e
        · rw [if_pos h4]
          by_cases h5 : f
          · rw [if_pos h5]
            by_cases h6 : g
            · rw [if_pos h6, if_neg (fun h7 => n ⟨h1, h2, h3, h4, h5, h6, h7⟩)]
            · rw [if_neg h6]
          · rw [if_neg h5]
        · rw [if_neg h4]
      · rw [if_neg h3]
    · rw [if_neg h2]
  · rw [if_neg h1]
theorem if7' {α : Type} {a b c e f g h : Prop} [Decidable a] [Decidable b] [Decidable c] [Decidable e] [Decidable f] [Decidable g] [Decidable h] {X Y : α} (n : a ∧ b ∧ c ∧ e ∧ f ∧ g ∧ h) : (if a then (if b then (if c then (if e then (if f then (if g then (if h then Y else X) else X) else X) else X) else X) else X) else X) = Y := by
  obtain ⟨h1, h2, h3, h4, h5, h6, h7⟩ := n
  rw [if_pos h1, if_pos h2, if_pos h3, if_pos h4, if_pos h5, if_pos h6, if_pos h7]
theorem qmx {α : Type} {v c : Int32} {n : Nat} {X Y : α} (hc : c = nI n) (hn : n < 2147483648) : (if v < 0 then X else if c ≤ v then X else Y) = if qin v n then Y else X := by
  subst hc
  by_cases z : qin v n
  · have z' := z
    obtain ⟨j, hj, rfl⟩ := qin_of z hn
    rw [if_pos z', if_neg (nI_nn (by omega)), if_neg (nI_nge hj hn)]
  · rw [if_neg z]
    by_cases y : v < 0
    · rw [if_pos y]
    · rw [if_neg y]
      rw [qin_iff] at z
      rw [Int32.lt_iff_toInt_lt] at y
      have e : (0 : Int32).toInt = 0 := rfl
      rw [if_pos (by rw [Int32.le_iff_toInt_le, nI_toInt hn]; omega)]
section DE
variable {xs : Nat → Int32} {xl d : Nat} {M : dp_M}
theorem dc_hold {v : Int32} : dp_den true xs xl (d + 2) 321 [.int v] M = iR (bI (qin v 8)) M := by
  rw [D_X11_isHolder_0_den, D_X11_isHolder_0_eq]; exact q_cr (by decide)
theorem dc_desk {v : Int32} : dp_den true xs xl (d + 2) 322 [.int v] M = iR (bI (qin v 4)) M := by
  rw [D_X11_isDesk_0_den, D_X11_isDesk_0_eq]; exact q_cr (by decide)
theorem dc_land {v : Int32} : dp_den true xs xl (d + 2) 298 [.int v] M = iR (bI (qin v 16)) M := by
  rw [D_X11_isLand_0_den, D_X11_isLand_0_eq]; exact q_cr (by decide)
theorem dc_day {v : Int32} : dp_den true xs xl (d + 2) 261 [.int v] M = iR (bI (qin v 10001)) M := by
  rw [D_X11_isDay_0_den, D_X11_isDay_0_eq]; exact q_cr (by decide)
theorem dm_hold {v : Int32} : dp_den true xs xl (d + 1) 516 [.int v] M = iR (bI (qin v 8)) M := by
  rw [D_X12_isHolder_0_den, D_X12_isHolder_0_eq]; exact q_mr (c := 8) (n := 8) rfl (by omega)
theorem dm_land {v : Int32} : dp_den true xs xl (d + 2) 444 [.int v] M = iR (bI (qin v 16)) M := by
  rw [D_X12_isLand_0_den, D_X12_isLand_0_eq]; exact q_mc (by decide)
theorem dm_day {v : Int32} : dp_den true xs xl (d + 2) 445 [.int v] M = iR (bI (qin v 10001)) M := by
  rw [D_X12_isDay_0_den, D_X12_isDay_0_eq]; exact q_mc (by decide)
def dmN (N : dp_M) (D : Nat) (a b c e l y : Int32) (p : Int64) : dp_M := dp_setI (dp_setI (dp_setJ (dp_setI (dp_setI (dp_setI (dp_setI (dp_setI (dp_setI (dp_setI N 114 0 0) 233 D a) 234 D b) 235 D c) 236 D e) 237 D l) 238 D y) 239 D p) 244 D (-1)) 114 160 (nI (D + 1))
/-- the model's loop -/
theorem dm_loop {D g : Nat} {b c e l y : Int32} {p : Int64} (hD : D ≤ 400) (h : dp_I M 114 160 = nI D) : D_X12_declare_79 xs xl (d + 1) (nI g) b c e l y p 0 0 M = if an (tkf (dp_I M 233) (dp_I M 241) g) D = true ∨ D = 400 then iR 0 (dp_setI M 114 0 2) else iR (nI D) (dmN M D (nI g) b c e l y p) := by
  obtain ⟨r, hr⟩ : ∃ r : dp_Res, (if an (tkf (dp_I M 233) (dp_I M 241) g) D = true ∨ D = 400 then iR 0 (dp_setI M 114 0 2) else iR (nI D) (dmN M D (nI g) b c e l y p)) = some r := by
    by_cases z : an (tkf (dp_I M 233) (dp_I M 241) g) D = true ∨ D = 400
    · rw [if_pos z]; exact ⟨_, rfl⟩
    · rw [if_neg z]; exact ⟨_, rfl⟩
  rw [hr]
  have key := lpb (F := fun (_ : Nat) i => D_X12_declare_79 xs xl (d + 1) (nI g) b c e l y p (bI (an (tkf (dp_I M 233) (dp_I M 241) g) i = true)) (nI i) M) (s := fun _ => 0) (N := D) (r := r) ?_ (fun i hi hq => ?_)
  · (try dsimp only at key)
    rw [bI_f (show ¬ an (tkf (dp_I M 233) (dp_I M 241) g) 0 = true by rw [an]; decide)] at key; exact key
  · (try dsimp only)
    rw [D_X12_declare_79_eq, h, if_pos (nI_lle (Nat.le_refl _) (by omega)), ibz]
    simp only [q_ref, rb_bi]
    by_cases z : an (tkf (dp_I M 233) (dp_I M 241) g) D = true
    · rw [if_pos (Or.inl z)] at hr
      rw [if_pos z]; exact hr
    · rw [if_neg z]
      by_cases y' : D = 400
      · rw [if_pos (Or.inr y')] at hr
        rw [if_pos (by rw [y']; rfl)]; exact hr
      · rw [if_neg (fun q => q.elim z y')] at hr
        rw [if_neg (show ¬ nI (D) = (400 : Int32) from fun e => absurd ((nI_eq (a := D) (b := 400) (by omega) (by omega)).mp e) (by omega))]
        simp only [dp_w]
        rw [show dp_I (dp_setI M 114 0 0) 114 160 = nI D by rw [gII, if_pos rfl, uI_n (by decide)]; exact h]
        simp only [nI_cl (show D < 2147483648 by omega), nI_o (show D < 400 by omega) (by omega), if_false, gII, gIJ, Nat.reduceEqDiff, if_true, uI_n (show (160 : Nat) ≠ 0 by decide), h, nI_1]
        exact hr
  · (try dsimp only at hq); (try dsimp only)
    rw [an] at hq
    rw [D_X12_declare_79_eq, h, if_neg (nI_nge hi (by omega)), ibz]
    simp only [nI_cl (show i < 2147483648 by omega), nI_o (show i < 400 by omega) (by omega), if_false, dp_w, nI_1]
    by_cases z : an (tkf (dp_I M 233) (dp_I M 241) g) i = true
    · rw [z, Bool.true_or, bI_t rfl] at hq
      rw [if_pos z]; exact hq
    · rw [if_neg z]
      rw [Bool.eq_false_iff.mpr z, Bool.false_or] at hq
      by_cases y1 : dp_I M 233 i = nI g
      · rw [if_pos y1]
        by_cases y2 : dp_I M 241 i = 4
        · rw [bI_f (fun q => (tkf_t.mp q).2 y2)] at hq
          rw [if_pos y2]; exact hq
        · rw [bI_t (tkf_t.mpr ⟨y1, y2⟩)] at hq
          rw [if_neg y2]; exact hq
      · rw [bI_f (fun q => y1 (tkf_t.mp q).1)] at hq
        rw [if_neg y1]; exact hq
end DE
