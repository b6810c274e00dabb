/-! THE TARIFF: what is in an area -/
def stp (m : Nat → Int32) (g : Nat) (v : Int32) : Int32 := if tb v (16 + g) = true then v ||| m g else v
def rnd (m : Nat → Int32) (v : Int32) : Nat → Int32
  | 0 => v
  | n + 1 => stp m n (rnd m v n)
def rds (m : Nat → Int32) (v : Int32) : Nat → Int32
  | 0 => v
  | n + 1 => rnd m (rds m v n) 8
def clo (m : Nat → Int32) (v : Int32) : Prop := ∀ g, g < 8 → tb v (16 + g) = true → ∀ j, tb (m g) j = true → tb v j = true
def cg (v : Int32) : Nat := ct (fun g => tb v (16 + g)) 8
theorem stp_mono {m : Nat → Int32} {g j : Nat} {v : Int32} (h : tb v j = true) : tb (stp m g v) j = true := by
  unfold stp; split
  · rw [tb_or, h]; rfl
  · exact h
theorem rnd_mono {m : Nat → Int32} {j : Nat} {v : Int32} (h : tb v j = true) : ∀ n, tb (rnd m v n) j = true
  | 0 => h
  | n + 1 => stp_mono (rnd_mono h n)
theorem rnd_has {m : Nat → Int32} {g j : Nat} {v : Int32} (hv : tb v (16 + g) = true) (hj : tb (m g) j = true) : ∀ n, g < n → tb (rnd m v n) j = true
  | 0, h => by omega
  | n + 1, h => by
    by_cases e : g = n
    · subst e
      rw [rnd, stp, if_pos (rnd_mono hv g), tb_or, hj]; simp
    · exact stp_mono (rnd_has hv hj n (by omega))
theorem rnd_min {m : Nat → Int32} {v w : Int32} (hw : clo m w) (h : ∀ j, tb v j = true → tb w j = true) : ∀ n, n ≤ 8 → ∀ j, tb (rnd m v n) j = true → tb w j = true
  | 0, _ => h
  | n + 1, hn => fun j hj => by
    have ih := rnd_min hw h n (by omega)
    rw [rnd, stp] at hj
    split at hj
    · rename_i c
      rw [tb_or, Bool.or_eq_true] at hj
      rcases hj with q | q
      · exact ih j q
      · exact hw n (by omega) (ih _ c) j q
    · exact ih j hj
theorem rds_mono {m : Nat → Int32} {j : Nat} {v : Int32} (h : tb v j = true) : ∀ n, tb (rds m v n) j = true
  | 0 => h
  | n + 1 => rnd_mono (rds_mono h n) 8
theorem rds_min {m : Nat → Int32} {v w : Int32} (hw : clo m w) (h : ∀ j, tb v j = true → tb w j = true) : ∀ n j, tb (rds m v n) j = true → tb w j = true
  | 0 => h
  | n + 1 => rnd_min hw (rds_min hw h n) 8 (Nat.le_refl _)
theorem rnd_clo {m : Nat → Int32} {v : Int32} (h : clo m v) : clo m (rnd m v 8) := by
  intro g hg hb j hj
  exact rnd_mono (h g hg (rnd_min h (fun _ q => q) 8 (Nat.le_refl _) _ hb) j hj) 8
theorem rnd_or {m : Nat → Int32} {v : Int32} : clo m (rnd m v 8) ∨ cg v < cg (rnd m v 8) := by
  by_cases c : ∀ g, g < 8 → tb (rnd m v 8) (16 + g) = true → tb v (16 + g) = true
  · exact Or.inl (fun g hg hb j hj => rnd_has (c g hg hb) hj 8 hg)
  · right
    have : ∃ g, g < 8 ∧ tb (rnd m v 8) (16 + g) = true ∧ ¬ tb v (16 + g) = true := by
      apply Classical.byContradiction
      intro q
      apply c
      intro g hg hb
      apply Classical.byContradiction
      intro q2
      exact q ⟨g, hg, hb, q2⟩
    obtain ⟨g, hg, h1, h2⟩ := this
    refine ct_lt (j := g) 8 hg (fun i _ hi => rnd_mono hi 8) ?_ h1
    simpa using h2
theorem rds_or {m : Nat → Int32} {v : Int32} : ∀ n, clo m (rds m v n) ∨ cg v + n ≤ cg (rds m v n)
  | 0 => Or.inr (Nat.le_refl _)
  | n + 1 => by
    rcases rds_or (m := m) (v := v) n with h | h
    · exact Or.inl (rnd_clo h)
    · rcases rnd_or (m := m) (v := rds m v n) with q | q
      · exact Or.inl q
      · right; rw [rds]; omega
theorem rds_clo {m : Nat → Int32} {v : Int32} (h : 1 ≤ cg v ∨ clo m v) : clo m (rds m v 8) := by
  rcases h with h | h
  · rcases rds_or (m := m) (v := v) 8 with q | q
    · exact q
    · have := ct_le (fun g => tb (rds m v 8) (16 + g)) 8
      unfold cg at q h
      omega
  · have : ∀ n, clo m (rds m v n) := fun n => by
      induction n with
      | zero => exact h
      | succ n ih => exact rnd_clo ih
    exact this 8
theorem cg_0 {m : Nat → Int32} {v : Int32} (h : ¬ 1 ≤ cg v) : clo m v := by
  intro g hg hb
  exfalso
  have : ct (fun _ => false) 8 < cg v := ct_lt (j := g) 8 hg (fun _ _ q => by cases q) rfl hb
  have : ct (fun _ => false) 8 = 0 := by decide
  omega
theorem rds_clo' {m : Nat → Int32} {v : Int32} : clo m (rds m v 8) := by
  by_cases h : 1 ≤ cg v
  · exact rds_clo (Or.inl h)
  · exact rds_clo (Or.inr (cg_0 h))
/-- an area that is a group: itself, and what is in it -/
theorem rds_grp {m : Nat → Int32} {s : Nat} (hs : s < 8) {j : Nat} (hj : j < 32) : tb (rds m ((1 : Int32) <<< (nI (16 + s) &&& 31)) 8) j = (decide (j = 16 + s) || tb (rds m (m s) 8) j) := by
  have a := rds_clo' (m := m) (v := (1 : Int32) <<< (nI (16 + s) &&& 31))
  have b := rds_clo' (m := m) (v := m s)
  have a0 : tb (rds m ((1 : Int32) <<< (nI (16 + s) &&& 31)) 8) (16 + s) = true := rds_mono (by rw [tb_one (by omega) (by omega)]; simp) 8
  rw [Bool.eq_iff_iff, Bool.or_eq_true, decide_eq_true_eq]
  constructor
  · intro h
    have w : clo m (((1 : Int32) <<< (nI (16 + s) &&& 31)) ||| rds m (m s) 8) := by
      intro g hg hb k hk
      by_cases hk32 : k < 32
      · rw [tb_or, tb_one (by omega) (by omega), Bool.or_eq_true, decide_eq_true_eq] at hb
        rw [tb_or, Bool.or_eq_true]
        right
        rcases hb with q | q
        · have : g = s := by omega
          subst this
          exact rds_mono hk 8
        · exact b g hg q k hk
      · rw [tb_ge (by omega)] at hk; cases hk
    have := rds_min w (v := (1 : Int32) <<< (nI (16 + s) &&& 31)) (fun k hk => by rw [tb_or, hk]; rfl) 8 j h
    rw [tb_or, tb_one (by omega) hj, Bool.or_eq_true, decide_eq_true_eq] at this
    exact this
  · rintro (q | q)
    · rw [q]; exact a0
    · exact rds_min a (fun k hk => a s hs a0 k hk) 8 j q
/-- a land: itself -/
theorem rds_land {m : Nat → Int32} {s : Nat} (hs : s < 16) : rds m ((1 : Int32) <<< (nI s &&& 31)) 8 = (1 : Int32) <<< (nI s &&& 31) := by
  have h : ∀ n, n ≤ 8 → rnd m ((1 : Int32) <<< (nI s &&& 31)) n = (1 : Int32) <<< (nI s &&& 31) := fun n => by
    induction n with
    | zero => intro _; rfl
    | succ n ih =>
      intro hn
      rw [rnd, ih (by omega), stp, if_neg]
      rw [tb_one (by omega) (by omega)]
      simp; omega
  have : ∀ n, rds m ((1 : Int32) <<< (nI s &&& 31)) n = (1 : Int32) <<< (nI s &&& 31) := fun n => by
    induction n with
    | zero => rfl
    | succ n ih => rw [rds, ih, h 8 (Nat.le_refl _)]
  exact this 8
section TA
variable {xs : Nat → Int32} {xl d : Nat} {M : dp_M}
theorem tc_reach {s : Nat} (hs : s < 24) : dp_den true xs xl (d + 1) 210 [.ref 51, .int (nI s)] M = iR (rds (fun g => dp_I M 65 (16 + g)) ((1 : Int32) <<< (nI s &&& 31)) 8) M := by
  rw [D_X9_reachOf_0_den, D_X9_reachOf_0_eq]
  simp only [dp_w]
  refine lpb (F := fun v n => D_X9_reachOf_7 xs xl d (nI s) v (nI (16 + n)) M) (s := rds (fun g => dp_I M 65 (16 + g)) ((1 : Int32) <<< (nI s &&& 31))) (N := 8) ?_ (fun n hn hr => ?_)
  · show D_X9_reachOf_7 xs xl d (nI s) _ (nI 24) M = _
    rw [D_X9_reachOf_7_eq, if_pos (by decide)]
  · (try dsimp only at hr); (try dsimp only)
    rw [D_X9_reachOf_7_eq, if_neg (show ¬ (24 : Int32) ≤ nI (16 + n) from nI_ge (a := 16 + n) (b := 24) (by omega) (by omega))]
    simp only [dp_w]
    rw [show rds (fun g => dp_I M 65 (16 + g)) ((1 : Int32) <<< (nI s &&& 31)) (n + 1) = rnd (fun g => dp_I M 65 (16 + g)) (rds (fun g => dp_I M 65 (16 + g)) ((1 : Int32) <<< (nI s &&& 31)) n) 8 from rfl] at hr
    generalize rds (fun g => dp_I M 65 (16 + g)) ((1 : Int32) <<< (nI s &&& 31)) n = v at hr
    refine lpb (F := fun v g => D_X9_reachOf_17 xs xl d (nI s) v (nI (16 + n)) (nI (16 + g)) M) (s := rnd (fun g => dp_I M 65 (16 + g)) v) (N := 8) ?_ (fun g hg hr2 => ?_)
    · show D_X9_reachOf_17 xs xl d (nI s) _ (nI (16 + n)) (nI 24) M = _
      rw [D_X9_reachOf_17_eq, if_pos (by decide)]
      simp only [dp_w, nI_1]
      apply D_X9_reachOf_7_to_7_a
      exact hr
    · (try dsimp only at hr2); (try dsimp only)
      rw [D_X9_reachOf_17_eq, if_neg (show ¬ (24 : Int32) ≤ nI (16 + g) from nI_ge (a := 16 + g) (b := 24) (by omega) (by omega))]
      simp only [tb_sh (show 16 + g < 32 by omega), nI_cl (show 16 + g < 2147483648 by omega), nI_o (show 16 + g < 24 by omega) (by omega), if_false, dp_w, nI_1]
      rw [rnd, stp] at hr2
      by_cases c : tb (rnd (fun g => dp_I M 65 (16 + g)) v g) (16 + g) = true
      · rw [if_pos c]; rw [if_pos c] at hr2; exact hr2
      · rw [if_neg c]; rw [if_neg c] at hr2; exact hr2
theorem t_m16 {s : Nat} (hs : s < 8) : nI (16 + s) - 16 = nI s := by
  have : ∀ s, s < 8 → nI (16 + s) - 16 = nI s := by decide
  exact this s hs
theorem t_p16 {s : Nat} : (16 : Int32) + nI s = nI (16 + s) := by rw [show (16 : Int32) = nI 16 from rfl, nI_add]
theorem tm_allIn {s : Nat} (hs : s < 8) : dp_den true xs xl (d + 1) 448 [.ref 114, .int (nI (16 + s))] M = iR (rds (dp_I M 155) (dp_I M 155 s) 8) M := by
  rw [D_X12_allIn_0_den, D_X12_allIn_0_eq]
  simp only [t_m16 hs, nI_cl (show s < 2147483648 by omega), nI_o (show s < 8 by omega) (by omega), if_false, dp_w]
  refine lpb (F := fun v n => D_X12_allIn_12 xs xl d (nI (16 + s)) v (nI n) M) (s := rds (dp_I M 155) (dp_I M 155 s)) (N := 8) ?_ (fun n hn hr => ?_)
  · show D_X12_allIn_12 xs xl d (nI (16 + s)) _ (nI 8) M = _
    rw [D_X12_allIn_12_eq, if_pos (by decide)]
  · (try dsimp only at hr); (try dsimp only)
    rw [D_X12_allIn_12_eq, if_neg (show ¬ (8 : Int32) ≤ nI (n) from nI_ge (a := n) (b := 8) (by omega) (by omega))]
    simp only [dp_w]
    rw [show rds (dp_I M 155) (dp_I M 155 s) (n + 1) = rnd (dp_I M 155) (rds (dp_I M 155) (dp_I M 155 s) n) 8 from rfl] at hr
    generalize rds (dp_I M 155) (dp_I M 155 s) n = v at hr
    refine lpb (F := fun v g => D_X12_allIn_21 xs xl d (nI (16 + s)) v (nI n) (nI g) M) (s := rnd (dp_I M 155) v) (N := 8) ?_ (fun g hg hr2 => ?_)
    · show D_X12_allIn_21 xs xl d (nI (16 + s)) _ (nI n) (nI 8) M = _
      rw [D_X12_allIn_21_eq, if_pos (by decide)]
      simp only [dp_w, nI_1]
      apply D_X12_allIn_12_to_12_a
      exact hr
    · (try dsimp only at hr2); (try dsimp only)
      rw [D_X12_allIn_21_eq, if_neg (show ¬ (8 : Int32) ≤ nI (g) from nI_ge (a := g) (b := 8) (by omega) (by omega))]
      simp only [t_p16, tb_sh (show 16 + g < 32 by omega), nI_cl (show g < 2147483648 by omega), nI_o (show g < 8 by omega) (by omega), if_false, dp_w, nI_1, Int32.or_zero]
      rw [rnd, stp] at hr2
      by_cases c : tb (rnd (dp_I M 155) v g) (16 + g) = true
      · rw [if_pos c]; rw [if_pos c] at hr2; exact hr2
      · rw [if_neg c]; rw [if_neg c] at hr2; exact hr2
end TA
