-- needs: 71 72 73 74 75 76 77
/-! DECLARATIONS: how many are in a state; how many reservations are live -/
section DM
variable {xs : Nat → Int32} {xl d : Nat} {M : dp_M}
def stf (st : Nat → Int32) (w : Int32) (i : Nat) : Bool := decide (st i = w)
theorem stf_t {st : Nat → Int32} {w : Int32} {i : Nat} : stf st w i = true ↔ st i = w := decide_eq_true_iff
theorem dc_many {D A R : Nat} {w : Int32} (h : DBd M D A R) : dp_den true xs xl (d + 4) 7 [.ref 108, .int w] M = iR (nI (ct (stf (dp_I M 241) w) D)) M := by
  obtain ⟨h1, h2, h3, h4, h5, h6, h7, h8, -⟩ := h
  rw [D_X0_inState_0_den, D_X0_inState_0_eq]
  simp only [dp_w]
  refine lpb (F := fun (c : Nat) i => D_X0_inState_4 xs xl (d + 3) w (nI c) (nI i) M) (s := ct (stf (dp_I M 241) w)) (N := D) ?_ (fun i hi hr => ?_)
  · (try dsimp only)
    rw [D_X0_inState_4_eq, h2, if_pos (nI_lle (Nat.le_refl _) (by omega))]
  · (try dsimp only at hr); (try dsimp only)
    rw [show ct (stf (dp_I M 241) w) (i + 1) = ct (stf (dp_I M 241) w) i + (if stf (dp_I M 241) w i then 1 else 0) from rfl] at hr
    rw [D_X0_inState_4_eq, h2, if_neg (nI_nge hi (by omega)), dc_state (by omega) (h8 i hi).2.1.1, rb_bi]
    simp only [dp_w, nI_1, Int32.add_zero]
    by_cases z : dp_I M 241 i = w
    · rw [if_pos (stf_t.mpr z)] at hr
      rw [if_pos z]; exact hr
    · rw [if_neg (fun q => z (stf_t.mp q))] at hr
      rw [if_neg z]; exact hr
theorem dm_many {D : Nat} {w : Int32} (hD : D ≤ 400) (h : dp_I M 114 160 = nI D) : dp_den true xs xl (d + 1) 587 [.ref 114, .int w] M = iR (nI (ct (stf (dp_I M 241) w) D)) M := by
  rw [D_X12_ofState_0_den, D_X12_ofState_0_eq]
  simp only [dp_w]
  refine lpb (F := fun (c : Nat) i => D_X12_ofState_4 xs xl d w (nI c) (nI i) M) (s := ct (stf (dp_I M 241) w)) (N := D) ?_ (fun i hi hr => ?_)
  · (try dsimp only)
    rw [D_X12_ofState_4_eq, h, if_pos (nI_lle (Nat.le_refl _) (by omega))]
  · (try dsimp only at hr); (try dsimp only)
    rw [show ct (stf (dp_I M 241) w) (i + 1) = ct (stf (dp_I M 241) w) i + (if stf (dp_I M 241) w i then 1 else 0) from rfl] at hr
    rw [D_X12_ofState_4_eq, h, if_neg (nI_nge hi (by omega))]
    simp only [nI_cl (show i < 2147483648 by omega), nI_o (show i < 400 by omega) (by omega), if_false, dp_w, nI_1, Int32.add_zero]
    by_cases z : dp_I M 241 i = w
    · rw [if_pos (stf_t.mpr z)] at hr
      rw [if_pos z]; exact hr
    · rw [if_neg (fun q => z (stf_t.mp q))] at hr
      rw [if_neg z]; exact hr
theorem sm_live {R : Nat} (hR : R ≤ 400) (h : dp_I M 114 133 = nI R) : dp_den true xs xl (d + 1) 586 [.ref 114] M = iR (nI (ct (lvf (dp_I M 215)) R)) M := by
  rw [D_X12_liveOnes_0_den, D_X12_liveOnes_0_eq]
  simp only [dp_w]
  refine lpb (F := fun (c : Nat) i => D_X12_liveOnes_4 xs xl d (nI c) (nI (i + 1)) M) (s := ct (lvf (dp_I M 215))) (N := R) ?_ (fun i hi hr => ?_)
  · (try dsimp only)
    rw [D_X12_liveOnes_4_eq, h, if_pos (nI_lt (by omega) (by omega))]
  · (try dsimp only at hr); (try dsimp only)
    rw [show ct (lvf (dp_I M 215)) (i + 1) = ct (lvf (dp_I M 215)) i + (if lvf (dp_I M 215) i then 1 else 0) from rfl] at hr
    rw [D_X12_liveOnes_4_eq, h, if_neg (nI_nlt (by omega) (by omega))]
    simp only [nI_cl (show i + 1 < 2147483648 by omega), nI_o (show i + 1 < 402 by omega) (by omega), if_false, dp_w, nI_1, Int32.add_zero]
    by_cases z : dp_I M 215 (i + 1) = 0
    · rw [if_pos (show lvf (dp_I M 215) i = true from decide_eq_true z)] at hr
      rw [if_pos z]; exact hr
    · rw [if_neg (show ¬ lvf (dp_I M 215) i = true from fun q => z (of_decide_eq_true q))] at hr
      rw [if_neg z]; exact hr
end DM
