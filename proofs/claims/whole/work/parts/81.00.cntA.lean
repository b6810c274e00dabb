-- needs: 71 72 73 74 75 76 77 78 79 80
/-! COUNT: how many boxes, reservations, declarations -/
section CnA
variable {xs : Nat → Int32} {xl d : Nat} {M : dp_M}
theorem pl0 (v : Int32) : v + (0 : Int32) = v := Int32.add_zero v
theorem ct_dis {p q : Nat → Bool} : ∀ n, (∀ i, i < n → p i = true → q i = false) → ct (fun i => p i || q i) n = ct p n + ct q n
  | 0, _ => rfl
  | n + 1, h => by
    have ih := ct_dis n (fun i hi => h i (by omega))
    cases e1 : p n with
    | true =>
      have e2 := h n (by omega) e1
      rw [ct_s (p := fun i => p i || q i) (a := n) (by show (p n || q n) = true; rw [e1]; rfl), ct_s e1, ct_n (p := q) (by rw [e2]; decide), ih]; omega
    | false =>
      cases e2 : q n with
      | true => rw [ct_s (p := fun i => p i || q i) (a := n) (by show (p n || q n) = true; rw [e1, e2]; rfl), ct_n (p := p) (by rw [e1]; decide), ct_s e2, ih]; omega
      | false => rw [ct_n (p := fun i => p i || q i) (a := n) (by show ¬ (p n || q n) = true; rw [e1, e2]; decide), ct_n (p := p) (by rw [e1]; decide), ct_n (p := q) (by rw [e2]; decide), ih]
/-- boxes of the hold whose stack is s -/
theorem hc_in {n : Nat} {s : Int32} (h : dp_I M 1 2 = nI n) (hn : n ≤ 100) : dp_den true xs xl (d + 1) 55 [.ref 1, .int s] M = iR (nI (ct (fun i => decide (dp_I M 9 i = s)) n)) M := by
  rw [D_X2_countIn_0_den, D_X2_countIn_0_eq, dpw, dpw]
  refine lpb (F := fun (a : Nat) i => D_X2_countIn_4 xs xl d s (nI a) (nI i) M) (s := ct (fun i => decide (dp_I M 9 i = s))) (N := n) ?_ (fun i hi hr => ?_)
  · (try dsimp only)
    rw [D_X2_countIn_4_eq, h, if_pos (nI_lle (Nat.le_refl _) (by omega))]
  · (try dsimp only at hr); (try dsimp only)
    rw [D_X2_countIn_4_eq, h, if_neg (nI_nge hi (by omega)), nI_cl (by omega), if_neg (by rw [nI_o (show i < 100 by omega) (by omega)]; exact id)]
    by_cases z : dp_I M 9 i = s
    · rw [ct_s (decide_eq_true z)] at hr
      rw [if_pos z, dpw, dpw, nI_1, nI_1]; exact hr
    · rw [ct_n (by rw [decide_eq_false z]; decide)] at hr
      rw [if_neg z, dpw, dpw, nI_1, pl0]; exact hr
theorem hc_stay {n : Nat} {s : Int32} (h : dp_I M 1 2 = nI n) (hn : n ≤ 100) : dp_den true xs xl (d + 1) 56 [.ref 1, .int s] M = iR (nI (ct (fun i => decide (dp_I M 11 i = s)) n)) M := by
  rw [D_X2_countStaying_0_den, D_X2_countStaying_0_eq, dpw, dpw]
  refine lpb (F := fun (a : Nat) i => D_X2_countStaying_4 xs xl d s (nI a) (nI i) M) (s := ct (fun i => decide (dp_I M 11 i = s))) (N := n) ?_ (fun i hi hr => ?_)
  · (try dsimp only)
    rw [D_X2_countStaying_4_eq, h, if_pos (nI_lle (Nat.le_refl _) (by omega))]
  · (try dsimp only at hr); (try dsimp only)
    rw [D_X2_countStaying_4_eq, h, if_neg (nI_nge hi (by omega)), nI_cl (by omega), if_neg (by rw [nI_o (show i < 100 by omega) (by omega)]; exact id)]
    by_cases z : dp_I M 11 i = s
    · rw [ct_s (decide_eq_true z)] at hr
      rw [if_pos z, dpw, dpw, nI_1, nI_1]; exact hr
    · rw [ct_n (by rw [decide_eq_false z]; decide)] at hr
      rw [if_neg z, dpw, dpw, nI_1, pl0]; exact hr
/-- the heights of the first rows -/
def suH (R : Nat → Int32) (n : Nat) : Nat → Nat
  | 0 => 0
  | w + 1 => suH R n w + hR R n w
theorem suH_ct {R : Nat → Int32} {n : Nat} : ∀ w, w ≤ 20 → suH R n w = ct (fun i => an (fun r => decide (R i = nI r)) w) n
  | 0, _ => by
    have : ∀ n, ct (fun i => an (fun r => decide (R i = nI r)) 0) n = 0 := fun n => by
      induction n with
      | zero => rfl
      | succ n ih => rw [ct_n (p := fun i => an (fun r => decide (R i = nI r)) 0) (by show ¬ false = true; decide)]; exact ih
    rw [this]; rfl
  | w + 1, hw => by
    have ih := suH_ct (R := R) (n := n) w (by omega)
    have e := ct_dis (p := fun i => an (fun r => decide (R i = nI r)) w) (q := rwf R (nI w)) n (fun i _ h => by
      obtain ⟨r, hr, q⟩ := an_iff.mp h
      have q := of_decide_eq_true q
      unfold rwf
      refine decide_eq_false (fun q2 => ?_)
      rw [q, nI_eq (by omega) (by omega)] at q2
      omega)
    have f : (fun i => an (fun r => decide (R i = nI r)) (w + 1)) = (fun i => an (fun r => decide (R i = nI r)) w || rwf R (nI w) i) := by
      funext i
      rw [Bool.eq_iff_iff, an_iff, Bool.or_eq_true, an_iff]
      constructor
      · rintro ⟨r, r1, r2⟩
        by_cases z : r = w
        · subst z; exact Or.inr r2
        · exact Or.inl ⟨r, by omega, r2⟩
      · rintro (⟨r, r1, r2⟩ | r2)
        · exact ⟨r, by omega, r2⟩
        · exact ⟨w, by omega, r2⟩
    rw [f, e, ← ih]; rfl
theorem yc_stand {n W H G : Nat} {R L : Nat → Int32} {h : List (Nat × Int32)} {m : Int32} (y : CY M n W H G R L h m) (hW : W ≤ 20) : dp_den true xs xl (d + 1) 237 [.ref 28] M = iR (nI (suH R n W)) M := by
  obtain ⟨c1, c2, c3, c4, c5, c6, c7, c8, c9, c10, -⟩ := y
  rw [D_X10_standing_0_den, D_X10_standing_0_eq, dpw, dpw]
  refine lpb (F := fun (a : Nat) i => D_X10_standing_4 xs xl d (nI a) (nI i) M) (s := suH R n) (N := W) ?_ (fun i hi hr => ?_)
  · (try dsimp only)
    rw [D_X10_standing_4_eq, show dp_I M 28 1 = nI W from c1, if_pos (nI_lle (Nat.le_refl _) (by omega))]
  · (try dsimp only at hr); (try dsimp only)
    rw [D_X10_standing_4_eq, show dp_I M 28 1 = nI W from c1, if_neg (nI_nge hi (by omega)), nI_cl (by omega), c4, if_neg (by rw [nI_o hi (by omega)]; exact id), dpw, dpw, nI_1, show dp_I M 33 i = nI (hR R n i) from c10 i hi, nI_add]
    exact hr
/-- is a box in the way -/
def itw (n : Nat) (lv R L : Nat → Int32) (x : Nat) : Bool := decide (¬ sbw n lv R L x ≤ 0)
theorem yc_way {n W H G : Nat} {R L : Nat → Int32} {h : List (Nat × Int32)} {m : Int32} (y : CY M n W H G R L h m) (w : YW n W H R L) (hb : dp_I M 1 2 = nI n) (hn : n ≤ 100) (hW : W ≤ 20) (hH : H ≤ 8) : dp_den true xs xl (d + 5) 236 [.ref 28] M = iR (nI (ct (itw n (dp_I M 6) R L) n)) M := by
  rw [D_X10_inTheWay_0_den, D_X10_inTheWay_0_eq, dpw, dpw]
  refine lpb (F := fun (a : Nat) i => D_X10_inTheWay_4 xs xl (d + 4) (nI a) (nI i) M) (s := ct (itw n (dp_I M 6) R L)) (N := n) ?_ (fun i hi hr => ?_)
  · (try dsimp only)
    rw [D_X10_inTheWay_4_eq, show dp_I M 1 2 = nI n from hb, if_pos (nI_lle (Nat.le_refl _) (by omega))]
  · (try dsimp only at hr); (try dsimp only)
    rw [D_X10_inTheWay_4_eq, show dp_I M 1 2 = nI n from hb, if_neg (nI_nge hi (by omega)), D_X10_isInTheWay_0_den, D_X10_isInTheWay_0_eq, yc_sbw y w hn hi hW hH, rb_bi]
    by_cases z : sbw n (dp_I M 6) R L i ≤ 0
    · rw [ct_n (by unfold itw; rw [decide_eq_false (fun q => q z)]; decide)] at hr
      rw [if_pos z, rb_bi, if_pos rfl, dpw, dpw, nI_1, pl0]; exact hr
    · rw [ct_s (by unfold itw; exact decide_eq_true z)] at hr
      rw [if_neg z, rb_bi, if_neg one_ne, dpw, dpw, nI_1, nI_1]; exact hr
theorem mb_a {v1 v2 v3 v4 : Int32} {N : dp_M} : D_X12_manyBoxes_4_a xs xl d v1 v2 v3 v4 N = D_X12_manyBoxes_4 xs xl d v1 v2 v3 N := by
  rw [D_X12_manyBoxes_4_a_eq, D_X12_manyBoxes_4_eq]
  simp only [D_X12_manyBoxes_109_a_eq, D_X12_manyBoxes_109_eq]
theorem mm_many {N : dp_M} {n : Nat} {v1 : Int32} {p : Nat → Bool} (h : dp_I N 114 3 = nI n) (hn : n ≤ 100) (hs : ∀ i (v2 : Int32), i < n → D_X12_manyBoxes_4 xs xl d v1 v2 (nI i) N = D_X12_manyBoxes_109 xs xl d v1 v2 (nI i) (bI (p i = true)) N) : dp_den true xs xl (d + 1) 585 [.ref 114, .int v1] N = iR (nI (ct p n)) N := by
  rw [D_X12_manyBoxes_0_den, D_X12_manyBoxes_0_eq, dpw, dpw]
  refine lpb (F := fun (a : Nat) i => D_X12_manyBoxes_4 xs xl d v1 (nI a) (nI i) N) (s := ct p) (N := n) ?_ (fun i hi hr => ?_)
  · (try dsimp only)
    rw [D_X12_manyBoxes_4_eq, show dp_I N 114 3 = nI n from h, if_pos (nI_lle (Nat.le_refl _) (by omega))]
  · (try dsimp only at hr); (try dsimp only)
    rw [hs i _ hi, D_X12_manyBoxes_109_eq, ibz]
    by_cases z : p i = true
    · rw [ct_s z] at hr
      rw [if_pos z, dpw, dpw, nI_1, nI_1, mb_a]; exact hr
    · rw [ct_n z] at hr
      rw [if_neg z, dpw, dpw, nI_1, pl0, mb_a]; exact hr
/-- reservations that live -/
theorem sm_liveO {N : dp_M} {R : Nat} (h : dp_I N 114 133 = nI R) (hR : R ≤ 400) : dp_den true xs xl (d + 1) 586 [.ref 114] N = iR (nI (ct (lvf (dp_I N 215)) R)) N := by
  rw [D_X12_liveOnes_0_den, D_X12_liveOnes_0_eq, dpw, dpw]
  refine lpb (F := fun (a : Nat) i => D_X12_liveOnes_4 xs xl d (nI a) (nI (i + 1)) N) (s := ct (lvf (dp_I N 215))) (N := R) ?_ (fun i hi hr => ?_)
  · (try dsimp only)
    rw [D_X12_liveOnes_4_eq, show dp_I N 114 133 = nI R from h, if_pos (nI_lt (by omega) (by omega))]
  · (try dsimp only at hr); (try dsimp only)
    rw [D_X12_liveOnes_4_eq, show dp_I N 114 133 = nI R from h, if_neg (nI_nlt (by omega) (by omega)), nI_cl (by omega), if_neg (by rw [nI_o (show i + 1 < 402 by omega) (by omega)]; exact id)]
    by_cases z : dp_I N 215 (i + 1) = 0
    · rw [ct_s (by unfold lvf; exact decide_eq_true z)] at hr
      rw [if_pos z, dpw, dpw, nI_1, nI_1]; exact hr
    · rw [ct_n (by unfold lvf; rw [decide_eq_false (show ¬ dp_I N 215 (i + 1) = 0 from z)]; decide)] at hr
      rw [if_neg z, dpw, dpw, nI_1, pl0]; exact hr
/-- declarations in a state -/
theorem dc_inst {D : Nat} {s : Int32} (h2 : dp_I M 108 5 = nI D) (hD : D ≤ 400) (hs : ∀ i, i < D → dp_J M 111 (i * 23 + 7) = (dp_I M 241 i).toInt64) : dp_den true xs xl (d + 4) 7 [.ref 108, .int s] M = iR (nI (ct (fun i => decide (dp_I M 241 i = s)) D)) M := by
  rw [D_X0_inState_0_den, D_X0_inState_0_eq, dpw, dpw]
  refine lpb (F := fun (a : Nat) i => D_X0_inState_4 xs xl (d + 3) s (nI a) (nI i) M) (s := ct (fun i => decide (dp_I M 241 i = s))) (N := D) ?_ (fun i hi hr => ?_)
  · (try dsimp only)
    rw [D_X0_inState_4_eq, show dp_I M 108 5 = nI D from h2, if_pos (nI_lle (Nat.le_refl _) (by omega))]
  · (try dsimp only at hr); (try dsimp only)
    rw [D_X0_inState_4_eq, show dp_I M 108 5 = nI D from h2, if_neg (nI_nge hi (by omega)), dc_state (d := d) (by omega) (hs i hi), rb_bi]
    by_cases z : dp_I M 241 i = s
    · rw [ct_s (decide_eq_true z)] at hr
      rw [if_pos (show dp_I M 241 i = s from z), dpw, dpw, nI_1, nI_1]; exact hr
    · rw [ct_n (by rw [decide_eq_false z]; decide)] at hr
      rw [if_neg (show ¬ dp_I M 241 i = s from z), dpw, dpw, nI_1, pl0]; exact hr
theorem dm_inst {N : dp_M} {D : Nat} {s : Int32} (h2 : dp_I N 114 160 = nI D) (hD : D ≤ 400) : dp_den true xs xl (d + 1) 587 [.ref 114, .int s] N = iR (nI (ct (fun i => decide (dp_I N 241 i = s)) D)) N := by
  rw [D_X12_ofState_0_den, D_X12_ofState_0_eq, dpw, dpw]
  refine lpb (F := fun (a : Nat) i => D_X12_ofState_4 xs xl d s (nI a) (nI i) N) (s := ct (fun i => decide (dp_I N 241 i = s))) (N := D) ?_ (fun i hi hr => ?_)
  · (try dsimp only)
    rw [D_X12_ofState_4_eq, show dp_I N 114 160 = nI D from h2, if_pos (nI_lle (Nat.le_refl _) (by omega))]
  · (try dsimp only at hr); (try dsimp only)
    rw [D_X12_ofState_4_eq, show dp_I N 114 160 = nI D from h2, if_neg (nI_nge hi (by omega)), nI_cl (by omega), if_neg (by rw [nI_o (show i < 400 by omega) (by omega)]; exact id)]
    by_cases z : dp_I N 241 i = s
    · rw [ct_s (decide_eq_true z)] at hr
      rw [if_pos z, dpw, dpw, nI_1, nI_1]; exact hr
    · rw [ct_n (by rw [decide_eq_false z]; decide)] at hr
      rw [if_neg z, dpw, dpw, nI_1, pl0]; exact hr
end CnA
