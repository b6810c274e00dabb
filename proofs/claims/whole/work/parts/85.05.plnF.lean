-- needs: 71 72 73 74 75 76
/-! PLAN: the class goes on from a state -/
theorem asd_ct (c j : Nat) : ∀ k, asd c k j = none ↔ ct (fun i => decide (pl c i = 13)) k ≤ j
  | 0 => ⟨fun _ => Nat.zero_le _, fun _ => rfl⟩
  | k + 1 => by
    have ih := asd_ct c j k
    rw [asd, ct]
    cases e : asd c k j with
    | some x =>
      have : ¬ ct (fun i => decide (pl c i = 13)) k ≤ j := fun q => by rw [ih.mpr q] at e; cases e
      dsimp only
      constructor
      · intro q; cases q
      · intro q; omega
    | none =>
      have h := ih.mp e
      dsimp only
      by_cases z : pl c k = 13
      · rw [if_pos (decide_eq_true z)]
        by_cases y : ct (fun i => decide (pl c i = 13)) k = j
        · rw [if_pos ⟨z, y⟩]
          exact ⟨fun q => (by cases q), fun q => (by omega)⟩
        · rw [if_neg (fun q => y q.2)]
          exact ⟨fun _ => by omega, fun _ => rfl⟩
      · rw [if_neg (fun q => z q.1), if_neg (fun q => z (of_decide_eq_true q))]
        exact ⟨fun _ => by omega, fun _ => rfl⟩
theorem asd_up {c j k x : Nat} (h : asd c k j = some x) : ∀ n, k ≤ n → asd c n j = some x
  | 0, hn => by rw [show k = 0 by omega] at h; exact h
  | n + 1, hn => by
    by_cases z : k = n + 1
    · rw [z] at h; exact h
    · rw [asd, asd_up h n (by omega)]
theorem asd_at {c k n : Nat} (hk : k < n) (h : pl c k = 13) : asd c n (ct (fun i => decide (pl c i = 13)) k) = some k :=
  asd_up (k := k + 1) (by rw [asd, (asd_ct c _ k).mpr (Nat.le_refl _)]; exact if_pos ⟨h, rfl⟩) n hk
section PnF
variable {xs : Nat → Int32} {xl d : Nat} {M : dp_M}
theorem c_frm {c n T i f : Nat} {l ah : Nat → Int32} {Q : List qE} {P : List qE → Prop} (hn : n ≤ 4) (hT : T ≤ 4) (hP : QI P c n T l ah i) (hx : CX M c n T l ah) (h : CS M l n Q) (hq : P Q) (hf : f < 3) (hh : 0 < hgt c n f) :
    ∃ M', dp_den true xs xl (d + 4) 112 [.ref 14, .int (nI i), .int (nI f)] M = vR M' ∧ CS M' l n (qsT c n T l ah i f 5 Q) ∧ P (qsT c n T l ah i f 5 Q) ∧ CX M' c n T l ah ∧ Pf [16, 17, 18, 19] [11, 15] M M' := by
  have ek : tkn c n f = some (tpp c n f) := by unfold tkn; rw [if_pos hf, if_neg (by omega)]
  have hk := tpp_lt c n f hh
  have e24 := hx.2.2.2.2.2.2.1 f hf hh
  obtain ⟨k, ek'⟩ : ∃ k, k = tpp c n f := ⟨_, rfl⟩
  rw [← ek'] at ek hk e24
  obtain ⟨M1, a1, a2, a3, a4, a5⟩ := c_to (xs := xs) (xl := xl) (d := d) (own := nI f) hn hT hP hx h hq (by omega) (show k < 4 by omega) ek (fun t ht => nI_eq (by omega) (by omega))
  have m4 : mvt c n T l ah k f 4 = some 13 := by unfold mvt; rw [if_neg (by decide), if_neg (by decide), if_pos hf]
  by_cases z : ¬ l k = 0 ∧ (ah k &&& (nI (ash c n) ^^^ (-1 : Int32))) = 0
  · have m3 : mvt c n T l ah k f 3 = some 12 := by unfold mvt; rw [if_neg (by decide), if_pos rfl, if_pos ⟨hf, z.1, z.2⟩]
    obtain ⟨M2, b1, b2, b3, b4, b5⟩ := c_rc1 (xs := xs) (xl := xl) (d := d + 1) hn hP a4 a2 a3 (show f < 7 by omega) (show 3 < 5 by decide) (show k < 4 by omega) (show 12 < 16 by decide) ek m3
    obtain ⟨M3, c1, c2, c3, c4, c5⟩ := c_rc1 (xs := xs) (xl := xl) (d := d + 1) hn hP b4 b2 b3 (show f < 7 by omega) (show 4 < 5 by decide) (show k < 4 by omega) (show 13 < 16 by decide) ek m4
    refine ⟨M3, ?_, c2, c3, c4, (a5.tr b5).tr c5⟩
    rw [D_X4_goFromStack_0_den, D_X4_goFromStack_0_eq]
    simp only [dp_w, nI_cl (show f < 2147483648 by omega), nI_o (show f < 3 by omega) (by omega), if_false]
    rw [e24, a1, rb_bv]
    simp only [nI_cl (show k < 2147483648 by omega), nI_o (show k < 4 by omega) (by omega), if_false]
    rw [a4.2.2.1, a4.2.2.2.1, a4.2.2.2.2.2.2.2, if_neg z.1, if_pos z.2]
    rw [show nI 3 = (3 : Int32) from rfl, show nI 12 = (12 : Int32) from rfl] at b1
    rw [show nI 4 = (4 : Int32) from rfl, show nI 13 = (13 : Int32) from rfl] at c1
    rw [b1, rb_bv, c1, rb_bv]
  · have m3 : mvt c n T l ah k f 3 = none := by unfold mvt; rw [if_neg (by decide), if_pos rfl, if_neg (fun q => z q.2)]
    have e4 : qsT c n T l ah i f 4 Q = qsT c n T l ah i f 3 Q := by rw [qsT, qst_m ek m3]
    obtain ⟨M3, c1, c2, c3, c4, c5⟩ := c_rc1 (xs := xs) (xl := xl) (d := d + 1) hn hP a4 a2 a3 (show f < 7 by omega) (show 4 < 5 by decide) (show k < 4 by omega) (show 13 < 16 by decide) ek m4
    refine ⟨M3, ?_, by rw [qsT, e4]; exact c2, by rw [qsT, e4]; exact c3, c4, a5.tr c5⟩
    rw [D_X4_goFromStack_0_den, D_X4_goFromStack_0_eq]
    simp only [dp_w, nI_cl (show f < 2147483648 by omega), nI_o (show f < 3 by omega) (by omega), if_false]
    rw [e24, a1, rb_bv]
    simp only [nI_cl (show k < 2147483648 by omega), nI_o (show k < 4 by omega) (by omega), if_false]
    rw [a4.2.2.1, a4.2.2.2.1, a4.2.2.2.2.2.2.2]
    by_cases y : l k = 0
    · rw [if_pos y]; exact congrArg (fun X => dp_bv X _) c1
    · rw [if_neg y, if_neg (fun q => z ⟨y, q⟩)]; exact congrArg (fun X => dp_bv X _) c1
end PnF
