/-! QUOTAS: follow -/
section QF
variable {xs : Nat → Int32} {xl d : Nat} {M : dp_M}
/-- the course of an order, of what the class has -/
def cC (M : dp_M) (A o f : Nat) : Nat → QS := crs A (qp M A o) (dp_I M 84) (dp_I M 83) (dp_J M 85) (fun x => dp_I M 80 (o * 401 + x)) f (dp_J M 76 o)
theorem t_401 {o x : Nat} : nI o * (401 : Int32) + nI x = nI (o * 401 + x) := by rw [show (401 : Int32) = nI 401 from rfl, pk_mul, nI_add]
theorem wt_0 {p : Nat → Bool} {t : Nat → Int32} {A : Nat} (h : ¬ 0 < wt p t A) (hpA : ∀ a, p a = true → a < A) {dy : Nat → Int32} {v : Int32} : ∀ a, nw p dy v t a = true → False := fun a q => by
  unfold nw at q
  simp only [Bool.and_eq_true, decide_eq_true_eq] at q
  apply h
  have : ct (fun _ => false) A < wt p t A := ct_lt (j := a) A (hpA a q.1.1) (fun _ _ z => by cases z) rfl (by (try dsimp only); rw [q.1.1, decide_eq_true q.2]; rfl)
  omega
theorem qc_follow {o A f n : Nat} {last : Int32} (hA : A ≤ 400) (ho : o < 16) (hf : f ≤ 400) (hn : f + n ≤ 401) (a1 : dp_I M 75 1 = nI A) (af : dp_I M 77 o = nI f) (al : (if dp_I M 78 o < dp_I M 79 o then dp_I M 78 o else dp_I M 79 o) = last) (hl : last.toInt = (f : Int) + n - 1)
    (hb : ∀ a, 0 ≤ (dp_J M 85 a).toInt ∧ (dp_J M 85 a).toInt ≤ 1000000) (hV : 0 ≤ (dp_J M 76 o).toInt ∧ (dp_J M 76 o).toInt ≤ 1000000000) :
    ∃ M', dp_den true xs xl (d + 3) 129 [.ref 75, .int (nI o)] M = vR M' ∧ Off [75, 81, 86, 87, 89] [] M M' ∧ dp_n M' = dp_n M ∧ dp_z M' = dp_z M ∧ MN M' (qp M A o) A ∧ dp_I M' 75 0 = dp_I M 75 0 ∧ (∀ k, k ≠ 75 → k ≠ 87 → k ≠ 89 → dp_I M' k = dp_I M k) ∧ (∀ k, k ≠ 81 → k ≠ 86 → dp_J M' k = dp_J M k) ∧
      (∀ a, qp M A o a = true → dp_I M' 87 a = (cC M A o f n).2.1 a ∧ dp_J M' 86 a = (cC M A o f n).2.2 a) ∧ (∀ a, ¬ qp M A o a = true → dp_I M' 87 a = dp_I M 87 a ∧ dp_J M' 86 a = dp_J M 86 a) ∧
      (∀ i, i < n → dp_J M' 81 (o * 401 + (f + i)) = (cC M A o f (i + 1)).1) ∧ ∀ k, (∀ i, i < n → k ≠ o * 401 + (f + i)) → dp_J M' 81 k = dp_J M 81 k := by
  obtain ⟨M1, g1, g2, g3, g4, g5, g6, g7, g8, g9, g10, gJ⟩ := qc_gather (xs := xs) (xl := xl) (d := d + 1) (M := M) (o := o) (A := A) hA ho a1
  have hpA : ∀ a, qp M A o a = true → a < A := fun a h => qp_lt h
  have lt : ∀ i, i ≤ 401 → ((last < nI (f + i)) ↔ n ≤ i) := fun i hi => by
    rw [Int32.lt_iff_toInt_lt, hl, nI_toInt (by omega)]; omega
  have w0 : wt (qp M A o) (fun _ => -1) A = ct (qp M A o) A := by
    unfold wt
    apply ct_c
    intro i _
    (try dsimp only)
    rw [decide_eq_true rfl, Bool.and_true]
  obtain ⟨N, ⟨q1, q2, q3, q4, q5, q6, q7, q8, q9, q10, q11, q12⟩, t⟩ := lpt (F := fun i N => D_X5_follow_37 xs xl (d + 2) (nI o) (cC M A o f i).1 last (nI (f + i)) N) (a := 0) (N := n)
    (Inv := fun i N => Off [75, 81, 86, 87, 89] [] M N ∧ dp_n N = dp_n M ∧ dp_z N = dp_z M ∧ MN N (qp M A o) A ∧ dp_I N 75 0 = dp_I M 75 0 ∧ dp_I N 75 17 = nI (wt (qp M A o) (cC M A o f i).2.1 A) ∧ (∀ k, k ≠ 75 → k ≠ 87 → k ≠ 89 → dp_I N k = dp_I M k) ∧ (∀ k, k ≠ 81 → k ≠ 86 → dp_J N k = dp_J M k) ∧
      (∀ a, qp M A o a = true → dp_I N 87 a = (cC M A o f i).2.1 a ∧ dp_J N 86 a = (cC M A o f i).2.2 a) ∧ (∀ a, ¬ qp M A o a = true → dp_I N 87 a = dp_I M 87 a ∧ dp_J N 86 a = dp_J M 86 a) ∧
      (∀ j, j < i → dp_J N 81 (o * 401 + (f + j)) = (cC M A o f (j + 1)).1) ∧ ∀ k, (∀ j, j < i → k ≠ o * 401 + (f + j)) → dp_J N 81 k = dp_J M 81 k)
    (Nat.zero_le _) (by
      rintro i N - hi ⟨q1, q2, q3, q4, q5, q6, q7, q8, q9, q10, q11, q12⟩
      have e80 : dp_I N 80 = dp_I M 80 := q7 80 (by decide) (by decide) (by decide)
      have hcb := crs_b (p := qp M A o) (dy := dp_I M 84) (dk := dp_I M 83) (blk := fun x => dp_I M 80 (o * 401 + x)) (f := f) hb hA hV.1 hV.2 i
      have hwl := ct_le (fun a => qp M A o a && decide ((cC M A o f i).2.1 a = -1)) A
      -- the balance is noted
      have put : ∀ (N' : dp_M), Off [75, 81, 86, 87, 89] [] M N' → dp_n N' = dp_n M → dp_z N' = dp_z M → MN N' (qp M A o) A → dp_I N' 75 0 = dp_I M 75 0 → dp_I N' 75 17 = nI (wt (qp M A o) (cC M A o f (i + 1)).2.1 A) → (∀ k, k ≠ 75 → k ≠ 87 → k ≠ 89 → dp_I N' k = dp_I M k) → (∀ k, k ≠ 81 → k ≠ 86 → dp_J N' k = dp_J M k) →
          (∀ a, qp M A o a = true → dp_I N' 87 a = (cC M A o f (i + 1)).2.1 a ∧ dp_J N' 86 a = (cC M A o f (i + 1)).2.2 a) → (∀ a, ¬ qp M A o a = true → dp_I N' 87 a = dp_I M 87 a ∧ dp_J N' 86 a = dp_J M 86 a) → dp_J N' 81 = dp_J N 81 →
          (∀ r, D_X5_follow_37 xs xl (d + 2) (nI o) (cC M A o f (i + 1)).1 last (nI (f + (i + 1))) (dp_setJ N' 81 (o * 401 + (f + i)) (cC M A o f (i + 1)).1) = some r → D_X5_follow_37 xs xl (d + 2) (nI o) (cC M A o f i).1 last (nI (f + i)) N = some r) →
          ∃ s', (Off [75, 81, 86, 87, 89] [] M s' ∧ dp_n s' = dp_n M ∧ dp_z s' = dp_z M ∧ MN s' (qp M A o) A ∧ dp_I s' 75 0 = dp_I M 75 0 ∧ dp_I s' 75 17 = nI (wt (qp M A o) (cC M A o f (i + 1)).2.1 A) ∧ (∀ k, k ≠ 75 → k ≠ 87 → k ≠ 89 → dp_I s' k = dp_I M k) ∧ (∀ k, k ≠ 81 → k ≠ 86 → dp_J s' k = dp_J M k) ∧
            (∀ a, qp M A o a = true → dp_I s' 87 a = (cC M A o f (i + 1)).2.1 a ∧ dp_J s' 86 a = (cC M A o f (i + 1)).2.2 a) ∧ (∀ a, ¬ qp M A o a = true → dp_I s' 87 a = dp_I M 87 a ∧ dp_J s' 86 a = dp_J M 86 a) ∧
            (∀ j, j < i + 1 → dp_J s' 81 (o * 401 + (f + j)) = (cC M A o f (j + 1)).1) ∧ ∀ k, (∀ j, j < i + 1 → k ≠ o * 401 + (f + j)) → dp_J s' 81 k = dp_J M 81 k) ∧ ∀ r, D_X5_follow_37 xs xl (d + 2) (nI o) (cC M A o f (i + 1)).1 last (nI (f + (i + 1))) s' = some r → D_X5_follow_37 xs xl (d + 2) (nI o) (cC M A o f i).1 last (nI (f + i)) N = some r := by
        intro N' p1 p2 p3 p4 p5 p6 p7 p8 p9 p10 p11 p12
        refine ⟨dp_setJ N' 81 (o * 401 + (f + i)) (cC M A o f (i + 1)).1, ⟨p1.J 81 (by decide) _ _, p2, p3, p4, p5, p6, p7, fun k k1 k2 => by rw [gJJ, if_neg k1]; exact p8 k k1 k2, fun a ha => by simp only [gIJ, gJJ, Nat.reduceEqDiff, if_false]; exact p9 a ha, fun a ha => by simp only [gIJ, gJJ, Nat.reduceEqDiff, if_false]; exact p10 a ha, fun j hj => ?_, fun k hk => ?_⟩, p12⟩
        · rw [gJJ, if_pos rfl, p11]
          by_cases e : j = i
          · rw [e, uI_s]
          · rw [uI_n (by omega)]; exact q11 j (by omega)
        · rw [gJJ, if_pos rfl, p11, uI_n (hk i (by omega))]
          exact q12 k (fun j hj => hk j (by omega))
      have hlt : ¬ last < nI (f + i) := fun z => by have := (lt i (by omega)).mp z; omega
      have cs : cC M A o f (i + 1) = if dp_I M 80 (o * 401 + (f + i)) = 0 then trt A (qp M A o) (dp_I M 84) (dp_I M 83) (dp_J M 85) (nI (f + i)) (cC M A o f i) else cC M A o f i := rfl
      by_cases cw : 0 < wt (qp M A o) (cC M A o f i).2.1 A
      · have wl : wt (qp M A o) (cC M A o f i).2.1 A ≤ 400 := by unfold wt; omega
        by_cases cb : dp_I M 80 (o * 401 + (f + i)) = 0
        · rw [if_pos cb] at cs
          have hv : nI (f + i) ≠ -1 := fun z => by
            have := congrArg Int32.toInt z
            rw [nI_toInt (by omega)] at this
            have e1 : (-1 : Int32).toInt = -1 := by decide
            omega
          obtain ⟨N', b1, b2, b3, b4, b5, b6, b7, b8, b9, b10, b11⟩ := qc_treat (xs := xs) (xl := xl) (d := d) (M := N) (A := A) (p := qp M A o) (t := (cC M A o f i).2.1) (g := (cC M A o f i).2.2) (v := nI (f + i)) (L := (cC M A o f i).1) hA hv q4 hpA hcb.1 q6 (fun a ha => by
            rcases crs_t (p := qp M A o) (dy := dp_I M 84) (dk := dp_I M 83) (ask := dp_J M 85) (A := A) (blk := fun x => dp_I M 80 (o * 401 + x)) (f := f) (V := dp_J M 76 o) i a with z | ⟨j, j1, j2⟩
            · intro w
              have : (cC M A o f i).2.1 a = -1 := z
              rw [this] at w; exact hv w.symm
            · intro w
              have : (cC M A o f i).2.1 a = nI (f + j) := j2
              rw [this, nI_eq (by omega) (by omega)] at w
              omega) q9
          rw [q7 84 (by decide) (by decide) (by decide), q7 83 (by decide) (by decide) (by decide), q8 85 (by decide) (by decide), show ((cC M A o f i).1, (cC M A o f i).2.1, (cC M A o f i).2.2) = cC M A o f i from rfl, ← cs] at b1 b7 b10
          refine put N' (q1.tr (b2.mono (by decide) (by decide))) (by rw [b3, q2]) (by rw [b4, q3]) b5 (by rw [b6, q5]) b7 (fun k k1 k2 k3 => by rw [b8 k k1 k2]; exact q7 k k1 k2 k3) (fun k k1 k2 => by rw [b9 k k2]; exact q8 k k1 k2) b10 (fun a ha => by rw [(b11 a ha).1, (b11 a ha).2]; exact q10 a ha) (b9 81 (by decide)) (fun r hr => ?_)
          rw [D_X5_follow_37_eq, if_neg hlt, q6]
          simp only [t_401, nI_cl (show o * 401 + (f + i) < 2147483648 by omega), nI_o (show o * 401 + (f + i) < 6416 by omega) (by omega), if_false, e80, if_pos cb, dp_w, nI_1]
          rw [if_neg (show ¬ nI (wt (qp M A o) (cC M A o f i).2.1 A) ≤ (0 : Int32) from nI_ge (a := 0) (b := wt (qp M A o) (cC M A o f i).2.1 A) (by omega) (by omega)), b1, rb_bl]
          exact hr
        · rw [if_neg cb] at cs
          refine put N q1 q2 q3 q4 q5 (by rw [cs]; exact q6) q7 q8 (by rw [cs]; exact q9) q10 rfl (fun r hr => ?_)
          rw [cs] at hr
          rw [D_X5_follow_37_eq, if_neg hlt, q6]
          simp only [t_401, nI_cl (show o * 401 + (f + i) < 2147483648 by omega), nI_o (show o * 401 + (f + i) < 6416 by omega) (by omega), if_false, e80, if_neg cb, dp_w, nI_1]
          rw [if_neg (show ¬ nI (wt (qp M A o) (cC M A o f i).2.1 A) ≤ (0 : Int32) from nI_ge (a := 0) (b := wt (qp M A o) (cC M A o f i).2.1 A) (by omega) (by omega))]
          exact hr
      · have cs2 : cC M A o f (i + 1) = cC M A o f i := by
          rw [cs]
          split
          · exact trt_none (wt_0 cw hpA)
          · rfl
        have wz : wt (qp M A o) (cC M A o f i).2.1 A = 0 := by omega
        refine put N q1 q2 q3 q4 q5 (by rw [cs2]; exact q6) q7 q8 (by rw [cs2]; exact q9) q10 rfl (fun r hr => ?_)
        rw [cs2] at hr
        rw [D_X5_follow_37_eq, if_neg hlt, q6, wz]
        simp only [t_401, nI_cl (show o * 401 + (f + i) < 2147483648 by omega), nI_o (show o * 401 + (f + i) < 6416 by omega) (by omega), if_false, dp_w, nI_1]
        rw [if_pos (by decide)]
        exact hr) M1 ⟨g2.mono (by decide) (by decide), g3, g4, g6, g5, by rw [g7, ← w0]; rfl, g10, fun k k1 k2 => gJ k k2, fun a ha => g8 a ha, fun a ha => g9 a ha, fun j hj => by omega, fun k _ => by rw [gJ 81 (by decide)]⟩
  refine ⟨N, ?_, q1, q2, q3, q4, q5, q7, q8, q9, q10, q11, q12⟩
  rw [D_X5_follow_0_den, D_X5_follow_0_eq, g1, rb_bv]
  simp only [nI_cl (show o < 2147483648 by omega), nI_o (show o < 16 by omega) (by omega), if_false, dp_w, g10 77 (by decide) (by decide) (by decide), g10 78 (by decide) (by decide) (by decide), g10 79 (by decide) (by decide) (by decide), gJ 76 (by decide), af, al]
  apply t
  (try dsimp only)
  rw [D_X5_follow_37_eq, if_pos ((lt n (by omega)).mpr (Nat.le_refl _))]
end QF
