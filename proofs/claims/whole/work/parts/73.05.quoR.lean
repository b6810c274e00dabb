/-! QUOTAS: course by the model; class and model side by side -/
def cM (M : dp_M) (A o f : Nat) : Nat → QS := crs A (mp M A o) (mdy M) (mdk M) (dp_J M 198) (fun x => dp_I M 195 (o * 401 + x)) f (dp_J M 191 o)
section QR
variable {xs : Nat → Int32} {xl d : Nat} {M : dp_M}
theorem t_401' {o x : Nat} : (401 : Int32) * nI o + nI x = nI (o * 401 + x) := by rw [show (401 : Int32) = nI 401 from rfl, pk_mul, nI_add, Nat.mul_comm]
theorem qm_course {A o f e n : Nat} {u : Int32} (hA : A ≤ 400) (ho : o < 16) (a2 : dp_I M 114 111 = nI A) (hk : ∀ a, a < A → qin (dp_I M 196 a) 400) (af : dp_I M 192 o = nI f) (ae : dp_I M 193 o = nI e) (hf : f ≤ e) (he : e ≤ 400) (hn : (n : Int) = max 0 ((if (e : Int) < u.toInt then (e : Int) else u.toInt) - f + 1))
    (hb : ∀ a, 0 ≤ (dp_J M 198 a).toInt ∧ (dp_J M 198 a).toInt ≤ 1000000) (hV : 0 ≤ (dp_J M 191 o).toInt ∧ (dp_J M 191 o).toInt ≤ 1000000000) :
    ∃ M', dp_den true xs xl (d + 3) 508 [.ref 114, .int (nI o), .int u] M = vR M' ∧ Off [199, 200] [118] M M' ∧ dp_n M' = dp_n M ∧ dp_z M' = dp_z M ∧ (∀ k, k ≠ 199 → dp_I M' k = dp_I M k) ∧ (∀ k, k ≠ 200 → k ≠ 114 → dp_J M' k = dp_J M k) ∧ dp_J M' 114 118 = (cM M A o f n).1 ∧
      (∀ a, mp M A o a = true → dp_I M' 199 a = (cM M A o f n).2.1 a ∧ dp_J M' 200 a = (cM M A o f n).2.2 a) ∧ ∀ a, ¬ mp M A o a = true → dp_I M' 199 a = dp_I M 199 a ∧ dp_J M' 200 a = dp_J M 200 a := by
  have hn2 : f + n ≤ 401 := by split at hn <;> omega
  -- all begins anew
  obtain ⟨N1, ⟨o1, i1, i2, i3, i4, i5, i6, i7⟩, tr1⟩ := lpt (F := fun a N => D_X12_course_12 xs xl (d + 2) (nI o) u (nI a) N) (a := 0) (N := A)
    (Inv := fun a N => Off [199, 200] [118] M N ∧ dp_n N = dp_n M ∧ dp_z N = dp_z M ∧ (∀ k, k ≠ 199 → dp_I N k = dp_I M k) ∧ (∀ k, k ≠ 200 → k ≠ 114 → dp_J N k = dp_J M k) ∧ dp_J N 114 118 = dp_J M 191 o ∧ (∀ x, mp M A o x = true → x < a → dp_I N 199 x = -1 ∧ dp_J N 200 x = 0) ∧ ∀ x, ¬ (mp M A o x = true ∧ x < a) → dp_I N 199 x = dp_I M 199 x ∧ dp_J N 200 x = dp_J M 200 x)
    (Nat.zero_le _) (by
      rintro a N - ha ⟨o1, i1, i2, i3, i4, i5, i6, i7⟩
      have e114 : dp_I N 114 111 = nI A := by rw [i3 114 (by decide)]; exact a2
      have e197 : dp_I N 197 = dp_I M 197 := i3 197 (by decide)
      by_cases c : mp M A o a = true
      · refine ⟨dp_setJ (dp_setI N 199 a (-1)) 200 a 0, ⟨(o1.I 199 (by decide) _ _).J 200 (by decide) _ _, i1, i2, fun k k1 => by rw [gIJ, gII, if_neg k1]; exact i3 k k1, fun k k1 k2 => by rw [gJJ, if_neg k1, gJI]; exact i4 k k1 k2, by simp only [gJJ, gJI, Nat.reduceEqDiff, if_false]; exact i5, fun x hx hx2 => ?_, fun x hx => ?_⟩, fun r hr => ?_⟩
        · simp only [gII, gIJ, gJI, gJJ, if_true]
          by_cases q : x = a
          · rw [q, uI_s, uI_s]; exact ⟨rfl, rfl⟩
          · rw [uI_n q, uI_n q]; exact i6 x hx (by omega)
        · simp only [gII, gIJ, gJI, gJJ, if_true]
          have q : x ≠ a := fun q => hx ⟨by rw [q]; exact c, by omega⟩
          rw [uI_n q, uI_n q]; exact i7 x (fun z => hx ⟨z.1, by omega⟩)
        · (try dsimp only at hr); (try dsimp only)
          rw [D_X12_course_12_eq, e114, if_neg (nI_nge ha (by omega))]
          simp only [nI_cl (show a < 2147483648 by omega), nI_o (show a < 400 by omega) (by omega), if_false, e197, if_pos (mp_o c), D_X12_course_45_eq, dp_w, gII, Nat.reduceEqDiff, nI_1]
          exact hr
      · refine ⟨dp_setJ (dp_setI N 199 a (dp_I N 199 a)) 200 a (dp_J N 200 a), ⟨(o1.I 199 (by decide) _ _).J 200 (by decide) _ _, i1, i2, fun k k1 => by rw [gIJ, gII, if_neg k1]; exact i3 k k1, fun k k1 k2 => by rw [gJJ, if_neg k1, gJI]; exact i4 k k1 k2, by simp only [gJJ, gJI, Nat.reduceEqDiff, if_false]; exact i5, fun x hx hx2 => ?_, fun x hx => ?_⟩, fun r hr => ?_⟩
        · simp only [gII, gIJ, gJI, gJJ, if_true]
          have q : x ≠ a := fun q => c (by rw [← q]; exact hx)
          rw [uI_n q, uI_n q]; exact i6 x hx (by omega)
        · simp only [gII, gIJ, gJI, gJJ, if_true]
          by_cases q : x = a
          · rw [q, uI_s, uI_s]; exact i7 a (fun z => c z.1)
          · rw [uI_n q, uI_n q]; exact i7 x (fun z => hx ⟨z.1, by omega⟩)
        · (try dsimp only at hr); (try dsimp only)
          rw [D_X12_course_12_eq, e114, if_neg (nI_nge ha (by omega))]
          simp only [nI_cl (show a < 2147483648 by omega), nI_o (show a < 400 by omega) (by omega), if_false, e197, if_neg (mp_n ha c), D_X12_course_45_eq, dp_w, gII, gJI, Nat.reduceEqDiff, nI_1]
          exact hr) (dp_setJ M 114 118 (dp_J M 191 o)) ⟨(Off.rr _ _ _).G 118 (by decide) _, rfl, rfl, fun _ _ => rfl, fun k _ k2 => by rw [gJJ, if_neg k2], by simp only [gJJ, if_true, uI_s], fun x _ hx => by omega, fun x _ => by simp [gII, gIJ, gIR, gJI, gJJ, gJR, gRI, gRJ, glI, glJ, glR, uI]⟩
  have eqs : ∀ N : dp_M, (∀ k, k ≠ 199 → dp_I N k = dp_I M k) → mp N A o = mp M A o ∧ mdy N = mdy M ∧ mdk N = mdk M := fun N h => by
    refine ⟨?_, ?_, ?_⟩
    · funext a; unfold mp; rw [h 197 (by decide)]
    · funext a; unfold mdy; rw [h 196 (by decide), h 238 (by decide)]
    · funext a; unfold mdk; rw [h 196 (by decide), h 235 (by decide)]
  -- day by day
  obtain ⟨N2, ⟨o2, j1, j2, j3, j4, j5, j6, j7⟩, tr2⟩ := lpt (F := fun i N => D_X12_course_85 xs xl (d + 2) (nI o) u (nI (f + i)) N) (a := 0) (N := n)
    (Inv := fun i N => Off [199, 200] [118] M N ∧ dp_n N = dp_n M ∧ dp_z N = dp_z M ∧ (∀ k, k ≠ 199 → dp_I N k = dp_I M k) ∧ (∀ k, k ≠ 200 → k ≠ 114 → dp_J N k = dp_J M k) ∧ dp_J N 114 118 = (cM M A o f i).1 ∧ (∀ x, mp M A o x = true → dp_I N 199 x = (cM M A o f i).2.1 x ∧ dp_J N 200 x = (cM M A o f i).2.2 x) ∧ ∀ x, ¬ mp M A o x = true → dp_I N 199 x = dp_I M 199 x ∧ dp_J N 200 x = dp_J M 200 x)
    (Nat.zero_le _) (by
      rintro i N - hi ⟨o2, j1, j2, j3, j4, j5, j6, j7⟩
      have hiu : ¬ u < nI (f + i) ∧ ¬ nI e < nI (f + i) := by
        rw [Int32.lt_iff_toInt_lt, Int32.lt_iff_toInt_lt, nI_toInt (by omega), nI_toInt (by omega)]
        split at hn <;> omega
      have e193 : dp_I N 193 = dp_I M 193 := j3 193 (by decide)
      have e195 : dp_I N 195 = dp_I M 195 := j3 195 (by decide)
      have cs : cM M A o f (i + 1) = if dp_I M 195 (o * 401 + (f + i)) = 0 then trt A (mp M A o) (mdy M) (mdk M) (dp_J M 198) (nI (f + i)) (cM M A o f i) else cM M A o f i := rfl
      by_cases cb : dp_I M 195 (o * 401 + (f + i)) = 0
      · rw [if_pos cb] at cs
        have hcb := crs_b (p := mp M A o) (dy := mdy M) (dk := mdk M) (blk := fun x => dp_I M 195 (o * 401 + x)) (f := f) hb hA hV.1 hV.2 i
        obtain ⟨q1, q2, q3⟩ := eqs N j3
        have hv : nI (f + i) ≠ -1 := fun z => by
          have := congrArg Int32.toInt z
          rw [nI_toInt (by omega)] at this
          have e1 : (-1 : Int32).toInt = -1 := by decide
          omega
        obtain ⟨N', b1, b2, b3, b4, b5, b6, b7, b8, b9⟩ := qm_treats (xs := xs) (xl := xl) (d := d) (M := N) (A := A) (o := o) (t := (cM M A o f i).2.1) (g := (cM M A o f i).2.2) (v := nI (f + i)) (L := (cM M A o f i).1) hA (by rw [j3 114 (by decide)]; exact a2) (fun a ha => by rw [j3 196 (by decide)]; exact hk a ha) hcb.1 j5 (fun a ha => by
          rcases crs_t (p := mp M A o) (dy := mdy M) (dk := mdk M) (ask := dp_J M 198) (A := A) (blk := fun x => dp_I M 195 (o * 401 + x)) (f := f) (V := dp_J M 191 o) i a with z | ⟨j, h1, h2⟩
          · intro w
            have : (cM M A o f i).2.1 a = -1 := z
            rw [this] at w; exact hv w.symm
          · intro w
            have : (cM M A o f i).2.1 a = nI (f + j) := h2
            rw [this, nI_eq (by omega) (by omega)] at w
            omega) (by rw [q1]; exact j6)
        rw [q1, q2, q3, j4 198 (by decide) (by decide), show ((cM M A o f i).1, (cM M A o f i).2.1, (cM M A o f i).2.2) = cM M A o f i from rfl, ← cs] at b7 b8
        rw [q1] at b9
        refine ⟨N', ⟨o2.tr b2, by rw [b3, j1], by rw [b4, j2], fun k k1 => by rw [b5 k k1]; exact j3 k k1, fun k k1 k2 => by rw [b6 k k1 k2]; exact j4 k k1 k2, b7, b8, fun x hx => by rw [(b9 x hx).1, (b9 x hx).2]; exact j7 x hx⟩, fun r hr => ?_⟩
        (try dsimp only at hr); (try dsimp only)
        rw [D_X12_course_85_eq, if_neg hiu.1]
        simp only [nI_cl (show o < 2147483648 by omega), nI_o (show o < 16 by omega) (by omega), if_false, e193, ae, if_neg hiu.2, t_401', nI_cl (show o * 401 + (f + i) < 2147483648 by omega), nI_o (show o * 401 + (f + i) < 6416 by omega) (by omega), e195, if_pos cb, b1, rb_bv, dp_w, nI_1]
        exact hr
      · rw [if_neg cb] at cs
        refine ⟨N, ⟨o2, j1, j2, j3, j4, by rw [cs]; exact j5, by rw [cs]; exact j6, j7⟩, fun r hr => ?_⟩
        (try dsimp only at hr); (try dsimp only)
        rw [D_X12_course_85_eq, if_neg hiu.1]
        simp only [nI_cl (show o < 2147483648 by omega), nI_o (show o < 16 by omega) (by omega), if_false, e193, ae, if_neg hiu.2, t_401', nI_cl (show o * 401 + (f + i) < 2147483648 by omega), nI_o (show o * 401 + (f + i) < 6416 by omega) (by omega), e195, if_neg cb, dp_w, nI_1]
        exact hr) N1 ⟨o1, i1, i2, i3, i4, i5, fun x hx => i6 x hx (mp_lt hx), fun x hx => i7 x (fun q => hx q.1)⟩
  refine ⟨N2, ?_, o2, j1, j2, j3, j4, j5, j6, j7⟩
  rw [D_X12_course_0_den, D_X12_course_0_eq]
  simp only [nI_cl (show o < 2147483648 by omega), nI_o (show o < 16 by omega) (by omega), if_false, dp_w]
  apply tr1
  (try dsimp only)
  rw [D_X12_course_12_eq, i3 114 (by decide), a2, if_pos (nI_lle (Nat.le_refl _) (by omega))]
  simp only [nI_cl (show o < 2147483648 by omega), nI_o (show o < 16 by omega) (by omega), if_false, dp_w, i3 192 (by decide), af]
  apply tr2
  (try dsimp only)
  rw [D_X12_course_85_eq]
  simp only [nI_cl (show o < 2147483648 by omega), nI_o (show o < 16 by omega) (by omega), if_false, j3 193 (by decide), ae]
  by_cases z : u < nI (f + n)
  · rw [if_pos z]
  · rw [if_neg z, if_pos]
    rw [Int32.lt_iff_toInt_lt, nI_toInt (by omega)] at z
    rw [Int32.lt_iff_toInt_lt, nI_toInt (by omega), nI_toInt (by omega)]
    split at hn <;> omega
end QR
