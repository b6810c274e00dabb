-- needs: 71 72 73 74
/-! RATES: the model reads words -/
section RN
variable {xs : Nat → Int32} {xl d : Nat} {M : dp_M} {t : Nat → Int32} {L : Nat}
theorem m_word_min {p : Nat} (h : TxM M t L) (hp : p ≤ L) : dp_den true xs xl (d + 1) 481 [.ref 114, .int (nI p), .int (nI (p + lt' t L p)), .long (7170414 : Int64)] M = iR (bI (isWd t L p [109, 105, 110])) M := by
  have h2 := h.2.1
  have h3 := h.2.2
  have ll := lt_le (t := t) hp
  have dif : nI (p + lt' t L p) - nI p = nI (lt' t L p) := by rw [Nat.add_comm, ← nI_add, Int32.add_sub_cancel]
  have len : ∀ i, i < 3 → ¬ lg_cmp ((Int64.toUInt64 (7170414 : Int64) >>> ((Int32.toInt64 ((8 : Int32) * nI i)).toUInt64 &&& Int64.toUInt64 63)).toInt64) (0 : Int64) = 0 := by decide
  have len2 : lg_cmp ((Int64.toUInt64 (7170414 : Int64) >>> ((Int32.toInt64 ((8 : Int32) * nI 3)).toUInt64 &&& Int64.toUInt64 63)).toInt64) (0 : Int64) = 0 := by decide
  have byt : ∀ i, i < 3 → Int64.toInt32 (((Int64.toUInt64 (7170414 : Int64) >>> ((Int32.toInt64 ((8 : Int32) * ((nI 3 - (1 : Int32)) - nI i))).toUInt64 &&& Int64.toUInt64 63)).toInt64) &&& (255 : Int64)) = List.getD [109, 105, 110] i 0 := by decide
  have zero : ∀ i v, D_X12_isWord_46 xs xl d (nI p) v (7170414 : Int64) (nI 3) 0 i M = iR 0 M := fun i v => by
    rw [D_X12_isWord_46_eq]
    by_cases z : nI 3 ≤ i
    · rw [if_pos z, if_pos (Or.inl rfl)]
    · rw [if_neg z, if_pos rfl, if_pos (Or.inl rfl)]
  have fin : ∀ v, lt' t L p = 3 → D_X12_isWord_46 xs xl d (nI p) v (7170414 : Int64) (nI 3) 1 0 M = iR (bI (isWd t L p [109, 105, 110])) M := fun v z => by
    have inn : ∀ i, i < 3 → p + i < L := fun i hi => (lt_in (t := t) (L := L) (p := p) (i := i) (by omega)).1
    have stp : ∀ i, i < 3 → D_X12_isWord_46 xs xl d (nI p) v (7170414 : Int64) (nI 3) 1 (nI i) M = if t (p + i) = List.getD [109, 105, 110] i 0 then D_X12_isWord_46 xs xl d (nI p) v (7170414 : Int64) (nI 3) 1 (nI (i + 1)) M else iR 0 M := fun i hi => by
      have pi := inn i hi
      rw [D_X12_isWord_46_eq, if_neg (nI_nge hi (by omega)), if_neg (by decide), nI_add]
      simp only [nI_cl (show p + i < 2147483648 by omega), nI_o (show p + i < 400 by omega) (by omega), if_false, dp_w, nI_1]
      rw [byt i hi, show dp_I M 173 (p + i) = t (p + i) from (h3 _ pi).1]
      by_cases w : t (p + i) = List.getD [109, 105, 110] i 0
      · rw [if_pos w, if_pos w]
      · rw [if_neg w, if_neg w, zero]
    by_cases y : ∀ i, i < 3 → t (p + i) = List.getD [109, 105, 110] i 0
    · rw [bI_t ⟨z, y⟩]
      refine lpb (F := fun (_ : Nat) i => D_X12_isWord_46 xs xl d (nI p) v (7170414 : Int64) (nI 3) 1 (nI i) M) (s := fun _ => 0) (N := 3) ?_ (fun i hi hr => ?_)
      · (try dsimp only)
        rw [D_X12_isWord_46_eq, if_pos (nI_lle (Nat.le_refl _) (by omega)), if_pos (Or.inr rfl)]
      · (try dsimp only at hr); (try dsimp only)
        rw [stp i hi, if_pos (y i hi)]; exact hr
    · rw [bI_f (fun q => y q.2)]
      rcases fst_or (fun i => decide (¬ t (p + i) = List.getD [109, 105, 110] i 0)) 0 3 with ⟨j, j0, j1, j2, j3⟩ | q
      case inr => exact absurd (fun i hi => Classical.byContradiction (of_decide_eq_false (q i (Nat.zero_le _) hi))) y
      · refine lpf (F := fun i => D_X12_isWord_46 xs xl d (nI p) v (7170414 : Int64) (nI 3) 1 (nI i) M) (a := 0) (j := j) (Nat.zero_le _) (fun i _ hi hr => ?_) ?_
        · (try dsimp only at hr); (try dsimp only)
          rw [stp i (by omega), if_pos (Classical.byContradiction (of_decide_eq_false (j3 i (Nat.zero_le _) hi)))]; exact hr
        · (try dsimp only)
          rw [stp j j1, if_neg (of_decide_eq_true j2)]
  rw [D_X12_isWord_0_den, D_X12_isWord_0_eq]
  simp only [dp_w]
  refine lpb (F := fun (_ : Nat) i => D_X12_isWord_3 xs xl d (nI p) (nI (p + lt' t L p)) (7170414 : Int64) (nI i) M) (s := fun _ => 0) (N := 3) ?_ (fun i hi hr => ?_)
  · (try dsimp only)
    rw [D_X12_isWord_3_eq, if_neg (show ¬ (8 : Int32) ≤ nI 3 by decide), if_pos len2, dif]
    simp only [dp_w]
    by_cases z : lt' t L p = 3
    · rw [if_pos (by rw [z]), fin _ z]
    · rw [if_neg (fun q => z (by rw [nI_eq (by omega) (by omega)] at q; exact q)), zero, bI_f (fun q => z q.1)]
  · (try dsimp only at hr); (try dsimp only)
    have i8 : ¬ (8 : Int32) ≤ nI i := nI_nge (n := 8) (by omega) (by omega)
    rw [D_X12_isWord_3_eq, if_neg i8, if_neg (len i hi)]
    simp only [dp_w, nI_1]; exact hr
theorem m_word_max {p : Nat} (h : TxM M t L) (hp : p ≤ L) : dp_den true xs xl (d + 1) 481 [.ref 114, .int (nI p), .int (nI (p + lt' t L p)), .long (7168376 : Int64)] M = iR (bI (isWd t L p [109, 97, 120])) M := by
  have h2 := h.2.1
  have h3 := h.2.2
  have ll := lt_le (t := t) hp
  have dif : nI (p + lt' t L p) - nI p = nI (lt' t L p) := by rw [Nat.add_comm, ← nI_add, Int32.add_sub_cancel]
  have len : ∀ i, i < 3 → ¬ lg_cmp ((Int64.toUInt64 (7168376 : Int64) >>> ((Int32.toInt64 ((8 : Int32) * nI i)).toUInt64 &&& Int64.toUInt64 63)).toInt64) (0 : Int64) = 0 := by decide
  have len2 : lg_cmp ((Int64.toUInt64 (7168376 : Int64) >>> ((Int32.toInt64 ((8 : Int32) * nI 3)).toUInt64 &&& Int64.toUInt64 63)).toInt64) (0 : Int64) = 0 := by decide
  have byt : ∀ i, i < 3 → Int64.toInt32 (((Int64.toUInt64 (7168376 : Int64) >>> ((Int32.toInt64 ((8 : Int32) * ((nI 3 - (1 : Int32)) - nI i))).toUInt64 &&& Int64.toUInt64 63)).toInt64) &&& (255 : Int64)) = List.getD [109, 97, 120] i 0 := by decide
  have zero : ∀ i v, D_X12_isWord_46 xs xl d (nI p) v (7168376 : Int64) (nI 3) 0 i M = iR 0 M := fun i v => by
    rw [D_X12_isWord_46_eq]
    by_cases z : nI 3 ≤ i
    · rw [if_pos z, if_pos (Or.inl rfl)]
    · rw [if_neg z, if_pos rfl, if_pos (Or.inl rfl)]
  have fin : ∀ v, lt' t L p = 3 → D_X12_isWord_46 xs xl d (nI p) v (7168376 : Int64) (nI 3) 1 0 M = iR (bI (isWd t L p [109, 97, 120])) M := fun v z => by
    have inn : ∀ i, i < 3 → p + i < L := fun i hi => (lt_in (t := t) (L := L) (p := p) (i := i) (by omega)).1
    have stp : ∀ i, i < 3 → D_X12_isWord_46 xs xl d (nI p) v (7168376 : Int64) (nI 3) 1 (nI i) M = if t (p + i) = List.getD [109, 97, 120] i 0 then D_X12_isWord_46 xs xl d (nI p) v (7168376 : Int64) (nI 3) 1 (nI (i + 1)) M else iR 0 M := fun i hi => by
      have pi := inn i hi
      rw [D_X12_isWord_46_eq, if_neg (nI_nge hi (by omega)), if_neg (by decide), nI_add]
      simp only [nI_cl (show p + i < 2147483648 by omega), nI_o (show p + i < 400 by omega) (by omega), if_false, dp_w, nI_1]
      rw [byt i hi, show dp_I M 173 (p + i) = t (p + i) from (h3 _ pi).1]
      by_cases w : t (p + i) = List.getD [109, 97, 120] i 0
      · rw [if_pos w, if_pos w]
      · rw [if_neg w, if_neg w, zero]
    by_cases y : ∀ i, i < 3 → t (p + i) = List.getD [109, 97, 120] i 0
    · rw [bI_t ⟨z, y⟩]
      refine lpb (F := fun (_ : Nat) i => D_X12_isWord_46 xs xl d (nI p) v (7168376 : Int64) (nI 3) 1 (nI i) M) (s := fun _ => 0) (N := 3) ?_ (fun i hi hr => ?_)
      · (try dsimp only)
        rw [D_X12_isWord_46_eq, if_pos (nI_lle (Nat.le_refl _) (by omega)), if_pos (Or.inr rfl)]
      · (try dsimp only at hr); (try dsimp only)
        rw [stp i hi, if_pos (y i hi)]; exact hr
    · rw [bI_f (fun q => y q.2)]
      rcases fst_or (fun i => decide (¬ t (p + i) = List.getD [109, 97, 120] i 0)) 0 3 with ⟨j, j0, j1, j2, j3⟩ | q
      case inr => exact absurd (fun i hi => Classical.byContradiction (of_decide_eq_false (q i (Nat.zero_le _) hi))) y
      · refine lpf (F := fun i => D_X12_isWord_46 xs xl d (nI p) v (7168376 : Int64) (nI 3) 1 (nI i) M) (a := 0) (j := j) (Nat.zero_le _) (fun i _ hi hr => ?_) ?_
        · (try dsimp only at hr); (try dsimp only)
          rw [stp i (by omega), if_pos (Classical.byContradiction (of_decide_eq_false (j3 i (Nat.zero_le _) hi)))]; exact hr
        · (try dsimp only)
          rw [stp j j1, if_neg (of_decide_eq_true j2)]
  rw [D_X12_isWord_0_den, D_X12_isWord_0_eq]
  simp only [dp_w]
  refine lpb (F := fun (_ : Nat) i => D_X12_isWord_3 xs xl d (nI p) (nI (p + lt' t L p)) (7168376 : Int64) (nI i) M) (s := fun _ => 0) (N := 3) ?_ (fun i hi hr => ?_)
  · (try dsimp only)
    rw [D_X12_isWord_3_eq, if_neg (show ¬ (8 : Int32) ≤ nI 3 by decide), if_pos len2, dif]
    simp only [dp_w]
    by_cases z : lt' t L p = 3
    · rw [if_pos (by rw [z]), fin _ z]
    · rw [if_neg (fun q => z (by rw [nI_eq (by omega) (by omega)] at q; exact q)), zero, bI_f (fun q => z q.1)]
  · (try dsimp only at hr); (try dsimp only)
    have i8 : ¬ (8 : Int32) ≤ nI i := nI_nge (n := 8) (by omega) (by omega)
    rw [D_X12_isWord_3_eq, if_neg i8, if_neg (len i hi)]
    simp only [dp_w, nI_1]; exact hr
theorem m_word_free {p : Nat} (h : TxM M t L) (hp : p ≤ L) : dp_den true xs xl (d + 1) 481 [.ref 114, .int (nI p), .int (nI (p + lt' t L p)), .long (1718773093 : Int64)] M = iR (bI (isWd t L p [102, 114, 101, 101])) M := by
  have h2 := h.2.1
  have h3 := h.2.2
  have ll := lt_le (t := t) hp
  have dif : nI (p + lt' t L p) - nI p = nI (lt' t L p) := by rw [Nat.add_comm, ← nI_add, Int32.add_sub_cancel]
  have len : ∀ i, i < 4 → ¬ lg_cmp ((Int64.toUInt64 (1718773093 : Int64) >>> ((Int32.toInt64 ((8 : Int32) * nI i)).toUInt64 &&& Int64.toUInt64 63)).toInt64) (0 : Int64) = 0 := by decide
  have len2 : lg_cmp ((Int64.toUInt64 (1718773093 : Int64) >>> ((Int32.toInt64 ((8 : Int32) * nI 4)).toUInt64 &&& Int64.toUInt64 63)).toInt64) (0 : Int64) = 0 := by decide
  have byt : ∀ i, i < 4 → Int64.toInt32 (((Int64.toUInt64 (1718773093 : Int64) >>> ((Int32.toInt64 ((8 : Int32) * ((nI 4 - (1 : Int32)) - nI i))).toUInt64 &&& Int64.toUInt64 63)).toInt64) &&& (255 : Int64)) = List.getD [102, 114, 101, 101] i 0 := by decide
  have zero : ∀ i v, D_X12_isWord_46 xs xl d (nI p) v (1718773093 : Int64) (nI 4) 0 i M = iR 0 M := fun i v => by
    rw [D_X12_isWord_46_eq]
    by_cases z : nI 4 ≤ i
    · rw [if_pos z, if_pos (Or.inl rfl)]
    · rw [if_neg z, if_pos rfl, if_pos (Or.inl rfl)]
  have fin : ∀ v, lt' t L p = 4 → D_X12_isWord_46 xs xl d (nI p) v (1718773093 : Int64) (nI 4) 1 0 M = iR (bI (isWd t L p [102, 114, 101, 101])) M := fun v z => by
    have inn : ∀ i, i < 4 → p + i < L := fun i hi => (lt_in (t := t) (L := L) (p := p) (i := i) (by omega)).1
    have stp : ∀ i, i < 4 → D_X12_isWord_46 xs xl d (nI p) v (1718773093 : Int64) (nI 4) 1 (nI i) M = if t (p + i) = List.getD [102, 114, 101, 101] i 0 then D_X12_isWord_46 xs xl d (nI p) v (1718773093 : Int64) (nI 4) 1 (nI (i + 1)) M else iR 0 M := fun i hi => by
      have pi := inn i hi
      rw [D_X12_isWord_46_eq, if_neg (nI_nge hi (by omega)), if_neg (by decide), nI_add]
      simp only [nI_cl (show p + i < 2147483648 by omega), nI_o (show p + i < 400 by omega) (by omega), if_false, dp_w, nI_1]
      rw [byt i hi, show dp_I M 173 (p + i) = t (p + i) from (h3 _ pi).1]
      by_cases w : t (p + i) = List.getD [102, 114, 101, 101] i 0
      · rw [if_pos w, if_pos w]
      · rw [if_neg w, if_neg w, zero]
    by_cases y : ∀ i, i < 4 → t (p + i) = List.getD [102, 114, 101, 101] i 0
    · rw [bI_t ⟨z, y⟩]
      refine lpb (F := fun (_ : Nat) i => D_X12_isWord_46 xs xl d (nI p) v (1718773093 : Int64) (nI 4) 1 (nI i) M) (s := fun _ => 0) (N := 4) ?_ (fun i hi hr => ?_)
      · (try dsimp only)
        rw [D_X12_isWord_46_eq, if_pos (nI_lle (Nat.le_refl _) (by omega)), if_pos (Or.inr rfl)]
      · (try dsimp only at hr); (try dsimp only)
        rw [stp i hi, if_pos (y i hi)]; exact hr
    · rw [bI_f (fun q => y q.2)]
      rcases fst_or (fun i => decide (¬ t (p + i) = List.getD [102, 114, 101, 101] i 0)) 0 4 with ⟨j, j0, j1, j2, j3⟩ | q
      case inr => exact absurd (fun i hi => Classical.byContradiction (of_decide_eq_false (q i (Nat.zero_le _) hi))) y
      · refine lpf (F := fun i => D_X12_isWord_46 xs xl d (nI p) v (1718773093 : Int64) (nI 4) 1 (nI i) M) (a := 0) (j := j) (Nat.zero_le _) (fun i _ hi hr => ?_) ?_
        · (try dsimp only at hr); (try dsimp only)
          rw [stp i (by omega), if_pos (Classical.byContradiction (of_decide_eq_false (j3 i (Nat.zero_le _) hi)))]; exact hr
        · (try dsimp only)
          rw [stp j j1, if_neg (of_decide_eq_true j2)]
  rw [D_X12_isWord_0_den, D_X12_isWord_0_eq]
  simp only [dp_w]
  refine lpb (F := fun (_ : Nat) i => D_X12_isWord_3 xs xl d (nI p) (nI (p + lt' t L p)) (1718773093 : Int64) (nI i) M) (s := fun _ => 0) (N := 4) ?_ (fun i hi hr => ?_)
  · (try dsimp only)
    rw [D_X12_isWord_3_eq, if_neg (show ¬ (8 : Int32) ≤ nI 4 by decide), if_pos len2, dif]
    simp only [dp_w]
    by_cases z : lt' t L p = 4
    · rw [if_pos (by rw [z]), fin _ z]
    · rw [if_neg (fun q => z (by rw [nI_eq (by omega) (by omega)] at q; exact q)), zero, bI_f (fun q => z q.1)]
  · (try dsimp only at hr); (try dsimp only)
    have i8 : ¬ (8 : Int32) ≤ nI i := nI_nge (n := 8) (by omega) (by omega)
    rw [D_X12_isWord_3_eq, if_neg i8, if_neg (len i hi)]
    simp only [dp_w, nI_1]; exact hr
theorem m_word_step {p : Nat} (h : TxM M t L) (hp : p ≤ L) : dp_den true xs xl (d + 1) 481 [.ref 114, .int (nI p), .int (nI (p + lt' t L p)), .long (1937007984 : Int64)] M = iR (bI (isWd t L p [115, 116, 101, 112])) M := by
  have h2 := h.2.1
  have h3 := h.2.2
  have ll := lt_le (t := t) hp
  have dif : nI (p + lt' t L p) - nI p = nI (lt' t L p) := by rw [Nat.add_comm, ← nI_add, Int32.add_sub_cancel]
  have len : ∀ i, i < 4 → ¬ lg_cmp ((Int64.toUInt64 (1937007984 : Int64) >>> ((Int32.toInt64 ((8 : Int32) * nI i)).toUInt64 &&& Int64.toUInt64 63)).toInt64) (0 : Int64) = 0 := by decide
  have len2 : lg_cmp ((Int64.toUInt64 (1937007984 : Int64) >>> ((Int32.toInt64 ((8 : Int32) * nI 4)).toUInt64 &&& Int64.toUInt64 63)).toInt64) (0 : Int64) = 0 := by decide
  have byt : ∀ i, i < 4 → Int64.toInt32 (((Int64.toUInt64 (1937007984 : Int64) >>> ((Int32.toInt64 ((8 : Int32) * ((nI 4 - (1 : Int32)) - nI i))).toUInt64 &&& Int64.toUInt64 63)).toInt64) &&& (255 : Int64)) = List.getD [115, 116, 101, 112] i 0 := by decide
  have zero : ∀ i v, D_X12_isWord_46 xs xl d (nI p) v (1937007984 : Int64) (nI 4) 0 i M = iR 0 M := fun i v => by
    rw [D_X12_isWord_46_eq]
    by_cases z : nI 4 ≤ i
    · rw [if_pos z, if_pos (Or.inl rfl)]
    · rw [if_neg z, if_pos rfl, if_pos (Or.inl rfl)]
  have fin : ∀ v, lt' t L p = 4 → D_X12_isWord_46 xs xl d (nI p) v (1937007984 : Int64) (nI 4) 1 0 M = iR (bI (isWd t L p [115, 116, 101, 112])) M := fun v z => by
    have inn : ∀ i, i < 4 → p + i < L := fun i hi => (lt_in (t := t) (L := L) (p := p) (i := i) (by omega)).1
    have stp : ∀ i, i < 4 → D_X12_isWord_46 xs xl d (nI p) v (1937007984 : Int64) (nI 4) 1 (nI i) M = if t (p + i) = List.getD [115, 116, 101, 112] i 0 then D_X12_isWord_46 xs xl d (nI p) v (1937007984 : Int64) (nI 4) 1 (nI (i + 1)) M else iR 0 M := fun i hi => by
      have pi := inn i hi
      rw [D_X12_isWord_46_eq, if_neg (nI_nge hi (by omega)), if_neg (by decide), nI_add]
      simp only [nI_cl (show p + i < 2147483648 by omega), nI_o (show p + i < 400 by omega) (by omega), if_false, dp_w, nI_1]
      rw [byt i hi, show dp_I M 173 (p + i) = t (p + i) from (h3 _ pi).1]
      by_cases w : t (p + i) = List.getD [115, 116, 101, 112] i 0
      · rw [if_pos w, if_pos w]
      · rw [if_neg w, if_neg w, zero]
    by_cases y : ∀ i, i < 4 → t (p + i) = List.getD [115, 116, 101, 112] i 0
    · rw [bI_t ⟨z, y⟩]
      refine lpb (F := fun (_ : Nat) i => D_X12_isWord_46 xs xl d (nI p) v (1937007984 : Int64) (nI 4) 1 (nI i) M) (s := fun _ => 0) (N := 4) ?_ (fun i hi hr => ?_)
      · (try dsimp only)
        rw [D_X12_isWord_46_eq, if_pos (nI_lle (Nat.le_refl _) (by omega)), if_pos (Or.inr rfl)]
      · (try dsimp only at hr); (try dsimp only)
        rw [stp i hi, if_pos (y i hi)]; exact hr
    · rw [bI_f (fun q => y q.2)]
      rcases fst_or (fun i => decide (¬ t (p + i) = List.getD [115, 116, 101, 112] i 0)) 0 4 with ⟨j, j0, j1, j2, j3⟩ | q
      case inr => exact absurd (fun i hi => Classical.byContradiction (of_decide_eq_false (q i (Nat.zero_le _) hi))) y
      · refine lpf (F := fun i => D_X12_isWord_46 xs xl d (nI p) v (1937007984 : Int64) (nI 4) 1 (nI i) M) (a := 0) (j := j) (Nat.zero_le _) (fun i _ hi hr => ?_) ?_
        · (try dsimp only at hr); (try dsimp only)
          rw [stp i (by omega), if_pos (Classical.byContradiction (of_decide_eq_false (j3 i (Nat.zero_le _) hi)))]; exact hr
        · (try dsimp only)
          rw [stp j j1, if_neg (of_decide_eq_true j2)]
  rw [D_X12_isWord_0_den, D_X12_isWord_0_eq]
  simp only [dp_w]
  refine lpb (F := fun (_ : Nat) i => D_X12_isWord_3 xs xl d (nI p) (nI (p + lt' t L p)) (1937007984 : Int64) (nI i) M) (s := fun _ => 0) (N := 4) ?_ (fun i hi hr => ?_)
  · (try dsimp only)
    rw [D_X12_isWord_3_eq, if_neg (show ¬ (8 : Int32) ≤ nI 4 by decide), if_pos len2, dif]
    simp only [dp_w]
    by_cases z : lt' t L p = 4
    · rw [if_pos (by rw [z]), fin _ z]
    · rw [if_neg (fun q => z (by rw [nI_eq (by omega) (by omega)] at q; exact q)), zero, bI_f (fun q => z q.1)]
  · (try dsimp only at hr); (try dsimp only)
    have i8 : ¬ (8 : Int32) ≤ nI i := nI_nge (n := 8) (by omega) (by omega)
    rw [D_X12_isWord_3_eq, if_neg i8, if_neg (len i hi)]
    simp only [dp_w, nI_1]; exact hr
end RN
