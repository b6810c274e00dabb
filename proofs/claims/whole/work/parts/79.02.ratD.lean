-- needs: 71 72 73 74
/-! RATES: the class reads words and numbers -/
section RD
variable {xs : Nat → Int32} {xl d : Nat} {M : dp_M} {t : Nat → Int32} {L : Nat}
theorem c_letters {p : Nat} (h : TxC M t L) (hp : p ≤ L) (hpl : dp_I M 68 9 = nI p) : dp_den true xs xl (d + 2) 159 [.ref 68] M = iR (nI (lt' t L p)) M := by
  have h' := h
  obtain ⟨h1, h2, h3⟩ := h
  have ll := lt_le (t := t) hp
  rw [D_X7_runOfLetters_0_den, D_X7_runOfLetters_0_eq]
  simp only [dp_w]
  refine lpb (F := fun (_ : Nat) n => D_X7_runOfLetters_2 xs xl (d + 1) (nI n) M) (s := fun _ => 0) (N := lt' t L p) ?_ (fun n hn hr => ?_)
  · (try dsimp only)
    rw [D_X7_runOfLetters_2_eq, h1, hpl, nI_add]
    have o := lt_out (t := t) (L := L) (p := p)
    by_cases z : p + lt' t L p < L
    · rw [if_neg (nI_nge z (by omega)), c_sign h' (by omega), rb_bi, show sgC t L (p + lt' t L p) = t (p + lt' t L p) from if_pos z]
      by_cases y : t (p + lt' t L p) < 97
      · rw [if_pos y]
      · rw [if_neg y, hpl, nI_add, c_sign h' (by omega), rb_bi, show sgC t L (p + lt' t L p) = t (p + lt' t L p) from if_pos z]
        by_cases y2 : 122 < t (p + lt' t L p)
        · rw [if_pos y2]
        · exact absurd ⟨z, y, y2⟩ o
    · rw [if_pos (nI_lle (by omega) (by omega))]
  · (try dsimp only at hr); (try dsimp only)
    obtain ⟨q1, q2⟩ := lt_in hn
    rw [D_X7_runOfLetters_2_eq, h1, hpl, nI_add, if_neg (nI_nge q1 (by omega)), c_sign h' (by omega), rb_bi, show sgC t L (p + n) = t (p + n) from if_pos q1, if_neg q2.1, hpl, nI_add, c_sign h' (by omega), rb_bi, show sgC t L (p + n) = t (p + n) from if_pos q1, if_neg q2.2]
    simp only [dp_w, nI_1]; exact hr
theorem c_word {p : Nat} (h : TxC M t L) (hp : p ≤ L) : dp_den true xs xl (d + 2) 160 [.ref 68, .int (nI p), .int (nI (lt' t L p)), .retAddr 22] M = iR (bI (isWd t L p [102, 114, 101, 101])) M := by
  have h2 := h.2.1
  have ll := lt_le (t := t) hp
  rw [D_X7_isWord_0_den, D_X7_isWord_0_eq]
  by_cases z : lt' t L p = 4
  · have inn : ∀ i, i < 4 → p + i < L := fun i hi => (lt_in (t := t) (L := L) (p := p) (i := i) (by omega)).1
    rw [if_pos (by rw [z]; rfl), show nI (lt' t L p) = nI 4 from by rw [z]]
    simp only [dp_w]
    have stp : ∀ i, i < 4 → D_X7_isWord_13 xs xl (d + 1) (nI p) (nI 4) (nI i) M = if t (p + i) = List.getD [102, 114, 101, 101] i 0 then D_X7_isWord_13 xs xl (d + 1) (nI p) (nI 4) (nI (i + 1)) M else iR 0 M := fun i hi => by
      rw [D_X7_isWord_13_eq, if_neg (nI_nge hi (by omega)), nI_add, c_sign h (by omega), rb_bi]
      simp only [nI_cl (show i < 2147483648 by omega), nI_o (show i < 4 by omega) (by omega), if_false, dp_w, nI_1]
      rw [show sgC t L (p + i) = t (p + i) from if_pos (inn i hi)]; rfl
    by_cases y : ∀ i, i < 4 → t (p + i) = List.getD [102, 114, 101, 101] i 0
    · rw [bI_t ⟨z, y⟩]
      refine lpb (F := fun (_ : Nat) i => D_X7_isWord_13 xs xl (d + 1) (nI p) (nI 4) (nI i) M) (s := fun _ => 0) (N := 4) ?_ (fun i hi hr => ?_)
      · (try dsimp only)
        rw [D_X7_isWord_13_eq, if_pos (nI_lle (Nat.le_refl _) (by omega))]
      · (try dsimp only at hr); (try dsimp only)
        rw [stp i hi, if_pos (y i hi)]; exact hr
    · rw [bI_f (fun q => y q.2)]
      rcases fst_or (fun i => decide (¬ t (p + i) = List.getD [102, 114, 101, 101] i 0)) 0 4 with ⟨j, j0, j1, j2, j3⟩ | q
      case inr => exact absurd (fun i hi => Classical.byContradiction (of_decide_eq_false (q i (Nat.zero_le _) hi))) y
      · refine lpf (F := fun i => D_X7_isWord_13 xs xl (d + 1) (nI p) (nI 4) (nI i) M) (a := 0) (j := j) (Nat.zero_le _) (fun i _ hi hr => ?_) ?_
        · (try dsimp only at hr); (try dsimp only)
          rw [stp i (by omega), if_pos (Classical.byContradiction (of_decide_eq_false (j3 i (Nat.zero_le _) hi)))]; exact hr
        · (try dsimp only)
          rw [stp j j1, if_neg (of_decide_eq_true j2)]
  · rw [if_neg (fun q => z (by rw [show (4 : Int32) = nI 4 from rfl, nI_eq (by omega) (by omega)] at q; exact q)), bI_f (fun q => z q.1)]
theorem c_word_a {p : Nat} (h : TxC M t L) (hp : p ≤ L) : dp_den true xs xl (d + 2) 160 [.ref 68, .int (nI p), .int (nI (lt' t L p)), .retAddr 23] M = iR (bI (isWd t L p [109, 105, 110])) M := by
  have h2 := h.2.1
  have ll := lt_le (t := t) hp
  rw [D_X7_isWord_0_a_den, D_X7_isWord_0_a_eq]
  by_cases z : lt' t L p = 3
  · have inn : ∀ i, i < 3 → p + i < L := fun i hi => (lt_in (t := t) (L := L) (p := p) (i := i) (by omega)).1
    rw [if_pos (by rw [z]; rfl), show nI (lt' t L p) = nI 3 from by rw [z]]
    simp only [dp_w]
    have stp : ∀ i, i < 3 → D_X7_isWord_13_a xs xl (d + 1) (nI p) (nI 3) (nI i) M = if t (p + i) = List.getD [109, 105, 110] i 0 then D_X7_isWord_13_a xs xl (d + 1) (nI p) (nI 3) (nI (i + 1)) M else iR 0 M := fun i hi => by
      rw [D_X7_isWord_13_a_eq, if_neg (nI_nge hi (by omega)), nI_add, c_sign h (by omega), rb_bi]
      simp only [nI_cl (show i < 2147483648 by omega), nI_o (show i < 3 by omega) (by omega), if_false, dp_w, nI_1]
      rw [show sgC t L (p + i) = t (p + i) from if_pos (inn i hi)]; rfl
    by_cases y : ∀ i, i < 3 → t (p + i) = List.getD [109, 105, 110] i 0
    · rw [bI_t ⟨z, y⟩]
      refine lpb (F := fun (_ : Nat) i => D_X7_isWord_13_a xs xl (d + 1) (nI p) (nI 3) (nI i) M) (s := fun _ => 0) (N := 3) ?_ (fun i hi hr => ?_)
      · (try dsimp only)
        rw [D_X7_isWord_13_a_eq, if_pos (nI_lle (Nat.le_refl _) (by omega))]
      · (try dsimp only at hr); (try dsimp only)
        rw [stp i hi, if_pos (y i hi)]; exact hr
    · rw [bI_f (fun q => y q.2)]
      rcases fst_or (fun i => decide (¬ t (p + i) = List.getD [109, 105, 110] i 0)) 0 3 with ⟨j, j0, j1, j2, j3⟩ | q
      case inr => exact absurd (fun i hi => Classical.byContradiction (of_decide_eq_false (q i (Nat.zero_le _) hi))) y
      · refine lpf (F := fun i => D_X7_isWord_13_a xs xl (d + 1) (nI p) (nI 3) (nI i) M) (a := 0) (j := j) (Nat.zero_le _) (fun i _ hi hr => ?_) ?_
        · (try dsimp only at hr); (try dsimp only)
          rw [stp i (by omega), if_pos (Classical.byContradiction (of_decide_eq_false (j3 i (Nat.zero_le _) hi)))]; exact hr
        · (try dsimp only)
          rw [stp j j1, if_neg (of_decide_eq_true j2)]
  · rw [if_neg (fun q => z (by rw [show (3 : Int32) = nI 3 from rfl, nI_eq (by omega) (by omega)] at q; exact q)), bI_f (fun q => z q.1)]
theorem c_word_b {p : Nat} (h : TxC M t L) (hp : p ≤ L) : dp_den true xs xl (d + 2) 160 [.ref 68, .int (nI p), .int (nI (lt' t L p)), .retAddr 24] M = iR (bI (isWd t L p [109, 97, 120])) M := by
  have h2 := h.2.1
  have ll := lt_le (t := t) hp
  rw [D_X7_isWord_0_b_den, D_X7_isWord_0_b_eq]
  by_cases z : lt' t L p = 3
  · have inn : ∀ i, i < 3 → p + i < L := fun i hi => (lt_in (t := t) (L := L) (p := p) (i := i) (by omega)).1
    rw [if_pos (by rw [z]; rfl), show nI (lt' t L p) = nI 3 from by rw [z]]
    simp only [dp_w]
    have stp : ∀ i, i < 3 → D_X7_isWord_13_b xs xl (d + 1) (nI p) (nI 3) (nI i) M = if t (p + i) = List.getD [109, 97, 120] i 0 then D_X7_isWord_13_b xs xl (d + 1) (nI p) (nI 3) (nI (i + 1)) M else iR 0 M := fun i hi => by
      rw [D_X7_isWord_13_b_eq, if_neg (nI_nge hi (by omega)), nI_add, c_sign h (by omega), rb_bi]
      simp only [nI_cl (show i < 2147483648 by omega), nI_o (show i < 3 by omega) (by omega), if_false, dp_w, nI_1]
      rw [show sgC t L (p + i) = t (p + i) from if_pos (inn i hi)]; rfl
    by_cases y : ∀ i, i < 3 → t (p + i) = List.getD [109, 97, 120] i 0
    · rw [bI_t ⟨z, y⟩]
      refine lpb (F := fun (_ : Nat) i => D_X7_isWord_13_b xs xl (d + 1) (nI p) (nI 3) (nI i) M) (s := fun _ => 0) (N := 3) ?_ (fun i hi hr => ?_)
      · (try dsimp only)
        rw [D_X7_isWord_13_b_eq, if_pos (nI_lle (Nat.le_refl _) (by omega))]
      · (try dsimp only at hr); (try dsimp only)
        rw [stp i hi, if_pos (y i hi)]; exact hr
    · rw [bI_f (fun q => y q.2)]
      rcases fst_or (fun i => decide (¬ t (p + i) = List.getD [109, 97, 120] i 0)) 0 3 with ⟨j, j0, j1, j2, j3⟩ | q
      case inr => exact absurd (fun i hi => Classical.byContradiction (of_decide_eq_false (q i (Nat.zero_le _) hi))) y
      · refine lpf (F := fun i => D_X7_isWord_13_b xs xl (d + 1) (nI p) (nI 3) (nI i) M) (a := 0) (j := j) (Nat.zero_le _) (fun i _ hi hr => ?_) ?_
        · (try dsimp only at hr); (try dsimp only)
          rw [stp i (by omega), if_pos (Classical.byContradiction (of_decide_eq_false (j3 i (Nat.zero_le _) hi)))]; exact hr
        · (try dsimp only)
          rw [stp j j1, if_neg (of_decide_eq_true j2)]
  · rw [if_neg (fun q => z (by rw [show (3 : Int32) = nI 3 from rfl, nI_eq (by omega) (by omega)] at q; exact q)), bI_f (fun q => z q.1)]
theorem c_word_c {p : Nat} (h : TxC M t L) (hp : p ≤ L) : dp_den true xs xl (d + 2) 160 [.ref 68, .int (nI p), .int (nI (lt' t L p)), .retAddr 25] M = iR (bI (isWd t L p [115, 116, 101, 112])) M := by
  have h2 := h.2.1
  have ll := lt_le (t := t) hp
  rw [D_X7_isWord_0_c_den, D_X7_isWord_0_c_eq]
  by_cases z : lt' t L p = 4
  · have inn : ∀ i, i < 4 → p + i < L := fun i hi => (lt_in (t := t) (L := L) (p := p) (i := i) (by omega)).1
    rw [if_pos (by rw [z]; rfl), show nI (lt' t L p) = nI 4 from by rw [z]]
    simp only [dp_w]
    have stp : ∀ i, i < 4 → D_X7_isWord_13_c xs xl (d + 1) (nI p) (nI 4) (nI i) M = if t (p + i) = List.getD [115, 116, 101, 112] i 0 then D_X7_isWord_13_c xs xl (d + 1) (nI p) (nI 4) (nI (i + 1)) M else iR 0 M := fun i hi => by
      rw [D_X7_isWord_13_c_eq, if_neg (nI_nge hi (by omega)), nI_add, c_sign h (by omega), rb_bi]
      simp only [nI_cl (show i < 2147483648 by omega), nI_o (show i < 4 by omega) (by omega), if_false, dp_w, nI_1]
      rw [show sgC t L (p + i) = t (p + i) from if_pos (inn i hi)]; rfl
    by_cases y : ∀ i, i < 4 → t (p + i) = List.getD [115, 116, 101, 112] i 0
    · rw [bI_t ⟨z, y⟩]
      refine lpb (F := fun (_ : Nat) i => D_X7_isWord_13_c xs xl (d + 1) (nI p) (nI 4) (nI i) M) (s := fun _ => 0) (N := 4) ?_ (fun i hi hr => ?_)
      · (try dsimp only)
        rw [D_X7_isWord_13_c_eq, if_pos (nI_lle (Nat.le_refl _) (by omega))]
      · (try dsimp only at hr); (try dsimp only)
        rw [stp i hi, if_pos (y i hi)]; exact hr
    · rw [bI_f (fun q => y q.2)]
      rcases fst_or (fun i => decide (¬ t (p + i) = List.getD [115, 116, 101, 112] i 0)) 0 4 with ⟨j, j0, j1, j2, j3⟩ | q
      case inr => exact absurd (fun i hi => Classical.byContradiction (of_decide_eq_false (q i (Nat.zero_le _) hi))) y
      · refine lpf (F := fun i => D_X7_isWord_13_c xs xl (d + 1) (nI p) (nI 4) (nI i) M) (a := 0) (j := j) (Nat.zero_le _) (fun i _ hi hr => ?_) ?_
        · (try dsimp only at hr); (try dsimp only)
          rw [stp i (by omega), if_pos (Classical.byContradiction (of_decide_eq_false (j3 i (Nat.zero_le _) hi)))]; exact hr
        · (try dsimp only)
          rw [stp j j1, if_neg (of_decide_eq_true j2)]
  · rw [if_neg (fun q => z (by rw [show (4 : Int32) = nI 4 from rfl, nI_eq (by omega) (by omega)] at q; exact q)), bI_f (fun q => z q.1)]
theorem c_scale {m : Nat} {v1 v2 v3 f : Nat} {p : Nat} (hm : 1 ≤ m) (hm3 : m ≤ 3) (hpl : dp_I M 68 9 = nI p) : D_X7_readNumber_108 xs xl d (nI v1) (nI v2) (nI v3) (nI m) (nI f) (nI m) M = iR (nI (v3 + scl m f)) (plc M (p + 1 + m)) := by
  have fin : ∀ g : Int32, D_X7_readNumber_108 xs xl d (nI v1) (nI v2) (nI v3) (nI m) g (nI 3) M = iR (nI v3 + g) (plc M (p + 1 + m)) := fun g => by
    rw [D_X7_readNumber_108_eq, if_pos (show (3 : Int32) ≤ nI 3 from nI_lle (n := 3) (Nat.le_refl _) (by omega)), hpl]
    simp only [dp_w]
    rw [show (1 : Int32) + nI m = nI (1 + m) from by rw [show (1 : Int32) = nI 1 from rfl, nI_add], nI_add, show p + (1 + m) = p + 1 + m by omega]; rfl
  have stp : ∀ i (g : Int32), i < 3 → D_X7_readNumber_108 xs xl d (nI v1) (nI v2) (nI v3) (nI m) g (nI i) M = D_X7_readNumber_108 xs xl d (nI v1) (nI v2) (nI v3) (nI m) (g * 10) (nI (i + 1)) M := fun i g hi => by
    rw [D_X7_readNumber_108_eq, if_neg (show ¬ (3 : Int32) ≤ nI i from nI_nge (n := 3) hi (by omega))]
    simp only [dp_w, nI_1]
  have t10 : nI f * 10 = nI (10 * f) := by rw [show (10 : Int32) = nI 10 from rfl, pk_mul, Nat.mul_comm]
  have t100 : nI f * 10 * 10 = nI (100 * f) := by rw [t10, show (10 : Int32) = nI 10 from rfl, pk_mul, show 10 * f * 10 = 100 * f by omega]
  have cs : m = 1 ∨ m = 2 ∨ m = 3 := by omega
  rcases cs with rfl | rfl | rfl
  · rw [stp 1 _ (by omega), stp 2 _ (by omega), fin, t100, nI_add]; rfl
  · rw [stp 2 _ (by omega), fin, t10, nI_add]; rfl
  · rw [fin, nI_add]; rfl
theorem c_number {p : Nat} (h : TxC M t L) (hp : p ≤ L) (hpl : dp_I M 68 9 = nI p) (hb : dp_I M 68 2 = -1) : (∀ x q, rNu t L p = .inr (x, q) → dp_den true xs xl (d + 3) 164 [.ref 68] M = iR (nI x) (plc M q) ∧ q ≤ L ∧ p < q ∧ x < 100001000) ∧ (∀ b, rNu t L p = .inl b → ∃ M', dp_den true xs xl (d + 3) 164 [.ref 68] M = iR (-1) M' ∧ BdC M M' b) := by
  have h2 := h.2.1
  have dl := dgt_le (t := t) hp
  have e : dp_den true xs xl (d + 3) 164 [.ref 68] M = if 1 ≤ dgt t L p ∧ dgt t L p ≤ 5 then (if isAt t L (p + dgt t L p) 46 then (if 1 ≤ dgt t L (p + dgt t L p + 1) ∧ dgt t L (p + dgt t L p + 1) ≤ 3 then iR (nI (1000 * vN t p (dgt t L p) + scl (dgt t L (p + dgt t L p + 1)) (vN t (p + dgt t L p + 1) (dgt t L (p + dgt t L p + 1))))) (plc M (p + dgt t L p + 1 + dgt t L (p + dgt t L p + 1))) else iR (-1) (dp_setI (plc M (p + dgt t L p)) 68 2 (nI p))) else iR (nI (1000 * vN t p (dgt t L p))) (plc M (p + dgt t L p))) else iR (-1) (dp_setI M 68 2 (nI p)) := by
    rw [D_X7_readNumber_0_den, D_X7_readNumber_0_eq]
    simp only [dp_w]
    rw [hpl, c_run h (by omega), rb_bi]
    generalize hn : dgt t L p = n at *
    by_cases z : 1 ≤ n
    · rw [if_neg (show ¬ nI (n) < (1 : Int32) from nI_nlt (a := n) (b := 1) (by omega) (by omega))]
      by_cases y : n ≤ 5
      · rw [if_pos (show nI (n) ≤ (5 : Int32) from nI_le (a := n) (b := 5) (by omega) (by omega)), if_pos ⟨z, y⟩, c_dig h (fun i hi => dgt_in (by omega)) (by omega), rb_bi, nI_add]
        rw [show dp_setI M 68 9 (nI (p + n)) = plc M (p + n) from rfl, plc_p, c_sign h.pl (by omega), rb_bi]
        rw [show (1000 : Int32) * nI (vN t p n) = nI (1000 * vN t p n) from by rw [show (1000 : Int32) = nI 1000 from rfl, pk_mul]]
        by_cases w : isAt t L (p + n) 46
        · rw [if_pos ((sgC_at (by decide)).mpr w), if_pos w, plc_p, nI_1, c_run h.pl (by have := w.1; omega), rb_bi]
          have dl2 := dgt_le (t := t) (L := L) (p := p + n + 1) (by have := w.1; omega)
          generalize hm : dgt t L (p + n + 1) = m at *
          by_cases u : 1 ≤ m
          · rw [if_neg (show ¬ nI (m) < (1 : Int32) from nI_nlt (a := m) (b := 1) (by omega) (by omega))]
            by_cases v : m ≤ 3
            · rw [if_pos (show nI (m) ≤ (3 : Int32) from nI_le (a := m) (b := 3) (by omega) (by omega)), if_pos ⟨u, v⟩, plc_p, nI_1, c_dig h.pl (fun i hi => dgt_in (by omega)) (by omega), rb_bi, c_scale u v (plc_p _ _), plc_pl]
            · rw [if_neg (show ¬ nI (m) ≤ (3 : Int32) from nI_ge (a := 3) (b := m) (by omega) (by omega)), if_neg (fun q => v q.2), c_ref (by rw [plc_o _ _ _ (by decide)]; exact hb), rb_bi]
          · rw [if_pos (show nI (m) < (1 : Int32) from nI_lt (a := m) (b := 1) (by omega) (by omega)), if_neg (fun q => u q.1), c_ref (by rw [plc_o _ _ _ (by decide)]; exact hb), rb_bi]
        · rw [if_neg (fun q => w ((sgC_at (by decide)).mp q)), if_neg w]
      · rw [if_neg (show ¬ nI (n) ≤ (5 : Int32) from nI_ge (a := 5) (b := n) (by omega) (by omega)), if_neg (fun q => y q.2), c_ref hb, rb_bi]
    · rw [if_pos (show nI (n) < (1 : Int32) from nI_lt (a := n) (b := 1) (by omega) (by omega)), if_neg (fun q => z q.1), c_ref hb, rb_bi]
  have vb : ∀ a m, m ≤ 5 → (∀ i, i < m → isDg (t (a + i))) → vN t a m < 100000 := fun a m hm hd => Nat.lt_of_lt_of_le (vN_lt m hd) (Nat.pow_le_pow_right (n := 10) (by omega) hm)
  unfold rNu
  constructor
  · intro x q hq
    by_cases z : 1 ≤ dgt t L p ∧ dgt t L p ≤ 5
    · have b1 := vb p (dgt t L p) z.2 (fun i hi => (dgt_in hi).2)
      rw [if_pos z] at hq e
      by_cases w : isAt t L (p + dgt t L p) 46
      · rw [if_pos w] at hq e
        have w1 := w.1
        have dl2 := dgt_le (t := t) (L := L) (p := p + dgt t L p + 1) (by omega)
        by_cases u : 1 ≤ dgt t L (p + dgt t L p + 1) ∧ dgt t L (p + dgt t L p + 1) ≤ 3
        · rw [if_pos u] at hq e
          injection hq with hq
          injection hq with q1 q2
          subst q1 q2
          refine ⟨e, by omega, by omega, ?_⟩
          have b2 := vN_lt (t := t) (p := p + dgt t L p + 1) (dgt t L (p + dgt t L p + 1)) (fun i hi => (dgt_in hi).2)
          have cs : dgt t L (p + dgt t L p + 1) = 1 ∨ dgt t L (p + dgt t L p + 1) = 2 ∨ dgt t L (p + dgt t L p + 1) = 3 := by omega
          unfold scl
          rcases cs with c | c | c <;> rw [c] at b2 ⊢ <;> simp at b2 ⊢ <;> omega
        · rw [if_neg u] at hq; cases hq
      · rw [if_neg w] at hq e
        injection hq with hq
        injection hq with q1 q2
        subst q1 q2
        exact ⟨e, by omega, by omega, by omega⟩
    · rw [if_neg z] at hq; cases hq
  · intro b hq
    by_cases z : 1 ≤ dgt t L p ∧ dgt t L p ≤ 5
    · rw [if_pos z] at hq e
      by_cases w : isAt t L (p + dgt t L p) 46
      · rw [if_pos w] at hq e
        by_cases u : 1 ≤ dgt t L (p + dgt t L p + 1) ∧ dgt t L (p + dgt t L p + 1) ≤ 3
        · rw [if_pos u] at hq; cases hq
        · rw [if_neg u] at hq e
          injection hq with hq
          subst hq
          exact ⟨_, e, BdC.mk' FrC.pl⟩
      · rw [if_neg w] at hq; cases hq
    · rw [if_neg z] at hq e
      injection hq with hq
      subst hq
      exact ⟨_, e, BdC.mk' (FrC.r M)⟩
end RD
