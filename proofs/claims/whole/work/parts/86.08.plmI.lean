-- needs: 71 72 73 74 75 76 77 78 85
/-! PLAN: the model moves a box in a word; an end -/
/-- what the model knows of the boxes of the bay -/
def MD (M : dp_M) (n T : Nat) (l ah : Nat → Int32) : Prop := dp_I M 114 2 = nI T ∧ dp_I M 114 23 = nI n ∧ (∀ k, k < n → ∃ x, x < 100 ∧ dp_I M 130 k = nI x ∧ (dp_I M 115 x = 0 ↔ ¬ l k = 0)) ∧ ∀ k, k < n → dp_I M 131 k = ah k
def mvW (n T c : Nat) (l ah : Nat → Int32) (f t : Nat) : Int64 :=
  match tkn c n f with
  | none => -1
  | some k => match mvt c n T l ah k f t with
    | none => -1
    | some p => nJ (wN (pu c k p) n)
theorem mvW_n {n T c : Nat} {l ah : Nat → Int32} {f t : Nat} (h : tkn c n f = none) : mvW n T c l ah f t = -1 := by unfold mvW; rw [h]
theorem mvW_m {n T c : Nat} {l ah : Nat → Int32} {f t k : Nat} (h : tkn c n f = some k) (h' : mvt c n T l ah k f t = none) : mvW n T c l ah f t = -1 := by unfold mvW; rw [h]; dsimp only; rw [h']
theorem mvW_s {n T c : Nat} {l ah : Nat → Int32} {f t k p : Nat} (h : tkn c n f = some k) (h' : mvt c n T l ah k f t = some p) : mvW n T c l ah f t = nJ (wN (pu c k p) n) := by unfold mvW; rw [h]; dsimp only; rw [h']
theorem shl_lt : ∀ x, x < 8 → ∀ k, k < 45 → x <<< k < 9223372036854775808 := by decide +kernel
theorem wx_lt {W k f h : Nat} (hW : W < 17592186044416) : wx W k f h < 17592186044416 := by
  have go : ∀ m, W ^^^ (W &&& m) < 2 ^ 44 := fun m => Nat.xor_lt_two_pow hW (Nat.lt_of_le_of_lt Nat.and_le_left hW)
  unfold wx
  split
  · exact go _
  · exact go _
section PmI
variable {xs : Nat → Int32} {xl d : Nat} {M : dp_M}
theorem m_106 {n T c f k : Nat} {v4 : Int32} (hn : n ≤ 4) (hT : dp_I M 114 2 = nI T) (hT4 : T ≤ 4) (w : WK n c) (hf : f < 7) (hh : ∀ s, s < 3 → hgt c n s ≤ T) (ek : tkn c n f = some k) : D_X12_moved_106 xs xl (d + 3) (nJ (wN c n)) (nI f) v4 (nI k) M = D_X12_moved_151 xs xl (d + 3) (nJ (wN c n)) (nI f) v4 (nI k) (nJ (wx (wN c n) k f (hgt c n f))) M := by
  obtain ⟨k1, -, -⟩ := tkn_p ek
  rw [D_X12_moved_106_eq]
  by_cases z : f < 3
  · have h4 := hgt_le c n f
    have h0 : 0 < hgt c n f := by
      unfold tkn at ek
      rw [if_pos z] at ek
      by_cases y : hgt c n f = 0
      · rw [if_pos y] at ek; cases ek
      · omega
    rw [if_pos (show nI f ≤ (2 : Int32) from nI_lle (i := 2) (by omega) (by omega)), m_top hT hT4 w z (hh f z), rb_bi, show (4 : Int32) = nI 4 from rfl, pk_mul, nI_add, hs_m1 (by omega) (by omega), show (3 : Int32) = nI 3 from rfl, pk_mul, nJ_63 _ (by omega), show (7 : Int64) = nJ 7 from rfl, nJ_shl (shl_lt 7 (by decide) _ (by omega)) (by omega), nJ_clr]
    unfold wx
    rw [if_pos z]
  · rw [if_neg (show ¬ nI f ≤ (2 : Int32) from nI_nge (i := 2) (n := f) (by omega) (by omega)), show (36 : Int32) = nI 36 from rfl, nI_add, nJ_63 _ (by omega), show (1 : Int64) <<< nJ (36 + k) = nJ (1 <<< (36 + k)) from nJ_shl (N := 1) (shl_lt 1 (by decide) _ (by omega)) (by omega), nJ_clr]
    unfold wx
    rw [if_neg z]
theorem m_mvd {n T c f t : Nat} {l ah : Nat → Int32} (hn : n ≤ 4) (hT4 : T ≤ 4) (x : MD M n T l ah) (hc : c < 16 ^ n) (hv : vc n c = true) (hf : f < 7) (ht : t < 5) (hh : ∀ s, s < 3 → hgt c n s ≤ T) : dp_den true xs xl (d + 4) 383 [.ref 114, .long (nJ (wN c n)), .int (nI f), .int (nI t)] M = lR (mvW n T c l ah f t) M := by
  have w := wk_t hn hc hv
  obtain ⟨hT, hb, x3, x4⟩ := x
  rw [D_X12_moved_0_den, D_X12_moved_0_eq, m_tkn hn hT hT4 hb w hf hh, rb_bi]
  cases ek : tkn c n f with
  | none => rw [mvW_n ek, if_pos (show tkI none < 0 by decide)]
  | some k =>
    obtain ⟨k1, -, -⟩ := tkn_p ek
    obtain ⟨u1, u2, u3⟩ := wk_m hn hc hv hf ek
    have hx := wx_lt (k := k) (f := f) (h := hgt c n f) w.1
    have sh : ∀ y, y < 45 → ∀ a, a < 8 → nJ (wx (wN c n) k f (hgt c n f)) ||| nJ a <<< nJ y = nJ (wx (wN c n) k f (hgt c n f) ||| a <<< y) := fun y hy a ha => by
      have := shl_lt a ha y hy
      rw [nJ_shl this (by omega), nJ_or (by omega) this]
    rw [show tkI (some k) = nI k from rfl, if_neg (nI_nn (by omega))]
    by_cases z : f = t
    · rw [if_pos (by rw [z]), mvW_m ek]
      unfold mvt
      by_cases y : t < 3
      · rw [if_pos y, if_neg (fun q => q.1 z.symm)]
      · rw [if_neg y]
        by_cases y' : t = 3
        · rw [if_pos y', if_neg (fun q => by omega)]
        · rw [if_neg y', if_neg (by omega)]
    rw [if_neg (fun q => z ((nI_eq (by omega) (by omega)).mp q))]
    by_cases y : t < 3
    · -- onto a stack
      have h4 := hgt_le c n t
      have k30 : D_X12_moved_30 xs xl (d + 3) (nJ (wN c n)) (nI f) (nI t) (nI k) M = lR (mvW n T c l ah f t) M := by
        rw [D_X12_moved_30_eq, if_neg (show ¬ (3 : Int32) ≤ nI t from nI_nge (n := 3) y (by omega)), if_neg (show ¬ (3 : Int32) ≤ nI t from nI_nge (n := 3) y (by omega)), m_top hT hT4 w y (hh t y), rb_bi, hT]
        by_cases q : hgt c n t = T
        · rw [if_pos (by rw [q]), mvW_m ek]
          unfold mvt
          rw [if_pos y, if_neg (fun p => by omega)]
        · have := hh t y
          rw [if_neg (fun p => q ((nI_eq (by omega) (by omega)).mp p)), D_X12_moved_64_eq, if_neg (show ¬ nI t = (3 : Int32) from fun p => by have := (nI_eq (by omega) (by omega)).mp (show nI t = nI 3 from p); omega), m_106 hn hT hT4 w hf hh ek, D_X12_moved_151_eq, if_neg (show ¬ nI t = (4 : Int32) from fun p => by have := (nI_eq (by omega) (by omega)).mp (show nI t = nI 4 from p); omega), if_neg (show ¬ nI t = (3 : Int32) from fun p => by have := (nI_eq (by omega) (by omega)).mp (show nI t = nI 3 from p); omega), m_top hT hT4 w y (hh t y), rb_bi, mvW_s (p := t * 4 + hgt c n t) ek (by unfold mvt; rw [if_pos y, if_pos ⟨fun q => z q.symm, by omega⟩]), show (4 : Int32) = nI 4 from rfl, pk_mul, nI_add, show (3 : Int32) = nI 3 from rfl, pk_mul, nJ_63 _ (by omega), nI_1, nJ_l _ (by omega), sh _ (by omega) _ (by omega), u3 t y z (by omega)]
      by_cases q : nI f ≤ (2 : Int32)
      · rw [if_pos q]; exact k30
      · rw [if_neg q, if_neg (show ¬ (2 : Int32) < nI t from fun p => absurd (show nI t ≤ (2 : Int32) from nI_lle (i := 2) (by omega) (by omega)) (Int32.not_le.mpr p))]; exact k30
    by_cases y2 : f < 3
    case neg =>
      rw [if_neg (show ¬ nI f ≤ (2 : Int32) from nI_nge (i := 2) (n := f) (by omega) (by omega)), if_pos (show (2 : Int32) < nI t from Int32.not_le.mp (nI_nge (i := 2) (n := t) (by omega) (by omega))), mvW_m ek]
      unfold mvt
      rw [if_neg y]
      by_cases y' : t = 3
      · rw [if_pos y', if_neg (fun q => y2 q.1)]
      · rw [if_neg y', if_neg y2]
    rw [if_pos (show nI f ≤ (2 : Int32) from nI_lle (i := 2) (by omega) (by omega)), D_X12_moved_30_eq, if_pos (show (3 : Int32) ≤ nI t from nI_lle (n := 3) (by omega) (by omega)), D_X12_moved_64_eq]
    by_cases y3 : t = 3
    · subst y3
      rw [if_pos (show nI 3 = (3 : Int32) from rfl)]
      obtain ⟨bx, b1, b2, b3⟩ := x3 k k1
      simp only [nI_cl (show k < 2147483648 by omega), nI_o (show k < 4 by omega) (by omega), if_false, b2, nI_cl (show bx < 2147483648 by omega), nI_o (show bx < 100 by omega) (by omega), x4 k k1]
      by_cases q1 : l k = 0
      · rw [if_neg (fun p => (b3.mp p) q1), mvW_m ek]
        unfold mvt
        rw [if_neg (by decide), if_pos rfl, if_neg (fun p => p.2.1 q1)]
      · rw [if_pos (b3.mpr q1), m_ashr w, rb_bi]
        by_cases q2 : (ah k &&& (nI (ash c n) ^^^ (-1 : Int32))) = 0
        · rw [if_pos q2, m_106 hn hT hT4 w hf hh ek, D_X12_moved_151_eq, if_neg (show ¬ nI 3 = (4 : Int32) by decide), if_pos (show nI 3 = (3 : Int32) from rfl), mvW_s (p := 12) ek (by unfold mvt; rw [if_neg (by decide), if_pos rfl, if_pos ⟨y2, q1, q2⟩]), show (40 : Int32) = nI 40 from rfl, nI_add, nJ_63 _ (by omega), show (1 : Int64) = nJ 1 from rfl, sh _ (by omega) _ (by omega), u1]
        · rw [if_neg q2, mvW_m ek]
          unfold mvt
          rw [if_neg (by decide), if_pos rfl, if_neg (fun p => q2 p.2.2)]
    · have : t = 4 := by omega
      subst this
      rw [if_neg (show ¬ nI 4 = (3 : Int32) by decide), m_106 hn hT hT4 w hf hh ek, D_X12_moved_151_eq, if_pos (show nI 4 = (4 : Int32) from rfl), mvW_s (p := 13) ek (by unfold mvt; rw [if_neg (by decide), if_neg (by decide), if_pos y2]), show (36 : Int32) = nI 36 from rfl, nI_add, nJ_63 _ (by omega), show (1 : Int64) = nJ 1 from rfl, sh _ (by omega) _ (by omega), u2]
theorem ash_tb (c : Nat) : ∀ n k, k < n → (ash c n).testBit k = decide (pl c k = 12)
  | 0, k, h => by omega
  | n + 1, k, h => by
    have hl := ash_lt c n
    rw [ash]
    by_cases z : k = n
    · subst z
      by_cases y : pl c k = 12
      · rw [if_pos y, decide_eq_true y, Nat.add_comm, Nat.testBit_two_pow_add_eq, Nat.testBit_lt_two_pow hl]; rfl
      · rw [if_neg y, decide_eq_false y, Nat.testBit_lt_two_pow hl]
    · have ih := ash_tb c n k (by omega)
      by_cases y : pl c n = 12
      · rw [if_pos y, Nat.add_comm, Nat.testBit_two_pow_add_gt (by omega)]; exact ih
      · rw [if_neg y]; exact ih
theorem m_end {n T c : Nat} {l ah : Nat → Int32} (hn : n ≤ 4) (x : MD M n T l ah) (w : WK n c) : dp_den true xs xl (d + 2) 384 [.ref 114, .long (nJ (wN c n))] M = iR (bI (eok l n c = true)) M := by
  obtain ⟨hT, hb, x3, x4⟩ := x
  have hl := ash_lt c n
  have h16 : 2 ^ n ≤ 2 ^ 4 := Nat.pow_le_pow_right (by decide) hn
  rw [show (2 : Nat) ^ 4 = 16 from rfl] at h16
  rw [D_X12_isEnd_0_den, D_X12_isEnd_0_eq]
  simp only [dp_w]
  have st : ∀ k, k < n → D_X12_isEnd_5 xs xl (d + 1) (nJ (wN c n)) 1 (nI k) M = D_X12_isEnd_5 xs xl (d + 1) (nJ (wN c n)) (if ebd l c k = true then 0 else 1) (nI (k + 1)) M := fun k hk => by
    obtain ⟨bx, b1, b2, b3⟩ := x3 k hk
    rw [D_X12_isEnd_5_eq, hb, if_neg (nI_nge hk (by omega)), if_neg (by decide), m_asd w hn hk, rb_bi, ibz]
    by_cases z : pl c k = 13
    · rw [if_pos z, if_pos (ebd_t.mpr (Or.inl z))]
      simp only [dp_w, nI_1]
    · rw [if_neg z]
      simp only [nI_cl (show k < 2147483648 by omega), nI_o (show k < 4 by omega) (by omega), if_false, b2, nI_cl (show bx < 2147483648 by omega), nI_o (show bx < 100 by omega) (by omega)]
      by_cases y : l k = 0
      · rw [if_neg (fun p => (b3.mp p) y), if_neg (fun p => by rcases ebd_t.mp p with e | e; exact z e; exact e.1 y)]
        simp only [dp_w, nI_1]
      · rw [if_pos (b3.mpr y), m_ashr w, rb_bi]
        have tb' := tb_sh (v := nI (ash c n)) (j := k) (by omega)
        rw [tb_n (by omega), ash_tb c n k hk] at tb'
        by_cases q : pl c k = 12
        · rw [if_pos (tb'.mpr (decide_eq_true q)), if_neg (fun p => by rcases ebd_t.mp p with e | e; exact z e; exact e.2 q)]
          simp only [dp_w, nI_1]
        · rw [if_neg (fun p => q (of_decide_eq_true (tb'.mp p))), if_pos (ebd_t.mpr (Or.inr ⟨y, q⟩))]
          simp only [dp_w, nI_1]
  have fin : ∀ v : Int32, v = 0 ∨ v = 1 → D_X12_isEnd_5 xs xl (d + 1) (nJ (wN c n)) v (nI n) M = iR v M := fun v hv => by
    rw [D_X12_isEnd_5_eq, hb, if_pos (nI_lle (Nat.le_refl _) (by omega)), if_pos hv]
  rcases fst_or (ebd l c) 0 n with ⟨j, -, hj, hp, hb'⟩ | h
  · rw [bI_f (fun q => by rw [eok_t.mp q j hj] at hp; cases hp)]
    have k0 := lpf (F := fun k => D_X12_isEnd_5 xs xl (d + 1) (nJ (wN c n)) 0 (nI k) M) (a := j + 1) (j := n) (r := (.inl (some (.int 0)), M)) hj (fun k _ hk hr => by
      (try dsimp only at hr); (try dsimp only)
      rw [D_X12_isEnd_5_eq, hb, if_neg (nI_nge hk (by omega)), if_pos rfl]
      simp only [dp_w, nI_1]; exact hr) (fin 0 (Or.inl rfl))
    (try dsimp only at k0)
    exact lpf (F := fun k => D_X12_isEnd_5 xs xl (d + 1) (nJ (wN c n)) 1 (nI k) M) (a := 0) (j := j) (Nat.zero_le _) (fun k _ hk hr => by
      (try dsimp only at hr); (try dsimp only)
      rw [st k (by omega), if_neg (fun p => by rw [hb' k (Nat.zero_le _) hk] at p; cases p)]; exact hr) (by
      (try dsimp only)
      rw [st j hj, if_pos hp]; exact k0)
  · rw [bI_t (eok_t.mpr (fun i hi => h i (Nat.zero_le _) hi))]
    exact lpf (F := fun k => D_X12_isEnd_5 xs xl (d + 1) (nJ (wN c n)) 1 (nI k) M) (a := 0) (j := n) (Nat.zero_le _) (fun k _ hk hr => by
      (try dsimp only at hr); (try dsimp only)
      rw [st k hk, if_neg (fun p => by rw [h k (Nat.zero_le _) hk] at p; cases p)]; exact hr) (fin 1 (Or.inr rfl))
end PmI
