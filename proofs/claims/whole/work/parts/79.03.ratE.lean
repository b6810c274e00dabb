-- needs: 71 72 73 74
/-! RATES: the class makes nodes -/
def rwF (F S : Nat → Int32) (x : Nat) : List (Int32 × Int32) := (List.range (F (x * 7 + 5)).toNatClampNeg).map (fun k => (S (((F (x * 7 + 6)).toNatClampNeg + k) * 2), S (((F (x * 7 + 6)).toNatClampNeg + k) * 2 + 1)))
def rdF (F S : Nat → Int32) (x : Nat) : Nd × Int32 × Int32 := ((F (x * 7 + 0), F (x * 7 + 1), F (x * 7 + 2), rwF F S x), F (x * 7 + 3), F (x * 7 + 4))
/-- node x is the root of the tree l; ix: its nodes in l's order -/
def Rp (rd : Nat → Nd × Int32 × Int32) : Nat → Nat → List Nd → List Nat → Prop
  | 0, _, _, _ => False
  | n + 1, x, l, ix => (isBn (rd x).1 = false ∧ (rd x).2 = (-1, -1) ∧ l = [(rd x).1] ∧ ix = [x]) ∨ (isBn (rd x).1 = true ∧ ∃ x1 x2 l1 l2 i1 i2, (rd x).2 = (nI x1, nI x2) ∧ Rp rd n x1 l1 i1 ∧ Rp rd n x2 l2 i2 ∧ l = (rd x).1 :: (l1 ++ l2) ∧ ix = x :: (i1 ++ i2))
theorem Rp.hd {rd : Nat → Nd × Int32 × Int32} : ∀ {n x l ix}, Rp rd n x l ix → x ∈ ix
  | n + 1, x, l, ix, h => by
    rcases h with ⟨-, -, -, e⟩ | ⟨-, x1, x2, l1, l2, i1, i2, -, -, -, -, e⟩ <;> rw [e] <;> exact List.mem_cons_self ..
theorem Rp.len {rd : Nat → Nd × Int32 × Int32} : ∀ {n x l ix}, Rp rd n x l ix → ix.length = l.length ∧ 1 ≤ l.length
  | n + 1, x, l, ix, h => by
    rcases h with ⟨-, -, e1, e2⟩ | ⟨-, x1, x2, l1, l2, i1, i2, -, h1, h2, e1, e2⟩
    · rw [e1, e2]; exact ⟨rfl, Nat.le_refl _⟩
    · rw [e1, e2, List.length_cons, List.length_cons, List.length_append, List.length_append, h1.len.1, h2.len.1]; exact ⟨rfl, by omega⟩
theorem Rp.c {rd rd' : Nat → Nd × Int32 × Int32} : ∀ {n x l ix}, Rp rd n x l ix → (∀ i, i ∈ ix → rd' i = rd i) → Rp rd' n x l ix
  | n + 1, x, l, ix, h, e => by
    have ex : rd' x = rd x := e x h.hd
    rcases h with ⟨h1, h2, h3, h4⟩ | ⟨h0, x1, x2, l1, l2, i1, i2, h1, h2, h3, h4, h5⟩
    · exact Or.inl ⟨by rw [ex]; exact h1, by rw [ex]; exact h2, by rw [ex]; exact h3, h4⟩
    · refine Or.inr ⟨by rw [ex]; exact h0, x1, x2, l1, l2, i1, i2, by rw [ex]; exact h1, h2.c (fun i hi => e i ?_), h3.c (fun i hi => e i ?_), by rw [ex]; exact h4, h5⟩
      · rw [h5]; exact List.mem_cons_of_mem _ (List.mem_append_left _ hi)
      · rw [h5]; exact List.mem_cons_of_mem _ (List.mem_append_right _ hi)
theorem Rp.up {rd : Nat → Nd × Int32 × Int32} : ∀ {n x l ix}, Rp rd n x l ix → ∀ m, n ≤ m → Rp rd m x l ix
  | n + 1, x, l, ix, h, m, hm => by
    obtain ⟨k, rfl⟩ : ∃ k, m = k + 1 := ⟨m - 1, by omega⟩
    rcases h with h | ⟨h0, x1, x2, l1, l2, i1, i2, h1, h2, h3, h4, h5⟩
    · exact Or.inl h
    · exact Or.inr ⟨h0, x1, x2, l1, l2, i1, i2, h1, h2.up k (by omega), h3.up k (by omega), h4, h5⟩
/-- the units that are asked for -/
def umk : List Nd → Int32
  | [] => 0
  | v :: l => (if v.1 = 2 then (1 : Int32) <<< (v.2.2.1 &&& 31) else 0) ||| umk l
theorem umk_app : ∀ (a b : List Nd), umk (a ++ b) = umk a ||| umk b
  | [], b => by show umk b = 0 ||| umk b; rw [Int32.zero_or]
  | v :: a, b => by
    show (if v.1 = 2 then (1 : Int32) <<< (v.2.2.1 &&& 31) else 0) ||| umk (a ++ b) = _
    rw [umk_app a b, ← Int32.or_assoc]; rfl
/-- a number, as far as it is none below 0 -/
def tN (x : Int32) : Nat := if x < 0 then 1000 else x.toNatClampNeg
theorem tN_ge (x : Int32) : x.toNatClampNeg ≤ tN x := by
  unfold tN
  by_cases h : x < 0
  · rw [if_pos h]
    rw [Int32.lt_iff_toInt_lt] at h
    have z : (0 : Int32).toInt = 0 := rfl
    have e : x.toNatClampNeg = x.toInt.toNat := rfl
    omega
  · rw [if_neg h]; exact Nat.le_refl _
theorem tN_n {n : Nat} (h : n < 2147483648) : tN (nI n) = n := by unfold tN; rw [if_neg (fun q => by rw [Int32.lt_iff_toInt_lt, nI_toInt h] at q; have : (0 : Int32).toInt = 0 := rfl; omega), nI_cl h]
theorem tN_lt {x : Int32} (h : tN x < 1000) : x = nI (tN x) := by
  unfold tN at h ⊢
  by_cases h0 : x < 0
  · rw [if_pos h0] at h; omega
  · rw [if_neg h0]
    rw [Int32.lt_iff_toInt_lt] at h0
    have z : (0 : Int32).toInt = 0 := rfl
    have e : x.toNatClampNeg = x.toInt.toNat := rfl
    refine Int32.toInt_inj.mp ?_
    rw [nI_toInt (by have := x.toInt_lt; omega), e]
    omega
/-- the class's reader, at p, with c nodes and s steps -/
def CSt (M : dp_M) (t : Nat → Int32) (L p c s : Nat) : Prop := TxC M t L ∧ dp_I M 68 9 = nI p ∧ p ≤ L ∧ dp_I M 68 2 = -1 ∧ dp_I M 68 10 = nI c ∧ c ≤ 60 ∧ dp_I M 68 11 = nI s ∧ 3 * s ≤ p ∧ ∀ x, x < c → tN (dp_I M 71 (x * 7 + 6)) + tN (dp_I M 71 (x * 7 + 5)) ≤ s
theorem CSt.pl {M : dp_M} {t : Nat → Int32} {L p c s q : Nat} (h : CSt M t L p c s) (hq : p ≤ q) (hL : q ≤ L) : CSt (plc M q) t L q c s := by
  obtain ⟨h1, h2, h3, h4, h5, h6, h7, h8, h9⟩ := h
  exact ⟨h1.pl, plc_p _ _, hL, by rw [plc_o _ _ _ (by decide)]; exact h4, by rw [plc_o _ _ _ (by decide)]; exact h5, h6, by rw [plc_o _ _ _ (by decide)]; exact h7, by omega, fun x hx => by rw [plc_I _ _ _ (by decide)]; exact h9 x hx⟩
/-- a tree was read -/
def PtC (M : dp_M) (t : Nat → Int32) (L c s : Nat) (l : List Nd) (q c' : Nat) (M' : dp_M) (x : Nat) : Prop := FrC M M' ∧ (∃ s', CSt M' t L q c' s' ∧ s ≤ s') ∧ c' = c + l.length ∧ (∀ i, i < c * 7 → dp_I M' 71 i = dp_I M 71 i) ∧ (∀ i, i < s * 2 → dp_I M' 72 i = dp_I M 72 i) ∧ (∃ n ix, Rp (rdF (dp_I M' 71) (dp_I M' 72)) n x l ix ∧ ix.Nodup ∧ ∀ i, i ∈ ix → c ≤ i ∧ i < c') ∧ dp_I M' 68 12 = dp_I M 68 12 ||| umk l
/-- nodes that were there stay -/
theorem rdF_c {F S F' S' : Nat → Int32} {x s : Nat} (h1 : ∀ k, k < 7 → F' (x * 7 + k) = F (x * 7 + k)) (h2 : ∀ i, i < s * 2 → S' i = S i) (h3 : tN (F (x * 7 + 6)) + tN (F (x * 7 + 5)) ≤ s) : rdF F' S' x = rdF F S x := by
  have k6 := tN_ge (F (x * 7 + 6))
  have k5 := tN_ge (F (x * 7 + 5))
  have e : rwF F' S' x = rwF F S x := by
    unfold rwF
    rw [h1 5 (by omega), h1 6 (by omega)]
    refine List.map_congr_left (fun k hk => ?_)
    have := List.mem_range.mp hk
    rw [h2 _ (by omega), h2 _ (by omega)]
  unfold rdF
  rw [e, h1 0 (by omega), h1 1 (by omega), h1 2 (by omega), h1 3 (by omega), h1 4 (by omega)]
section RE
variable {xs : Nat → Int32} {xl d : Nat} {M : dp_M} {t : Nat → Int32} {L : Nat}
theorem t_7 {x k : Nat} : nI x * (7 : Int32) + nI k = nI (x * 7 + k) := by rw [show (7 : Int32) = nI 7 from rfl, pk_mul, nI_add]
theorem c_setF {v2 v : Int32} {x k : Nat} (h2 : v2 = nI k) (hx : x < 60) (hk : k < 7) : dp_den true xs xl (d + 1) 151 [.ref 68, .int (nI x), .int v2, .int v] M = vR (dp_setI M 71 (x * 7 + k) v) := by
  subst h2
  rw [D_X7_setFact_0_den, D_X7_setFact_0_eq]
  simp only [t_7, nI_cl (show x * 7 + k < 2147483648 by omega), nI_o (show x * 7 + k < 420 by omega) (by omega), if_false, dp_w]
theorem c_below {x : Nat} {a b : Int32} (hx : x < 60) : dp_den true xs xl (d + 2) 152 [.ref 68, .int (nI x), .int a, .int b] M = vR (dp_setI (dp_setI M 71 (x * 7 + 3) a) 71 (x * 7 + 4) b) := by
  rw [D_X7_setBelow_0_den, D_X7_setBelow_0_eq, c_setF (v2 := 3) (k := 3) rfl hx (by omega), rb_bv, c_setF (v2 := 4) (k := 4) rfl hx (by omega), rb_bv]
/-- facts of a new node -/
def nwF (F : Nat → Int32) (c : Nat) (kind : Int32) : Nat → Int32 := uI (uI (uI (uI (uI (uI (uI F (c * 7 + 0) kind) (c * 7 + 1) 0) (c * 7 + 2) (-1)) (c * 7 + 3) (-1)) (c * 7 + 4) (-1)) (c * 7 + 5) 0) (c * 7 + 6) 0
theorem nwF_o {F : Nat → Int32} {c : Nat} {kind : Int32} {i : Nat} (h : i < c * 7) : nwF F c kind i = F i := by unfold nwF; rw [uI_n (by omega), uI_n (by omega), uI_n (by omega), uI_n (by omega), uI_n (by omega), uI_n (by omega), uI_n (by omega)]
theorem nwF_f (F : Nat → Int32) (c : Nat) (kind : Int32) : nwF F c kind (c * 7 + 0) = kind ∧ nwF F c kind (c * 7 + 1) = 0 ∧ nwF F c kind (c * 7 + 2) = -1 ∧ nwF F c kind (c * 7 + 3) = -1 ∧ nwF F c kind (c * 7 + 4) = -1 ∧ nwF F c kind (c * 7 + 5) = 0 ∧ nwF F c kind (c * 7 + 6) = 0 := by
  unfold nwF
  refine ⟨?_, ?_, ?_, ?_, ?_, ?_, ?_⟩
  · rw [uI_n (by omega), uI_n (by omega), uI_n (by omega), uI_n (by omega), uI_n (by omega), uI_n (by omega), uI_s]
  · rw [uI_n (by omega), uI_n (by omega), uI_n (by omega), uI_n (by omega), uI_n (by omega), uI_s]
  · rw [uI_n (by omega), uI_n (by omega), uI_n (by omega), uI_n (by omega), uI_s]
  · rw [uI_n (by omega), uI_n (by omega), uI_n (by omega), uI_s]
  · rw [uI_n (by omega), uI_n (by omega), uI_s]
  · rw [uI_n (by omega), uI_s]
  · rw [uI_s]
theorem c_add {p c s : Nat} {kind w : Int32} (h : CSt M t L p c s) (hc : c < 60) : ∃ M', (∀ {d}, dp_den true xs xl (d + 2) 150 [.ref 68, .int kind, .int w] M = iR (nI c) M') ∧ FrC M M' ∧ CSt M' t L p (c + 1) s ∧ dp_I M' 71 = nwF (dp_I M 71) c kind ∧ dp_I M' 72 = dp_I M 72 ∧ dp_I M' 68 12 = dp_I M 68 12 := by
  obtain ⟨h1, h2, h3, h4, h5, h6, h7, h8, h9⟩ := h
  obtain ⟨M', hM⟩ : ∃ M', M' = dp_setI (dp_setI (dp_setI (dp_setI (dp_setI (dp_setI (dp_setI (dp_setI M 71 (c * 7 + 0) kind) 71 (c * 7 + 1) 0) 71 (c * 7 + 2) (-1)) 71 (c * 7 + 3) (-1)) 71 (c * 7 + 4) (-1)) 71 (c * 7 + 5) 0) 71 (c * 7 + 6) 0) 68 10 (nI (c + 1)) := ⟨_, rfl⟩
  have fr : FrC M M' := by rw [hM]; exact ((((((((FrC.r M).f _ _).f _ _).f _ _).f _ _).f _ _).f _ _).f _ _).s 10 (by decide) _
  have e71 : dp_I M' 71 = nwF (dp_I M 71) c kind := by rw [hM]; unfold nwF; simp only [gII, Nat.reduceEqDiff, if_true, if_false]
  have e68 : dp_I M' 68 = uI (dp_I M 68) 10 (nI (c + 1)) := by rw [hM]; simp only [gII, Nat.reduceEqDiff, if_true, if_false]
  have e72 : dp_I M' 72 = dp_I M 72 := by rw [hM]; simp only [gII, Nat.reduceEqDiff, if_false]
  have nf := nwF_f (dp_I M 71) c kind
  refine ⟨M', fun {d} => ?_, fr, ⟨h1.fr fr, by rw [e68, uI_n (by decide)]; exact h2, h3, by rw [e68, uI_n (by decide)]; exact h4, by rw [e68, uI_s], by omega, by rw [e68, uI_n (by decide)]; exact h7, h8, fun x hx => ?_⟩, e71, e72, by rw [e68, uI_n (by decide)]⟩
  · have e0 : nI c * (7 : Int32) = nI (c * 7 + 0) := by rw [show (7 : Int32) = nI 7 from rfl, pk_mul]; rfl
    have ek : ∀ k : Nat, k < 7 → nI (c * 7 + 0) + nI k = nI (c * 7 + k) := fun k _ => by rw [nI_add]; congr 1
    have k1 : nI (c * 7 + 0) + (1 : Int32) = nI (c * 7 + 1) := ek 1 (by omega)
    have k2 : nI (c * 7 + 0) + (2 : Int32) = nI (c * 7 + 2) := ek 2 (by omega)
    have k3 : nI (c * 7 + 0) + (3 : Int32) = nI (c * 7 + 3) := ek 3 (by omega)
    have k4 : nI (c * 7 + 0) + (4 : Int32) = nI (c * 7 + 4) := ek 4 (by omega)
    have k5 : nI (c * 7 + 0) + (5 : Int32) = nI (c * 7 + 5) := ek 5 (by omega)
    have k6 : nI (c * 7 + 0) + (6 : Int32) = nI (c * 7 + 6) := ek 6 (by omega)
    have h5' : dp_I M 68 10 = nI c := h5
    rw [D_X7_addNode_0_den, D_X7_addNode_0_eq, h5', if_pos (show nI (c) < (60 : Int32) from nI_lt (a := c) (b := 60) (by omega) (by omega))]
    simp only [dp_w, e0, k1, k2, k3, k4, k5, k6, nI_cl (show c * 7 + 0 < 2147483648 by omega), nI_cl (show c * 7 + 1 < 2147483648 by omega), nI_cl (show c * 7 + 2 < 2147483648 by omega), nI_cl (show c * 7 + 3 < 2147483648 by omega), nI_cl (show c * 7 + 4 < 2147483648 by omega), nI_cl (show c * 7 + 5 < 2147483648 by omega), nI_cl (show c * 7 + 6 < 2147483648 by omega), nI_o (show c * 7 + 0 < 420 by omega) (by omega), nI_o (show c * 7 + 1 < 420 by omega) (by omega), nI_o (show c * 7 + 2 < 420 by omega) (by omega), nI_o (show c * 7 + 3 < 420 by omega) (by omega), nI_o (show c * 7 + 4 < 420 by omega) (by omega), nI_o (show c * 7 + 5 < 420 by omega) (by omega), nI_o (show c * 7 + 6 < 420 by omega) (by omega), if_false, gII, Nat.reduceEqDiff, if_true, h5', nI_1, uI_s, nI_pred]
    rw [hM]
  · rw [e71]
    by_cases z : x = c
    · subst z; rw [nf.2.2.2.2.2.2, nf.2.2.2.2.2.1]; exact Nat.zero_le _
    · rw [nwF_o (by omega), nwF_o (by omega)]; exact h9 x (by omega)
theorem c_addN {p c s : Nat} {kind : Int32} {w : Nat} (h : CSt M t L p c s) (hc : ¬ c < 60) : ∃ M', (∀ {d}, dp_den true xs xl (d + 2) 150 [.ref 68, .int kind, .int (nI w)] M = iR (-1) M') ∧ BdC M M' w := by
  obtain ⟨h1, h2, h3, h4, h5, h6, h7, h8, h9⟩ := h
  have h5' : dp_I M 68 10 = nI c := h5
  refine ⟨_, fun {d} => ?_, BdC.mk' (FrC.r M)⟩
  rw [D_X7_addNode_0_den, D_X7_addNode_0_eq, h5', if_neg (show ¬ nI (c) < (60 : Int32) from nI_nlt (a := c) (b := 60) (by omega) (by omega)), c_ref h4, rb_bi]
/-- bad behind some steps -/
theorem BdC.fr {M' M'' : dp_M} {b : Nat} (h : FrC M M') (h2 : BdC M' M'' b) : BdC M M'' b := ⟨h.tr h2.1, h2.2⟩
end RE
