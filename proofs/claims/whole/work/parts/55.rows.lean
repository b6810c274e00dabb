/-! THE CONSTRUCTORS: rows -/
section DQ
variable {md : Bool} {xs : Nat → Int32} {xl : Nat} {F : dp_Phi} {mi : dp_Mi} {pc : Nat} {L : dp_L} {st rest as : List Value} {M M' : dp_M} {i : Instr} {r : Option dp_Res}
theorem dq_t {c a : Nat} (hn : dp_n M = c) (h : a < c ∧ a < 246) : dp_t false M a = dp_sh a := by
  unfold dp_t
  rw [if_pos (show a < dp_K0 from h.2), if_neg (by decide), if_pos (by rw [hn]; exact h.1)]
theorem dq_if {c : Prop} [Decidable c] {cf : dp_Cfg} (hF : dp_grow F) (hf : dp_ins mi pc = some i) (he : ∀ k, dp_ex md xs xl F mi i pc L st M k = if c then k cf else none) (hc : c) (h : dp_lim md xs xl F mi cf = r) : dp_lim md xs xl F mi (pc, L, st, M) = r := by
  rw [dp_s (E := fun k => if c then k cf else none) hF hf he, if_pos hc, h]
theorem dq_nk {α : Type} {p t : Nat} {x : Option α} (hn : dp_n M = p) (hs : dp_sh p = t) : dp_nk M t x = x := by
  unfold dp_nk
  rw [hn]
  by_cases h : p < dp_K0
  · rw [if_pos h, if_pos hs]
  · rw [if_neg h]
theorem dq_na {at_ : ArrayType} {c : Int32} {p t N : Nat} (hF : dp_grow F) (hf : dp_ins mi pc = some (.newarray at_)) (ht : (at_ = .int ∧ t = 1) ∨ (at_ = .long ∧ t = 2) ∨ (at_ = .boolean ∧ t = 3) ∨ (at_ = .char ∧ t = 4)) (hc : ¬ (c < 0 ∨ 1000000 ≤ c.toNatClampNeg)) (hN : c.toNatClampNeg = N) (hn : dp_n M = p) (hs : dp_sh p = t) (hM : dp_new M N t N = M')
    (h : dp_lim md xs xl F mi (pc + 2, L, .ref p :: st, M') = r) : dp_lim md xs xl F mi (pc, L, .int c :: st, M) = r := by
  subst hN hM
  rw [← h]
  have hk : ∀ k : dp_Cfg → Option dp_Res, dp_ex md xs xl F mi (.newarray at_) pc L (.int c :: st) M k = k (pc + 2, L, .ref p :: st, dp_new M c.toNatClampNeg t c.toNatClampNeg) := by
    intro k
    rcases ht with ⟨rfl, rfl⟩ | ⟨rfl, rfl⟩ | ⟨rfl, rfl⟩ | ⟨rfl, rfl⟩ <;> (simp only [dp_ex, dp_gr, dp_mk, if_neg hc, dq_nk hn hs, dp_il, hn])
  exact dp_s (E := fun k => k (pc + 2, L, .ref p :: st, dp_new M c.toNatClampNeg t c.toNatClampNeg)) hF hf hk
theorem dq_nr {ix : Nat} {c : Int32} {p N : Nat} (hF : dp_grow F) (hf : dp_ins mi pc = some (.anewarray ix)) (hl : dp_lkR (dp_own1 mi) ix = true) (hc : ¬ (c < 0 ∨ 1000000 ≤ c.toNatClampNeg)) (hN : c.toNatClampNeg = N) (hn : dp_n M = p) (hs : dp_sh p = 5) (hM : dp_new M N 5 N = M')
    (h : dp_lim md xs xl F mi (pc + 3, L, .ref p :: st, M') = r) : dp_lim md xs xl F mi (pc, L, .int c :: st, M) = r := by
  subst hN hM
  rw [← h]
  have hk : ∀ k : dp_Cfg → Option dp_Res, dp_ex md xs xl F mi (.anewarray ix) pc L (.int c :: st) M k = k (pc + 3, L, .ref p :: st, dp_new M c.toNatClampNeg 5 c.toNatClampNeg) := by
    intro k
    simp only [dp_ex, dp_gr, dp_mk, if_neg hc, if_pos hl, dq_nk hn hs, dp_il, hn]
  exact dp_s (E := fun k => k (pc + 3, L, .ref p :: st, dp_new M c.toNatClampNeg 5 c.toNatClampNeg)) hF hf hk
theorem dq_nw {ix ci p : Nat} (hF : dp_grow F) (hf : dp_ins mi pc = some (.new ix)) (hl : dp_lkN (dp_own1 mi) ix = some ci) (hn : dp_n M = p) (hs : dp_sh p = ci + 10) (hM : dp_new M 0 (ci + 10) (dp_nf ci) = M')
    (h : dp_lim md xs xl F mi (pc + 3, L, .ref p :: st, M') = r) : dp_lim md xs xl F mi (pc, L, st, M) = r := by
  subst hM
  rw [← h]
  have hk : ∀ k : dp_Cfg → Option dp_Res, dp_ex md xs xl F mi (.new ix) pc L st M k = k (pc + 3, L, .ref p :: st, dp_new M 0 (ci + 10) (dp_nf ci)) := by
    intro k
    simp only [dp_ex, dp_gr, hl, Option.isSome_some, if_true, dp_mk, dq_nk hn hs, dp_il, hn]
  exact dp_s (E := fun k => k (pc + 3, L, .ref p :: st, dp_new M 0 (ci + 10) (dp_nf ci))) hF hf hk
theorem dq_ct {j : Nat} (hF : dp_grow F) (hf : dp_ins mi pc = some i) (he : ∀ k, dp_ex md xs xl F mi i pc L st M k = dp_back0 pc L rest (F j as M) k) (hd : F j as M = some (.inl none, M')) (h : dp_lim md xs xl F mi (pc + 3, L, rest, M') = r) : dp_lim md xs xl F mi (pc, L, st, M) = r := by
  rw [dp_s (E := fun k => dp_back0 pc L rest (F j as M) k) hF hf he, hd]
  exact h
theorem dq_ci {j : Nat} {x : Int32} (hF : dp_grow F) (hf : dp_ins mi pc = some i) (_ : dp_hh mi = []) (he : ∀ k, dp_ex md xs xl F mi i pc L st M k = dp_back mi pc L rest (F j as M) k) (hd : F j as M = some (.inl (some (.int x)), M')) (h : dp_lim md xs xl F mi (pc + 3, L, .int x :: rest, M') = r) : dp_lim md xs xl F mi (pc, L, st, M) = r := by
  rw [dp_s (E := fun k => dp_back mi pc L rest (F j as M) k) hF hf he, hd]
  exact h
theorem dq_cv {j : Nat} (hF : dp_grow F) (hf : dp_ins mi pc = some i) (_ : dp_hh mi = []) (he : ∀ k, dp_ex md xs xl F mi i pc L st M k = dp_back mi pc L rest (F j as M) k) (hd : F j as M = some (.inl none, M')) (h : dp_lim md xs xl F mi (pc + 3, L, rest, M') = r) : dp_lim md xs xl F mi (pc, L, st, M) = r := by
  rw [dp_s (E := fun k => dp_back mi pc L rest (F j as M) k) hF hf he, hd]
  exact h
end DQ
def dq_fl (M : dp_M) (p : Nat) (x : Int32) (N : Nat) : dp_M := (fun k i => if k = p ∧ i < N then x else dp_I M k i, M.2)
def dq_il (M : dp_M) (p N : Nat) : dp_M := (fun k i => if k = p ∧ i < N then nI i else dp_I M k i, M.2)
def dq_jl (M : dp_M) (p : Nat) (x : Int64) (N : Nat) : dp_M := (M.1, (fun k i => if k = p ∧ i < N then x else dp_J M k i), M.2.2)
theorem dq_fl_s (M : dp_M) (p : Nat) (x : Int32) (j : Nat) : dp_setI (dq_fl M p x j) p j x = dq_fl M p x (j + 1) := by
  unfold dp_setI dq_fl
  congr 1
  funext k i
  unfold dp_up
  by_cases hk : k = p
  · by_cases hi : i = j
    · simp [hk, hi]
    · simp only [hk, hi, if_true, if_false, true_and]
      by_cases h1 : i < j
      · rw [if_pos h1, if_pos (by omega)]
      · rw [if_neg h1, if_neg (by omega)]
  · simp [hk]
theorem dq_fl_0 (M : dp_M) (p : Nat) (x : Int32) : dq_fl M p x 0 = M := by unfold dq_fl; simp
theorem dq_il_s (M : dp_M) (p : Nat) (j : Nat) : dp_setI (dq_il M p j) p j (nI j) = dq_il M p (j + 1) := by
  unfold dp_setI dq_il
  congr 1
  funext k i
  unfold dp_up
  by_cases hk : k = p
  · by_cases hi : i = j
    · simp [hk, hi]
    · simp only [hk, hi, if_true, if_false, true_and]
      by_cases h1 : i < j
      · rw [if_pos h1, if_pos (by omega)]
      · rw [if_neg h1, if_neg (by omega)]
  · simp [hk]
theorem dq_il_0 (M : dp_M) (p : Nat) : dq_il M p 0 = M := by unfold dq_il; simp
theorem dq_jl_s (M : dp_M) (p : Nat) (x : Int64) (j : Nat) : dp_setJ (dq_jl M p x j) p j x = dq_jl M p x (j + 1) := by
  unfold dp_setJ dq_jl
  congr 2
  funext k i
  unfold dp_up
  by_cases hk : k = p
  · by_cases hi : i = j
    · simp [hk, hi]
    · simp only [hk, hi, if_true, if_false, true_and]
      by_cases h1 : i < j
      · rw [if_pos h1, if_pos (by omega)]
      · rw [if_neg h1, if_neg (by omega)]
  · simp [hk]
theorem dq_jl_0 (M : dp_M) (p : Nat) (x : Int64) : dq_jl M p x 0 = M := by unfold dq_jl; simp
noncomputable def D0_X11_heldTo_0 (xs : Nat → Int32) (xl d : Nat) (v0 : Int32) (v1 : Int32) (M : dp_M) : Option dp_Res := dp_lim false xs xl (dp_den false xs xl d) dp_m_X11_heldTo (0, [some (.int v0), some (.int v1)], [], M)
theorem D0_X11_heldTo_0_den (xs : Nat → Int32) (xl d : Nat) (a0 : Int32) (a1 : Int32) (M : dp_M) : dp_den false xs xl (d + 1) 250 [.int a0, .int a1] M = D0_X11_heldTo_0 xs xl d a0 a1 M := rfl
set_option maxRecDepth 20000 in
theorem D0_X11_heldTo_0_eq (xs : Nat → Int32) (xl d : Nat) (v0 : Int32) (v1 : Int32) (M : dp_M) : D0_X11_heldTo_0 xs xl d v0 v1 M = some (.inl (some (.int (if (1 : Int32) < (if v1 < v0 then v1 else v0) then (if v1 < v0 then v1 else v0) else (1 : Int32)))), M) := by
  have hF := dp_den_grow (md := false) (xs := xs) (xl := xl) d
  unfold D0_X11_heldTo_0
  refine dp_s1 hF (i := .iconst 1) rfl (fun _ => rfl) ?_
  refine dp_s1 hF (i := .iload_n 0) rfl (fun _ => rfl) ?_
  refine dp_s1 hF (i := .iload_n 1) rfl (fun _ => rfl) ?_
  refine dp_s1 hF (i := .invokestatic 84) rfl (fun _ => rfl) ?_
  refine dp_s1 hF (i := .invokestatic 89) rfl (fun _ => rfl) ?_
  exact dp_s0 hF (i := .ireturn) rfl (fun _ => rfl)
noncomputable def D0_X12_held_0 (xs : Nat → Int32) (xl d : Nat) (v0 : Int32) (v1 : Int32) (M : dp_M) : Option dp_Res := dp_lim false xs xl (dp_den false xs xl d) dp_m_X12_held (0, [some (.int v0), some (.int v1)], [], M)
theorem D0_X12_held_0_den (xs : Nat → Int32) (xl d : Nat) (a0 : Int32) (a1 : Int32) (M : dp_M) : dp_den false xs xl (d + 1) 368 [.int a0, .int a1] M = D0_X12_held_0 xs xl d a0 a1 M := rfl
set_option maxRecDepth 20000 in
theorem D0_X12_held_0_eq (xs : Nat → Int32) (xl d : Nat) (v0 : Int32) (v1 : Int32) (M : dp_M) : D0_X12_held_0 xs xl d v0 v1 M = if (1 : Int32) ≤ v0 then (if v0 ≤ v1 then (some (.inl (some (.int v0)), M)) else (some (.inl (some (.int v1)), M))) else (some (.inl (some (.int (1 : Int32))), M)) := by
  have hF := dp_den_grow (md := false) (xs := xs) (xl := xl) d
  unfold D0_X12_held_0
  refine dp_s1 hF (i := .iload_n 0) rfl (fun _ => rfl) ?_
  refine dp_s1 hF (i := .iconst 1) rfl (fun _ => rfl) ?_
  refine dp_s2 hF (i := .if_icmp .ge 7) (a := (9, [some (.int v0), some (.int v1)], [], M)) (b := (5, [some (.int v0), some (.int v1)], [], M)) rfl (fun _ => rfl) ?_ ?_
  · refine dp_s1 hF (i := .iload_n 0) rfl (fun _ => rfl) ?_
    refine dp_s1 hF (i := .iload_n 1) rfl (fun _ => rfl) ?_
    refine dp_s2 hF (i := .if_icmp .le 7) (a := (18, [some (.int v0), some (.int v1)], [], M)) (b := (14, [some (.int v0), some (.int v1)], [], M)) rfl (fun _ => rfl) ?_ ?_
    · refine dp_s1 hF (i := .iload_n 0) rfl (fun _ => rfl) ?_
      exact dp_s0 hF (i := .ireturn) rfl (fun _ => rfl)
    refine dp_s1 hF (i := .iload_n 1) rfl (fun _ => rfl) ?_
    refine dp_s1 hF (i := .goto 4) rfl (fun _ => rfl) ?_
    exact dp_s0 hF (i := .ireturn) rfl (fun _ => rfl)
  refine dp_s1 hF (i := .iconst 1) rfl (fun _ => rfl) ?_
  refine dp_s1 hF (i := .goto 13) rfl (fun _ => rfl) ?_
  exact dp_s0 hF (i := .ireturn) rfl (fun _ => rfl)
noncomputable def D0_L_cell_0 (xs : Nat → Int32) (xl d : Nat) (v1 : Int32) (M : dp_M) : Option dp_Res := dp_lim false xs xl (dp_den false xs xl d) dp_m_L_cell (0, [some (.retAddr 0), some (.int v1)], [], M)
theorem D0_L_cell_0_den (xs : Nat → Int32) (xl d : Nat) (a1 : Int32) (M : dp_M) : dp_den false xs xl (d + 1) 594 [.retAddr 0, .int a1] M = D0_L_cell_0 xs xl d a1 M := rfl
set_option maxRecDepth 20000 in
theorem D0_L_cell_0_eq (xs : Nat → Int32) (xl d : Nat) (v1 : Int32) (M : dp_M) : D0_L_cell_0 xs xl d v1 M = if (Int32.ofNat xl) ≤ v1 then (some (.inl (some (.int (0 : Int32))), M)) else (if v1 < 0 ∨ xl ≤ Int32.toNatClampNeg v1 then none else (some (.inl (some (.int (xs (Int32.toNatClampNeg v1)))), M))) := by
  have hF := dp_den_grow (md := false) (xs := xs) (xl := xl) d
  unfold D0_L_cell_0
  refine dp_s1 hF (i := .iload_n 1) rfl (fun _ => rfl) ?_
  refine dp_s1 hF (i := .aload_n 0) rfl (fun _ => rfl) ?_
  refine dp_s1 hF (i := .arraylength) rfl (fun _ => rfl) ?_
  refine dp_s2 hF (i := .if_icmp .ge 9) (a := (12, [some (.retAddr 0), some (.int v1)], [], M)) (b := (6, [some (.retAddr 0), some (.int v1)], [], M)) rfl (fun _ => rfl) ?_ ?_
  · refine dp_s1 hF (i := .iconst 0) rfl (fun _ => rfl) ?_
    exact dp_s0 hF (i := .ireturn) rfl (fun _ => rfl)
  refine dp_s1 hF (i := .aload_n 0) rfl (fun _ => rfl) ?_
  refine dp_s1 hF (i := .iload_n 1) rfl (fun _ => rfl) ?_
  refine dp_s3 hF (i := .iaload) rfl (fun _ => rfl) ?_
  refine dp_s1 hF (i := .goto 4) rfl (fun _ => rfl) ?_
  exact dp_s0 hF (i := .ireturn) rfl (fun _ => rfl)
noncomputable def D0_J7_fill_53178_0 (xs : Nat → Int32) (xl d : Nat) (p0 : Nat) (v1 : Int32) (M : dp_M) : Option dp_Res := dp_lim false xs xl (dp_den false xs xl d) dp_m_J7_fill_53178 (0, [some (.ref p0), some (.int v1), none, none], [], M)
noncomputable def D0_J7_fill_53178_5 (xs : Nat → Int32) (xl d : Nat) (p0 : Nat) (v1 : Int32) (v2 : Int32) (v3 : Int32) (M : dp_M) : Option dp_Res := dp_lim false xs xl (dp_den false xs xl d) dp_m_J7_fill_53178 (5, [some (.ref p0), some (.int v1), some (.int v2), some (.int v3)], [], M)
theorem D0_J7_fill_53178_0_den (xs : Nat → Int32) (xl d : Nat) (a0 : Nat) (a1 : Int32) (M : dp_M) : dp_den false xs xl (d + 1) 593 [.ref a0, .int a1] M = D0_J7_fill_53178_0 xs xl d a0 a1 M := rfl
set_option maxRecDepth 20000 in
theorem D0_J7_fill_53178_0_eq (xs : Nat → Int32) (xl d : Nat) (p0 : Nat) (v1 : Int32) (M : dp_M) : D0_J7_fill_53178_0 xs xl d p0 v1 M = dp_w (0 : Int32) (fun y1 => if dp_t false M p0 = 1 ∨ dp_t false M p0 = 2 ∨ dp_t false M p0 = 3 ∨ dp_t false M p0 = 4 then (dp_w (Int32.ofNat (dp_ln false M p0)) (fun y2 => D0_J7_fill_53178_5 xs xl d p0 v1 y1 y2 M)) else none) := by
  have hF := dp_den_grow (md := false) (xs := xs) (xl := xl) d
  unfold D0_J7_fill_53178_0
  refine dp_s1 hF (i := .iconst 0) rfl (fun _ => rfl) ?_
  refine dp_s1w (0 : Int32) (fun (y1 : Int32) => (2, [some (.ref p0), some (.int v1), some (.int y1), none], [], M)) hF (i := .istore_n 2) rfl (fun _ => rfl) (fun y1 => ?_)
  refine dp_s1 hF (i := .aload_n 0) rfl (fun _ => rfl) ?_
  refine dp_s4 hF (i := .arraylength) rfl (fun _ => rfl) ?_
  refine dp_s1w (Int32.ofNat (dp_ln false M p0)) (fun (y2 : Int32) => (5, [some (.ref p0), some (.int v1), some (.int y1), some (.int y2)], [], M)) hF (i := .istore_n 3) rfl (fun _ => rfl) (fun y2 => ?_)
  exact rfl
set_option maxRecDepth 20000 in
theorem D0_J7_fill_53178_5_eq (xs : Nat → Int32) (xl d : Nat) (p0 : Nat) (v1 : Int32) (v2 : Int32) (v3 : Int32) (M : dp_M) : D0_J7_fill_53178_5 xs xl d p0 v1 v2 v3 M = if v3 ≤ v2 then (some (.inl none, M)) else (if dp_t false M p0 = 1 then (if v2 < 0 ∨ dp_ln false M p0 ≤ Int32.toNatClampNeg v2 then none else dp_w (dp_setI M p0 (Int32.toNatClampNeg v2) v1) (fun M1 => dp_w (v2 + (1 : Int32)) (fun y2 => D0_J7_fill_53178_5 xs xl d p0 v1 y2 v3 M1))) else none) := by
  have hF := dp_den_grow (md := false) (xs := xs) (xl := xl) d
  unfold D0_J7_fill_53178_5
  refine dp_s1 hF (i := .iload_n 2) rfl (fun _ => rfl) ?_
  refine dp_s1 hF (i := .iload_n 3) rfl (fun _ => rfl) ?_
  refine dp_s2 hF (i := .if_icmp .ge 13) (a := (20, [some (.ref p0), some (.int v1), some (.int v2), some (.int v3)], [], M)) (b := (10, [some (.ref p0), some (.int v1), some (.int v2), some (.int v3)], [], M)) rfl (fun _ => rfl) ?_ ?_
  · exact dp_s0 hF (i := .return_) rfl (fun _ => rfl)
  refine dp_s1 hF (i := .aload_n 0) rfl (fun _ => rfl) ?_
  refine dp_s1 hF (i := .iload_n 2) rfl (fun _ => rfl) ?_
  refine dp_s1 hF (i := .iload_n 1) rfl (fun _ => rfl) ?_
  refine dp_s6w (dp_setI M p0 (Int32.toNatClampNeg v2) v1) (fun (M1 : dp_M) => (14, [some (.ref p0), some (.int v1), some (.int v2), some (.int v3)], [], M1)) hF (i := .iastore) rfl (fun _ => rfl) (fun M1 => ?_)
  refine dp_s1w (v2 + (1 : Int32)) (fun (y2 : Int32) => (17, [some (.ref p0), some (.int v1), some (.int y2), some (.int v3)], [], M1)) hF (i := .iinc 2 1) rfl (fun _ => rfl) (fun y2 => ?_)
  refine dp_s1 hF (i := .goto (-12)) rfl (fun _ => rfl) ?_
  exact rfl
def dq_h (x m : Int32) : Int32 := if (1 : Int32) < (if m < x then m else x) then (if m < x then m else x) else (1 : Int32)
def dq_g (x m : Int32) : Int32 := if (1 : Int32) ≤ x then (if x ≤ m then x else m) else (1 : Int32)
theorem dq_h_den (xs : Nat → Int32) (xl d : Nat) (x m : Int32) (M : dp_M) : dp_den false xs xl (d + 1) 250 [.int x, .int m] M = some (.inl (some (.int (dq_h x m))), M) := (D0_X11_heldTo_0_den xs xl d x m M).trans (D0_X11_heldTo_0_eq xs xl d x m M)
theorem dq_g_den (xs : Nat → Int32) (xl d : Nat) (x m : Int32) (M : dp_M) : dp_den false xs xl (d + 1) 368 [.int x, .int m] M = some (.inl (some (.int (dq_g x m))), M) := by
  rw [D0_X12_held_0_den, D0_X12_held_0_eq]
  unfold dq_g
  split
  · split <;> rfl
  · rfl
/-- the first five ints of the script -/
def dq_c (xs : Nat → Int32) (xl i : Nat) : Int32 := if xl ≤ i then 0 else xs i
theorem dq_c_den (xs : Nat → Int32) (xl d : Nat) (hxl : xl < 2 ^ 31) (i : Nat) (hi : i < 2 ^ 31) (M : dp_M) : dp_den false xs xl (d + 1) 594 [.retAddr 0, .int (nI i)] M = some (.inl (some (.int (dq_c xs xl i))), M) := by
  rw [D0_L_cell_0_den, D0_L_cell_0_eq]
  unfold dq_c
  by_cases h : xl ≤ i
  · rw [if_pos h, if_pos (show Int32.ofNat xl ≤ nI i from nI_le h hi)]
  · rw [if_neg h, if_neg (show ¬ Int32.ofNat xl ≤ nI i from nI_ge (by omega) hxl), if_neg (nI_in (by omega) hxl), nI_clamp hi]
theorem dq_fill_l (xs : Nat → Int32) (xl d : Nat) {M : dp_M} {p N : Nat} {x : Int32} (ht : dp_t false M p = 1) (hl : dp_len M p = N) (hN : N < 2 ^ 31) : ∀ r j, j + r = N → D0_J7_fill_53178_5 xs xl d p x (nI j) (nI N) (dq_fl M p x j) = some (.inl none, dq_fl M p x N)
  | 0, j, hj => by
    have hj : j = N := by omega
    subst hj
    rw [D0_J7_fill_53178_5_eq, if_pos (Int32.le_refl _)]
  | r + 1, j, hj => by
    rw [D0_J7_fill_53178_5_eq, if_neg (nI_ge (by omega) hN)]
    rw [if_pos (show dp_t false (dq_fl M p x j) p = 1 from ht)]
    rw [if_neg (show ¬ (nI j < 0 ∨ dp_ln false (dq_fl M p x j) p ≤ Int32.toNatClampNeg (nI j)) from by
      show ¬ (nI j < 0 ∨ dp_len M p ≤ Int32.toNatClampNeg (nI j))
      rw [hl]; exact nI_in (by omega) hN)]
    unfold dp_w
    rw [nI_clamp (by omega), dq_fl_s, nI_1]
    exact dq_fill_l xs xl d ht hl hN r (j + 1) (by omega)
theorem dq_fill (xs : Nat → Int32) (xl d : Nat) {M : dp_M} {p N : Nat} {x : Int32} (ht : dp_t false M p = 1) (hl : dp_len M p = N) (hN : N < 2 ^ 31) : dp_den false xs xl (d + 1) 593 [.ref p, .int x] M = some (.inl none, dq_fl M p x N) := by
  rw [D0_J7_fill_53178_0_den, D0_J7_fill_53178_0_eq]
  simp only [dp_w]
  rw [if_pos (Or.inl ht)]
  have h := dq_fill_l xs xl d (x := x) ht hl hN N 0 (by omega)
  rw [dq_fl_0, nI_0] at h
  rw [show dp_ln false M p = N from hl]
  exact h
theorem dq_gate_l (xs : Nat → Int32) (xl d : Nat) (M : dp_M) (h1 : dp_t false M 37 = 11) (h2 : dp_t false M 43 = 1) (h3 : dp_R M 37 9 = some 43) (h4 : dp_len M 43 = 100) : ∀ r j, j + r = 100 → dp_lim false xs xl (dp_den false xs xl d) dp_m_X1_init (121, [some (.ref 37), some (.ref 1), some (.ref 28), some (.int (nI j))], [], dq_il M 43 j) = some (.inl none, dq_il M 43 100)
  | 0, j, hj => by
    have hF := dp_den_grow (md := false) (xs := xs) (xl := xl) d
    have hj : j = 100 := by omega
    subst hj
    refine dp_s1 hF (i := .iload_n 3) rfl (fun _ => rfl) ?_
    refine dp_s1 hF (i := .bipush 100) rfl (fun _ => rfl) ?_
    refine (dp_s2 hF (i := .if_icmp .ge 16) (c := (100 : Int32) ≤ nI 100) (a := (140, [some (.ref 37), some (.ref 1), some (.ref 28), some (.int (nI 100))], [], dq_il M 43 100)) (b := (127, [some (.ref 37), some (.ref 1), some (.ref 28), some (.int (nI 100))], [], dq_il M 43 100)) rfl (fun _ => rfl) rfl rfl).trans ?_
    rw [if_pos (show (100 : Int32) ≤ nI 100 from nI_le (a := 100) (b := 100) (by omega) (by omega))]
    exact dp_s0 hF (i := .return_) rfl (fun _ => rfl)
  | r + 1, j, hj => by
    have hF := dp_den_grow (md := false) (xs := xs) (xl := xl) d
    refine dp_s1 hF (i := .iload_n 3) rfl (fun _ => rfl) ?_
    refine dp_s1 hF (i := .bipush 100) rfl (fun _ => rfl) ?_
    refine (dp_s2 hF (i := .if_icmp .ge 16) (c := (100 : Int32) ≤ nI j) (a := (140, [some (.ref 37), some (.ref 1), some (.ref 28), some (.int (nI j))], [], dq_il M 43 j)) (b := (127, [some (.ref 37), some (.ref 1), some (.ref 28), some (.int (nI j))], [], dq_il M 43 j)) rfl (fun _ => rfl) rfl rfl).trans ?_
    rw [if_neg (show ¬ (100 : Int32) ≤ nI j from nI_ge (a := j) (b := 100) (by omega) (by omega))]
    refine dp_s1 hF (i := .aload_n 0) rfl (fun _ => rfl) ?_
    refine dq_if hF (i := .getfield 29) (c := dp_t false (dq_il M 43 j) 37 = 1 + 10) (cf := (131, [some (.ref 37), some (.ref 1), some (.ref 28), some (.int (nI j))], [dp_rv (dp_R M 37 9)], dq_il M 43 j)) rfl (fun _ => rfl) h1 ?_
    rw [h3]
    refine dp_s1 hF (i := .iload_n 3) rfl (fun _ => rfl) ?_
    refine dp_s1 hF (i := .iload_n 3) rfl (fun _ => rfl) ?_
    refine (dp_s6 hF (i := .iastore) (c' := dp_t false (dq_il M 43 j) 43 = 1) (c := nI j < 0 ∨ dp_ln false (dq_il M 43 j) 43 ≤ Int32.toNatClampNeg (nI j)) (b := (134, [some (.ref 37), some (.ref 1), some (.ref 28), some (.int (nI j))], [], dp_setI (dq_il M 43 j) 43 (Int32.toNatClampNeg (nI j)) (nI j))) rfl (fun _ => rfl) rfl).trans ?_
    rw [if_pos (show dp_t false (dq_il M 43 j) 43 = 1 from h2), if_neg (show ¬ (nI j < 0 ∨ dp_ln false (dq_il M 43 j) 43 ≤ Int32.toNatClampNeg (nI j)) from by
      show ¬ (nI j < 0 ∨ dp_len M 43 ≤ Int32.toNatClampNeg (nI j))
      rw [h4]; exact nI_in (by omega) (by omega)), nI_clamp (by omega), dq_il_s]
    refine dp_s1 hF (i := .iinc 3 1) rfl (fun _ => rfl) ?_
    refine dp_s1 hF (i := .goto (-16)) rfl (fun _ => rfl) ?_
    have := dq_gate_l xs xl d M h1 h2 h3 h4 r (j + 1) (by omega)
    rw [← nI_1] at this
    exact this
theorem dq_gate (xs : Nat → Int32) (xl d : Nat) (M : dp_M) (h1 : dp_t false M 37 = 11) (h2 : dp_t false M 43 = 1) (h3 : dp_R M 37 9 = some 43) (h4 : dp_len M 43 = 100) : dp_lim false xs xl (dp_den false xs xl d) dp_m_X1_init (121, [some (.ref 37), some (.ref 1), some (.ref 28), some (.int 0)], [], M) = some (.inl none, dq_il M 43 100) := by
  have h := dq_gate_l xs xl d M h1 h2 h3 h4 100 0 rfl
  rw [dq_il_0, nI_0] at h
  exact h
theorem dq_model_l (xs : Nat → Int32) (xl d : Nat) (a b c e f : Int32) (M : dp_M) (h1 : dp_t false M 114 = 22) (h2 : dp_t false M 240 = 2) (h3 : dp_R M 114 168 = some 240) (h4 : dp_len M 240 = 3200) : ∀ r j, j + r = 3200 → dp_lim false xs xl (dp_den false xs xl d) dp_m_X12_init (1173, [some (.ref 114), some (.int a), some (.int b), some (.int c), some (.int e), some (.int f), some (.int (nI j))], [], dq_jl M 240 (-1) j) = some (.inl none, dq_jl M 240 (-1) 3200)
  | 0, j, hj => by
    have hF := dp_den_grow (md := false) (xs := xs) (xl := xl) d
    have hj : j = 3200 := by omega
    subst hj
    refine dp_s1 hF (i := .iload 6) rfl (fun _ => rfl) ?_
    refine dp_s1 hF (i := .sipush 3200) rfl (fun _ => rfl) ?_
    refine (dp_s2 hF (i := .if_icmp .ge 19) (c := (3200 : Int32) ≤ nI 3200) (a := (1197, [some (.ref 114), some (.int a), some (.int b), some (.int c), some (.int e), some (.int f), some (.int (nI 3200))], [], dq_jl M 240 (-1) 3200)) (b := (1181, [some (.ref 114), some (.int a), some (.int b), some (.int c), some (.int e), some (.int f), some (.int (nI 3200))], [], dq_jl M 240 (-1) 3200)) rfl (fun _ => rfl) rfl rfl).trans ?_
    rw [if_pos (show (3200 : Int32) ≤ nI 3200 from nI_le (a := 3200) (b := 3200) (by omega) (by omega))]
    exact dp_s0 hF (i := .return_) rfl (fun _ => rfl)
  | r + 1, j, hj => by
    have hF := dp_den_grow (md := false) (xs := xs) (xl := xl) d
    refine dp_s1 hF (i := .iload 6) rfl (fun _ => rfl) ?_
    refine dp_s1 hF (i := .sipush 3200) rfl (fun _ => rfl) ?_
    refine (dp_s2 hF (i := .if_icmp .ge 19) (c := (3200 : Int32) ≤ nI j) (a := (1197, [some (.ref 114), some (.int a), some (.int b), some (.int c), some (.int e), some (.int f), some (.int (nI j))], [], dq_jl M 240 (-1) j)) (b := (1181, [some (.ref 114), some (.int a), some (.int b), some (.int c), some (.int e), some (.int f), some (.int (nI j))], [], dq_jl M 240 (-1) j)) rfl (fun _ => rfl) rfl rfl).trans ?_
    rw [if_neg (show ¬ (3200 : Int32) ≤ nI j from nI_ge (a := j) (b := 3200) (by omega) (by omega))]
    refine dp_s1 hF (i := .aload_n 0) rfl (fun _ => rfl) ?_
    refine dq_if hF (i := .getfield 401) (c := dp_t false (dq_jl M 240 (-1) j) 114 = 12 + 10) (cf := (1185, [some (.ref 114), some (.int a), some (.int b), some (.int c), some (.int e), some (.int f), some (.int (nI j))], [dp_rv (dp_R M 114 168)], dq_jl M 240 (-1) j)) rfl (fun _ => rfl) h1 ?_
    rw [h3]
    refine dp_s1 hF (i := .iload 6) rfl (fun _ => rfl) ?_
    refine dp_s1 hF (i := .ldc2_w 435) rfl (fun _ => rfl) ?_
    refine (dp_s6 hF (i := .lastore) (c' := dp_t false (dq_jl M 240 (-1) j) 240 = 2) (c := nI j < 0 ∨ dp_ln false (dq_jl M 240 (-1) j) 240 ≤ Int32.toNatClampNeg (nI j)) (b := (1191, [some (.ref 114), some (.int a), some (.int b), some (.int c), some (.int e), some (.int f), some (.int (nI j))], [], dp_setJ (dq_jl M 240 (-1) j) 240 (Int32.toNatClampNeg (nI j)) (-1))) rfl (fun _ => rfl) rfl).trans ?_
    rw [if_pos (show dp_t false (dq_jl M 240 (-1) j) 240 = 2 from h2), if_neg (show ¬ (nI j < 0 ∨ dp_ln false (dq_jl M 240 (-1) j) 240 ≤ Int32.toNatClampNeg (nI j)) from by
      show ¬ (nI j < 0 ∨ dp_len M 240 ≤ Int32.toNatClampNeg (nI j))
      rw [h4]; exact nI_in (by omega) (by omega)), nI_clamp (by omega), dq_jl_s]
    refine dp_s1 hF (i := .iinc 6 1) rfl (fun _ => rfl) ?_
    refine dp_s1 hF (i := .goto (-21)) rfl (fun _ => rfl) ?_
    have := dq_model_l xs xl d a b c e f M h1 h2 h3 h4 r (j + 1) (by omega)
    rw [← nI_1] at this
    exact this
theorem dq_model (xs : Nat → Int32) (xl d : Nat) (a b c e f : Int32) (M : dp_M) (h1 : dp_t false M 114 = 22) (h2 : dp_t false M 240 = 2) (h3 : dp_R M 114 168 = some 240) (h4 : dp_len M 240 = 3200) : dp_lim false xs xl (dp_den false xs xl d) dp_m_X12_init (1173, [some (.ref 114), some (.int a), some (.int b), some (.int c), some (.int e), some (.int f), some (.int 0)], [], M) = some (.inl none, dq_jl M 240 (-1) 3200) := by
  have h := dq_model_l xs xl d a b c e f M h1 h2 h3 h4 3200 0 rfl
  rw [dq_jl_0, nI_0] at h
  exact h
theorem dq_h_bd {x m : Int32} (hm : 1 ≤ m.toInt) : 1 ≤ (dq_h x m).toInt ∧ (dq_h x m).toInt ≤ m.toInt := by
  unfold dq_h
  have h1 : (1 : Int32).toInt = 1 := by decide
  by_cases h2 : m < x
  · rw [if_pos h2]
    by_cases h3 : (1 : Int32) < m
    · rw [if_pos h3]; omega
    · rw [if_neg h3]; omega
  · rw [if_neg h2]
    have h4 := Int32.not_lt.mp h2
    rw [Int32.le_iff_toInt_le] at h4
    by_cases h3 : (1 : Int32) < x
    · rw [if_pos h3]
      rw [Int32.lt_iff_toInt_lt] at h3
      omega
    · rw [if_neg h3]; omega
theorem dq_nn {c : Int32} {N : Nat} (h0 : 0 ≤ c.toInt) (h1 : c.toInt ≤ N) (hN : N < 1000000) : ¬ (c < 0 ∨ 1000000 ≤ c.toNatClampNeg) := by
  rintro (h | h)
  · rw [Int32.lt_iff_toInt_lt] at h
    have : (0 : Int32).toInt = 0 := by decide
    omega
  · have : c.toNatClampNeg = c.toInt.toNat := rfl
    omega
theorem dq_mul {x y : Int32} {a b : Nat} (hx : 0 ≤ x.toInt) (hx2 : x.toInt ≤ a) (hy : 0 ≤ y.toInt) (hy2 : y.toInt ≤ b) (hab : a * b < 1000000) : (x * y).toInt = x.toInt * y.toInt := by
  have h1 : x.toInt * y.toInt ≤ a * b := Int.mul_le_mul hx2 hy2 hy (by omega)
  have h2 : 0 ≤ x.toInt * y.toInt := Int.mul_nonneg hx hy
  rw [Int32.toInt_mul]
  have h3 : ((a * b : Nat) : Int) < ((1000000 : Nat) : Int) := Int.ofNat_lt.mpr hab
  rw [Int.natCast_mul] at h3
  rw [Int.bmod_eq_of_le] <;> omega
theorem dqs_0 (v : Nat → Int32) : ¬ ((dq_h (v 0) (12 : Int32)) < 0 ∨ 1000000 ≤ Int32.toNatClampNeg (dq_h (v 0) (12 : Int32))) := by
  have := dq_h_bd (x := v 0) (m := 12) (by decide)
  exact dq_nn (N := 12) (by omega) (by have h : (12 : Int32).toInt = 12 := by decide
                                       omega) (by omega)
theorem dqs_1 (v : Nat → Int32) : ¬ (((dq_h (v 0) (12 : Int32)) * (16 : Int32)) < 0 ∨ 1000000 ≤ Int32.toNatClampNeg ((dq_h (v 0) (12 : Int32)) * (16 : Int32))) := by
  have h0 := dq_h_bd (x := v 0) (m := 12) (by decide)
  have h : (12 : Int32).toInt = 12 := by decide
  have h6 : (16 : Int32).toInt = 16 := by decide
  have hm := dq_mul (x := dq_h (v 0) 12) (y := 16) (a := 12) (b := 16) (by omega) (by omega) (by omega) (by omega) (by omega)
  rw [h6] at hm
  exact dq_nn (N := 192) (by omega) (by omega) (by omega)
theorem dqs_2 (v : Nat → Int32) : ¬ ((dq_h (v 2) (20 : Int32)) < 0 ∨ 1000000 ≤ Int32.toNatClampNeg (dq_h (v 2) (20 : Int32))) := by
  have := dq_h_bd (x := v 2) (m := 20) (by decide)
  exact dq_nn (N := 20) (by omega) (by have h : (20 : Int32).toInt = 20 := by decide
                                       omega) (by omega)
theorem dqs_3 (v : Nat → Int32) : ¬ (((dq_h (v 2) (20 : Int32)) * (dq_h (v 3) (8 : Int32))) < 0 ∨ 1000000 ≤ Int32.toNatClampNeg ((dq_h (v 2) (20 : Int32)) * (dq_h (v 3) (8 : Int32)))) := by
  have h0 := dq_h_bd (x := v 2) (m := 20) (by decide)
  have h1 := dq_h_bd (x := v 3) (m := 8) (by decide)
  have e0 : (20 : Int32).toInt = 20 := by decide
  have e1 : (8 : Int32).toInt = 8 := by decide
  have hm := dq_mul (x := dq_h (v 2) 20) (y := dq_h (v 3) 8) (a := 20) (b := 8) (by omega) (by omega) (by omega) (by omega) (by omega)
  have h2 : (dq_h (v 2) 20).toInt * (dq_h (v 3) 8).toInt ≤ 20 * 8 := Int.mul_le_mul (by omega) (by omega) (by omega) (by omega)
  have h3 : 0 ≤ (dq_h (v 2) 20).toInt * (dq_h (v 3) 8).toInt := Int.mul_nonneg (by omega) (by omega)
  exact dq_nn (N := 160) (by omega) (by omega) (by omega)
theorem dqz_0 (v : Nat → Int32) : (Int32.toNatClampNeg (dq_h (v 0) (12 : Int32))) < 2 ^ 31 := by
  have h := dqs_0 v
  have : ¬ 1000000 ≤ Int32.toNatClampNeg (dq_h (v 0) (12 : Int32)) := fun q => h (Or.inr q)
  omega
theorem dqz_1 (_ : Nat → Int32) : 100 < 2 ^ 31 := by decide
