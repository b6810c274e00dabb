/-! SECURITIES: a reservation ends; the class's way -/
def lsR (T : Nat → Int64) (g : Nat) (x row td : Int64) : Nat → Int64 := if 0 < x then uI (uI (uI (uI T (g * 16 + 14) (T (g * 16 + 14) + row)) (g * 16 + 13) td) (g * 16 + 1) (T (g * 16 + 1) - x)) (g * 16 + 8) (T (g * 16 + 8) + x) else T
def fT (nd : Nat → Int64 → Int64) (P : Nat → Int32) (C xf rowf : Nat → Int64) (td : Int64) (T : Nat → Int64) : Nat → (Nat → Int64)
  | 0 => T
  | i + 1 => lsR (useR (-1) nd (fT nd P C xf rowf td T i) (P i).toNatClampNeg (C i)) (P i).toNatClampNeg (xf i) (rowf i) td
def rU (P : Nat → Int32) (xf dl : Nat → Int64) (A : Nat → Int64) : Nat → (Nat → Int64)
  | 0 => A
  | i + 1 => if 0 < xf i then uI (rU P xf dl A i) (P i).toNatClampNeg (rU P xf dl A i (P i).toNatClampNeg + dl i) else rU P xf dl A i
def rV (P : Nat → Int32) (xf : Nat → Int64) (v : Int32) (S : Nat → Int32) : Nat → (Nat → Int32)
  | 0 => S
  | i + 1 => if 0 < xf i then uI (rV P xf v S i) (P i).toNatClampNeg v else rV P xf v S i
theorem lsR_o {T : Nat → Int64} {g g' k : Nat} {x row td : Int64} (hk : k < 16) (h : g' ≠ g ∨ (k ≠ 1 ∧ k ≠ 8 ∧ k ≠ 13 ∧ k ≠ 14)) : lsR T g x row td (g' * 16 + k) = T (g' * 16 + k) := by
  unfold lsR
  split
  · rw [uI_n (by omega), uI_n (by omega), uI_n (by omega), uI_n (by omega)]
  · rfl
section ST
variable {nd : Nat → Int64 → Int64} {P : Nat → Int32} {C xf rowf : Nat → Int64} {td : Int64} {T : Nat → Int64}
theorem fT_25 {g k : Nat} (h : k = 2 ∨ k = 5) : ∀ i, fT nd P C xf rowf td T i (g * 16 + k) = tbs (-1) nd P C T i (g * 16 + k)
  | 0 => rfl
  | i + 1 => by
    rw [fT, tbs, lsR_o (by omega) (Or.inr (by omega))]
    by_cases z : g = (P i).toNatClampNeg
    · rw [← z]
      rcases h with q | q
      · rw [q, useR_2, useR_2, fT_25 (Or.inl rfl) i]
      · rw [q, useR_5, useR_5, fT_25 (Or.inr rfl) i]
    · rw [useR_o (by omega) (Or.inl z), useR_o (by omega) (Or.inl z), fT_25 h i]
theorem fT_o {g k : Nat} (hk : k < 16) (h : k ≠ 1 ∧ k ≠ 2 ∧ k ≠ 5 ∧ k ≠ 8 ∧ k ≠ 13 ∧ k ≠ 14) : ∀ i, fT nd P C xf rowf td T i (g * 16 + k) = T (g * 16 + k)
  | 0 => rfl
  | i + 1 => by rw [fT, lsR_o hk (Or.inr (by omega)), useR_o hk (Or.inr (by omega)), fT_o hk h i]
theorem fT_g {g k : Nat} (hk : k < 16) : ∀ i, (∀ j, j < i → (P j).toNatClampNeg ≠ g) → fT nd P C xf rowf td T i (g * 16 + k) = T (g * 16 + k)
  | 0, _ => rfl
  | i + 1, h => by rw [fT, lsR_o hk (Or.inl (fun q => h i (by omega) q.symm)), useR_o hk (Or.inl (fun q => h i (by omega) q.symm)), fT_g hk i (fun j hj => h j (by omega))]
theorem fT_1 {A : Nat → Int64} {g : Nat} (hA : T (g * 16 + 1) = A g) : ∀ i, fT nd P C xf rowf td T i (g * 16 + 1) = rU P xf (fun j => -(xf j)) A i g
  | 0 => hA
  | i + 1 => by
    have ih := fT_1 hA i
    rw [fT, rU]
    by_cases z : g = (P i).toNatClampNeg
    · rw [← z]; unfold lsR
      by_cases y : 0 < xf i
      · rw [if_pos y, if_pos y, uI_n (by omega), uI_s, uI_s, useR_o (by omega) (Or.inr (by omega)), ih, Int64.sub_eq_add_neg]
      · rw [if_neg y, if_neg y, useR_o (by omega) (Or.inr (by omega)), ih]
    · rw [lsR_o (by omega) (Or.inl z), useR_o (by omega) (Or.inl z), ih]
      by_cases y : 0 < xf i
      · rw [if_pos y, uI_n z]
      · rw [if_neg y]
theorem fT_8 {A : Nat → Int64} {g : Nat} (hA : T (g * 16 + 8) = A g) : ∀ i, fT nd P C xf rowf td T i (g * 16 + 8) = rU P xf xf A i g
  | 0 => hA
  | i + 1 => by
    have ih := fT_8 hA i
    rw [fT, rU]
    by_cases z : g = (P i).toNatClampNeg
    · rw [← z]; unfold lsR
      by_cases y : 0 < xf i
      · rw [if_pos y, if_pos y, uI_s, uI_s, useR_o (by omega) (Or.inr (by omega)), ih]
      · rw [if_neg y, if_neg y, useR_o (by omega) (Or.inr (by omega)), ih]
    · rw [lsR_o (by omega) (Or.inl z), useR_o (by omega) (Or.inl z), ih]
      by_cases y : 0 < xf i
      · rw [if_pos y, uI_n z]
      · rw [if_neg y]
theorem fT_14 {A : Nat → Int64} {g : Nat} (hA : T (g * 16 + 14) = A g) : ∀ i, fT nd P C xf rowf td T i (g * 16 + 14) = rU P xf rowf A i g
  | 0 => hA
  | i + 1 => by
    have ih := fT_14 hA i
    rw [fT, rU]
    by_cases z : g = (P i).toNatClampNeg
    · rw [← z]; unfold lsR
      by_cases y : 0 < xf i
      · rw [if_pos y, if_pos y, uI_n (by omega), uI_n (by omega), uI_n (by omega), uI_s, uI_s, useR_o (by omega) (Or.inr (by omega)), ih]
      · rw [if_neg y, if_neg y, useR_o (by omega) (Or.inr (by omega)), ih]
    · rw [lsR_o (by omega) (Or.inl z), useR_o (by omega) (Or.inl z), ih]
      by_cases y : 0 < xf i
      · rw [if_pos y, uI_n z]
      · rw [if_neg y]
theorem fT_13 {S : Nat → Int32} {v : Int32} {g : Nat} (hv : td = v.toInt64) (hA : T (g * 16 + 13) = (S g).toInt64) : ∀ i, fT nd P C xf rowf td T i (g * 16 + 13) = (rV P xf v S i g).toInt64
  | 0 => hA
  | i + 1 => by
    have ih := fT_13 hv hA i
    rw [fT, rV]
    by_cases z : g = (P i).toNatClampNeg
    · rw [← z]; unfold lsR
      by_cases y : 0 < xf i
      · rw [if_pos y, if_pos y, uI_n (by omega), uI_n (by omega), uI_s, uI_s, hv]
      · rw [if_neg y, if_neg y, useR_o (by omega) (Or.inr (by omega)), ih]
    · rw [lsR_o (by omega) (Or.inl z), useR_o (by omega) (Or.inl z), ih]
      by_cases y : 0 < xf i
      · rw [if_pos y, uI_n z]
      · rw [if_neg y]
theorem rU_g {A dl : Nat → Int64} {g : Nat} : ∀ i, (∀ j, j < i → (P j).toNatClampNeg ≠ g) → rU P xf dl A i g = A g
  | 0, _ => rfl
  | i + 1, h => by
    rw [rU]
    by_cases y : 0 < xf i
    · rw [if_pos y, uI_n (fun q => h i (by omega) q.symm), rU_g i (fun j hj => h j (by omega))]
    · rw [if_neg y, rU_g i (fun j hj => h j (by omega))]
theorem rV_g {S : Nat → Int32} {v : Int32} {g : Nat} : ∀ i, (∀ j, j < i → (P j).toNatClampNeg ≠ g) → rV P xf v S i g = S g
  | 0, _ => rfl
  | i + 1, h => by
    rw [rV]
    by_cases y : 0 < xf i
    · rw [if_pos y, uI_n (fun q => h i (by omega) q.symm), rV_g i (fun j hj => h j (by omega))]
    · rw [if_neg y, rV_g i (fun j hj => h j (by omega))]
end ST
section SU
variable {xs : Nat → Int32} {xl d : Nat} {M : dp_M}
/-- parts of a reservation, what is taken of each -/
def rP (M : dp_M) (r k : Nat) : Int32 := dp_I M 217 (r * 4 + k)
def rC (M : dp_M) (r k : Nat) : Int64 := dp_J M 218 (r * 4 + k)
def rX (M : dp_M) (r k : Nat) : Int64 := mnJ (rC M r k) (dp_J M 203 (rP M r k).toNatClampNeg)
def rR (M : dp_M) (r k : Nat) : Int64 := lrow M (rP M r k).toNatClampNeg
def finC (M : dp_M) (r : Nat) (how : Int32) (T : Nat → Int64) : dp_M := dp_setI (rJ (rJ M 95 T) 96 (uI (uI (uI (dp_J M 96) (r * 12 + 1) 0) (r * 12 + 2) how.toInt64) (r * 12 + 3) 0)) 90 2 (dp_I M 90 2 - 1)
theorem sc_clb {B : dp_M} {r i g : Nat} (hr : r < 401) (hi : i < 4) (hg : g < 41) (e : dp_J B 96 (r * 12 + (4 + i)) = (nI g).toInt64) : dp_den true xs xl (d + 2) 205 [.ref 90, .int (nI r), .int (nI i)] B = lR (mnJ (dp_J B 96 (r * 12 + (8 + i))) (dp_J B 95 (g * 16 + 1))) B := by
  rw [D_X8_claimableBy_0_den, D_X8_claimableBy_0_eq, sc_gof hr hi (show g < 2147483648 by omega) e, rb_bi, sc_get (v2 := 1) (g := g) (k := 1) rfl hg (by omega), rb_bl, sc_cov hr hi, rb_bl]
  rfl
theorem sc_lessen {T : Nat → Int64} {g : Nat} {x : Int64} (hg : g < 41) (hx : SRx (rJ M 95 T) g) (a5 : dp_I M 114 120 = dp_I M 90 3) (a6 : qin (dp_I M 90 3) 100001) : dp_den true xs xl (d + 4) 191 [.ref 90, .int (nI g), .long x] (rJ M 95 T) = vR (rJ M 95 (lsR T g x (lrow (rJ M 95 T) g) (dp_I M 90 3).toInt64)) := by
  have r95 : ∀ T : Nat → Int64, dp_J (rJ M 95 T) 95 = T := fun T => by rw [rJ_J, if_pos rfl]
  rw [D_X8_lessen_0_den, D_X8_lessen_0_eq]
  simp only [lg_cmp_gt]
  unfold lsR
  by_cases z : 0 < x
  · rw [if_pos z, if_pos z, D_X8_interestOf_0_den, D_X8_interestOf_0_eq, sc_get (v2 := 14) (g := g) (k := 14) rfl hg (by omega), rb_bl, sc_row hg hx (by rw [rJ_I]; exact a5) (by rw [rJ_I]; exact a6), rb_bl, rb_bl, r95]
    rw [sc_set (v2 := 14) (g := g) (k := 14) rfl hg (by omega), rb_bv, rJ_set, sc_set (v2 := 13) (g := g) (k := 13) rfl hg (by omega), rb_bv, rJ_set, rJ_I, sc_get (v2 := 1) (g := g) (k := 1) rfl hg (by omega), rb_bl, r95, sc_set (v2 := 1) (g := g) (k := 1) rfl hg (by omega), rb_bv, rJ_set, sc_get (v2 := 8) (g := g) (k := 8) rfl hg (by omega), rb_bl, r95, sc_set (v2 := 8) (g := g) (k := 8) rfl hg (by omega), rb_bv, rJ_set]
    rw [uI_n (show g * 16 + 1 ≠ g * 16 + 13 by omega), uI_n (show g * 16 + 1 ≠ g * 16 + 14 by omega), uI_n (show g * 16 + 8 ≠ g * 16 + 1 by omega), uI_n (show g * 16 + 8 ≠ g * 16 + 13 by omega), uI_n (show g * 16 + 8 ≠ g * 16 + 14 by omega)]
  · rw [if_neg z, if_neg z]
theorem fin_end {T : Nat → Int64} {r n : Nat} {how : Int32} {tk : Int64} (hr : r < 401) (hn : n ≤ 4) (e3 : dp_J M 96 (r * 12 + 3) = (nI n).toInt64) : D_X8_finish_5 xs xl (d + 1) (nI r) how tk (nI n) (rJ M 95 T) = lR tk (finC M r how T) := by
  have r96 : dp_J (rJ M 95 T) 96 = dp_J M 96 := by rw [rJ_J, if_neg (by decide)]
  rw [D_X8_finish_5_eq, sc_parts (n := n) hr hn (by rw [r96]; exact e3), rb_bi, if_pos (nI_lle (Nat.le_refl _) (by omega))]
  simp only [show (1 : Int32) = nI 1 from rfl, show (2 : Int32) = nI 2 from rfl, show (3 : Int32) = nI 3 from rfl, t_12, nI_cl (show r * 12 + 1 < 2147483648 by omega), nI_cl (show r * 12 + 2 < 2147483648 by omega), nI_cl (show r * 12 + 3 < 2147483648 by omega), nI_o (show r * 12 + 1 < 4812 by omega) (by omega), nI_o (show r * 12 + 2 < 4812 by omega) (by omega), nI_o (show r * 12 + 3 < 4812 by omega) (by omega), if_false, dp_w]
  rw [rJ_of (rJ M 95 T) 96, rJ_set, rJ_set, rJ_I, rJ_I, r96]
  rfl
theorem sc_fin12 {G R r : Nat} {how : Int32} (hG : G ≤ 40) (hR : R ≤ 400) (hr1 : 1 ≤ r) (hr : r ≤ R) (hh : ¬ how = 3) (a10 : ∀ g, 1 ≤ g → g ≤ G → SRw M R g) (a14 : SRv M G r) : ∃ n, n ≤ 4 ∧ dp_I M 216 r = nI n ∧ dp_den true xs xl (d + 5) 207 [.ref 90, .int (nI r), .int how] M = lR 0 (finC M r how (tbs (-1) (ndF M) (rP M r) (rC M r) (dp_J M 95) n)) := by
  obtain ⟨n, c1, c2, c3, c4, c5, c6, c7⟩ := a14
  refine ⟨n, c1, c2, ?_⟩
  rw [D_X8_finish_0_den, D_X8_finish_0_eq]
  simp only [dp_w]
  have key := lpb (F := fun (_ : Nat) i => D_X8_finish_5 xs xl (d + 4) (nI r) how 0 (nI i) (rJ M 95 (tbs (-1) (ndF M) (rP M r) (rC M r) (dp_J M 95) i))) (s := fun _ => 0) (N := n) (r := (.inl (some (.long 0)), finC M r how (tbs (-1) (ndF M) (rP M r) (rC M r) (dp_J M 95) n))) ?_ (fun i hi hq => ?_)
  · (try dsimp only at key)
    rw [tbs, rJ_id] at key; exact key
  · (try dsimp only)
    exact fin_end (by omega) c1 c6
  · (try dsimp only at hq); (try dsimp only)
    obtain ⟨d1, d2, d3, d4, d5⟩ := c7 i hi
    obtain ⟨g, g1, g2, eg⟩ := wi_of (a := 1) (b := G) d3 (by omega)
    obtain ⟨h, u, m, b1, b2, b3, b4, b5, b6, b7, b8, b9, b10, -⟩ := a10 g g1 g2
    rw [D_X8_finish_5_eq, sc_parts (n := n) (by omega) c1 (by rw [rJ_J, if_neg (by decide)]; exact c6), rb_bi, if_neg (nI_nge hi (by omega))]
    rw [sc_use (nd := ndF M) (v3 := -1) (g := g) (u := u) (n := m) (c := rC M r i) (by omega) (by omega) (by omega) b3 b4 (by rw [tbs_o (by omega) (by omega)]; exact b8) (by rw [tbs_o (by omega) (by omega)]; exact b10) (by rw [d1, eg]) d2 (by unfold ndF; rw [b7, b9]), rb_bv, if_neg hh]
    simp only [dp_w, nI_1]
    rw [tbs, show rP M r i = nI g from eg, nI_cl (by omega)] at hq
    exact hq
theorem sc_fin3 {G R r : Nat} (hG : G ≤ 40) (hR : R ≤ 400) (hr1 : 1 ≤ r) (hr : r ≤ R) (a5 : dp_I M 114 120 = dp_I M 90 3) (a6 : qin (dp_I M 90 3) 100001) (a10 : ∀ g, 1 ≤ g → g ≤ G → SRw M R g) (a14 : SRv M G r) (a17 : ∀ j k, j < (dp_I M 216 r).toNatClampNeg → k < (dp_I M 216 r).toNatClampNeg → dp_I M 217 (r * 4 + j) = dp_I M 217 (r * 4 + k) → j = k) : ∃ n, n ≤ 4 ∧ dp_I M 216 r = nI n ∧ dp_den true xs xl (d + 5) 207 [.ref 90, .int (nI r), .int 3] M = lR (sl (rX M r) n) (finC M r 3 (fT (ndF M) (rP M r) (rC M r) (rX M r) (rR M r) (dp_I M 90 3).toInt64 (dp_J M 95) n)) := by
  obtain ⟨n, c1, c2, c3, c4, c5, c6, c7⟩ := a14
  refine ⟨n, c1, c2, ?_⟩
  rw [c2, nI_cl (by omega)] at a17
  obtain ⟨W, hW⟩ : ∃ W, W = fT (ndF M) (rP M r) (rC M r) (rX M r) (rR M r) (dp_I M 90 3).toInt64 (dp_J M 95) := ⟨_, rfl⟩
  rw [← hW]
  rw [D_X8_finish_0_den, D_X8_finish_0_eq]
  simp only [dp_w]
  have key := lpb (F := fun (t : Int64) i => D_X8_finish_5 xs xl (d + 4) (nI r) 3 t (nI i) (rJ M 95 (W i))) (s := sl (rX M r)) (N := n) (r := (.inl (some (.long (sl (rX M r) n))), finC M r 3 (W n))) ?_ (fun i hi hq => ?_)
  · (try dsimp only at key)
    rw [show W 0 = dp_J M 95 by rw [hW, fT], rJ_id] at key; exact key
  · (try dsimp only)
    exact fin_end (by omega) c1 c6
  · (try dsimp only at hq); (try dsimp only)
    obtain ⟨d1, d2, d3, d4, d5⟩ := c7 i hi
    obtain ⟨g, g1, g2, eg⟩ := wi_of (a := 1) (b := G) d3 (by omega)
    have row := a10 g g1 g2
    obtain ⟨x1, x2, x3, x4, x5, x6, x7⟩ := row.x
    obtain ⟨h, u, m, b1, b2, b3, b4, b5, b6, b7, b8, b9, b10, -⟩ := row
    have ePi : rP M r i = nI g := eg
    have new : ∀ j, j < i → (rP M r j).toNatClampNeg ≠ g := fun j hj q => by
      obtain ⟨-, -, d3', -, -⟩ := c7 j (by omega)
      obtain ⟨g', g1', g2', eg'⟩ := wi_of (a := 1) (b := G) d3' (by omega)
      have : rP M r j = nI g' := eg'
      rw [this, nI_cl (by omega)] at q
      have := a17 j i (by omega) hi (by rw [eg, eg', q])
      omega
    have wg : ∀ k, k < 16 → W i (g * 16 + k) = dp_J M 95 (g * 16 + k) := fun k hk => by rw [hW]; exact fT_g hk i new
    obtain ⟨U, hU⟩ : ∃ U, U = useR (-1) (ndF M) (W i) g (rC M r i) := ⟨_, rfl⟩
    have ug : ∀ k, k < 16 → k ≠ 2 ∧ k ≠ 5 → U (g * 16 + k) = dp_J M 95 (g * 16 + k) := fun k hk hk2 => by rw [hU, useR_o hk (Or.inr hk2), wg k hk]
    have r96 : ∀ T : Nat → Int64, dp_J (rJ M 95 T) 96 = dp_J M 96 := fun T => by rw [rJ_J, if_neg (by decide)]
    have r95 : ∀ T : Nat → Int64, dp_J (rJ M 95 T) 95 = T := fun T => by rw [rJ_J, if_pos rfl]
    have r203 : ∀ T : Nat → Int64, dp_J (rJ M 95 T) 203 = dp_J M 203 := fun T => by rw [rJ_J, if_neg (by decide)]
    have sx : SRx (rJ M 95 U) g := by
      unfold SRx
      rw [r95, rJ_I, r203, ug 1 (by omega) (by omega), ug 12 (by omega) (by omega), ug 13 (by omega) (by omega), ug 6 (by omega) (by omega), ug 15 (by omega) (by omega)]
      exact ⟨x1, x2, x3, x4, x5, x6, x7⟩
    have el : lrow (rJ M 95 U) g = lrow M g := by unfold lrow lst; rw [rJ_I, r203]
    have ex : mnJ (dp_J M 96 (r * 12 + (8 + i))) (U (g * 16 + 1)) = rX M r i := by
      unfold rX; rw [ug 1 (by omega) (by omega), x1, ePi, nI_cl (by omega), d2]; rfl
    have er : rR M r i = lrow M g := by unfold rR; rw [ePi, nI_cl (by omega)]
    rw [D_X8_finish_5_eq, sc_parts (n := n) (by omega) c1 (by rw [r96]; exact c6), rb_bi, if_neg (nI_nge hi (by omega))]
    rw [sc_use (nd := ndF M) (v3 := -1) (g := g) (u := u) (n := m) (c := rC M r i) (by omega) (by omega) (by omega) b3 b4 (by rw [wg 9 (by omega)]; exact b8) (by rw [wg 10 (by omega)]; exact b10) (by rw [d1, eg]) d2 (by unfold ndF; rw [b7, b9]), rb_bv, if_pos rfl]
    rw [show useR (-1 : Int32).toInt64 (ndF M) (W i) g (rC M r i) = U by rw [hU]; rfl]
    rw [sc_clb (g := g) (by omega) (by omega) (by omega) (by rw [r96, d1, eg]), rb_bl, r96, r95, ex, sc_gof (g := g) (by omega) (by omega) (by omega) (by rw [r96, d1, eg]), rb_bi, sc_lessen (by omega) sx a5 a6, rb_bv, el]
    simp only [dp_w, nI_1]
    have e2 : W (i + 1) = lsR U g (rX M r i) (lrow M g) (dp_I M 90 3).toInt64 := by rw [hW, fT, ePi, nI_cl (by omega), ← hW, ← hU, er]
    rw [sl, e2] at hq
    exact D_X8_finish_5_to_5_a _ _ _ _ _ hq
end SU
