-- needs: 71 72 73 74 75 76 77 78 79 80 81
/-! THE LAW: the loop (printed by prog/law2.py) -/
section LwZ
variable {xs : Nat → Int32} {xl d : Nat}
theorem lw_ix {p : Nat} (h : p + 9 ≤ xl) (hx : xl < 1073741824) : LIx xl (nI p) := by
  have g : ∀ k : Nat, k ≤ 8 → ¬ ((nI p + nI k) < 0 ∨ xl ≤ Int32.toNatClampNeg (nI p + nI k)) := fun k hk => by
    rw [nI_add, nI_cl (by omega), nI_o (show p + k < xl by omega) (by omega)]; exact id
  exact ⟨g 1 (by omega), g 2 (by omega), g 3 (by omega), g 4 (by omega), g 5 (by omega), g 6 (by omega), g 7 (by omega), g 8 (by omega)⟩
/-- one turn -/
theorem lw_turn {M : dp_M} {n B T c p : Nat} {u5 u6 u7 : Option Value} (h : AR M n B T c) (hc : c + 1 < 1073741824) (hp : p + 9 ≤ xl) (hxl : xl < 1073741824) (hplan : LPl xs xl) (hz : ¬ ((Int32.ofNat xl) - (9 : Int32)) < nI p) : LSt xs xl (d + 60) (nI p) B T c M (D_L_law_73 xs xl (d + 60) (nI p) u5 u6 u7 M) := by
  have hx := lw_ix hp hxl
  rw [D_L_law_73_eq, if_neg hz, nI_cl (by omega), if_neg (by rw [nI_o (show p < xl by omega) (by omega)]; exact id)]
  by_cases z0 : xs p &&& (127 : Int32) = (0 : Int32)
  · rw [if_pos z0]; exact lw_448 h hc hx
  rw [if_neg z0]
  by_cases z1 : xs p &&& (127 : Int32) = (1 : Int32)
  · rw [if_pos z1]; exact lw_580 h hc hx
  rw [if_neg z1]
  by_cases z2 : xs p &&& (127 : Int32) = (2 : Int32)
  · rw [if_pos z2]; exact lw_617 h hc hx hplan
  rw [if_neg z2]
  by_cases z3 : xs p &&& (127 : Int32) = (3 : Int32)
  · rw [if_pos z3]; exact lw_673 h hc hx
  rw [if_neg z3]
  by_cases z4 : xs p &&& (127 : Int32) = (4 : Int32)
  · rw [if_pos z4]; exact lw_753 h hc hx
  rw [if_neg z4]
  by_cases z5 : xs p &&& (127 : Int32) = (5 : Int32)
  · rw [if_pos z5]; exact lw_809 h hc hx
  rw [if_neg z5]
  by_cases z6 : xs p &&& (127 : Int32) = (6 : Int32)
  · rw [if_pos z6]; exact lw_865 h hc hx
  rw [if_neg z6]
  by_cases z7 : xs p &&& (127 : Int32) = (7 : Int32)
  · rw [if_pos z7]; exact lw_933 h hc hx
  rw [if_neg z7]
  by_cases z8 : xs p &&& (127 : Int32) = (8 : Int32)
  · rw [if_pos z8]; exact lw_1001 h hc hx
  rw [if_neg z8]
  by_cases z9 : xs p &&& (127 : Int32) = (9 : Int32)
  · rw [if_pos z9]; exact lw_1038 h hc hx
  rw [if_neg z9]
  by_cases z10 : xs p &&& (127 : Int32) = (10 : Int32)
  · rw [if_pos z10]; exact lw_1075 h hc hx
  rw [if_neg z10]
  by_cases z11 : xs p &&& (127 : Int32) = (11 : Int32)
  · rw [if_pos z11]; exact lw_1143 h hc hx
  rw [if_neg z11]
  by_cases z12 : xs p &&& (127 : Int32) = (12 : Int32)
  · rw [if_pos z12]; exact lw_1199 h hc hx
  rw [if_neg z12]
  by_cases z13 : xs p &&& (127 : Int32) = (13 : Int32)
  · rw [if_pos z13]; exact lw_1267 h hc hx
  rw [if_neg z13]
  by_cases z14 : xs p &&& (127 : Int32) = (14 : Int32)
  · rw [if_pos z14]; exact lw_1323 h hc hx
  rw [if_neg z14]
  by_cases z15 : xs p &&& (127 : Int32) = (15 : Int32)
  · rw [if_pos z15]; exact lw_1379 h hc hx
  rw [if_neg z15]
  by_cases z16 : xs p &&& (127 : Int32) = (16 : Int32)
  · rw [if_pos z16]; exact lw_1392 h hc hx
  rw [if_neg z16]
  by_cases z17 : xs p &&& (127 : Int32) = (17 : Int32)
  · rw [if_pos z17]; exact lw_1460 h hc hx
  rw [if_neg z17]
  by_cases z18 : xs p &&& (127 : Int32) = (18 : Int32)
  · rw [if_pos z18]; exact lw_1528 h hc hx
  rw [if_neg z18]
  by_cases z19 : xs p &&& (127 : Int32) = (19 : Int32)
  · rw [if_pos z19]; exact lw_1596 h hc hx
  rw [if_neg z19]
  by_cases z20 : xs p &&& (127 : Int32) = (20 : Int32)
  · rw [if_pos z20]; exact lw_1688 h hc hx
  rw [if_neg z20]
  by_cases z21 : xs p &&& (127 : Int32) = (21 : Int32)
  · rw [if_pos z21]; exact lw_1780 h hc hx
  rw [if_neg z21]
  by_cases z22 : xs p &&& (127 : Int32) = (22 : Int32)
  · rw [if_pos z22]; exact lw_1848 h hc hx
  rw [if_neg z22]
  by_cases z23 : xs p &&& (127 : Int32) = (23 : Int32)
  · rw [if_pos z23]; exact lw_1897 h hc hx
  rw [if_neg z23]
  by_cases z24 : xs p &&& (127 : Int32) = (24 : Int32)
  · rw [if_pos z24]; exact lw_1953 h hc hx
  rw [if_neg z24]
  by_cases z25 : xs p &&& (127 : Int32) = (25 : Int32)
  · rw [if_pos z25]; exact lw_2021 h hc hx
  rw [if_neg z25]
  by_cases z26 : xs p &&& (127 : Int32) = (26 : Int32)
  · rw [if_pos z26]; exact lw_2089 h hc hx
  rw [if_neg z26]
  by_cases z27 : xs p &&& (127 : Int32) = (27 : Int32)
  · rw [if_pos z27]; exact lw_2145 h hc hx
  rw [if_neg z27]
  by_cases z28 : xs p &&& (127 : Int32) = (28 : Int32)
  · rw [if_pos z28]; exact lw_2201 h hc hx
  rw [if_neg z28]
  by_cases z29 : xs p &&& (127 : Int32) = (29 : Int32)
  · rw [if_pos z29]; exact lw_2266 h hc hx
  rw [if_neg z29]
  by_cases z30 : xs p &&& (127 : Int32) = (30 : Int32)
  · rw [if_pos z30]; exact lw_2291 h hc hx
  rw [if_neg z30]
  by_cases z31 : xs p &&& (127 : Int32) = (31 : Int32)
  · rw [if_pos z31]; exact lw_2359 h hc hx
  rw [if_neg z31]
  by_cases z32 : xs p &&& (127 : Int32) = (32 : Int32)
  · rw [if_pos z32]; exact lw_2396 h hc hx
  rw [if_neg z32]
  by_cases z33 : xs p &&& (127 : Int32) = (33 : Int32)
  · rw [if_pos z33]; exact lw_2528 h hc hx
  rw [if_neg z33]
  by_cases z34 : xs p &&& (127 : Int32) = (34 : Int32)
  · rw [if_pos z34]; exact lw_2565 h hc hx
  rw [if_neg z34]
  by_cases z35 : xs p &&& (127 : Int32) = (35 : Int32)
  · rw [if_pos z35]; exact lw_2602 h hc hx
  rw [if_neg z35]
  by_cases z36 : xs p &&& (127 : Int32) = (36 : Int32)
  · rw [if_pos z36]; exact lw_2682 h hc hx
  rw [if_neg z36]
  by_cases z37 : xs p &&& (127 : Int32) = (37 : Int32)
  · rw [if_pos z37]; exact lw_2705 h hc hx
  rw [if_neg z37]
  by_cases z38 : xs p &&& (127 : Int32) = (38 : Int32)
  · rw [if_pos z38]; exact lw_2797 h hc hx
  rw [if_neg z38]
  by_cases z39 : xs p &&& (127 : Int32) = (39 : Int32)
  · rw [if_pos z39]; exact lw_2822 h hc hx
  rw [if_neg z39]
  by_cases z40 : xs p &&& (127 : Int32) = (40 : Int32)
  · rw [if_pos z40]; exact lw_2891 h hc hx
  rw [if_neg z40]
  by_cases z41 : xs p &&& (127 : Int32) = (41 : Int32)
  · rw [if_pos z41]; exact lw_2947 h hc hx
  rw [if_neg z41]
  by_cases z42 : xs p &&& (127 : Int32) = (42 : Int32)
  · rw [if_pos z42]; exact lw_3027 h hc hx
  rw [if_neg z42]
  by_cases z43 : xs p &&& (127 : Int32) = (43 : Int32)
  · rw [if_pos z43]; exact lw_3083 h hc hx
  rw [if_neg z43]
  by_cases z44 : xs p &&& (127 : Int32) = (44 : Int32)
  · rw [if_pos z44]; exact lw_3139 h hc hx
  rw [if_neg z44]
  by_cases z45 : xs p &&& (127 : Int32) = (45 : Int32)
  · rw [if_pos z45]; exact lw_3296 h hc hx
  rw [if_neg z45]
  by_cases z46 : xs p &&& (127 : Int32) = (46 : Int32)
  · rw [if_pos z46]; exact lw_3408 h hc hx
  rw [if_neg z46]
  by_cases z47 : xs p &&& (127 : Int32) = (47 : Int32)
  · rw [if_pos z47]; exact lw_3476 h hc hx
  rw [if_neg z47]
  by_cases z48 : xs p &&& (127 : Int32) = (48 : Int32)
  · rw [if_pos z48]; exact lw_3579 h hc hx
  rw [if_neg z48]
  by_cases z49 : xs p &&& (127 : Int32) = (49 : Int32)
  · rw [if_pos z49]; exact lw_3698 h hc hx
  rw [if_neg z49]
  by_cases z50 : xs p &&& (127 : Int32) = (50 : Int32)
  · rw [if_pos z50]; exact lw_3765 h hc hx
  rw [if_neg z50]
  by_cases z51 : xs p &&& (127 : Int32) = (51 : Int32)
  · rw [if_pos z51]; exact lw_3832 h hc hx
  rw [if_neg z51]
  by_cases z52 : xs p &&& (127 : Int32) = (52 : Int32)
  · rw [if_pos z52]; exact lw_4000 h hc hx
  rw [if_neg z52]
  by_cases z53 : xs p &&& (127 : Int32) = (53 : Int32)
  · rw [if_pos z53]; exact lw_4025 h hc hx
  rw [if_neg z53]
  by_cases z54 : xs p &&& (127 : Int32) = (54 : Int32)
  · rw [if_pos z54]; exact lw_4050 h hc hx
  rw [if_neg z54]
  by_cases z55 : xs p &&& (127 : Int32) = (55 : Int32)
  · rw [if_pos z55]; exact lw_4103 h hc hx
  rw [if_neg z55]
  by_cases z56 : xs p &&& (127 : Int32) = (56 : Int32)
  · rw [if_pos z56]; exact lw_4128 h hc hx
  rw [if_neg z56]
  by_cases z57 : xs p &&& (127 : Int32) = (57 : Int32)
  · rw [if_pos z57]; exact lw_4183 h hc hx
  rw [if_neg z57]
  by_cases z58 : xs p &&& (127 : Int32) = (58 : Int32)
  · rw [if_pos z58]; exact lw_4209 h hc hx
  rw [if_neg z58]
  by_cases z59 : xs p &&& (127 : Int32) = (59 : Int32)
  · rw [if_pos z59]; exact lw_4246 h hc hx
  rw [if_neg z59]
  by_cases z60 : xs p &&& (127 : Int32) = (60 : Int32)
  · rw [if_pos z60]; exact lw_4313 h hc hx
  rw [if_neg z60]
  by_cases z61 : xs p &&& (127 : Int32) = (61 : Int32)
  · rw [if_pos z61]; exact lw_4380 h hc hx
  rw [if_neg z61]
  by_cases z62 : xs p &&& (127 : Int32) = (62 : Int32)
  · rw [if_pos z62]; exact lw_4448 h hc hx
  rw [if_neg z62]
  by_cases z63 : xs p &&& (127 : Int32) = (63 : Int32)
  · rw [if_pos z63]; exact lw_4529 h hc hx
  rw [if_neg z63]
  by_cases z64 : xs p &&& (127 : Int32) = (64 : Int32)
  · rw [if_pos z64]; exact lw_4582 h hc hx
  rw [if_neg z64]
  by_cases z65 : xs p &&& (127 : Int32) = (65 : Int32)
  · rw [if_pos z65]; exact lw_4638 h hc hx
  rw [if_neg z65]
  by_cases z66 : xs p &&& (127 : Int32) = (66 : Int32)
  · rw [if_pos z66]; exact lw_4706 h hc hx
  rw [if_neg z66]
  by_cases z67 : xs p &&& (127 : Int32) = (67 : Int32)
  · rw [if_pos z67]; exact lw_4731 h hc hx
  rw [if_neg z67]
  by_cases z68 : xs p &&& (127 : Int32) = (68 : Int32)
  · rw [if_pos z68]; exact lw_4810 h hc hx
  rw [if_neg z68]
  by_cases z69 : xs p &&& (127 : Int32) = (69 : Int32)
  · rw [if_pos z69]; exact lw_4889 h hc hx
  rw [if_neg z69]
  by_cases z70 : xs p &&& (127 : Int32) = (70 : Int32)
  · rw [if_pos z70]; exact lw_4938 h hc hx
  rw [if_neg z70]
  by_cases z71 : xs p &&& (127 : Int32) = (71 : Int32)
  · rw [if_pos z71]; exact lw_4975 h hc hx
  rw [if_neg z71]
  by_cases z72 : xs p &&& (127 : Int32) = (72 : Int32)
  · rw [if_pos z72]; exact lw_5054 h hc hx
  rw [if_neg z72]
  by_cases z73 : xs p &&& (127 : Int32) = (73 : Int32)
  · rw [if_pos z73]; exact lw_5121 h hc hx
  rw [if_neg z73]
  by_cases z74 : xs p &&& (127 : Int32) = (74 : Int32)
  · rw [if_pos z74]; exact lw_5189 h hc hx
  rw [if_neg z74]
  by_cases z75 : xs p &&& (127 : Int32) = (75 : Int32)
  · rw [if_pos z75]; exact lw_5355 h hc hx
  rw [if_neg z75]
  by_cases z76 : xs p &&& (127 : Int32) = (76 : Int32)
  · rw [if_pos z76]; exact lw_5436 h hc hx
  rw [if_neg z76]
  by_cases z77 : xs p &&& (127 : Int32) = (77 : Int32)
  · rw [if_pos z77]; exact lw_5548 h hc hx
  rw [if_neg z77]
  by_cases z78 : xs p &&& (127 : Int32) = (78 : Int32)
  · rw [if_pos z78]; exact lw_5648 h hc hx
  rw [if_neg z78]
  by_cases z79 : xs p &&& (127 : Int32) = (79 : Int32)
  · rw [if_pos z79]; exact lw_5715 h hc hx
  rw [if_neg z79]
  by_cases z80 : xs p &&& (127 : Int32) = (80 : Int32)
  · rw [if_pos z80]; exact lw_5782 h hc hx
  rw [if_neg z80]
  by_cases z81 : xs p &&& (127 : Int32) = (81 : Int32)
  · rw [if_pos z81]; exact lw_5850 h hc hx
  rw [if_neg z81]
  by_cases z82 : xs p &&& (127 : Int32) = (82 : Int32)
  · rw [if_pos z82]; exact lw_5917 h hc hx
  rw [if_neg z82]
  by_cases z83 : xs p &&& (127 : Int32) = (83 : Int32)
  · rw [if_pos z83]; exact lw_5984 h hc hx
  rw [if_neg z83]
  by_cases z84 : xs p &&& (127 : Int32) = (84 : Int32)
  · rw [if_pos z84]; exact lw_6040 h hc hx
  rw [if_neg z84]
  by_cases z85 : xs p &&& (127 : Int32) = (85 : Int32)
  · rw [if_pos z85]; exact lw_6107 h hc hx
  rw [if_neg z85]
  exact ⟨u5, u6, u7, M, n, rfl, ⟨h.1.up (Nat.le_succ c) hc, h.2.1, h.2.2.1, h.2.2.2.1, h.2.2.2.2.1, h.2.2.2.2.2.1, h.2.2.2.2.2.2.1, PlN_off h.2.2.2.2.2.2.2 (Off.rr [] [] M) (by decide)⟩, Nat.le_add_right _ _, Nat.le_add_right _ _⟩
theorem lw_end {p : Nat} (h : xl < p + 9) (hp : p < 1073741824) (hxl : xl < 1073741824) : ((Int32.ofNat xl) - (9 : Int32)) < nI p := by
  have e9 : (9 : Int32).toInt = 9 := by decide
  have ex : (Int32.ofNat xl).toInt = (xl : Int) := nI_toInt (n := xl) (by omega)
  rw [Int32.lt_iff_toInt_lt, Int32.toInt_sub, ex, e9, nI_toInt (by omega)]
  have : ((xl : Int) - 9).bmod (2 ^ 32) = (xl : Int) - 9 := by apply Int.bmod_eq_of_le <;> omega
  rw [this]; omega
theorem lw_go {p : Nat} (h : p + 9 ≤ xl) (hxl : xl < 1073741824) : ¬ ((Int32.ofNat xl) - (9 : Int32)) < nI p := by
  have e9 : (9 : Int32).toInt = 9 := by decide
  have ex : (Int32.ofNat xl).toInt = (xl : Int) := nI_toInt (n := xl) (by omega)
  rw [Int32.lt_iff_toInt_lt, Int32.toInt_sub, ex, e9, nI_toInt (by omega)]
  have : ((xl : Int) - 9).bmod (2 ^ 32) = (xl : Int) - 9 := by apply Int.bmod_eq_of_le <;> omega
  rw [this]; omega
/-- the law answers yes -/
theorem lw_loop (hplan : LPl xs xl) (hxl : xl < 536870912) : ∀ (k p c n B T : Nat) (M : dp_M) (u5 u6 u7 : Option Value), xl < p + 9 * k + 9 → p < 536870912 + 9 → c + k < 1073741823 → AR M n B T c → ∃ M', D_L_law_73 xs xl (d + 60) (nI p) u5 u6 u7 M = iR 1 M' ∧ dp_n M' ≤ dp_n M + 3 * k ∧ dp_z M' ≤ dp_z M + 690 * k := by
  intro k
  induction k with
  | zero =>
    intro p c n B T M u5 u6 u7 h hp _ _
    refine ⟨M, ?_, by omega, by omega⟩
    rw [D_L_law_73_eq, if_pos (lw_end (by omega) (by omega) (by omega))]
  | succ k ih =>
    intro p c n B T M u5 u6 u7 h hp hc hA
    by_cases z : xl < p + 9
    · refine ⟨M, ?_, by omega, by omega⟩
      rw [D_L_law_73_eq, if_pos (lw_end z (by omega) (by omega))]
    · obtain ⟨w5, w6, w7, M', n', e, hA', c1, c2⟩ := lw_turn (d := d) (u5 := u5) (u6 := u6) (u7 := u7) hA (by omega) (by omega) (by omega) hplan (lw_go (p := p) (by omega) (by omega))
      obtain ⟨M2, e2, d1, d2⟩ := ih (p + 9) (c + 1) n' B T M' w5 w6 w7 (by omega) (by omega) (by omega) hA'
      refine ⟨M2, ?_, by omega, by omega⟩
      rw [e, D_L_law_6132_eq, dpw, show (9 : Int32) = nI 9 from rfl, nI_add, e2]
end LwZ
