-- needs: 71 72 73 74 75 76 77 78 79 80 81
/-! THE LAW: a row for each call (printed by prog/law2.py) -/
section Lw0
variable {xs : Nat → Int32} {xl d : Nat} {M : dp_M}
theorem lw_448 {n B T c : Nat} {v4 : Int32} {u5 u6 u7 : Option Value} (h : AR M n B T c) (hc : c + 1 < 1073741824) (hx : LIx xl v4) : LSt xs xl (d + 60) v4 B T c M (D_L_law_448 xs xl (d + 60) v4 u5 u6 u7 M) := by
  obtain ⟨x1, x2, x3, x4, x5, x6, x7, x8⟩ := hx
  obtain ⟨hp, hl, hq, ht, hr, hs, hd, hz⟩ := h
  have hn := hr.1
  rw [D_L_law_448_eq]
  (try simp only [if_neg x1, if_neg x2, if_neg x3, if_neg x4, if_neg x5, if_neg x6, if_neg x7, if_neg x8])
  obtain ⟨k, b, M1, M2, e1, e2, e3, e4, cs, n2, gPR, oo⟩ := p_box (xs := xs) (xl := xl) (d := d + 55) hp hn ((xs (Int32.toNatClampNeg (v4 + (1 : Int32))))) ((xs (Int32.toNatClampNeg (v4 + (2 : Int32))))) ((xs (Int32.toNatClampNeg (v4 + (3 : Int32))))) ((xs (Int32.toNatClampNeg (v4 + (4 : Int32))))) ((xs (Int32.toNatClampNeg (v4 + (5 : Int32))))) ((xs (Int32.toNatClampNeg (v4 + (6 : Int32))))) ((xs (Int32.toNatClampNeg (v4 + (7 : Int32)))))
  rw [e1, rb_bi, e2, rb_bi, lw_thr, rb_bi, tl_i e3 e4]
  exact ⟨_, _, _, M2, n2, rfl, ⟨gPR.up (Nat.le_succ c) hc, RelL_off hl oo (by decide) (by decide), RelQ_off hq oo (by decide) (by decide), RelT_off ht oo (by decide) (by decide), RelR_off hr oo (by decide) (by decide), RelS_off hs oo (by decide) (by decide), RelD_off hd oo (by decide) (by decide), PlN_off hz oo (by decide)⟩, by have := cs.1; omega, by have := cs.2; omega⟩
theorem lw_580 {n B T c : Nat} {v4 : Int32} {u5 u6 u7 : Option Value} (h : AR M n B T c) (hc : c + 1 < 1073741824) (hx : LIx xl v4) : LSt xs xl (d + 60) v4 B T c M (D_L_law_580 xs xl (d + 60) v4 u5 u6 u7 M) := by
  obtain ⟨x1, x2, x3, x4, x5, x6, x7, x8⟩ := hx
  obtain ⟨hp, hl, hq, ht, hr, hs, hd, hz⟩ := h
  have hn := hr.1
  rw [D_L_law_580_eq]
  (try simp only [if_neg x1, if_neg x2, if_neg x3, if_neg x4, if_neg x5, if_neg x6, if_neg x7, if_neg x8])
  obtain ⟨v, M1, M2, e1, e2, gPR, oo, cs⟩ := p_before (xs := xs) (xl := xl) (d := d + 55) hp ((xs (Int32.toNatClampNeg (v4 + (1 : Int32))))) ((xs (Int32.toNatClampNeg (v4 + (2 : Int32)))))
  rw [e1, rb_bi, e2, rb_bi, if_pos rfl]
  exact ⟨_, _, _, M2, n, rfl, ⟨gPR.up (Nat.le_succ c) hc, RelL_off hl oo (by decide) (by decide), RelQ_off hq oo (by decide) (by decide), RelT_off ht oo (by decide) (by decide), RelR_off hr oo (by decide) (by decide), RelS_off hs oo (by decide) (by decide), RelD_off hd oo (by decide) (by decide), PlN_off hz oo (by decide)⟩, by have := cs.1; omega, by have := cs.2; omega⟩
theorem lw_617 {n B T c : Nat} {v4 : Int32} {u5 u6 u7 : Option Value} (h : AR M n B T c) (hc : c + 1 < 1073741824) (hx : LIx xl v4) (hplan : LPl xs xl) : LSt xs xl (d + 60) v4 B T c M (D_L_law_617 xs xl (d + 60) v4 u5 u6 u7 M) := by
  obtain ⟨x1, x2, x3, x4, x5, x6, x7, x8⟩ := hx
  obtain ⟨hp, hl, hq, ht, hr, hs, hd, hz⟩ := h
  have hn := hr.1
  rw [D_L_law_617_eq]
  (try simp only [if_neg x1, if_neg x2, if_neg x3, if_neg x4, if_neg x5, if_neg x6, if_neg x7, if_neg x8])
  obtain ⟨k, b, M1, M2, e1, e2, e3, e4, g1, oo, cs⟩ := hplan M n B T c (d + 20) ((xs (Int32.toNatClampNeg (v4 + (1 : Int32))))) ⟨hp, hl, hq, ht, hr, hs, hd, hz⟩ hc
  have hA : AR M2 n B T (c + 1) := g1
  rw [e1, rb_bi, e2, rb_bi, lw_thr, rb_bi, tl_i e3 e4]
  exact ⟨_, _, _, M2, n, rfl, hA, by have := cs.1; omega, by have := cs.2; omega⟩
theorem lw_673 {n B T c : Nat} {v4 : Int32} {u5 u6 u7 : Option Value} (h : AR M n B T c) (hc : c + 1 < 1073741824) (hx : LIx xl v4) : LSt xs xl (d + 60) v4 B T c M (D_L_law_673 xs xl (d + 60) v4 u5 u6 u7 M) := by
  obtain ⟨x1, x2, x3, x4, x5, x6, x7, x8⟩ := hx
  obtain ⟨hp, hl, hq, ht, hr, hs, hd, hz⟩ := h
  have hn := hr.1
  rw [D_L_law_673_eq]
  (try simp only [if_neg x1, if_neg x2, if_neg x3, if_neg x4, if_neg x5, if_neg x6, if_neg x7, if_neg x8])
  obtain ⟨k, b, M1, M2, e1, e2, e3, e4, gPR, oo, cs⟩ := p_move (xs := xs) (xl := xl) (d := d + 55) hp hn ((xs (Int32.toNatClampNeg (v4 + (1 : Int32))))) ((xs (Int32.toNatClampNeg (v4 + (2 : Int32))))) ((xs (Int32.toNatClampNeg (v4 + (3 : Int32)))))
  rw [e1, rb_bi, e2, rb_bi, lw_thr, rb_bi, tl_i e3 e4]
  exact ⟨_, _, _, M2, n, rfl, ⟨gPR.up (Nat.le_succ c) hc, RelL_off hl oo (by decide) (by decide), RelQ_off hq oo (by decide) (by decide), RelT_off ht oo (by decide) (by decide), RelR_off hr oo (by decide) (by decide), RelS_off hs oo (by decide) (by decide), RelD_off hd oo (by decide) (by decide), PlN_off hz oo (by decide)⟩, by have := cs.1; omega, by have := cs.2; omega⟩
theorem lw_753 {n B T c : Nat} {v4 : Int32} {u5 u6 u7 : Option Value} (h : AR M n B T c) (hc : c + 1 < 1073741824) (hx : LIx xl v4) : LSt xs xl (d + 60) v4 B T c M (D_L_law_753 xs xl (d + 60) v4 u5 u6 u7 M) := by
  obtain ⟨x1, x2, x3, x4, x5, x6, x7, x8⟩ := hx
  obtain ⟨hp, hl, hq, ht, hr, hs, hd, hz⟩ := h
  have hn := hr.1
  rw [D_L_law_753_eq]
  (try simp only [if_neg x1, if_neg x2, if_neg x3, if_neg x4, if_neg x5, if_neg x6, if_neg x7, if_neg x8])
  obtain ⟨k, b, M1, M2, e1, e2, e3, e4, gPR, oo, cs⟩ := p_work (xs := xs) (xl := xl) (d := d + 53) hp hn ((xs (Int32.toNatClampNeg (v4 + (1 : Int32)))))
  rw [e1, rb_bi, e2, rb_bi, lw_thr, rb_bi, tl_i e3 e4]
  exact ⟨_, _, _, M2, n, rfl, ⟨gPR.up (Nat.le_succ c) hc, RelL_off hl oo (by decide) (by decide), RelQ_off hq oo (by decide) (by decide), RelT_off ht oo (by decide) (by decide), RelR_off hr oo (by decide) (by decide), RelS_off hs oo (by decide) (by decide), RelD_off hd oo (by decide) (by decide), PlN_off hz oo (by decide)⟩, by have := cs.1; omega, by have := cs.2; omega⟩
theorem lw_809 {n B T c : Nat} {v4 : Int32} {u5 u6 u7 : Option Value} (h : AR M n B T c) (hc : c + 1 < 1073741824) (hx : LIx xl v4) : LSt xs xl (d + 60) v4 B T c M (D_L_law_809 xs xl (d + 60) v4 u5 u6 u7 M) := by
  obtain ⟨x1, x2, x3, x4, x5, x6, x7, x8⟩ := hx
  obtain ⟨hp, hl, hq, ht, hr, hs, hd, hz⟩ := h
  have hn := hr.1
  rw [D_L_law_809_eq]
  (try simp only [if_neg x1, if_neg x2, if_neg x3, if_neg x4, if_neg x5, if_neg x6, if_neg x7, if_neg x8])
  obtain ⟨k, b, M1, M2, e1, e2, e3, e4, gPR, oo, cs⟩ := p_least (xs := xs) (xl := xl) (d := d + 55) hp hn ((xs (Int32.toNatClampNeg (v4 + (1 : Int32)))))
  rw [e1, rb_bi, e2, rb_bi, lw_thr, rb_bi, tl_i e3 e4]
  exact ⟨_, _, _, M2, n, rfl, ⟨gPR.up (Nat.le_succ c) hc, RelL_off hl oo (by decide) (by decide), RelQ_off hq oo (by decide) (by decide), RelT_off ht oo (by decide) (by decide), RelR_off hr oo (by decide) (by decide), RelS_off hs oo (by decide) (by decide), RelD_off hd oo (by decide) (by decide), PlN_off hz oo (by decide)⟩, by have := cs.1; omega, by have := cs.2; omega⟩
theorem lw_865 {n B T c : Nat} {v4 : Int32} {u5 u6 u7 : Option Value} (h : AR M n B T c) (hc : c + 1 < 1073741824) (hx : LIx xl v4) : LSt xs xl (d + 60) v4 B T c M (D_L_law_865 xs xl (d + 60) v4 u5 u6 u7 M) := by
  obtain ⟨x1, x2, x3, x4, x5, x6, x7, x8⟩ := hx
  obtain ⟨hp, hl, hq, ht, hr, hs, hd, hz⟩ := h
  have hn := hr.1
  rw [D_L_law_865_eq]
  (try simp only [if_neg x1, if_neg x2, if_neg x3, if_neg x4, if_neg x5, if_neg x6, if_neg x7, if_neg x8])
  obtain ⟨k, b, M1, M2, e1, e2, e3, e4, gPR, oo, cs⟩ := p_swap (xs := xs) (xl := xl) (d := d + 54) hp hn ((xs (Int32.toNatClampNeg (v4 + (1 : Int32))))) ((xs (Int32.toNatClampNeg (v4 + (2 : Int32)))))
  rw [e1, rb_bi, e2, rb_bi, lw_thr, rb_bi, tl_i e3 e4]
  exact ⟨_, _, _, M2, n, rfl, ⟨gPR.up (Nat.le_succ c) hc, RelL_off hl oo (by decide) (by decide), RelQ_off hq oo (by decide) (by decide), RelT_off ht oo (by decide) (by decide), RelR_off hr oo (by decide) (by decide), RelS_off hs oo (by decide) (by decide), RelD_off hd oo (by decide) (by decide), PlN_off hz oo (by decide)⟩, by have := cs.1; omega, by have := cs.2; omega⟩
theorem lw_933 {n B T c : Nat} {v4 : Int32} {u5 u6 u7 : Option Value} (h : AR M n B T c) (hc : c + 1 < 1073741824) (hx : LIx xl v4) : LSt xs xl (d + 60) v4 B T c M (D_L_law_933 xs xl (d + 60) v4 u5 u6 u7 M) := by
  obtain ⟨x1, x2, x3, x4, x5, x6, x7, x8⟩ := hx
  obtain ⟨hp, hl, hq, ht, hr, hs, hd, hz⟩ := h
  have hn := hr.1
  rw [D_L_law_933_eq]
  (try simp only [if_neg x1, if_neg x2, if_neg x3, if_neg x4, if_neg x5, if_neg x6, if_neg x7, if_neg x8])
  obtain ⟨k, b, M1, M2, e1, e2, e3, e4, gPR, oo, cs⟩ := p_aboard (xs := xs) (xl := xl) (d := d + 55) hp hn ((xs (Int32.toNatClampNeg (v4 + (1 : Int32))))) ((xs (Int32.toNatClampNeg (v4 + (2 : Int32)))))
  rw [e1, rb_bi, e2, rb_bi, lw_thr, rb_bi, tl_i e3 e4]
  exact ⟨_, _, _, M2, n, rfl, ⟨gPR.up (Nat.le_succ c) hc, RelL_off hl oo (by decide) (by decide), RelQ_off hq oo (by decide) (by decide), RelT_off ht oo (by decide) (by decide), RelR_off hr oo (by decide) (by decide), RelS_off hs oo (by decide) (by decide), RelD_off hd oo (by decide) (by decide), PlN_off hz oo (by decide)⟩, by have := cs.1; omega, by have := cs.2; omega⟩
theorem lw_1001 {n B T c : Nat} {v4 : Int32} {u5 u6 u7 : Option Value} (h : AR M n B T c) (hc : c + 1 < 1073741824) (hx : LIx xl v4) : LSt xs xl (d + 60) v4 B T c M (D_L_law_1001 xs xl (d + 60) v4 u5 u6 u7 M) := by
  obtain ⟨x1, x2, x3, x4, x5, x6, x7, x8⟩ := hx
  obtain ⟨hp, hl, hq, ht, hr, hs, hd, hz⟩ := h
  have hn := hr.1
  rw [D_L_law_1001_eq]
  (try simp only [if_neg x1, if_neg x2, if_neg x3, if_neg x4, if_neg x5, if_neg x6, if_neg x7, if_neg x8])
  obtain ⟨v, M1, M2, e1, e2, gPR, oo, cs⟩ := p_ground (xs := xs) (xl := xl) (d := d + 56) hp ((xs (Int32.toNatClampNeg (v4 + (1 : Int32))))) ((xs (Int32.toNatClampNeg (v4 + (2 : Int32)))))
  rw [e1, rb_bi, e2, rb_bi, if_pos rfl]
  exact ⟨_, _, _, M2, n, rfl, ⟨gPR.up (Nat.le_succ c) hc, RelL_off hl oo (by decide) (by decide), RelQ_off hq oo (by decide) (by decide), RelT_off ht oo (by decide) (by decide), RelR_off hr oo (by decide) (by decide), RelS_off hs oo (by decide) (by decide), RelD_off hd oo (by decide) (by decide), PlN_off hz oo (by decide)⟩, by have := cs.1; omega, by have := cs.2; omega⟩
theorem lw_1038 {n B T c : Nat} {v4 : Int32} {u5 u6 u7 : Option Value} (h : AR M n B T c) (hc : c + 1 < 1073741824) (hx : LIx xl v4) : LSt xs xl (d + 60) v4 B T c M (D_L_law_1038 xs xl (d + 60) v4 u5 u6 u7 M) := by
  obtain ⟨x1, x2, x3, x4, x5, x6, x7, x8⟩ := hx
  obtain ⟨hp, hl, hq, ht, hr, hs, hd, hz⟩ := h
  have hn := hr.1
  rw [D_L_law_1038_eq]
  (try simp only [if_neg x1, if_neg x2, if_neg x3, if_neg x4, if_neg x5, if_neg x6, if_neg x7, if_neg x8])
  obtain ⟨v, M1, M2, e1, e2, gPR, oo, cs⟩ := p_reserve (xs := xs) (xl := xl) (d := d + 56) hp ((xs (Int32.toNatClampNeg (v4 + (1 : Int32))))) ((xs (Int32.toNatClampNeg (v4 + (2 : Int32)))))
  rw [e1, rb_bi, e2, rb_bi, if_pos rfl]
  exact ⟨_, _, _, M2, n, rfl, ⟨gPR.up (Nat.le_succ c) hc, RelL_off hl oo (by decide) (by decide), RelQ_off hq oo (by decide) (by decide), RelT_off ht oo (by decide) (by decide), RelR_off hr oo (by decide) (by decide), RelS_off hs oo (by decide) (by decide), RelD_off hd oo (by decide) (by decide), PlN_off hz oo (by decide)⟩, by have := cs.1; omega, by have := cs.2; omega⟩
theorem lw_1075 {n B T c : Nat} {v4 : Int32} {u5 u6 u7 : Option Value} (h : AR M n B T c) (hc : c + 1 < 1073741824) (hx : LIx xl v4) : LSt xs xl (d + 60) v4 B T c M (D_L_law_1075 xs xl (d + 60) v4 u5 u6 u7 M) := by
  obtain ⟨x1, x2, x3, x4, x5, x6, x7, x8⟩ := hx
  obtain ⟨hp, hl, hq, ht, hr, hs, hd, hz⟩ := h
  have hn := hr.1
  rw [D_L_law_1075_eq]
  (try simp only [if_neg x1, if_neg x2, if_neg x3, if_neg x4, if_neg x5, if_neg x6, if_neg x7, if_neg x8])
  obtain ⟨k, b, M1, M2, e1, e2, e3, e4, gPR, oo, cs⟩ := p_put (xs := xs) (xl := xl) (d := d + 54) hp hn ((xs (Int32.toNatClampNeg (v4 + (1 : Int32))))) ((xs (Int32.toNatClampNeg (v4 + (2 : Int32)))))
  rw [e1, rb_bi, e2, rb_bi, lw_thr, rb_bi, tl_i e3 e4]
  exact ⟨_, _, _, M2, n, rfl, ⟨gPR.up (Nat.le_succ c) hc, RelL_off hl oo (by decide) (by decide), RelQ_off hq oo (by decide) (by decide), RelT_off ht oo (by decide) (by decide), RelR_off hr oo (by decide) (by decide), RelS_off hs oo (by decide) (by decide), RelD_off hd oo (by decide) (by decide), PlN_off hz oo (by decide)⟩, by have := cs.1; omega, by have := cs.2; omega⟩
theorem lw_1143 {n B T c : Nat} {v4 : Int32} {u5 u6 u7 : Option Value} (h : AR M n B T c) (hc : c + 1 < 1073741824) (hx : LIx xl v4) : LSt xs xl (d + 60) v4 B T c M (D_L_law_1143 xs xl (d + 60) v4 u5 u6 u7 M) := by
  obtain ⟨x1, x2, x3, x4, x5, x6, x7, x8⟩ := hx
  obtain ⟨hp, hl, hq, ht, hr, hs, hd, hz⟩ := h
  have hn := hr.1
  rw [D_L_law_1143_eq]
  (try simp only [if_neg x1, if_neg x2, if_neg x3, if_neg x4, if_neg x5, if_neg x6, if_neg x7, if_neg x8])
  obtain ⟨k, b, M1, M2, e1, e2, e3, e4, gPR, oo, cs⟩ := p_take (xs := xs) (xl := xl) (d := d + 54) hp hn ((xs (Int32.toNatClampNeg (v4 + (1 : Int32)))))
  rw [e1, rb_bi, e2, rb_bi, lw_thr, rb_bi, tl_i e3 e4]
  exact ⟨_, _, _, M2, n, rfl, ⟨gPR.up (Nat.le_succ c) hc, RelL_off hl oo (by decide) (by decide), RelQ_off hq oo (by decide) (by decide), RelT_off ht oo (by decide) (by decide), RelR_off hr oo (by decide) (by decide), RelS_off hs oo (by decide) (by decide), RelD_off hd oo (by decide) (by decide), PlN_off hz oo (by decide)⟩, by have := cs.1; omega, by have := cs.2; omega⟩
theorem lw_1199 {n B T c : Nat} {v4 : Int32} {u5 u6 u7 : Option Value} (h : AR M n B T c) (hc : c + 1 < 1073741824) (hx : LIx xl v4) : LSt xs xl (d + 60) v4 B T c M (D_L_law_1199 xs xl (d + 60) v4 u5 u6 u7 M) := by
  obtain ⟨x1, x2, x3, x4, x5, x6, x7, x8⟩ := hx
  obtain ⟨hp, hl, hq, ht, hr, hs, hd, hz⟩ := h
  have hn := hr.1
  rw [D_L_law_1199_eq]
  (try simp only [if_neg x1, if_neg x2, if_neg x3, if_neg x4, if_neg x5, if_neg x6, if_neg x7, if_neg x8])
  obtain ⟨k, b, M1, M2, e1, e2, e3, e4, gPR, oo, cs⟩ := p_shift (xs := xs) (xl := xl) (d := d + 54) hp hn ((xs (Int32.toNatClampNeg (v4 + (1 : Int32))))) ((xs (Int32.toNatClampNeg (v4 + (2 : Int32)))))
  rw [e1, rb_bi, e2, rb_bi, lw_thr, rb_bi, tl_i e3 e4]
  exact ⟨_, _, _, M2, n, rfl, ⟨gPR.up (Nat.le_succ c) hc, RelL_off hl oo (by decide) (by decide), RelQ_off hq oo (by decide) (by decide), RelT_off ht oo (by decide) (by decide), RelR_off hr oo (by decide) (by decide), RelS_off hs oo (by decide) (by decide), RelD_off hd oo (by decide) (by decide), PlN_off hz oo (by decide)⟩, by have := cs.1; omega, by have := cs.2; omega⟩
theorem lw_1267 {n B T c : Nat} {v4 : Int32} {u5 u6 u7 : Option Value} (h : AR M n B T c) (hc : c + 1 < 1073741824) (hx : LIx xl v4) : LSt xs xl (d + 60) v4 B T c M (D_L_law_1267 xs xl (d + 60) v4 u5 u6 u7 M) := by
  obtain ⟨x1, x2, x3, x4, x5, x6, x7, x8⟩ := hx
  obtain ⟨hp, hl, hq, ht, hr, hs, hd, hz⟩ := h
  have hn := hr.1
  rw [D_L_law_1267_eq]
  (try simp only [if_neg x1, if_neg x2, if_neg x3, if_neg x4, if_neg x5, if_neg x6, if_neg x7, if_neg x8])
  obtain ⟨k, b, M1, M2, e1, e2, e3, e4, gPR, oo, cs⟩ := p_choose (xs := xs) (xl := xl) (d := d + 54) hp hn ((xs (Int32.toNatClampNeg (v4 + (1 : Int32)))))
  rw [e1, rb_bi, e2, rb_bi, lw_thr, rb_bi, tl_i e3 e4]
  exact ⟨_, _, _, M2, n, rfl, ⟨gPR.up (Nat.le_succ c) hc, RelL_off hl oo (by decide) (by decide), RelQ_off hq oo (by decide) (by decide), RelT_off ht oo (by decide) (by decide), RelR_off hr oo (by decide) (by decide), RelS_off hs oo (by decide) (by decide), RelD_off hd oo (by decide) (by decide), PlN_off hz oo (by decide)⟩, by have := cs.1; omega, by have := cs.2; omega⟩
theorem lw_1323 {n B T c : Nat} {v4 : Int32} {u5 u6 u7 : Option Value} (h : AR M n B T c) (hc : c + 1 < 1073741824) (hx : LIx xl v4) : LSt xs xl (d + 60) v4 B T c M (D_L_law_1323 xs xl (d + 60) v4 u5 u6 u7 M) := by
  obtain ⟨x1, x2, x3, x4, x5, x6, x7, x8⟩ := hx
  obtain ⟨hp, hl, hq, ht, hr, hs, hd, hz⟩ := h
  have hn := hr.1
  rw [D_L_law_1323_eq]
  (try simp only [if_neg x1, if_neg x2, if_neg x3, if_neg x4, if_neg x5, if_neg x6, if_neg x7, if_neg x8])
  obtain ⟨k, b, M1, M2, e1, e2, e3, e4, gPR, oo, cs⟩ := p_night (xs := xs) (xl := xl) (d := d + 51) hp hn ((xs (Int32.toNatClampNeg (v4 + (1 : Int32)))))
  rw [e1, rb_bi, e2, rb_bi, lw_thr, rb_bi, tl_i e3 e4]
  exact ⟨_, _, _, M2, n, rfl, ⟨gPR.up (Nat.le_succ c) hc, RelL_off hl oo (by decide) (by decide), RelQ_off hq oo (by decide) (by decide), RelT_off ht oo (by decide) (by decide), RelR_off hr oo (by decide) (by decide), RelS_off hs oo (by decide) (by decide), RelD_off hd oo (by decide) (by decide), PlN_off hz oo (by decide)⟩, by have := cs.1; omega, by have := cs.2; omega⟩
theorem lw_1379 {n B T c : Nat} {v4 : Int32} {u5 u6 u7 : Option Value} (h : AR M n B T c) (hc : c + 1 < 1073741824) (hx : LIx xl v4) : LSt xs xl (d + 60) v4 B T c M (D_L_law_1379 xs xl (d + 60) v4 u5 u6 u7 M) := by
  obtain ⟨x1, x2, x3, x4, x5, x6, x7, x8⟩ := hx
  obtain ⟨hp, hl, hq, ht, hr, hs, hd, hz⟩ := h
  have hn := hr.1
  rw [D_L_law_1379_eq]
  (try simp only [if_neg x1, if_neg x2, if_neg x3, if_neg x4, if_neg x5, if_neg x6, if_neg x7, if_neg x8])
  obtain ⟨v, M1, M2, e1, e2, gPR, oo, cs⟩ := p_undo (xs := xs) (xl := xl) (d := d + 56) hp
  rw [e1, rb_bi, e2, rb_bi, if_pos rfl]
  exact ⟨_, _, _, M2, n, rfl, ⟨gPR.up (Nat.le_succ c) hc, RelL_off hl oo (by decide) (by decide), RelQ_off hq oo (by decide) (by decide), RelT_off ht oo (by decide) (by decide), RelR_off hr oo (by decide) (by decide), RelS_off hs oo (by decide) (by decide), RelD_off hd oo (by decide) (by decide), PlN_off hz oo (by decide)⟩, by have := cs.1; omega, by have := cs.2; omega⟩
theorem lw_1392 {n B T c : Nat} {v4 : Int32} {u5 u6 u7 : Option Value} (h : AR M n B T c) (hc : c + 1 < 1073741824) (hx : LIx xl v4) : LSt xs xl (d + 60) v4 B T c M (D_L_law_1392 xs xl (d + 60) v4 u5 u6 u7 M) := by
  obtain ⟨x1, x2, x3, x4, x5, x6, x7, x8⟩ := hx
  obtain ⟨hp, hl, hq, ht, hr, hs, hd, hz⟩ := h
  have hn := hr.1
  rw [D_L_law_1392_eq]
  (try simp only [if_neg x1, if_neg x2, if_neg x3, if_neg x4, if_neg x5, if_neg x6, if_neg x7, if_neg x8])
  obtain ⟨k, b, M1, M2, e1, e2, e3, e4, gPR, oo, cs⟩ := p_where (xs := xs) (xl := xl) (d := d + 54) hp hn ((xs (Int32.toNatClampNeg (v4 + (1 : Int32))))) ((xs (Int32.toNatClampNeg (v4 + (2 : Int32)))))
  rw [e1, rb_bi, e2, rb_bi, lw_thr, rb_bi, tl_i e3 e4]
  exact ⟨_, _, _, M2, n, rfl, ⟨gPR.up (Nat.le_succ c) hc, RelL_off hl oo (by decide) (by decide), RelQ_off hq oo (by decide) (by decide), RelT_off ht oo (by decide) (by decide), RelR_off hr oo (by decide) (by decide), RelS_off hs oo (by decide) (by decide), RelD_off hd oo (by decide) (by decide), PlN_off hz oo (by decide)⟩, by have := cs.1; omega, by have := cs.2; omega⟩
theorem lw_1460 {n B T c : Nat} {v4 : Int32} {u5 u6 u7 : Option Value} (h : AR M n B T c) (hc : c + 1 < 1073741824) (hx : LIx xl v4) : LSt xs xl (d + 60) v4 B T c M (D_L_law_1460 xs xl (d + 60) v4 u5 u6 u7 M) := by
  obtain ⟨x1, x2, x3, x4, x5, x6, x7, x8⟩ := hx
  obtain ⟨hp, hl, hq, ht, hr, hs, hd, hz⟩ := h
  have hn := hr.1
  rw [D_L_law_1460_eq]
  (try simp only [if_neg x1, if_neg x2, if_neg x3, if_neg x4, if_neg x5, if_neg x6, if_neg x7, if_neg x8])
  obtain ⟨k, b, M1, M2, e1, e2, e3, e4, gPR, oo, cs⟩ := p_at (xs := xs) (xl := xl) (d := d + 55) hp hn ((xs (Int32.toNatClampNeg (v4 + (1 : Int32))))) ((xs (Int32.toNatClampNeg (v4 + (2 : Int32)))))
  rw [e1, rb_bi, e2, rb_bi, lw_thr, rb_bi, tl_i e3 e4]
  exact ⟨_, _, _, M2, n, rfl, ⟨gPR.up (Nat.le_succ c) hc, RelL_off hl oo (by decide) (by decide), RelQ_off hq oo (by decide) (by decide), RelT_off ht oo (by decide) (by decide), RelR_off hr oo (by decide) (by decide), RelS_off hs oo (by decide) (by decide), RelD_off hd oo (by decide) (by decide), PlN_off hz oo (by decide)⟩, by have := cs.1; omega, by have := cs.2; omega⟩
theorem lw_1528 {n B T c : Nat} {v4 : Int32} {u5 u6 u7 : Option Value} (h : AR M n B T c) (hc : c + 1 < 1073741824) (hx : LIx xl v4) : LSt xs xl (d + 60) v4 B T c M (D_L_law_1528 xs xl (d + 60) v4 u5 u6 u7 M) := by
  obtain ⟨x1, x2, x3, x4, x5, x6, x7, x8⟩ := hx
  obtain ⟨hp, hl, hq, ht, hr, hs, hd, hz⟩ := h
  have hn := hr.1
  rw [D_L_law_1528_eq]
  (try simp only [if_neg x1, if_neg x2, if_neg x3, if_neg x4, if_neg x5, if_neg x6, if_neg x7, if_neg x8])
  obtain ⟨k, b, M1, M2, e1, e2, e3, e4, gPR, oo, cs⟩ := s_goods (xs := xs) (xl := xl) (d := d + 55) hp hn ((xs (Int32.toNatClampNeg (v4 + (1 : Int32))))) ((xs (Int32.toNatClampNeg (v4 + (2 : Int32)))))
  rw [e1, rb_bi, e2, rb_bi, lw_thr, rb_bi, tl_i e3 e4]
  exact ⟨_, _, _, M2, n, rfl, ⟨gPR.up (Nat.le_succ c) hc, RelL_off hl oo (by decide) (by decide), RelQ_off hq oo (by decide) (by decide), RelT_off ht oo (by decide) (by decide), RelR_off hr oo (by decide) (by decide), RelS_off hs oo (by decide) (by decide), RelD_off hd oo (by decide) (by decide), PlN_off hz oo (by decide)⟩, by have := cs.1; omega, by have := cs.2; omega⟩
theorem lw_1596 {n B T c : Nat} {v4 : Int32} {u5 u6 u7 : Option Value} (h : AR M n B T c) (hc : c + 1 < 1073741824) (hx : LIx xl v4) : LSt xs xl (d + 60) v4 B T c M (D_L_law_1596 xs xl (d + 60) v4 u5 u6 u7 M) := by
  obtain ⟨x1, x2, x3, x4, x5, x6, x7, x8⟩ := hx
  obtain ⟨hp, hl, hq, ht, hr, hs, hd, hz⟩ := h
  have hn := hr.1
  rw [D_L_law_1596_eq]
  (try simp only [if_neg x1, if_neg x2, if_neg x3, if_neg x4, if_neg x5, if_neg x6, if_neg x7, if_neg x8])
  obtain ⟨k, b, M1, M2, e1, e2, e3, e4, gPR, oo, cs⟩ := s_bar (xs := xs) (xl := xl) (d := d + 54) hp hc hn ((xs (Int32.toNatClampNeg (v4 + (1 : Int32))))) ((xs (Int32.toNatClampNeg (v4 + (2 : Int32))))) ((xs (Int32.toNatClampNeg (v4 + (3 : Int32))))) ((xs (Int32.toNatClampNeg (v4 + (4 : Int32)))))
  rw [e1, rb_bi, e2, rb_bi, lw_thr, rb_bi, tl_i e3 e4]
  exact ⟨_, _, _, M2, n, rfl, ⟨gPR, RelL_off hl oo (by decide) (by decide), RelQ_off hq oo (by decide) (by decide), RelT_off ht oo (by decide) (by decide), RelR_off hr oo (by decide) (by decide), RelS_off hs oo (by decide) (by decide), RelD_off hd oo (by decide) (by decide), PlN_off hz oo (by decide)⟩, by have := cs.1; omega, by have := cs.2; omega⟩
theorem lw_1688 {n B T c : Nat} {v4 : Int32} {u5 u6 u7 : Option Value} (h : AR M n B T c) (hc : c + 1 < 1073741824) (hx : LIx xl v4) : LSt xs xl (d + 60) v4 B T c M (D_L_law_1688 xs xl (d + 60) v4 u5 u6 u7 M) := by
  obtain ⟨x1, x2, x3, x4, x5, x6, x7, x8⟩ := hx
  obtain ⟨hp, hl, hq, ht, hr, hs, hd, hz⟩ := h
  have hn := hr.1
  rw [D_L_law_1688_eq]
  (try simp only [if_neg x1, if_neg x2, if_neg x3, if_neg x4, if_neg x5, if_neg x6, if_neg x7, if_neg x8])
  obtain ⟨k, b, M1, M2, e1, e2, e3, e4, gPR, oo, cs⟩ := s_lift (xs := xs) (xl := xl) (d := d + 54) hp hc hn ((xs (Int32.toNatClampNeg (v4 + (1 : Int32))))) ((xs (Int32.toNatClampNeg (v4 + (2 : Int32))))) ((xs (Int32.toNatClampNeg (v4 + (3 : Int32))))) ((xs (Int32.toNatClampNeg (v4 + (4 : Int32)))))
  rw [e1, rb_bi, e2, rb_bi, lw_thr, rb_bi, tl_i e3 e4]
  exact ⟨_, _, _, M2, n, rfl, ⟨gPR, RelL_off hl oo (by decide) (by decide), RelQ_off hq oo (by decide) (by decide), RelT_off ht oo (by decide) (by decide), RelR_off hr oo (by decide) (by decide), RelS_off hs oo (by decide) (by decide), RelD_off hd oo (by decide) (by decide), PlN_off hz oo (by decide)⟩, by have := cs.1; omega, by have := cs.2; omega⟩
theorem lw_1780 {n B T c : Nat} {v4 : Int32} {u5 u6 u7 : Option Value} (h : AR M n B T c) (hc : c + 1 < 1073741824) (hx : LIx xl v4) : LSt xs xl (d + 60) v4 B T c M (D_L_law_1780 xs xl (d + 60) v4 u5 u6 u7 M) := by
  obtain ⟨x1, x2, x3, x4, x5, x6, x7, x8⟩ := hx
  obtain ⟨hp, hl, hq, ht, hr, hs, hd, hz⟩ := h
  have hn := hr.1
  rw [D_L_law_1780_eq]
  (try simp only [if_neg x1, if_neg x2, if_neg x3, if_neg x4, if_neg x5, if_neg x6, if_neg x7, if_neg x8])
  obtain ⟨k, b, M1, M2, e1, e2, e3, e4, gPR, oo, cs⟩ := s_join (xs := xs) (xl := xl) (d := d + 56) hp hn ((xs (Int32.toNatClampNeg (v4 + (1 : Int32))))) ((xs (Int32.toNatClampNeg (v4 + (2 : Int32)))))
  rw [e1, rb_bi, e2, rb_bi, lw_thr, rb_bi, tl_i e3 e4]
  exact ⟨_, _, _, M2, n, rfl, ⟨gPR.up (Nat.le_succ c) hc, RelL_off hl oo (by decide) (by decide), RelQ_off hq oo (by decide) (by decide), RelT_off ht oo (by decide) (by decide), RelR_off hr oo (by decide) (by decide), RelS_off hs oo (by decide) (by decide), RelD_off hd oo (by decide) (by decide), PlN_off hz oo (by decide)⟩, by have := cs.1; omega, by have := cs.2; omega⟩
end Lw0
