-- needs: 71 72 73 74 75 76 77 78 79 80 81
/-! THE LAW: a row for each call (printed by prog/law2.py) -/
section Lw1
variable {xs : Nat → Int32} {xl d : Nat} {M : dp_M}
theorem lw_1848 {n B T c : Nat} {v4 : Int32} {u5 u6 u7 : Option Value} (h : AR M n B T c) (hc : c + 1 < 1073741824) (hx : LIx xl v4) : LSt xs xl (d + 60) v4 B T c M (D_L_law_1848 xs xl (d + 60) v4 u5 u6 u7 M) := by
  obtain ⟨x1, x2, x3, x4, x5, x6, x7, x8⟩ := hx
  obtain ⟨hp, hl, hq, ht, hr, hs, hd, hz⟩ := h
  have hn := hr.1
  rw [D_L_law_1848_eq]
  (try simp only [if_neg x1, if_neg x2, if_neg x3, if_neg x4, if_neg x5, if_neg x6, if_neg x7, if_neg x8])
  obtain ⟨v, M1, M2, e1, e2, gPR, oo, cs⟩ := s_rule (xs := xs) (xl := xl) (d := d + 57) hp ((xs (Int32.toNatClampNeg (v4 + (1 : Int32))))) ((xs (Int32.toNatClampNeg (v4 + (2 : Int32))))) ((xs (Int32.toNatClampNeg (v4 + (3 : Int32)))))
  rw [e1, rb_bi, e2, rb_bi, if_pos rfl]
  exact ⟨_, _, _, M2, n, rfl, ⟨gPR.up (Nat.le_succ c) hc, RelL_off hl oo (by decide) (by decide), RelQ_off hq oo (by decide) (by decide), RelT_off ht oo (by decide) (by decide), RelR_off hr oo (by decide) (by decide), RelS_off hs oo (by decide) (by decide), RelD_off hd oo (by decide) (by decide), PlN_off hz oo (by decide)⟩, by have := cs.1; omega, by have := cs.2; omega⟩
theorem lw_1897 {n B T c : Nat} {v4 : Int32} {u5 u6 u7 : Option Value} (h : AR M n B T c) (hc : c + 1 < 1073741824) (hx : LIx xl v4) : LSt xs xl (d + 60) v4 B T c M (D_L_law_1897 xs xl (d + 60) v4 u5 u6 u7 M) := by
  obtain ⟨x1, x2, x3, x4, x5, x6, x7, x8⟩ := hx
  obtain ⟨hp, hl, hq, ht, hr, hs, hd, hz⟩ := h
  have hn := hr.1
  rw [D_L_law_1897_eq]
  (try simp only [if_neg x1, if_neg x2, if_neg x3, if_neg x4, if_neg x5, if_neg x6, if_neg x7, if_neg x8])
  obtain ⟨k, b, M1, M2, e1, e2, e3, e4, gPR, oo, cs⟩ := s_release (xs := xs) (xl := xl) (d := d + 53) hp hn ((xs (Int32.toNatClampNeg (v4 + (1 : Int32)))))
  rw [e1, rb_bi, e2, rb_bi, lw_thr, rb_bi, tl_i e3 e4]
  exact ⟨_, _, _, M2, n, rfl, ⟨gPR.up (Nat.le_succ c) hc, RelL_off hl oo (by decide) (by decide), RelQ_off hq oo (by decide) (by decide), RelT_off ht oo (by decide) (by decide), RelR_off hr oo (by decide) (by decide), RelS_off hs oo (by decide) (by decide), RelD_off hd oo (by decide) (by decide), PlN_off hz oo (by decide)⟩, by have := cs.1; omega, by have := cs.2; omega⟩
theorem lw_1953 {n B T c : Nat} {v4 : Int32} {u5 u6 u7 : Option Value} (h : AR M n B T c) (hc : c + 1 < 1073741824) (hx : LIx xl v4) : LSt xs xl (d + 60) v4 B T c M (D_L_law_1953 xs xl (d + 60) v4 u5 u6 u7 M) := by
  obtain ⟨x1, x2, x3, x4, x5, x6, x7, x8⟩ := hx
  obtain ⟨hp, hl, hq, ht, hr, hs, hd, hz⟩ := h
  have hn := hr.1
  rw [D_L_law_1953_eq]
  (try simp only [if_neg x1, if_neg x2, if_neg x3, if_neg x4, if_neg x5, if_neg x6, if_neg x7, if_neg x8])
  obtain ⟨k, b, M1, M2, e1, e2, e3, e4, gPR, oo, cs⟩ := s_bars (xs := xs) (xl := xl) (d := d + 53) hp hn ((xs (Int32.toNatClampNeg (v4 + (1 : Int32))))) ((xs (Int32.toNatClampNeg (v4 + (2 : Int32)))))
  rw [e1, rb_bi, e2, rb_bi, lw_thr, rb_bi, tl_i e3 e4]
  exact ⟨_, _, _, M2, n, rfl, ⟨gPR.up (Nat.le_succ c) hc, RelL_off hl oo (by decide) (by decide), RelQ_off hq oo (by decide) (by decide), RelT_off ht oo (by decide) (by decide), RelR_off hr oo (by decide) (by decide), RelS_off hs oo (by decide) (by decide), RelD_off hd oo (by decide) (by decide), PlN_off hz oo (by decide)⟩, by have := cs.1; omega, by have := cs.2; omega⟩
theorem lw_2021 {n B T c : Nat} {v4 : Int32} {u5 u6 u7 : Option Value} (h : AR M n B T c) (hc : c + 1 < 1073741824) (hx : LIx xl v4) : LSt xs xl (d + 60) v4 B T c M (D_L_law_2021 xs xl (d + 60) v4 u5 u6 u7 M) := by
  obtain ⟨x1, x2, x3, x4, x5, x6, x7, x8⟩ := hx
  obtain ⟨hp, hl, hq, ht, hr, hs, hd, hz⟩ := h
  have hn := hr.1
  rw [D_L_law_2021_eq]
  (try simp only [if_neg x1, if_neg x2, if_neg x3, if_neg x4, if_neg x5, if_neg x6, if_neg x7, if_neg x8])
  obtain ⟨k, b, M1, M2, e1, e2, e3, e4, gPR, oo, cs⟩ := s_part (xs := xs) (xl := xl) (d := d + 53) hp hc hn ((xs (Int32.toNatClampNeg (v4 + (1 : Int32))))) ((xs (Int32.toNatClampNeg (v4 + (2 : Int32)))))
  rw [e1, rb_bi, e2, rb_bi, lw_thr, rb_bi, tl_i e3 e4]
  exact ⟨_, _, _, M2, n, rfl, ⟨gPR, RelL_off hl oo (by decide) (by decide), RelQ_off hq oo (by decide) (by decide), RelT_off ht oo (by decide) (by decide), RelR_off hr oo (by decide) (by decide), RelS_off hs oo (by decide) (by decide), RelD_off hd oo (by decide) (by decide), PlN_off hz oo (by decide)⟩, by have := cs.1; omega, by have := cs.2; omega⟩
theorem lw_2089 {n B T c : Nat} {v4 : Int32} {u5 u6 u7 : Option Value} (h : AR M n B T c) (hc : c + 1 < 1073741824) (hx : LIx xl v4) : LSt xs xl (d + 60) v4 B T c M (D_L_law_2089 xs xl (d + 60) v4 u5 u6 u7 M) := by
  obtain ⟨x1, x2, x3, x4, x5, x6, x7, x8⟩ := hx
  obtain ⟨hp, hl, hq, ht, hr, hs, hd, hz⟩ := h
  have hn := hr.1
  rw [D_L_law_2089_eq]
  (try simp only [if_neg x1, if_neg x2, if_neg x3, if_neg x4, if_neg x5, if_neg x6, if_neg x7, if_neg x8])
  obtain ⟨k, b, M1, M2, e1, e2, e3, e4, gPR, oo, cs⟩ := s_withdraw (xs := xs) (xl := xl) (d := d + 55) hp hc hn ((xs (Int32.toNatClampNeg (v4 + (1 : Int32)))))
  rw [e1, rb_bi, e2, rb_bi, lw_thr, rb_bi, tl_i e3 e4]
  exact ⟨_, _, _, M2, n, rfl, ⟨gPR, RelL_off hl oo (by decide) (by decide), RelQ_off hq oo (by decide) (by decide), RelT_off ht oo (by decide) (by decide), RelR_off hr oo (by decide) (by decide), RelS_off hs oo (by decide) (by decide), RelD_off hd oo (by decide) (by decide), PlN_off hz oo (by decide)⟩, by have := cs.1; omega, by have := cs.2; omega⟩
theorem lw_2145 {n B T c : Nat} {v4 : Int32} {u5 u6 u7 : Option Value} (h : AR M n B T c) (hc : c + 1 < 1073741824) (hx : LIx xl v4) : LSt xs xl (d + 60) v4 B T c M (D_L_law_2145 xs xl (d + 60) v4 u5 u6 u7 M) := by
  obtain ⟨x1, x2, x3, x4, x5, x6, x7, x8⟩ := hx
  obtain ⟨hp, hl, hq, ht, hr, hs, hd, hz⟩ := h
  have hn := hr.1
  rw [D_L_law_2145_eq]
  (try simp only [if_neg x1, if_neg x2, if_neg x3, if_neg x4, if_neg x5, if_neg x6, if_neg x7, if_neg x8])
  obtain ⟨k, b, M1, M2, e1, e2, e3, e4, gPR, oo, cs⟩ := s_gate (xs := xs) (xl := xl) (d := d + 53) hp hc hn ((xs (Int32.toNatClampNeg (v4 + (1 : Int32)))))
  rw [e1, rb_bi, e2, rb_bi, lw_thr, rb_bi, tl_i e3 e4]
  exact ⟨_, _, _, M2, n, rfl, ⟨gPR, RelL_off hl oo (by decide) (by decide), RelQ_off hq oo (by decide) (by decide), RelT_off ht oo (by decide) (by decide), RelR_off hr oo (by decide) (by decide), RelS_off hs oo (by decide) (by decide), RelD_off hd oo (by decide) (by decide), PlN_off hz oo (by decide)⟩, by have := cs.1; omega, by have := cs.2; omega⟩
theorem lw_2201 {n B T c : Nat} {v4 : Int32} {u5 u6 u7 : Option Value} (h : AR M n B T c) (hc : c + 1 < 1073741824) (hx : LIx xl v4) : LSt xs xl (d + 60) v4 B T c M (D_L_law_2201 xs xl (d + 60) v4 u5 u6 u7 M) := by
  obtain ⟨x1, x2, x3, x4, x5, x6, x7, x8⟩ := hx
  obtain ⟨hp, hl, hq, ht, hr, hs, hd, hz⟩ := h
  have hn := hr.1
  rw [D_L_law_2201_eq]
  (try simp only [if_neg x1, if_neg x2, if_neg x3, if_neg x4, if_neg x5, if_neg x6, if_neg x7, if_neg x8])
  by_cases z : xs (Int32.toNatClampNeg (v4 + (3 : Int32))) = 0
  · simp only [if_pos z]
    obtain ⟨v, M1, M2, e1, e2, gPR, oo, cs⟩ := s_away (xs := xs) (xl := xl) (d := d + 56) hp ((xs (Int32.toNatClampNeg (v4 + (1 : Int32))))) ((xs (Int32.toNatClampNeg (v4 + (2 : Int32))))) ((0 : Int32))
    rw [e1, rb_bi, e2, rb_bi, if_pos rfl]
    exact ⟨_, _, _, M2, n, rfl, ⟨gPR.up (Nat.le_succ c) hc, RelL_off hl oo (by decide) (by decide), RelQ_off hq oo (by decide) (by decide), RelT_off ht oo (by decide) (by decide), RelR_off hr oo (by decide) (by decide), RelS_off hs oo (by decide) (by decide), RelD_off hd oo (by decide) (by decide), PlN_off hz oo (by decide)⟩, by have := cs.1; omega, by have := cs.2; omega⟩
  · simp only [if_neg z]
    obtain ⟨v, M1, M2, e1, e2, gPR, oo, cs⟩ := s_away (xs := xs) (xl := xl) (d := d + 56) hp ((xs (Int32.toNatClampNeg (v4 + (1 : Int32))))) ((xs (Int32.toNatClampNeg (v4 + (2 : Int32))))) ((1 : Int32))
    rw [e1, rb_bi, e2, rb_bi, if_pos rfl]
    exact ⟨_, _, _, M2, n, rfl, ⟨gPR.up (Nat.le_succ c) hc, RelL_off hl oo (by decide) (by decide), RelQ_off hq oo (by decide) (by decide), RelT_off ht oo (by decide) (by decide), RelR_off hr oo (by decide) (by decide), RelS_off hs oo (by decide) (by decide), RelD_off hd oo (by decide) (by decide), PlN_off hz oo (by decide)⟩, by have := cs.1; omega, by have := cs.2; omega⟩
theorem lw_2266 {n B T c : Nat} {v4 : Int32} {u5 u6 u7 : Option Value} (h : AR M n B T c) (hc : c + 1 < 1073741824) (hx : LIx xl v4) : LSt xs xl (d + 60) v4 B T c M (D_L_law_2266 xs xl (d + 60) v4 u5 u6 u7 M) := by
  obtain ⟨x1, x2, x3, x4, x5, x6, x7, x8⟩ := hx
  obtain ⟨hp, hl, hq, ht, hr, hs, hd, hz⟩ := h
  have hn := hr.1
  rw [D_L_law_2266_eq]
  (try simp only [if_neg x1, if_neg x2, if_neg x3, if_neg x4, if_neg x5, if_neg x6, if_neg x7, if_neg x8])
  obtain ⟨v, M1, M2, e1, e2, e3⟩ := s_notice (xs := xs) (xl := xl) (d := d + 58) hp.2.1 ((xs (Int32.toNatClampNeg (v4 + (1 : Int32)))))
  have oo : Off [] [0] M M2 := by rw [e3]; exact (Off.rr _ _ M).F 0 (by decide) _
  rw [e1, rb_bi, e2, rb_bi, if_pos rfl]
  exact ⟨_, _, _, M2, n, rfl, ⟨(PR_off hp oo (by decide) (by decide)).up (Nat.le_succ c) hc, RelL_off hl oo (by decide) (by decide), RelQ_off hq oo (by decide) (by decide), RelT_off ht oo (by decide) (by decide), RelR_off hr oo (by decide) (by decide), RelS_off hs oo (by decide) (by decide), RelD_off hd oo (by decide) (by decide), PlN_off hz oo (by decide)⟩, by rw [e3]; exact Nat.le_add_right _ _, by rw [e3]; exact Nat.le_add_right _ _⟩
theorem lw_2291 {n B T c : Nat} {v4 : Int32} {u5 u6 u7 : Option Value} (h : AR M n B T c) (hc : c + 1 < 1073741824) (hx : LIx xl v4) : LSt xs xl (d + 60) v4 B T c M (D_L_law_2291 xs xl (d + 60) v4 u5 u6 u7 M) := by
  obtain ⟨x1, x2, x3, x4, x5, x6, x7, x8⟩ := hx
  obtain ⟨hp, hl, hq, ht, hr, hs, hd, hz⟩ := h
  have hn := hr.1
  rw [D_L_law_2291_eq]
  (try simp only [if_neg x1, if_neg x2, if_neg x3, if_neg x4, if_neg x5, if_neg x6, if_neg x7, if_neg x8])
  obtain ⟨k, b, M1, M2, e1, e2, e3, e4, gPR, oo, cs⟩ := s_look (xs := xs) (xl := xl) (d := d + 55) hp hn ((xs (Int32.toNatClampNeg (v4 + (1 : Int32))))) ((xs (Int32.toNatClampNeg (v4 + (2 : Int32)))))
  rw [e1, rb_bi, e2, rb_bi, lw_thr, rb_bi, tl_i e3 e4]
  exact ⟨_, _, _, M2, n, rfl, ⟨gPR.up (Nat.le_succ c) hc, RelL_off hl oo (by decide) (by decide), RelQ_off hq oo (by decide) (by decide), RelT_off ht oo (by decide) (by decide), RelR_off hr oo (by decide) (by decide), RelS_off hs oo (by decide) (by decide), RelD_off hd oo (by decide) (by decide), PlN_off hz oo (by decide)⟩, by have := cs.1; omega, by have := cs.2; omega⟩
theorem lw_2359 {n B T c : Nat} {v4 : Int32} {u5 u6 u7 : Option Value} (h : AR M n B T c) (hc : c + 1 < 1073741824) (hx : LIx xl v4) : LSt xs xl (d + 60) v4 B T c M (D_L_law_2359 xs xl (d + 60) v4 u5 u6 u7 M) := by
  obtain ⟨x1, x2, x3, x4, x5, x6, x7, x8⟩ := hx
  obtain ⟨hp, hl, hq, ht, hr, hs, hd, hz⟩ := h
  have hn := hr.1
  rw [D_L_law_2359_eq]
  (try simp only [if_neg x1, if_neg x2, if_neg x3, if_neg x4, if_neg x5, if_neg x6, if_neg x7, if_neg x8])
  obtain ⟨v, M1, M2, e1, e2, gRelT, oo, cs⟩ := s_member (xs := xs) (xl := xl) (d := d + 56) ht ((xs (Int32.toNatClampNeg (v4 + (1 : Int32))))) ((xs (Int32.toNatClampNeg (v4 + (2 : Int32)))))
  rw [e1, rb_bi, e2, rb_bi, if_pos rfl]
  exact ⟨_, _, _, M2, n, rfl, ⟨(PR_off hp oo (by decide) (by decide)).up (Nat.le_succ c) hc, RelL_off hl oo (by decide) (by decide), RelQ_off hq oo (by decide) (by decide), gRelT, RelR_off hr oo (by decide) (by decide), RelS_off hs oo (by decide) (by decide), RelD_off hd oo (by decide) (by decide), PlN_off hz oo (by decide)⟩, by have := cs.1; omega, by have := cs.2; omega⟩
theorem lw_2396 {n B T c : Nat} {v4 : Int32} {u5 u6 u7 : Option Value} (h : AR M n B T c) (hc : c + 1 < 1073741824) (hx : LIx xl v4) : LSt xs xl (d + 60) v4 B T c M (D_L_law_2396 xs xl (d + 60) v4 u5 u6 u7 M) := by
  obtain ⟨x1, x2, x3, x4, x5, x6, x7, x8⟩ := hx
  obtain ⟨hp, hl, hq, ht, hr, hs, hd, hz⟩ := h
  have hn := hr.1
  rw [D_L_law_2396_eq]
  (try simp only [if_neg x1, if_neg x2, if_neg x3, if_neg x4, if_neg x5, if_neg x6, if_neg x7, if_neg x8])
  obtain ⟨k, b, M1, M2, e1, e2, e3, e4, gRelT, oo, cs⟩ := s_row (xs := xs) (xl := xl) (d := d + 55) ht hn ((xs (Int32.toNatClampNeg (v4 + (1 : Int32))))) ((xs (Int32.toNatClampNeg (v4 + (2 : Int32))))) ((xs (Int32.toNatClampNeg (v4 + (3 : Int32))))) ((xs (Int32.toNatClampNeg (v4 + (4 : Int32))))) ((xs (Int32.toNatClampNeg (v4 + (5 : Int32))))) ((xs (Int32.toNatClampNeg (v4 + (6 : Int32))))) ((xs (Int32.toNatClampNeg (v4 + (7 : Int32)))))
  rw [e1, rb_bi, e2, rb_bi, lw_thr, rb_bi, tl_i e3 e4]
  exact ⟨_, _, _, M2, n, rfl, ⟨(PR_off hp oo (by decide) (by decide)).up (Nat.le_succ c) hc, RelL_off hl oo (by decide) (by decide), RelQ_off hq oo (by decide) (by decide), gRelT, RelR_off hr oo (by decide) (by decide), RelS_off hs oo (by decide) (by decide), RelD_off hd oo (by decide) (by decide), PlN_off hz oo (by decide)⟩, by have := cs.1; omega, by have := cs.2; omega⟩
theorem lw_2528 {n B T c : Nat} {v4 : Int32} {u5 u6 u7 : Option Value} (h : AR M n B T c) (hc : c + 1 < 1073741824) (hx : LIx xl v4) : LSt xs xl (d + 60) v4 B T c M (D_L_law_2528 xs xl (d + 60) v4 u5 u6 u7 M) := by
  obtain ⟨x1, x2, x3, x4, x5, x6, x7, x8⟩ := hx
  obtain ⟨hp, hl, hq, ht, hr, hs, hd, hz⟩ := h
  have hn := hr.1
  rw [D_L_law_2528_eq]
  (try simp only [if_neg x1, if_neg x2, if_neg x3, if_neg x4, if_neg x5, if_neg x6, if_neg x7, if_neg x8])
  obtain ⟨v, M1, M2, e1, e2, gRelT, oo, cs⟩ := s_exclude (xs := xs) (xl := xl) (d := d + 56) ht ((xs (Int32.toNatClampNeg (v4 + (1 : Int32))))) ((xs (Int32.toNatClampNeg (v4 + (2 : Int32)))))
  rw [e1, rb_bi, e2, rb_bi, if_pos rfl]
  exact ⟨_, _, _, M2, n, rfl, ⟨(PR_off hp oo (by decide) (by decide)).up (Nat.le_succ c) hc, RelL_off hl oo (by decide) (by decide), RelQ_off hq oo (by decide) (by decide), gRelT, RelR_off hr oo (by decide) (by decide), RelS_off hs oo (by decide) (by decide), RelD_off hd oo (by decide) (by decide), PlN_off hz oo (by decide)⟩, by have := cs.1; omega, by have := cs.2; omega⟩
theorem lw_2565 {n B T c : Nat} {v4 : Int32} {u5 u6 u7 : Option Value} (h : AR M n B T c) (hc : c + 1 < 1073741824) (hx : LIx xl v4) : LSt xs xl (d + 60) v4 B T c M (D_L_law_2565 xs xl (d + 60) v4 u5 u6 u7 M) := by
  obtain ⟨x1, x2, x3, x4, x5, x6, x7, x8⟩ := hx
  obtain ⟨hp, hl, hq, ht, hr, hs, hd, hz⟩ := h
  have hn := hr.1
  rw [D_L_law_2565_eq]
  (try simp only [if_neg x1, if_neg x2, if_neg x3, if_neg x4, if_neg x5, if_neg x6, if_neg x7, if_neg x8])
  obtain ⟨v, M1, M2, e1, e2, gRelT, oo, cs⟩ := s_condition (xs := xs) (xl := xl) (d := d + 56) ht ((xs (Int32.toNatClampNeg (v4 + (1 : Int32))))) ((xs (Int32.toNatClampNeg (v4 + (2 : Int32)))))
  rw [e1, rb_bi, e2, rb_bi, if_pos rfl]
  exact ⟨_, _, _, M2, n, rfl, ⟨(PR_off hp oo (by decide) (by decide)).up (Nat.le_succ c) hc, RelL_off hl oo (by decide) (by decide), RelQ_off hq oo (by decide) (by decide), gRelT, RelR_off hr oo (by decide) (by decide), RelS_off hs oo (by decide) (by decide), RelD_off hd oo (by decide) (by decide), PlN_off hz oo (by decide)⟩, by have := cs.1; omega, by have := cs.2; omega⟩
theorem lw_2602 {n B T c : Nat} {v4 : Int32} {u5 u6 u7 : Option Value} (h : AR M n B T c) (hc : c + 1 < 1073741824) (hx : LIx xl v4) : LSt xs xl (d + 60) v4 B T c M (D_L_law_2602 xs xl (d + 60) v4 u5 u6 u7 M) := by
  obtain ⟨x1, x2, x3, x4, x5, x6, x7, x8⟩ := hx
  obtain ⟨hp, hl, hq, ht, hr, hs, hd, hz⟩ := h
  have hn := hr.1
  rw [D_L_law_2602_eq]
  (try simp only [if_neg x1, if_neg x2, if_neg x3, if_neg x4, if_neg x5, if_neg x6, if_neg x7, if_neg x8])
  obtain ⟨k, b, M1, M2, e1, e2, e3, e4, gRelT, oo, cs⟩ := s_end (xs := xs) (xl := xl) (d := d + 55) ht hn ((xs (Int32.toNatClampNeg (v4 + (1 : Int32))))) ((xs (Int32.toNatClampNeg (v4 + (2 : Int32))))) ((xs (Int32.toNatClampNeg (v4 + (3 : Int32)))))
  rw [e1, rb_bi, e2, rb_bi, lw_thr, rb_bi, tl_i e3 e4]
  exact ⟨_, _, _, M2, n, rfl, ⟨(PR_off hp oo (by decide) (by decide)).up (Nat.le_succ c) hc, RelL_off hl oo (by decide) (by decide), RelQ_off hq oo (by decide) (by decide), gRelT, RelR_off hr oo (by decide) (by decide), RelS_off hs oo (by decide) (by decide), RelD_off hd oo (by decide) (by decide), PlN_off hz oo (by decide)⟩, by have := cs.1; omega, by have := cs.2; omega⟩
theorem lw_2682 {n B T c : Nat} {v4 : Int32} {u5 u6 u7 : Option Value} (h : AR M n B T c) (hc : c + 1 < 1073741824) (hx : LIx xl v4) : LSt xs xl (d + 60) v4 B T c M (D_L_law_2682 xs xl (d + 60) v4 u5 u6 u7 M) := by
  obtain ⟨x1, x2, x3, x4, x5, x6, x7, x8⟩ := hx
  obtain ⟨hp, hl, hq, ht, hr, hs, hd, hz⟩ := h
  have hn := hr.1
  rw [D_L_law_2682_eq]
  (try simp only [if_neg x1, if_neg x2, if_neg x3, if_neg x4, if_neg x5, if_neg x6, if_neg x7, if_neg x8])
  obtain ⟨M1, M2, e1, e2, gRelT, oo, cs⟩ := s_papers (xs := xs) (xl := xl) (d := d + 59) ht ((xs (Int32.toNatClampNeg (v4 + (1 : Int32)))))
  rw [e1, rb_bv, e2, rb_bv]
  exact ⟨_, _, _, M2, n, rfl, ⟨(PR_off hp oo (by decide) (by decide)).up (Nat.le_succ c) hc, RelL_off hl oo (by decide) (by decide), RelQ_off hq oo (by decide) (by decide), gRelT, RelR_off hr oo (by decide) (by decide), RelS_off hs oo (by decide) (by decide), RelD_off hd oo (by decide) (by decide), PlN_off hz oo (by decide)⟩, by have := cs.1; omega, by have := cs.2; omega⟩
theorem lw_2705 {n B T c : Nat} {v4 : Int32} {u5 u6 u7 : Option Value} (h : AR M n B T c) (hc : c + 1 < 1073741824) (hx : LIx xl v4) : LSt xs xl (d + 60) v4 B T c M (D_L_law_2705 xs xl (d + 60) v4 u5 u6 u7 M) := by
  obtain ⟨x1, x2, x3, x4, x5, x6, x7, x8⟩ := hx
  obtain ⟨hp, hl, hq, ht, hr, hs, hd, hz⟩ := h
  have hn := hr.1
  rw [D_L_law_2705_eq]
  (try simp only [if_neg x1, if_neg x2, if_neg x3, if_neg x4, if_neg x5, if_neg x6, if_neg x7, if_neg x8])
  obtain ⟨k, b, M1, M2, e1, e2, e3, e4, gRelT, oo, cs⟩ := s_apply (xs := xs) (xl := xl) (d := d + 54) ht hn ((xs (Int32.toNatClampNeg (v4 + (1 : Int32))))) ((xs (Int32.toNatClampNeg (v4 + (2 : Int32))))) ((xs (Int32.toNatClampNeg (v4 + (3 : Int32))))) ((xs (Int32.toNatClampNeg (v4 + (4 : Int32)))))
  rw [e1, rb_bi, e2, rb_bi, lw_thr, rb_bi, tl_i e3 e4]
  exact ⟨_, _, _, M2, n, rfl, ⟨(PR_off hp oo (by decide) (by decide)).up (Nat.le_succ c) hc, RelL_off hl oo (by decide) (by decide), RelQ_off hq oo (by decide) (by decide), gRelT, RelR_off hr oo (by decide) (by decide), RelS_off hs oo (by decide) (by decide), RelD_off hd oo (by decide) (by decide), PlN_off hz oo (by decide)⟩, by have := cs.1; omega, by have := cs.2; omega⟩
theorem lw_2797 {n B T c : Nat} {v4 : Int32} {u5 u6 u7 : Option Value} (h : AR M n B T c) (hc : c + 1 < 1073741824) (hx : LIx xl v4) : LSt xs xl (d + 60) v4 B T c M (D_L_law_2797 xs xl (d + 60) v4 u5 u6 u7 M) := by
  obtain ⟨x1, x2, x3, x4, x5, x6, x7, x8⟩ := hx
  obtain ⟨hp, hl, hq, ht, hr, hs, hd, hz⟩ := h
  have hn := hr.1
  rw [D_L_law_2797_eq]
  (try simp only [if_neg x1, if_neg x2, if_neg x3, if_neg x4, if_neg x5, if_neg x6, if_neg x7, if_neg x8])
  obtain ⟨v, M1, M2, e1, e2, gRelT, oo, cs⟩ := s_listed (xs := xs) (xl := xl) (d := d + 58) ht ((xs (Int32.toNatClampNeg (v4 + (1 : Int32)))))
  rw [e1, rb_bi, e2, rb_bi, if_pos rfl]
  exact ⟨_, _, _, M2, n, rfl, ⟨(PR_off hp oo (by decide) (by decide)).up (Nat.le_succ c) hc, RelL_off hl oo (by decide) (by decide), RelQ_off hq oo (by decide) (by decide), gRelT, RelR_off hr oo (by decide) (by decide), RelS_off hs oo (by decide) (by decide), RelD_off hd oo (by decide) (by decide), PlN_off hz oo (by decide)⟩, by have := cs.1; omega, by have := cs.2; omega⟩
theorem lw_2822 {n B T c : Nat} {v4 : Int32} {u5 u6 u7 : Option Value} (h : AR M n B T c) (hc : c + 1 < 1073741824) (hx : LIx xl v4) : LSt xs xl (d + 60) v4 B T c M (D_L_law_2822 xs xl (d + 60) v4 u5 u6 u7 M) := by
  obtain ⟨x1, x2, x3, x4, x5, x6, x7, x8⟩ := hx
  obtain ⟨hp, hl, hq, ht, hr, hs, hd, hz⟩ := h
  have hn := hr.1
  rw [D_L_law_2822_eq]
  (try simp only [if_neg x1, if_neg x2, if_neg x3, if_neg x4, if_neg x5, if_neg x6, if_neg x7, if_neg x8])
  obtain ⟨v, M1, M2, e1, e2, gRelR, oo, cs⟩ := s_type (xs := xs) (xl := xl) (d := d + 57) hr ((((Int32.toInt64 (xs (Int32.toNatClampNeg (v4 + (1 : Int32))))) <<< (Int32.toInt64 (32 : Int32) &&& 63)) ||| ((Int32.toInt64 (xs (Int32.toNatClampNeg (v4 + (2 : Int32))))) &&& (4294967295 : Int64)))) ((xs (Int32.toNatClampNeg (v4 + (3 : Int32)))))
  rw [e1, rb_bi, e2, rb_bi, if_pos rfl]
  exact ⟨_, _, _, M2, n, rfl, ⟨(PR_off hp oo (by decide) (by decide)).up (Nat.le_succ c) hc, RelL_off hl oo (by decide) (by decide), RelQ_off hq oo (by decide) (by decide), RelT_off ht oo (by decide) (by decide), gRelR, RelS_off hs oo (by decide) (by decide), RelD_off hd oo (by decide) (by decide), PlN_off hz oo (by decide)⟩, by have := cs.1; omega, by have := cs.2; omega⟩
theorem lw_2891 {n B T c : Nat} {v4 : Int32} {u5 u6 u7 : Option Value} (h : AR M n B T c) (hc : c + 1 < 1073741824) (hx : LIx xl v4) : LSt xs xl (d + 60) v4 B T c M (D_L_law_2891 xs xl (d + 60) v4 u5 u6 u7 M) := by
  obtain ⟨x1, x2, x3, x4, x5, x6, x7, x8⟩ := hx
  obtain ⟨hp, hl, hq, ht, hr, hs, hd, hz⟩ := h
  have hn := hr.1
  rw [D_L_law_2891_eq]
  (try simp only [if_neg x1, if_neg x2, if_neg x3, if_neg x4, if_neg x5, if_neg x6, if_neg x7, if_neg x8])
  obtain ⟨k, b, M1, M2, e1, e2, e3, e4, gRelR, gRelT, oo, cs⟩ := s_rate (xs := xs) (xl := xl) (d := d + 14) hr ht ((xs (Int32.toNatClampNeg (v4 + (1 : Int32)))))
  rw [e1, rb_bi, e2, rb_bi, lw_thr, rb_bi, tl_i e3 e4]
  exact ⟨_, _, _, M2, n, rfl, ⟨(PR_off hp oo (by decide) (by decide)).up (Nat.le_succ c) hc, RelL_off hl oo (by decide) (by decide), RelQ_off hq oo (by decide) (by decide), gRelT, gRelR, RelS_off hs oo (by decide) (by decide), RelD_off hd oo (by decide) (by decide), PlN_off hz oo (by decide)⟩, by have := cs.1; omega, by have := cs.2; omega⟩
theorem lw_2947 {n B T c : Nat} {v4 : Int32} {u5 u6 u7 : Option Value} (h : AR M n B T c) (hc : c + 1 < 1073741824) (hx : LIx xl v4) : LSt xs xl (d + 60) v4 B T c M (D_L_law_2947 xs xl (d + 60) v4 u5 u6 u7 M) := by
  obtain ⟨x1, x2, x3, x4, x5, x6, x7, x8⟩ := hx
  obtain ⟨hp, hl, hq, ht, hr, hs, hd, hz⟩ := h
  have hn := hr.1
  rw [D_L_law_2947_eq]
  (try simp only [if_neg x1, if_neg x2, if_neg x3, if_neg x4, if_neg x5, if_neg x6, if_neg x7, if_neg x8])
  obtain ⟨k, b, M1, M2, e1, e2, e3, e4, gRelR, gRelT, oo, cs⟩ := s_node (xs := xs) (xl := xl) (d := d + 49) hr ht ((xs (Int32.toNatClampNeg (v4 + (1 : Int32))))) ((xs (Int32.toNatClampNeg (v4 + (2 : Int32))))) ((xs (Int32.toNatClampNeg (v4 + (3 : Int32)))))
  rw [e1, rb_bi, e2, rb_bi, lw_thr, rb_bi, tl_i e3 e4]
  exact ⟨_, _, _, M2, n, rfl, ⟨(PR_off hp oo (by decide) (by decide)).up (Nat.le_succ c) hc, RelL_off hl oo (by decide) (by decide), RelQ_off hq oo (by decide) (by decide), gRelT, gRelR, RelS_off hs oo (by decide) (by decide), RelD_off hd oo (by decide) (by decide), PlN_off hz oo (by decide)⟩, by have := cs.1; omega, by have := cs.2; omega⟩
theorem lw_3027 {n B T c : Nat} {v4 : Int32} {u5 u6 u7 : Option Value} (h : AR M n B T c) (hc : c + 1 < 1073741824) (hx : LIx xl v4) : LSt xs xl (d + 60) v4 B T c M (D_L_law_3027 xs xl (d + 60) v4 u5 u6 u7 M) := by
  obtain ⟨x1, x2, x3, x4, x5, x6, x7, x8⟩ := hx
  obtain ⟨hp, hl, hq, ht, hr, hs, hd, hz⟩ := h
  have hn := hr.1
  rw [D_L_law_3027_eq]
  (try simp only [if_neg x1, if_neg x2, if_neg x3, if_neg x4, if_neg x5, if_neg x6, if_neg x7, if_neg x8])
  obtain ⟨k, b, M1, M2, e1, e2, e3, e4, gRelR, gRelT, oo, cs⟩ := s_print (xs := xs) (xl := xl) (d := d + 49) hr ht ((xs (Int32.toNatClampNeg (v4 + (1 : Int32)))))
  rw [e1, rb_bi, e2, rb_bi, lw_thr, rb_bi, tl_i e3 e4]
  exact ⟨_, _, _, M2, n, rfl, ⟨(PR_off hp oo (by decide) (by decide)).up (Nat.le_succ c) hc, RelL_off hl oo (by decide) (by decide), RelQ_off hq oo (by decide) (by decide), gRelT, gRelR, RelS_off hs oo (by decide) (by decide), RelD_off hd oo (by decide) (by decide), PlN_off hz oo (by decide)⟩, by have := cs.1; omega, by have := cs.2; omega⟩
theorem lw_3083 {n B T c : Nat} {v4 : Int32} {u5 u6 u7 : Option Value} (h : AR M n B T c) (hc : c + 1 < 1073741824) (hx : LIx xl v4) : LSt xs xl (d + 60) v4 B T c M (D_L_law_3083 xs xl (d + 60) v4 u5 u6 u7 M) := by
  obtain ⟨x1, x2, x3, x4, x5, x6, x7, x8⟩ := hx
  obtain ⟨hp, hl, hq, ht, hr, hs, hd, hz⟩ := h
  have hn := hr.1
  rw [D_L_law_3083_eq]
  (try simp only [if_neg x1, if_neg x2, if_neg x3, if_neg x4, if_neg x5, if_neg x6, if_neg x7, if_neg x8])
  obtain ⟨k, b, M1, M2, e1, e2, e3, e4, gRelR, oo, cs⟩ := s_printed (xs := xs) (xl := xl) (d := d + 57) hr ((xs (Int32.toNatClampNeg (v4 + (1 : Int32)))))
  rw [e1, rb_bi, e2, rb_bi, lw_thr, rb_bi, tl_i e3 e4]
  exact ⟨_, _, _, M2, n, rfl, ⟨(PR_off hp oo (by decide) (by decide)).up (Nat.le_succ c) hc, RelL_off hl oo (by decide) (by decide), RelQ_off hq oo (by decide) (by decide), RelT_off ht oo (by decide) (by decide), gRelR, RelS_off hs oo (by decide) (by decide), RelD_off hd oo (by decide) (by decide), PlN_off hz oo (by decide)⟩, by have := cs.1; omega, by have := cs.2; omega⟩
end Lw1
