-- needs: 71 72 73 74 75 76 77 78 79 80 81
/-! THE LAW: a row for each call (printed by prog/law2.py) -/
section Lw2
variable {xs : Nat → Int32} {xl d : Nat} {M : dp_M}
theorem lw_3139 {n B T c : Nat} {v4 : Int32} {u5 u6 u7 : Option Value} (h : AR M n B T c) (hc : c + 1 < 1073741824) (hx : LIx xl v4) : LSt xs xl (d + 60) v4 B T c M (D_L_law_3139 xs xl (d + 60) v4 u5 u6 u7 M) := by
  obtain ⟨x1, x2, x3, x4, x5, x6, x7, x8⟩ := hx
  obtain ⟨hp, hl, hq, ht, hr, hs, hd, hz⟩ := h
  have hn := hr.1
  rw [D_L_law_3139_eq]
  (try simp only [if_neg x1, if_neg x2, if_neg x3, if_neg x4, if_neg x5, if_neg x6, if_neg x7, if_neg x8])
  obtain ⟨k, b, M1, M2, e1, e2, e3, e4, gRelR, gRelT, oo, cs⟩ := s_worth (xs := xs) (xl := xl) (d := d + 48) hr ht ((xs (Int32.toNatClampNeg (v4 + (1 : Int32))))) ((((Int32.toInt64 (xs (Int32.toNatClampNeg (v4 + (2 : Int32))))) <<< (Int32.toInt64 (32 : Int32) &&& 63)) ||| ((Int32.toInt64 (xs (Int32.toNatClampNeg (v4 + (3 : Int32))))) &&& (4294967295 : Int64)))) ((xs (Int32.toNatClampNeg (v4 + (4 : Int32))))) ((((Int32.toInt64 (xs (Int32.toNatClampNeg (v4 + (5 : Int32))))) <<< (Int32.toInt64 (32 : Int32) &&& 63)) ||| ((Int32.toInt64 (xs (Int32.toNatClampNeg (v4 + (6 : Int32))))) &&& (4294967295 : Int64))))
  rw [e1, rb_bi, e2, rb_bl, lw_thr, rb_bi, tl_i e3 e4]
  exact ⟨_, _, _, M2, n, rfl, ⟨(PR_off hp oo (by decide) (by decide)).up (Nat.le_succ c) hc, RelL_off hl oo (by decide) (by decide), RelQ_off hq oo (by decide) (by decide), gRelT, gRelR, RelS_off hs oo (by decide) (by decide), RelD_off hd oo (by decide) (by decide), PlN_off hz oo (by decide)⟩, by have := cs.1; omega, by have := cs.2; omega⟩
theorem lw_3296 {n B T c : Nat} {v4 : Int32} {u5 u6 u7 : Option Value} (h : AR M n B T c) (hc : c + 1 < 1073741824) (hx : LIx xl v4) : LSt xs xl (d + 60) v4 B T c M (D_L_law_3296 xs xl (d + 60) v4 u5 u6 u7 M) := by
  obtain ⟨x1, x2, x3, x4, x5, x6, x7, x8⟩ := hx
  obtain ⟨hp, hl, hq, ht, hr, hs, hd, hz⟩ := h
  have hn := hr.1
  rw [D_L_law_3296_eq]
  (try simp only [if_neg x1, if_neg x2, if_neg x3, if_neg x4, if_neg x5, if_neg x6, if_neg x7, if_neg x8])
  obtain ⟨k, b, M1, M2, e1, e2, e3, e4, gRelQ, oo, cs⟩ := s_order (xs := xs) (xl := xl) (d := d + 55) hq hn ((((Int32.toInt64 (xs (Int32.toNatClampNeg (v4 + (1 : Int32))))) <<< (Int32.toInt64 (32 : Int32) &&& 63)) ||| ((Int32.toInt64 (xs (Int32.toNatClampNeg (v4 + (2 : Int32))))) &&& (4294967295 : Int64)))) ((xs (Int32.toNatClampNeg (v4 + (3 : Int32))))) ((xs (Int32.toNatClampNeg (v4 + (4 : Int32)))))
  rw [e1, rb_bi, e2, rb_bi, lw_thr, rb_bi, tl_i e3 e4]
  exact ⟨_, _, _, M2, n, rfl, ⟨(PR_off hp oo (by decide) (by decide)).up (Nat.le_succ c) hc, RelL_off hl oo (by decide) (by decide), gRelQ, RelT_off ht oo (by decide) (by decide), RelR_off hr oo (by decide) (by decide), RelS_off hs oo (by decide) (by decide), RelD_off hd oo (by decide) (by decide), PlN_off hz oo (by decide)⟩, by have := cs.1; omega, by have := cs.2; omega⟩
theorem lw_3408 {n B T c : Nat} {v4 : Int32} {u5 u6 u7 : Option Value} (h : AR M n B T c) (hc : c + 1 < 1073741824) (hx : LIx xl v4) : LSt xs xl (d + 60) v4 B T c M (D_L_law_3408 xs xl (d + 60) v4 u5 u6 u7 M) := by
  obtain ⟨x1, x2, x3, x4, x5, x6, x7, x8⟩ := hx
  obtain ⟨hp, hl, hq, ht, hr, hs, hd, hz⟩ := h
  have hn := hr.1
  rw [D_L_law_3408_eq]
  (try simp only [if_neg x1, if_neg x2, if_neg x3, if_neg x4, if_neg x5, if_neg x6, if_neg x7, if_neg x8])
  obtain ⟨k, b, M1, M2, e1, e2, e3, e4, gRelQ, oo, cs⟩ := s_run (xs := xs) (xl := xl) (d := d + 54) hq hn ((xs (Int32.toNatClampNeg (v4 + (1 : Int32))))) ((xs (Int32.toNatClampNeg (v4 + (2 : Int32)))))
  rw [e1, rb_bi, e2, rb_bi, lw_thr, rb_bi, tl_i e3 e4]
  exact ⟨_, _, _, M2, n, rfl, ⟨(PR_off hp oo (by decide) (by decide)).up (Nat.le_succ c) hc, RelL_off hl oo (by decide) (by decide), gRelQ, RelT_off ht oo (by decide) (by decide), RelR_off hr oo (by decide) (by decide), RelS_off hs oo (by decide) (by decide), RelD_off hd oo (by decide) (by decide), PlN_off hz oo (by decide)⟩, by have := cs.1; omega, by have := cs.2; omega⟩
theorem lw_3476 {n B T c : Nat} {v4 : Int32} {u5 u6 u7 : Option Value} (h : AR M n B T c) (hc : c + 1 < 1073741824) (hx : LIx xl v4) : LSt xs xl (d + 60) v4 B T c M (D_L_law_3476 xs xl (d + 60) v4 u5 u6 u7 M) := by
  obtain ⟨x1, x2, x3, x4, x5, x6, x7, x8⟩ := hx
  obtain ⟨hp, hl, hq, ht, hr, hs, hd, hz⟩ := h
  have hn := hr.1
  rw [D_L_law_3476_eq]
  (try simp only [if_neg x1, if_neg x2, if_neg x3, if_neg x4, if_neg x5, if_neg x6, if_neg x7, if_neg x8])
  by_cases z : xs (Int32.toNatClampNeg (v4 + (3 : Int32))) = 0
  · simp only [if_pos z]
    obtain ⟨k, b, M1, M2, e1, e2, e3, e4, gRelQ, oo, cs⟩ := s_block (xs := xs) (xl := xl) (d := d + 54) hq hn ((xs (Int32.toNatClampNeg (v4 + (1 : Int32))))) ((xs (Int32.toNatClampNeg (v4 + (2 : Int32))))) ((0 : Int32)) (Or.inl rfl)
    rw [e1, rb_bi, e2, rb_bi, lw_thr, rb_bi, tl_b e3 e4]
    exact ⟨_, _, _, M2, n, rfl, ⟨(PR_off hp oo (by decide) (by decide)).up (Nat.le_succ c) hc, RelL_off hl oo (by decide) (by decide), gRelQ, RelT_off ht oo (by decide) (by decide), RelR_off hr oo (by decide) (by decide), RelS_off hs oo (by decide) (by decide), RelD_off hd oo (by decide) (by decide), PlN_off hz oo (by decide)⟩, by have := cs.1; omega, by have := cs.2; omega⟩
  · simp only [if_neg z]
    obtain ⟨k, b, M1, M2, e1, e2, e3, e4, gRelQ, oo, cs⟩ := s_block (xs := xs) (xl := xl) (d := d + 54) hq hn ((xs (Int32.toNatClampNeg (v4 + (1 : Int32))))) ((xs (Int32.toNatClampNeg (v4 + (2 : Int32))))) ((1 : Int32)) (Or.inr rfl)
    rw [e1, rb_bi, e2, rb_bi, lw_thr, rb_bi, tl_b e3 e4]
    exact ⟨_, _, _, M2, n, rfl, ⟨(PR_off hp oo (by decide) (by decide)).up (Nat.le_succ c) hc, RelL_off hl oo (by decide) (by decide), gRelQ, RelT_off ht oo (by decide) (by decide), RelR_off hr oo (by decide) (by decide), RelS_off hs oo (by decide) (by decide), RelD_off hd oo (by decide) (by decide), PlN_off hz oo (by decide)⟩, by have := cs.1; omega, by have := cs.2; omega⟩
theorem lw_3579 {n B T c : Nat} {v4 : Int32} {u5 u6 u7 : Option Value} (h : AR M n B T c) (hc : c + 1 < 1073741824) (hx : LIx xl v4) : LSt xs xl (d + 60) v4 B T c M (D_L_law_3579 xs xl (d + 60) v4 u5 u6 u7 M) := by
  obtain ⟨x1, x2, x3, x4, x5, x6, x7, x8⟩ := hx
  obtain ⟨hp, hl, hq, ht, hr, hs, hd, hz⟩ := h
  have hn := hr.1
  rw [D_L_law_3579_eq]
  (try simp only [if_neg x1, if_neg x2, if_neg x3, if_neg x4, if_neg x5, if_neg x6, if_neg x7, if_neg x8])
  obtain ⟨k, b, M1, M2, e1, e2, e3, e4, gRelQ, oo, cs⟩ := s_transfer (xs := xs) (xl := xl) (d := d + 55) hq hn ((xs (Int32.toNatClampNeg (v4 + (1 : Int32))))) ((xs (Int32.toNatClampNeg (v4 + (2 : Int32))))) ((((Int32.toInt64 (xs (Int32.toNatClampNeg (v4 + (3 : Int32))))) <<< (Int32.toInt64 (32 : Int32) &&& 63)) ||| ((Int32.toInt64 (xs (Int32.toNatClampNeg (v4 + (4 : Int32))))) &&& (4294967295 : Int64))))
  rw [e1, rb_bi, e2, rb_bi, lw_thr, rb_bi, tl_b e3 e4]
  exact ⟨_, _, _, M2, n, rfl, ⟨(PR_off hp oo (by decide) (by decide)).up (Nat.le_succ c) hc, RelL_off hl oo (by decide) (by decide), gRelQ, RelT_off ht oo (by decide) (by decide), RelR_off hr oo (by decide) (by decide), RelS_off hs oo (by decide) (by decide), RelD_off hd oo (by decide) (by decide), PlN_off hz oo (by decide)⟩, by have := cs.1; omega, by have := cs.2; omega⟩
theorem lw_3698 {n B T c : Nat} {v4 : Int32} {u5 u6 u7 : Option Value} (h : AR M n B T c) (hc : c + 1 < 1073741824) (hx : LIx xl v4) : LSt xs xl (d + 60) v4 B T c M (D_L_law_3698 xs xl (d + 60) v4 u5 u6 u7 M) := by
  obtain ⟨x1, x2, x3, x4, x5, x6, x7, x8⟩ := hx
  obtain ⟨hp, hl, hq, ht, hr, hs, hd, hz⟩ := h
  have hn := hr.1
  rw [D_L_law_3698_eq]
  (try simp only [if_neg x1, if_neg x2, if_neg x3, if_neg x4, if_neg x5, if_neg x6, if_neg x7, if_neg x8])
  obtain ⟨k, b, M1, M2, e1, e2, e3, e4, gRelQ, oo, cs⟩ := s_balance (xs := xs) (xl := xl) (d := d + 55) hq hn ((xs (Int32.toNatClampNeg (v4 + (1 : Int32))))) ((xs (Int32.toNatClampNeg (v4 + (2 : Int32)))))
  rw [e1, rb_bi, e2, rb_bl, lw_thr, rb_bi, tl_i e3 e4]
  exact ⟨_, _, _, M2, n, rfl, ⟨(PR_off hp oo (by decide) (by decide)).up (Nat.le_succ c) hc, RelL_off hl oo (by decide) (by decide), gRelQ, RelT_off ht oo (by decide) (by decide), RelR_off hr oo (by decide) (by decide), RelS_off hs oo (by decide) (by decide), RelD_off hd oo (by decide) (by decide), PlN_off hz oo (by decide)⟩, by have := cs.1; omega, by have := cs.2; omega⟩
theorem lw_3765 {n B T c : Nat} {v4 : Int32} {u5 u6 u7 : Option Value} (h : AR M n B T c) (hc : c + 1 < 1073741824) (hx : LIx xl v4) : LSt xs xl (d + 60) v4 B T c M (D_L_law_3765 xs xl (d + 60) v4 u5 u6 u7 M) := by
  obtain ⟨x1, x2, x3, x4, x5, x6, x7, x8⟩ := hx
  obtain ⟨hp, hl, hq, ht, hr, hs, hd, hz⟩ := h
  have hn := hr.1
  rw [D_L_law_3765_eq]
  (try simp only [if_neg x1, if_neg x2, if_neg x3, if_neg x4, if_neg x5, if_neg x6, if_neg x7, if_neg x8])
  obtain ⟨k, b, M1, M2, e1, e2, e3, e4, gRelQ, oo, cs⟩ := s_quota (xs := xs) (xl := xl) (d := d + 55) hq hn ((xs (Int32.toNatClampNeg (v4 + (1 : Int32))))) ((xs (Int32.toNatClampNeg (v4 + (2 : Int32)))))
  rw [e1, rb_bi, e2, rb_bl, lw_thr, rb_bi, tl_i e3 e4]
  exact ⟨_, _, _, M2, n, rfl, ⟨(PR_off hp oo (by decide) (by decide)).up (Nat.le_succ c) hc, RelL_off hl oo (by decide) (by decide), gRelQ, RelT_off ht oo (by decide) (by decide), RelR_off hr oo (by decide) (by decide), RelS_off hs oo (by decide) (by decide), RelD_off hd oo (by decide) (by decide), PlN_off hz oo (by decide)⟩, by have := cs.1; omega, by have := cs.2; omega⟩
theorem lw_3832 {n B T c : Nat} {v4 : Int32} {u5 u6 u7 : Option Value} (h : AR M n B T c) (hc : c + 1 < 1073741824) (hx : LIx xl v4) : LSt xs xl (d + 60) v4 B T c M (D_L_law_3832 xs xl (d + 60) v4 u5 u6 u7 M) := by
  obtain ⟨x1, x2, x3, x4, x5, x6, x7, x8⟩ := hx
  obtain ⟨hp, hl, hq, ht, hr, hs, hd, hz⟩ := h
  have hn := hr.1
  rw [D_L_law_3832_eq]
  (try simp only [if_neg x1, if_neg x2, if_neg x3, if_neg x4, if_neg x5, if_neg x6, if_neg x7, if_neg x8])
  by_cases z : xs (Int32.toNatClampNeg (v4 + (6 : Int32))) = 0
  · simp only [if_pos z]
    obtain ⟨k, b, M1, M2, e1, e2, e3, e4, gRelS, oo, cs⟩ := s_guarantee (xs := xs) (xl := xl) (d := d + 55) hs hn ((xs (Int32.toNatClampNeg (v4 + (1 : Int32))))) ((((Int32.toInt64 (xs (Int32.toNatClampNeg (v4 + (2 : Int32))))) <<< (Int32.toInt64 (32 : Int32) &&& 63)) ||| ((Int32.toInt64 (xs (Int32.toNatClampNeg (v4 + (3 : Int32))))) &&& (4294967295 : Int64)))) ((xs (Int32.toNatClampNeg (v4 + (4 : Int32))))) ((xs (Int32.toNatClampNeg (v4 + (5 : Int32))))) ((0 : Int32)) ((xs (Int32.toNatClampNeg (v4 + (7 : Int32))))) (Or.inl rfl)
    rw [e1, rb_bi, e2, rb_bi, lw_thr, rb_bi, tl_i e3 e4]
    exact ⟨_, _, _, M2, n, rfl, ⟨(PR_off hp oo (by decide) (by decide)).up (Nat.le_succ c) hc, RelL_off hl oo (by decide) (by decide), RelQ_off hq oo (by decide) (by decide), RelT_off ht oo (by decide) (by decide), RelR_off hr oo (by decide) (by decide), gRelS, RelD_off hd oo (by decide) (by decide), PlN_off hz oo (by decide)⟩, by have := cs.1; omega, by have := cs.2; omega⟩
  · simp only [if_neg z]
    obtain ⟨k, b, M1, M2, e1, e2, e3, e4, gRelS, oo, cs⟩ := s_guarantee (xs := xs) (xl := xl) (d := d + 55) hs hn ((xs (Int32.toNatClampNeg (v4 + (1 : Int32))))) ((((Int32.toInt64 (xs (Int32.toNatClampNeg (v4 + (2 : Int32))))) <<< (Int32.toInt64 (32 : Int32) &&& 63)) ||| ((Int32.toInt64 (xs (Int32.toNatClampNeg (v4 + (3 : Int32))))) &&& (4294967295 : Int64)))) ((xs (Int32.toNatClampNeg (v4 + (4 : Int32))))) ((xs (Int32.toNatClampNeg (v4 + (5 : Int32))))) ((1 : Int32)) ((xs (Int32.toNatClampNeg (v4 + (7 : Int32))))) (Or.inr rfl)
    rw [e1, rb_bi, e2, rb_bi, lw_thr, rb_bi, tl_i e3 e4]
    exact ⟨_, _, _, M2, n, rfl, ⟨(PR_off hp oo (by decide) (by decide)).up (Nat.le_succ c) hc, RelL_off hl oo (by decide) (by decide), RelQ_off hq oo (by decide) (by decide), RelT_off ht oo (by decide) (by decide), RelR_off hr oo (by decide) (by decide), gRelS, RelD_off hd oo (by decide) (by decide), PlN_off hz oo (by decide)⟩, by have := cs.1; omega, by have := cs.2; omega⟩
theorem lw_4000 {n B T c : Nat} {v4 : Int32} {u5 u6 u7 : Option Value} (h : AR M n B T c) (hc : c + 1 < 1073741824) (hx : LIx xl v4) : LSt xs xl (d + 60) v4 B T c M (D_L_law_4000 xs xl (d + 60) v4 u5 u6 u7 M) := by
  obtain ⟨x1, x2, x3, x4, x5, x6, x7, x8⟩ := hx
  obtain ⟨hp, hl, hq, ht, hr, hs, hd, hz⟩ := h
  have hn := hr.1
  rw [D_L_law_4000_eq]
  (try simp only [if_neg x1, if_neg x2, if_neg x3, if_neg x4, if_neg x5, if_neg x6, if_neg x7, if_neg x8])
  obtain ⟨v, M1, M2, e1, e2, gRelS, oo, cs⟩ := s_first (xs := xs) (xl := xl) (d := d + 56) hs ((xs (Int32.toNatClampNeg (v4 + (1 : Int32)))))
  rw [e1, rb_bi, e2, rb_bi, if_pos rfl]
  exact ⟨_, _, _, M2, n, rfl, ⟨(PR_off hp oo (by decide) (by decide)).up (Nat.le_succ c) hc, RelL_off hl oo (by decide) (by decide), RelQ_off hq oo (by decide) (by decide), RelT_off ht oo (by decide) (by decide), RelR_off hr oo (by decide) (by decide), gRelS, RelD_off hd oo (by decide) (by decide), PlN_off hz oo (by decide)⟩, by have := cs.1; omega, by have := cs.2; omega⟩
theorem lw_4025 {n B T c : Nat} {v4 : Int32} {u5 u6 u7 : Option Value} (h : AR M n B T c) (hc : c + 1 < 1073741824) (hx : LIx xl v4) : LSt xs xl (d + 60) v4 B T c M (D_L_law_4025 xs xl (d + 60) v4 u5 u6 u7 M) := by
  obtain ⟨x1, x2, x3, x4, x5, x6, x7, x8⟩ := hx
  obtain ⟨hp, hl, hq, ht, hr, hs, hd, hz⟩ := h
  have hn := hr.1
  rw [D_L_law_4025_eq]
  (try simp only [if_neg x1, if_neg x2, if_neg x3, if_neg x4, if_neg x5, if_neg x6, if_neg x7, if_neg x8])
  obtain ⟨v, M1, M2, e1, e2, gRelS, oo, cs⟩ := s_shut (xs := xs) (xl := xl) (d := d + 56) hs ((xs (Int32.toNatClampNeg (v4 + (1 : Int32)))))
  rw [e1, rb_bi, e2, rb_bi, if_pos rfl]
  exact ⟨_, _, _, M2, n, rfl, ⟨(PR_off hp oo (by decide) (by decide)).up (Nat.le_succ c) hc, RelL_off hl oo (by decide) (by decide), RelQ_off hq oo (by decide) (by decide), RelT_off ht oo (by decide) (by decide), RelR_off hr oo (by decide) (by decide), gRelS, RelD_off hd oo (by decide) (by decide), PlN_off hz oo (by decide)⟩, by have := cs.1; omega, by have := cs.2; omega⟩
theorem lw_4050 {n B T c : Nat} {v4 : Int32} {u5 u6 u7 : Option Value} (h : AR M n B T c) (hc : c + 1 < 1073741824) (hx : LIx xl v4) : LSt xs xl (d + 60) v4 B T c M (D_L_law_4050 xs xl (d + 60) v4 u5 u6 u7 M) := by
  obtain ⟨x1, x2, x3, x4, x5, x6, x7, x8⟩ := hx
  obtain ⟨hp, hl, hq, ht, hr, hs, hd, hz⟩ := h
  have hn := hr.1
  rw [D_L_law_4050_eq]
  (try simp only [if_neg x1, if_neg x2, if_neg x3, if_neg x4, if_neg x5, if_neg x6, if_neg x7, if_neg x8])
  by_cases z : xs (Int32.toNatClampNeg (v4 + (2 : Int32))) = 0
  · simp only [if_pos z]
    obtain ⟨v, M1, M2, e1, e2, gRelS, oo, cs⟩ := s_fails (xs := xs) (xl := xl) (d := d + 57) hs ((xs (Int32.toNatClampNeg (v4 + (1 : Int32))))) ((0 : Int32)) (Or.inl rfl)
    rw [e1, rb_bi, e2, rb_bi, if_pos rfl]
    exact ⟨_, _, _, M2, n, rfl, ⟨(PR_off hp oo (by decide) (by decide)).up (Nat.le_succ c) hc, RelL_off hl oo (by decide) (by decide), RelQ_off hq oo (by decide) (by decide), RelT_off ht oo (by decide) (by decide), RelR_off hr oo (by decide) (by decide), gRelS, RelD_off hd oo (by decide) (by decide), PlN_off hz oo (by decide)⟩, by have := cs.1; omega, by have := cs.2; omega⟩
  · simp only [if_neg z]
    obtain ⟨v, M1, M2, e1, e2, gRelS, oo, cs⟩ := s_fails (xs := xs) (xl := xl) (d := d + 57) hs ((xs (Int32.toNatClampNeg (v4 + (1 : Int32))))) ((1 : Int32)) (Or.inr rfl)
    rw [e1, rb_bi, e2, rb_bi, if_pos rfl]
    exact ⟨_, _, _, M2, n, rfl, ⟨(PR_off hp oo (by decide) (by decide)).up (Nat.le_succ c) hc, RelL_off hl oo (by decide) (by decide), RelQ_off hq oo (by decide) (by decide), RelT_off ht oo (by decide) (by decide), RelR_off hr oo (by decide) (by decide), gRelS, RelD_off hd oo (by decide) (by decide), PlN_off hz oo (by decide)⟩, by have := cs.1; omega, by have := cs.2; omega⟩
theorem lw_4103 {n B T c : Nat} {v4 : Int32} {u5 u6 u7 : Option Value} (h : AR M n B T c) (hc : c + 1 < 1073741824) (hx : LIx xl v4) : LSt xs xl (d + 60) v4 B T c M (D_L_law_4103 xs xl (d + 60) v4 u5 u6 u7 M) := by
  obtain ⟨x1, x2, x3, x4, x5, x6, x7, x8⟩ := hx
  obtain ⟨hp, hl, hq, ht, hr, hs, hd, hz⟩ := h
  have hn := hr.1
  rw [D_L_law_4103_eq]
  (try simp only [if_neg x1, if_neg x2, if_neg x3, if_neg x4, if_neg x5, if_neg x6, if_neg x7, if_neg x8])
  obtain ⟨v, M1, M2, e1, e2, gRelS, oo, cs⟩ := s_tick (xs := xs) (xl := xl) (d := d + 58) hs ((xs (Int32.toNatClampNeg (v4 + (1 : Int32)))))
  rw [e1, rb_bi, e2, rb_bi, if_pos rfl]
  exact ⟨_, _, _, M2, n, rfl, ⟨(PR_off hp oo (by decide) (by decide)).up (Nat.le_succ c) hc, RelL_off hl oo (by decide) (by decide), RelQ_off hq oo (by decide) (by decide), RelT_off ht oo (by decide) (by decide), RelR_off hr oo (by decide) (by decide), gRelS, RelD_off hd oo (by decide) (by decide), PlN_off hz oo (by decide)⟩, by have := cs.1; omega, by have := cs.2; omega⟩
theorem lw_4128 {n B T c : Nat} {v4 : Int32} {u5 u6 u7 : Option Value} (h : AR M n B T c) (hc : c + 1 < 1073741824) (hx : LIx xl v4) : LSt xs xl (d + 60) v4 B T c M (D_L_law_4128 xs xl (d + 60) v4 u5 u6 u7 M) := by
  obtain ⟨x1, x2, x3, x4, x5, x6, x7, x8⟩ := hx
  obtain ⟨hp, hl, hq, ht, hr, hs, hd, hz⟩ := h
  have hn := hr.1
  rw [D_L_law_4128_eq]
  (try simp only [if_neg x1, if_neg x2, if_neg x3, if_neg x4, if_neg x5, if_neg x6, if_neg x7, if_neg x8])
  obtain ⟨k, b, M1, M2, e1, e2, e3, e4, gRelS, oo, cs⟩ := s_interest (xs := xs) (xl := xl) (d := d + 55) hs hn ((xs (Int32.toNatClampNeg (v4 + (1 : Int32)))))
  rw [e1, rb_bi, e2, rb_bl, lw_thr, rb_bi, tl_i e3 e4]
  exact ⟨_, _, _, M2, n, rfl, ⟨(PR_off hp oo (by decide) (by decide)).up (Nat.le_succ c) hc, RelL_off hl oo (by decide) (by decide), RelQ_off hq oo (by decide) (by decide), RelT_off ht oo (by decide) (by decide), RelR_off hr oo (by decide) (by decide), gRelS, RelD_off hd oo (by decide) (by decide), PlN_off hz oo (by decide)⟩, by have := cs.1; omega, by have := cs.2; omega⟩
theorem lw_4183 {n B T c : Nat} {v4 : Int32} {u5 u6 u7 : Option Value} (h : AR M n B T c) (hc : c + 1 < 1073741824) (hx : LIx xl v4) : LSt xs xl (d + 60) v4 B T c M (D_L_law_4183 xs xl (d + 60) v4 u5 u6 u7 M) := by
  obtain ⟨x1, x2, x3, x4, x5, x6, x7, x8⟩ := hx
  obtain ⟨hp, hl, hq, ht, hr, hs, hd, hz⟩ := h
  have hn := hr.1
  rw [D_L_law_4183_eq]
  (try simp only [if_neg x1, if_neg x2, if_neg x3, if_neg x4, if_neg x5, if_neg x6, if_neg x7, if_neg x8])
  obtain ⟨v, M1, M2, e1, e2, gRelS, oo, cs⟩ := s_free (xs := xs) (xl := xl) (d := d + 54) hs ((xs (Int32.toNatClampNeg (v4 + (1 : Int32)))))
  rw [e1, rb_bl, e2, rb_bl, if_pos ((lg_cmp_eq _ _).mpr rfl)]
  exact ⟨_, _, _, M2, n, rfl, ⟨(PR_off hp oo (by decide) (by decide)).up (Nat.le_succ c) hc, RelL_off hl oo (by decide) (by decide), RelQ_off hq oo (by decide) (by decide), RelT_off ht oo (by decide) (by decide), RelR_off hr oo (by decide) (by decide), gRelS, RelD_off hd oo (by decide) (by decide), PlN_off hz oo (by decide)⟩, by have := cs.1; omega, by have := cs.2; omega⟩
theorem lw_4209 {n B T c : Nat} {v4 : Int32} {u5 u6 u7 : Option Value} (h : AR M n B T c) (hc : c + 1 < 1073741824) (hx : LIx xl v4) : LSt xs xl (d + 60) v4 B T c M (D_L_law_4209 xs xl (d + 60) v4 u5 u6 u7 M) := by
  obtain ⟨x1, x2, x3, x4, x5, x6, x7, x8⟩ := hx
  obtain ⟨hp, hl, hq, ht, hr, hs, hd, hz⟩ := h
  have hn := hr.1
  rw [D_L_law_4209_eq]
  (try simp only [if_neg x1, if_neg x2, if_neg x3, if_neg x4, if_neg x5, if_neg x6, if_neg x7, if_neg x8])
  obtain ⟨v, M1, M2, e1, e2, gRelS, oo, cs⟩ := s_list (xs := xs) (xl := xl) (d := d + 57) hs ((xs (Int32.toNatClampNeg (v4 + (1 : Int32))))) ((xs (Int32.toNatClampNeg (v4 + (2 : Int32)))))
  rw [e1, rb_bi, e2, rb_bi, if_pos rfl]
  exact ⟨_, _, _, M2, n, rfl, ⟨(PR_off hp oo (by decide) (by decide)).up (Nat.le_succ c) hc, RelL_off hl oo (by decide) (by decide), RelQ_off hq oo (by decide) (by decide), RelT_off ht oo (by decide) (by decide), RelR_off hr oo (by decide) (by decide), gRelS, RelD_off hd oo (by decide) (by decide), PlN_off hz oo (by decide)⟩, by have := cs.1; omega, by have := cs.2; omega⟩
theorem lw_4246 {n B T c : Nat} {v4 : Int32} {u5 u6 u7 : Option Value} (h : AR M n B T c) (hc : c + 1 < 1073741824) (hx : LIx xl v4) : LSt xs xl (d + 60) v4 B T c M (D_L_law_4246 xs xl (d + 60) v4 u5 u6 u7 M) := by
  obtain ⟨x1, x2, x3, x4, x5, x6, x7, x8⟩ := hx
  obtain ⟨hp, hl, hq, ht, hr, hs, hd, hz⟩ := h
  have hn := hr.1
  rw [D_L_law_4246_eq]
  (try simp only [if_neg x1, if_neg x2, if_neg x3, if_neg x4, if_neg x5, if_neg x6, if_neg x7, if_neg x8])
  obtain ⟨k, b, M1, M2, e1, e2, e3, e4, gRelS, oo, cs⟩ := s_security (xs := xs) (xl := xl) (d := d + 54) hs hn ((xs (Int32.toNatClampNeg (v4 + (1 : Int32))))) ((xs (Int32.toNatClampNeg (v4 + (2 : Int32)))))
  rw [e1, rb_bi, e2, rb_bl, lw_thr, rb_bi, tl_i e3 e4]
  exact ⟨_, _, _, M2, n, rfl, ⟨(PR_off hp oo (by decide) (by decide)).up (Nat.le_succ c) hc, RelL_off hl oo (by decide) (by decide), RelQ_off hq oo (by decide) (by decide), RelT_off ht oo (by decide) (by decide), RelR_off hr oo (by decide) (by decide), gRelS, RelD_off hd oo (by decide) (by decide), PlN_off hz oo (by decide)⟩, by have := cs.1; omega, by have := cs.2; omega⟩
theorem lw_4313 {n B T c : Nat} {v4 : Int32} {u5 u6 u7 : Option Value} (h : AR M n B T c) (hc : c + 1 < 1073741824) (hx : LIx xl v4) : LSt xs xl (d + 60) v4 B T c M (D_L_law_4313 xs xl (d + 60) v4 u5 u6 u7 M) := by
  obtain ⟨x1, x2, x3, x4, x5, x6, x7, x8⟩ := hx
  obtain ⟨hp, hl, hq, ht, hr, hs, hd, hz⟩ := h
  have hn := hr.1
  rw [D_L_law_4313_eq]
  (try simp only [if_neg x1, if_neg x2, if_neg x3, if_neg x4, if_neg x5, if_neg x6, if_neg x7, if_neg x8])
  obtain ⟨k, b, M1, M2, e1, e2, e3, e4, gRelS, oo, cs⟩ := s_reservation (xs := xs) (xl := xl) (d := d + 55) hs hn ((xs (Int32.toNatClampNeg (v4 + (1 : Int32))))) ((xs (Int32.toNatClampNeg (v4 + (2 : Int32)))))
  rw [e1, rb_bi, e2, rb_bl, lw_thr, rb_bi, tl_i e3 e4]
  exact ⟨_, _, _, M2, n, rfl, ⟨(PR_off hp oo (by decide) (by decide)).up (Nat.le_succ c) hc, RelL_off hl oo (by decide) (by decide), RelQ_off hq oo (by decide) (by decide), RelT_off ht oo (by decide) (by decide), RelR_off hr oo (by decide) (by decide), gRelS, RelD_off hd oo (by decide) (by decide), PlN_off hz oo (by decide)⟩, by have := cs.1; omega, by have := cs.2; omega⟩
theorem lw_4380 {n B T c : Nat} {v4 : Int32} {u5 u6 u7 : Option Value} (h : AR M n B T c) (hc : c + 1 < 1073741824) (hx : LIx xl v4) : LSt xs xl (d + 60) v4 B T c M (D_L_law_4380 xs xl (d + 60) v4 u5 u6 u7 M) := by
  obtain ⟨x1, x2, x3, x4, x5, x6, x7, x8⟩ := hx
  obtain ⟨hp, hl, hq, ht, hr, hs, hd, hz⟩ := h
  have hn := hr.1
  rw [D_L_law_4380_eq]
  (try simp only [if_neg x1, if_neg x2, if_neg x3, if_neg x4, if_neg x5, if_neg x6, if_neg x7, if_neg x8])
  obtain ⟨k, b, M1, M2, e1, e2, e3, e4, gRelL, oo, cs⟩ := s_batch (xs := xs) (xl := xl) (d := d + 55) hl hn ((xs (Int32.toNatClampNeg (v4 + (1 : Int32))))) ((xs (Int32.toNatClampNeg (v4 + (2 : Int32)))))
  rw [e1, rb_bi, e2, rb_bi, lw_thr, rb_bi, tl_i e3 e4]
  exact ⟨_, _, _, M2, n, rfl, ⟨(PR_off hp oo (by decide) (by decide)).up (Nat.le_succ c) hc, gRelL, RelQ_off hq oo (by decide) (by decide), RelT_off ht oo (by decide) (by decide), RelR_off hr oo (by decide) (by decide), RelS_off hs oo (by decide) (by decide), RelD_off hd oo (by decide) (by decide), PlN_off hz oo (by decide)⟩, by have := cs.1; omega, by have := cs.2; omega⟩
theorem lw_4448 {n B T c : Nat} {v4 : Int32} {u5 u6 u7 : Option Value} (h : AR M n B T c) (hc : c + 1 < 1073741824) (hx : LIx xl v4) : LSt xs xl (d + 60) v4 B T c M (D_L_law_4448 xs xl (d + 60) v4 u5 u6 u7 M) := by
  obtain ⟨x1, x2, x3, x4, x5, x6, x7, x8⟩ := hx
  obtain ⟨hp, hl, hq, ht, hr, hs, hd, hz⟩ := h
  have hn := hr.1
  rw [D_L_law_4448_eq]
  (try simp only [if_neg x1, if_neg x2, if_neg x3, if_neg x4, if_neg x5, if_neg x6, if_neg x7, if_neg x8])
  obtain ⟨v, M1, M2, e1, e2, gRelL, oo, cs⟩ := s_entry (xs := xs) (xl := xl) (d := d + 55) hl ((xs (Int32.toNatClampNeg (v4 + (1 : Int32))))) ((xs (Int32.toNatClampNeg (v4 + (2 : Int32))))) ((((Int32.toInt64 (xs (Int32.toNatClampNeg (v4 + (3 : Int32))))) <<< (Int32.toInt64 (32 : Int32) &&& 63)) ||| ((Int32.toInt64 (xs (Int32.toNatClampNeg (v4 + (4 : Int32))))) &&& (4294967295 : Int64))))
  rw [e1, rb_bi, e2, rb_bi, if_pos rfl]
  exact ⟨_, _, _, M2, n, rfl, ⟨(PR_off hp oo (by decide) (by decide)).up (Nat.le_succ c) hc, gRelL, RelQ_off hq oo (by decide) (by decide), RelT_off ht oo (by decide) (by decide), RelR_off hr oo (by decide) (by decide), RelS_off hs oo (by decide) (by decide), RelD_off hd oo (by decide) (by decide), PlN_off hz oo (by decide)⟩, by have := cs.1; omega, by have := cs.2; omega⟩
theorem lw_4529 {n B T c : Nat} {v4 : Int32} {u5 u6 u7 : Option Value} (h : AR M n B T c) (hc : c + 1 < 1073741824) (hx : LIx xl v4) : LSt xs xl (d + 60) v4 B T c M (D_L_law_4529 xs xl (d + 60) v4 u5 u6 u7 M) := by
  obtain ⟨x1, x2, x3, x4, x5, x6, x7, x8⟩ := hx
  obtain ⟨hp, hl, hq, ht, hr, hs, hd, hz⟩ := h
  have hn := hr.1
  rw [D_L_law_4529_eq]
  (try simp only [if_neg x1, if_neg x2, if_neg x3, if_neg x4, if_neg x5, if_neg x6, if_neg x7, if_neg x8])
  by_cases z : xs (Int32.toNatClampNeg (v4 + (2 : Int32))) = 0
  · simp only [if_pos z]
    obtain ⟨v, M1, M2, e1, e2, gRelL, oo, cs⟩ := s_failing (xs := xs) (xl := xl) (d := d + 55) hl ((xs (Int32.toNatClampNeg (v4 + (1 : Int32))))) ((0 : Int32)) (Or.inl rfl)
    rw [e1, rb_bi, e2, rb_bi, if_pos rfl]
    exact ⟨_, _, _, M2, n, rfl, ⟨(PR_off hp oo (by decide) (by decide)).up (Nat.le_succ c) hc, gRelL, RelQ_off hq oo (by decide) (by decide), RelT_off ht oo (by decide) (by decide), RelR_off hr oo (by decide) (by decide), RelS_off hs oo (by decide) (by decide), RelD_off hd oo (by decide) (by decide), PlN_off hz oo (by decide)⟩, by have := cs.1; omega, by have := cs.2; omega⟩
  · simp only [if_neg z]
    obtain ⟨v, M1, M2, e1, e2, gRelL, oo, cs⟩ := s_failing (xs := xs) (xl := xl) (d := d + 55) hl ((xs (Int32.toNatClampNeg (v4 + (1 : Int32))))) ((1 : Int32)) (Or.inr rfl)
    rw [e1, rb_bi, e2, rb_bi, if_pos rfl]
    exact ⟨_, _, _, M2, n, rfl, ⟨(PR_off hp oo (by decide) (by decide)).up (Nat.le_succ c) hc, gRelL, RelQ_off hq oo (by decide) (by decide), RelT_off ht oo (by decide) (by decide), RelR_off hr oo (by decide) (by decide), RelS_off hs oo (by decide) (by decide), RelD_off hd oo (by decide) (by decide), PlN_off hz oo (by decide)⟩, by have := cs.1; omega, by have := cs.2; omega⟩
theorem lw_4582 {n B T c : Nat} {v4 : Int32} {u5 u6 u7 : Option Value} (h : AR M n B T c) (hc : c + 1 < 1073741824) (hx : LIx xl v4) : LSt xs xl (d + 60) v4 B T c M (D_L_law_4582 xs xl (d + 60) v4 u5 u6 u7 M) := by
  obtain ⟨x1, x2, x3, x4, x5, x6, x7, x8⟩ := hx
  obtain ⟨hp, hl, hq, ht, hr, hs, hd, hz⟩ := h
  have hn := hr.1
  rw [D_L_law_4582_eq]
  (try simp only [if_neg x1, if_neg x2, if_neg x3, if_neg x4, if_neg x5, if_neg x6, if_neg x7, if_neg x8])
  obtain ⟨k, b, M1, M2, e1, e2, e3, e4, gRelL, oo, cs⟩ := s_post (xs := xs) (xl := xl) (d := d + 52) hl hn ((xs (Int32.toNatClampNeg (v4 + (1 : Int32)))))
  rw [e1, rb_bi, e2, rb_bi, lw_thr, rb_bi, tl_i e3 e4]
  exact ⟨_, _, _, M2, n, rfl, ⟨(PR_off hp oo (by decide) (by decide)).up (Nat.le_succ c) hc, gRelL, RelQ_off hq oo (by decide) (by decide), RelT_off ht oo (by decide) (by decide), RelR_off hr oo (by decide) (by decide), RelS_off hs oo (by decide) (by decide), RelD_off hd oo (by decide) (by decide), PlN_off hz oo (by decide)⟩, by have := cs.1; omega, by have := cs.2; omega⟩
theorem lw_4638 {n B T c : Nat} {v4 : Int32} {u5 u6 u7 : Option Value} (h : AR M n B T c) (hc : c + 1 < 1073741824) (hx : LIx xl v4) : LSt xs xl (d + 60) v4 B T c M (D_L_law_4638 xs xl (d + 60) v4 u5 u6 u7 M) := by
  obtain ⟨x1, x2, x3, x4, x5, x6, x7, x8⟩ := hx
  obtain ⟨hp, hl, hq, ht, hr, hs, hd, hz⟩ := h
  have hn := hr.1
  rw [D_L_law_4638_eq]
  (try simp only [if_neg x1, if_neg x2, if_neg x3, if_neg x4, if_neg x5, if_neg x6, if_neg x7, if_neg x8])
  obtain ⟨k, b, M1, M2, e1, e2, e3, e4, gRelL, oo, cs⟩ := s_reverse (xs := xs) (xl := xl) (d := d + 52) hl hn ((xs (Int32.toNatClampNeg (v4 + (1 : Int32))))) ((xs (Int32.toNatClampNeg (v4 + (2 : Int32)))))
  rw [e1, rb_bi, e2, rb_bi, lw_thr, rb_bi, tl_i e3 e4]
  exact ⟨_, _, _, M2, n, rfl, ⟨(PR_off hp oo (by decide) (by decide)).up (Nat.le_succ c) hc, gRelL, RelQ_off hq oo (by decide) (by decide), RelT_off ht oo (by decide) (by decide), RelR_off hr oo (by decide) (by decide), RelS_off hs oo (by decide) (by decide), RelD_off hd oo (by decide) (by decide), PlN_off hz oo (by decide)⟩, by have := cs.1; omega, by have := cs.2; omega⟩
end Lw2
