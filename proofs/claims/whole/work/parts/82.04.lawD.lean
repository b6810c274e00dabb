-- needs: 71 72 73 74 75 76 77 78 79 80 81
/-! THE LAW: a row for each call (printed by prog/law2.py) -/
section Lw3
variable {xs : Nat → Int32} {xl d : Nat} {M : dp_M}
theorem lw_4706 {n B T c : Nat} {v4 : Int32} {u5 u6 u7 : Option Value} (h : AR M n B T c) (hc : c + 1 < 1073741824) (hx : LIx xl v4) : LSt xs xl (d + 60) v4 B T c M (D_L_law_4706 xs xl (d + 60) v4 u5 u6 u7 M) := by
  obtain ⟨x1, x2, x3, x4, x5, x6, x7, x8⟩ := hx
  obtain ⟨hp, hl, hq, ht, hr, hs, hd, hz⟩ := h
  have hn := hr.1
  rw [D_L_law_4706_eq]
  (try simp only [if_neg x1, if_neg x2, if_neg x3, if_neg x4, if_neg x5, if_neg x6, if_neg x7, if_neg x8])
  obtain ⟨v, M1, M2, e1, e2, gRelL, oo, cs⟩ := s_close (xs := xs) (xl := xl) (d := d + 57) hl ((xs (Int32.toNatClampNeg (v4 + (1 : Int32)))))
  rw [e1, rb_bi, e2, rb_bi, if_pos rfl]
  exact ⟨_, _, _, M2, n, rfl, ⟨(PR_off hp oo (by decide) (by decide)).up (Nat.le_succ c) hc, gRelL, RelQ_off hq oo (by decide) (by decide), RelT_off ht oo (by decide) (by decide), RelR_off hr oo (by decide) (by decide), RelS_off hs oo (by decide) (by decide), RelD_off hd oo (by decide) (by decide), PlN_off hz oo (by decide)⟩, by have := cs.1; omega, by have := cs.2; omega⟩
theorem lw_4731 {n B T c : Nat} {v4 : Int32} {u5 u6 u7 : Option Value} (h : AR M n B T c) (hc : c + 1 < 1073741824) (hx : LIx xl v4) : LSt xs xl (d + 60) v4 B T c M (D_L_law_4731 xs xl (d + 60) v4 u5 u6 u7 M) := by
  obtain ⟨x1, x2, x3, x4, x5, x6, x7, x8⟩ := hx
  obtain ⟨hp, hl, hq, ht, hr, hs, hd, hz⟩ := h
  have hn := hr.1
  rw [D_L_law_4731_eq]
  (try simp only [if_neg x1, if_neg x2, if_neg x3, if_neg x4, if_neg x5, if_neg x6, if_neg x7, if_neg x8])
  obtain ⟨k, b, M1, M2, e1, e2, e3, e4, gRelL, oo, cs⟩ := s_account (xs := xs) (xl := xl) (d := d + 55) hl hn ((xs (Int32.toNatClampNeg (v4 + (1 : Int32))))) ((xs (Int32.toNatClampNeg (v4 + (2 : Int32))))) ((xs (Int32.toNatClampNeg (v4 + (3 : Int32)))))
  rw [e1, rb_bi, e2, rb_bl, lw_thr, rb_bi, tl_i e3 e4]
  exact ⟨_, _, _, M2, n, rfl, ⟨(PR_off hp oo (by decide) (by decide)).up (Nat.le_succ c) hc, gRelL, RelQ_off hq oo (by decide) (by decide), RelT_off ht oo (by decide) (by decide), RelR_off hr oo (by decide) (by decide), RelS_off hs oo (by decide) (by decide), RelD_off hd oo (by decide) (by decide), PlN_off hz oo (by decide)⟩, by have := cs.1; omega, by have := cs.2; omega⟩
theorem lw_4810 {n B T c : Nat} {v4 : Int32} {u5 u6 u7 : Option Value} (h : AR M n B T c) (hc : c + 1 < 1073741824) (hx : LIx xl v4) : LSt xs xl (d + 60) v4 B T c M (D_L_law_4810 xs xl (d + 60) v4 u5 u6 u7 M) := by
  obtain ⟨x1, x2, x3, x4, x5, x6, x7, x8⟩ := hx
  obtain ⟨hp, hl, hq, ht, hr, hs, hd, hz⟩ := h
  have hn := hr.1
  rw [D_L_law_4810_eq]
  (try simp only [if_neg x1, if_neg x2, if_neg x3, if_neg x4, if_neg x5, if_neg x6, if_neg x7, if_neg x8])
  obtain ⟨k, b, M1, M2, e1, e2, e3, e4, gRelL, oo, cs⟩ := s_statement (xs := xs) (xl := xl) (d := d + 55) hl hn ((xs (Int32.toNatClampNeg (v4 + (1 : Int32))))) ((xs (Int32.toNatClampNeg (v4 + (2 : Int32))))) ((xs (Int32.toNatClampNeg (v4 + (3 : Int32)))))
  rw [e1, rb_bi, e2, rb_bl, lw_thr, rb_bi, tl_i e3 e4]
  exact ⟨_, _, _, M2, n, rfl, ⟨(PR_off hp oo (by decide) (by decide)).up (Nat.le_succ c) hc, gRelL, RelQ_off hq oo (by decide) (by decide), RelT_off ht oo (by decide) (by decide), RelR_off hr oo (by decide) (by decide), RelS_off hs oo (by decide) (by decide), RelD_off hd oo (by decide) (by decide), PlN_off hz oo (by decide)⟩, by have := cs.1; omega, by have := cs.2; omega⟩
theorem lw_4889 {n B T c : Nat} {v4 : Int32} {u5 u6 u7 : Option Value} (h : AR M n B T c) (hc : c + 1 < 1073741824) (hx : LIx xl v4) : LSt xs xl (d + 60) v4 B T c M (D_L_law_4889 xs xl (d + 60) v4 u5 u6 u7 M) := by
  obtain ⟨x1, x2, x3, x4, x5, x6, x7, x8⟩ := hx
  obtain ⟨hp, hl, hq, ht, hr, hs, hd, hz⟩ := h
  have hn := hr.1
  rw [D_L_law_4889_eq]
  (try simp only [if_neg x1, if_neg x2, if_neg x3, if_neg x4, if_neg x5, if_neg x6, if_neg x7, if_neg x8])
  obtain ⟨v, M1, M2, e1, e2, gRelL, oo, cs⟩ := s_share (xs := xs) (xl := xl) (d := d + 57) hl ((xs (Int32.toNatClampNeg (v4 + (1 : Int32))))) ((xs (Int32.toNatClampNeg (v4 + (2 : Int32))))) ((xs (Int32.toNatClampNeg (v4 + (3 : Int32)))))
  rw [e1, rb_bi, e2, rb_bi, if_pos rfl]
  exact ⟨_, _, _, M2, n, rfl, ⟨(PR_off hp oo (by decide) (by decide)).up (Nat.le_succ c) hc, gRelL, RelQ_off hq oo (by decide) (by decide), RelT_off ht oo (by decide) (by decide), RelR_off hr oo (by decide) (by decide), RelS_off hs oo (by decide) (by decide), RelD_off hd oo (by decide) (by decide), PlN_off hz oo (by decide)⟩, by have := cs.1; omega, by have := cs.2; omega⟩
theorem lw_4938 {n B T c : Nat} {v4 : Int32} {u5 u6 u7 : Option Value} (h : AR M n B T c) (hc : c + 1 < 1073741824) (hx : LIx xl v4) : LSt xs xl (d + 60) v4 B T c M (D_L_law_4938 xs xl (d + 60) v4 u5 u6 u7 M) := by
  obtain ⟨x1, x2, x3, x4, x5, x6, x7, x8⟩ := hx
  obtain ⟨hp, hl, hq, ht, hr, hs, hd, hz⟩ := h
  have hn := hr.1
  rw [D_L_law_4938_eq]
  (try simp only [if_neg x1, if_neg x2, if_neg x3, if_neg x4, if_neg x5, if_neg x6, if_neg x7, if_neg x8])
  obtain ⟨v, M1, M2, e1, e2, gRelL, oo, cs⟩ := s_cost (xs := xs) (xl := xl) (d := d + 57) hl ((xs (Int32.toNatClampNeg (v4 + (1 : Int32))))) ((xs (Int32.toNatClampNeg (v4 + (2 : Int32)))))
  rw [e1, rb_bi, e2, rb_bi, if_pos rfl]
  exact ⟨_, _, _, M2, n, rfl, ⟨(PR_off hp oo (by decide) (by decide)).up (Nat.le_succ c) hc, gRelL, RelQ_off hq oo (by decide) (by decide), RelT_off ht oo (by decide) (by decide), RelR_off hr oo (by decide) (by decide), RelS_off hs oo (by decide) (by decide), RelD_off hd oo (by decide) (by decide), PlN_off hz oo (by decide)⟩, by have := cs.1; omega, by have := cs.2; omega⟩
theorem lw_4975 {n B T c : Nat} {v4 : Int32} {u5 u6 u7 : Option Value} (h : AR M n B T c) (hc : c + 1 < 1073741824) (hx : LIx xl v4) : LSt xs xl (d + 60) v4 B T c M (D_L_law_4975 xs xl (d + 60) v4 u5 u6 u7 M) := by
  obtain ⟨x1, x2, x3, x4, x5, x6, x7, x8⟩ := hx
  obtain ⟨hp, hl, hq, ht, hr, hs, hd, hz⟩ := h
  have hn := hr.1
  rw [D_L_law_4975_eq]
  (try simp only [if_neg x1, if_neg x2, if_neg x3, if_neg x4, if_neg x5, if_neg x6, if_neg x7, if_neg x8])
  obtain ⟨k, b, M1, M2, e1, e2, e3, e4, gRelL, oo, cs⟩ := s_passed (xs := xs) (xl := xl) (d := d + 54) hl hn ((xs (Int32.toNatClampNeg (v4 + (1 : Int32))))) ((xs (Int32.toNatClampNeg (v4 + (2 : Int32))))) ((xs (Int32.toNatClampNeg (v4 + (3 : Int32)))))
  -- depths 6 5
  rw [e1, rb_bi, e2, rb_bl, lw_thr, rb_bi, tl_i e3 e4]
  exact ⟨_, _, _, M2, n, rfl, ⟨(PR_off hp oo (by decide) (by decide)).up (Nat.le_succ c) hc, gRelL, RelQ_off hq oo (by decide) (by decide), RelT_off ht oo (by decide) (by decide), RelR_off hr oo (by decide) (by decide), RelS_off hs oo (by decide) (by decide), RelD_off hd oo (by decide) (by decide), PlN_off hz oo (by decide)⟩, by have := cs.1; omega, by have := cs.2; omega⟩
theorem lw_5054 {n B T c : Nat} {v4 : Int32} {u5 u6 u7 : Option Value} (h : AR M n B T c) (hc : c + 1 < 1073741824) (hx : LIx xl v4) : LSt xs xl (d + 60) v4 B T c M (D_L_law_5054 xs xl (d + 60) v4 u5 u6 u7 M) := by
  obtain ⟨x1, x2, x3, x4, x5, x6, x7, x8⟩ := hx
  obtain ⟨hp, hl, hq, ht, hr, hs, hd, hz⟩ := h
  have hn := hr.1
  rw [D_L_law_5054_eq]
  (try simp only [if_neg x1, if_neg x2, if_neg x3, if_neg x4, if_neg x5, if_neg x6, if_neg x7, if_neg x8])
  obtain ⟨k, b, M1, M2, e1, e2, e3, e4, gRelL, oo, cs⟩ := s_read (xs := xs) (xl := xl) (d := d + 55) hl hn ((xs (Int32.toNatClampNeg (v4 + (1 : Int32))))) ((xs (Int32.toNatClampNeg (v4 + (2 : Int32)))))
  rw [e1, rb_bi, e2, rb_bl, lw_thr, rb_bi, tl_i e3 e4]
  exact ⟨_, _, _, M2, n, rfl, ⟨(PR_off hp oo (by decide) (by decide)).up (Nat.le_succ c) hc, gRelL, RelQ_off hq oo (by decide) (by decide), RelT_off ht oo (by decide) (by decide), RelR_off hr oo (by decide) (by decide), RelS_off hs oo (by decide) (by decide), RelD_off hd oo (by decide) (by decide), PlN_off hz oo (by decide)⟩, by have := cs.1; omega, by have := cs.2; omega⟩
theorem lw_5121 {n B T c : Nat} {v4 : Int32} {u5 u6 u7 : Option Value} (h : AR M n B T c) (hc : c + 1 < 1073741824) (hx : LIx xl v4) : LSt xs xl (d + 60) v4 B T c M (D_L_law_5121 xs xl (d + 60) v4 u5 u6 u7 M) := by
  obtain ⟨x1, x2, x3, x4, x5, x6, x7, x8⟩ := hx
  obtain ⟨hp, hl, hq, ht, hr, hs, hd, hz⟩ := h
  have hn := hr.1
  rw [D_L_law_5121_eq]
  (try simp only [if_neg x1, if_neg x2, if_neg x3, if_neg x4, if_neg x5, if_neg x6, if_neg x7, if_neg x8])
  obtain ⟨k, b, M1, M2, e1, e2, e3, e4, gRelL, oo, cs⟩ := s_batchOf (xs := xs) (xl := xl) (d := d + 55) hl hn ((xs (Int32.toNatClampNeg (v4 + (1 : Int32))))) ((xs (Int32.toNatClampNeg (v4 + (2 : Int32)))))
  rw [e1, rb_bi, e2, rb_bi, lw_thr, rb_bi, tl_i e3 e4]
  exact ⟨_, _, _, M2, n, rfl, ⟨(PR_off hp oo (by decide) (by decide)).up (Nat.le_succ c) hc, gRelL, RelQ_off hq oo (by decide) (by decide), RelT_off ht oo (by decide) (by decide), RelR_off hr oo (by decide) (by decide), RelS_off hs oo (by decide) (by decide), RelD_off hd oo (by decide) (by decide), PlN_off hz oo (by decide)⟩, by have := cs.1; omega, by have := cs.2; omega⟩
theorem lw_5189 {n B T c : Nat} {v4 : Int32} {u5 u6 u7 : Option Value} (h : AR M n B T c) (hc : c + 1 < 1073741824) (hx : LIx xl v4) : LSt xs xl (d + 60) v4 B T c M (D_L_law_5189 xs xl (d + 60) v4 u5 u6 u7 M) := by
  obtain ⟨x1, x2, x3, x4, x5, x6, x7, x8⟩ := hx
  obtain ⟨hp, hl, hq, ht, hr, hs, hd, hz⟩ := h
  have hn := hr.1
  rw [D_L_law_5189_eq]
  (try simp only [if_neg x1, if_neg x2, if_neg x3, if_neg x4, if_neg x5, if_neg x6, if_neg x7, if_neg x8])
  obtain ⟨k, b, M1, M2, e1, e2, e3, e4, ⟨gPR, gRelQ, gRelD⟩, oo, cs⟩ := s_declare (xs := xs) (xl := xl) (d := d + 55) hp hq hd hn ((xs (Int32.toNatClampNeg (v4 + (1 : Int32))))) ((xs (Int32.toNatClampNeg (v4 + (2 : Int32))))) ((xs (Int32.toNatClampNeg (v4 + (3 : Int32))))) ((xs (Int32.toNatClampNeg (v4 + (4 : Int32))))) ((xs (Int32.toNatClampNeg (v4 + (5 : Int32))))) ((xs (Int32.toNatClampNeg (v4 + (6 : Int32))))) ((((Int32.toInt64 (xs (Int32.toNatClampNeg (v4 + (7 : Int32))))) <<< (Int32.toInt64 (32 : Int32) &&& 63)) ||| ((Int32.toInt64 (xs (Int32.toNatClampNeg (v4 + (8 : Int32))))) &&& (4294967295 : Int64))))
  rw [e1, rb_bi, e2, rb_bi, lw_thr, rb_bi, tl_i e3 e4]
  exact ⟨_, _, _, M2, n, rfl, ⟨gPR.up (Nat.le_succ c) hc, RelL_off hl oo (by decide) (by decide), gRelQ, RelT_off ht oo (by decide) (by decide), RelR_off hr oo (by decide) (by decide), RelS_off hs oo (by decide) (by decide), gRelD, PlN_off hz oo (by decide)⟩, by have := cs.1; omega, by have := cs.2; omega⟩
theorem lw_5355 {n B T c : Nat} {v4 : Int32} {u5 u6 u7 : Option Value} (h : AR M n B T c) (hc : c + 1 < 1073741824) (hx : LIx xl v4) : LSt xs xl (d + 60) v4 B T c M (D_L_law_5355 xs xl (d + 60) v4 u5 u6 u7 M) := by
  obtain ⟨x1, x2, x3, x4, x5, x6, x7, x8⟩ := hx
  obtain ⟨hp, hl, hq, ht, hr, hs, hd, hz⟩ := h
  have hn := hr.1
  rw [D_L_law_5355_eq]
  (try simp only [if_neg x1, if_neg x2, if_neg x3, if_neg x4, if_neg x5, if_neg x6, if_neg x7, if_neg x8])
  obtain ⟨v, M1, M2, e1, e2, gRelD, oo, cs⟩ := s_amount (xs := xs) (xl := xl) (d := d + 55) hd ((xs (Int32.toNatClampNeg (v4 + (1 : Int32))))) ((xs (Int32.toNatClampNeg (v4 + (2 : Int32))))) ((((Int32.toInt64 (xs (Int32.toNatClampNeg (v4 + (3 : Int32))))) <<< (Int32.toInt64 (32 : Int32) &&& 63)) ||| ((Int32.toInt64 (xs (Int32.toNatClampNeg (v4 + (4 : Int32))))) &&& (4294967295 : Int64))))
  rw [e1, rb_bi, e2, rb_bi, if_pos rfl]
  exact ⟨_, _, _, M2, n, rfl, ⟨(PR_off hp oo (by decide) (by decide)).up (Nat.le_succ c) hc, RelL_off hl oo (by decide) (by decide), RelQ_off hq oo (by decide) (by decide), RelT_off ht oo (by decide) (by decide), RelR_off hr oo (by decide) (by decide), RelS_off hs oo (by decide) (by decide), gRelD, PlN_off hz oo (by decide)⟩, by have := cs.1; omega, by have := cs.2; omega⟩
theorem lw_5436 {n B T c : Nat} {v4 : Int32} {u5 u6 u7 : Option Value} (h : AR M n B T c) (hc : c + 1 < 1073741824) (hx : LIx xl v4) : LSt xs xl (d + 60) v4 B T c M (D_L_law_5436 xs xl (d + 60) v4 u5 u6 u7 M) := by
  obtain ⟨x1, x2, x3, x4, x5, x6, x7, x8⟩ := hx
  obtain ⟨hp, hl, hq, ht, hr, hs, hd, hz⟩ := h
  have hn := hr.1
  rw [D_L_law_5436_eq]
  (try simp only [if_neg x1, if_neg x2, if_neg x3, if_neg x4, if_neg x5, if_neg x6, if_neg x7, if_neg x8])
  obtain ⟨k, b, M1, M2, e1, e2, e3, e4, ⟨gRelQ, gRelD⟩, oo, cs⟩ := s_ask (xs := xs) (xl := xl) (d := d + 53) hq hd hn ((xs (Int32.toNatClampNeg (v4 + (1 : Int32))))) ((xs (Int32.toNatClampNeg (v4 + (2 : Int32))))) ((((Int32.toInt64 (xs (Int32.toNatClampNeg (v4 + (3 : Int32))))) <<< (Int32.toInt64 (32 : Int32) &&& 63)) ||| ((Int32.toInt64 (xs (Int32.toNatClampNeg (v4 + (4 : Int32))))) &&& (4294967295 : Int64))))
  rw [e1, rb_bi, e2, rb_bi, lw_thr, rb_bi, tl_i e3 e4]
  exact ⟨_, _, _, M2, n, rfl, ⟨(PR_off hp oo (by decide) (by decide)).up (Nat.le_succ c) hc, RelL_off hl oo (by decide) (by decide), gRelQ, RelT_off ht oo (by decide) (by decide), RelR_off hr oo (by decide) (by decide), RelS_off hs oo (by decide) (by decide), gRelD, PlN_off hz oo (by decide)⟩, by have := cs.1; omega, by have := cs.2; omega⟩
theorem lw_5548 {n B T c : Nat} {v4 : Int32} {u5 u6 u7 : Option Value} (h : AR M n B T c) (hc : c + 1 < 1073741824) (hx : LIx xl v4) : LSt xs xl (d + 60) v4 B T c M (D_L_law_5548 xs xl (d + 60) v4 u5 u6 u7 M) := by
  obtain ⟨x1, x2, x3, x4, x5, x6, x7, x8⟩ := hx
  obtain ⟨hp, hl, hq, ht, hr, hs, hd, hz⟩ := h
  have hn := hr.1
  rw [D_L_law_5548_eq]
  (try simp only [if_neg x1, if_neg x2, if_neg x3, if_neg x4, if_neg x5, if_neg x6, if_neg x7, if_neg x8])
  obtain ⟨k, b, M1, M2, e1, e2, e3, e4, ⟨gRelQ, gRelD⟩, oo, cs⟩ := s_again (xs := xs) (xl := xl) (d := d + 54) hq hd hn ((xs (Int32.toNatClampNeg (v4 + (1 : Int32))))) ((((Int32.toInt64 (xs (Int32.toNatClampNeg (v4 + (2 : Int32))))) <<< (Int32.toInt64 (32 : Int32) &&& 63)) ||| ((Int32.toInt64 (xs (Int32.toNatClampNeg (v4 + (3 : Int32))))) &&& (4294967295 : Int64))))
  rw [e1, rb_bi, e2, rb_bi, lw_thr, rb_bi, tl_i e3 e4]
  exact ⟨_, _, _, M2, n, rfl, ⟨(PR_off hp oo (by decide) (by decide)).up (Nat.le_succ c) hc, RelL_off hl oo (by decide) (by decide), gRelQ, RelT_off ht oo (by decide) (by decide), RelR_off hr oo (by decide) (by decide), RelS_off hs oo (by decide) (by decide), gRelD, PlN_off hz oo (by decide)⟩, by have := cs.1; omega, by have := cs.2; omega⟩
theorem lw_5648 {n B T c : Nat} {v4 : Int32} {u5 u6 u7 : Option Value} (h : AR M n B T c) (hc : c + 1 < 1073741824) (hx : LIx xl v4) : LSt xs xl (d + 60) v4 B T c M (D_L_law_5648 xs xl (d + 60) v4 u5 u6 u7 M) := by
  obtain ⟨x1, x2, x3, x4, x5, x6, x7, x8⟩ := hx
  obtain ⟨hp, hl, hq, ht, hr, hs, hd, hz⟩ := h
  have hn := hr.1
  rw [D_L_law_5648_eq]
  (try simp only [if_neg x1, if_neg x2, if_neg x3, if_neg x4, if_neg x5, if_neg x6, if_neg x7, if_neg x8])
  obtain ⟨k, b, M1, M2, e1, e2, e3, e4, ⟨gRelQ, gRelT, gRelR, gRelD⟩, oo, cs⟩ := s_duty (xs := xs) (xl := xl) (d := d + 48) hq ht hr hd ((xs (Int32.toNatClampNeg (v4 + (1 : Int32))))) ((xs (Int32.toNatClampNeg (v4 + (2 : Int32)))))
  rw [e1, rb_bi, e2, rb_bl, lw_thr, rb_bi, tl_i e3 e4]
  exact ⟨_, _, _, M2, n, rfl, ⟨(PR_off hp oo (by decide) (by decide)).up (Nat.le_succ c) hc, RelL_off hl oo (by decide) (by decide), gRelQ, gRelT, gRelR, RelS_off hs oo (by decide) (by decide), gRelD, PlN_off hz oo (by decide)⟩, by have := cs.1; omega, by have := cs.2; omega⟩
theorem lw_5715 {n B T c : Nat} {v4 : Int32} {u5 u6 u7 : Option Value} (h : AR M n B T c) (hc : c + 1 < 1073741824) (hx : LIx xl v4) : LSt xs xl (d + 60) v4 B T c M (D_L_law_5715 xs xl (d + 60) v4 u5 u6 u7 M) := by
  obtain ⟨x1, x2, x3, x4, x5, x6, x7, x8⟩ := hx
  obtain ⟨hp, hl, hq, ht, hr, hs, hd, hz⟩ := h
  have hn := hr.1
  rw [D_L_law_5715_eq]
  (try simp only [if_neg x1, if_neg x2, if_neg x3, if_neg x4, if_neg x5, if_neg x6, if_neg x7, if_neg x8])
  obtain ⟨k, b, M1, M2, e1, e2, e3, e4, ⟨gPR, gRelQ, gRelT, gRelR, gRelS, gRelD⟩, oo, cs⟩ := s_assess (xs := xs) (xl := xl) (d := d + 48) hp hq ht hr hs hd ((xs (Int32.toNatClampNeg (v4 + (1 : Int32))))) ((xs (Int32.toNatClampNeg (v4 + (2 : Int32)))))
  rw [e1, rb_bi, e2, rb_bl, lw_thr, rb_bi, tl_i e3 e4]
  exact ⟨_, _, _, M2, n, rfl, ⟨gPR.up (Nat.le_succ c) hc, RelL_off hl oo (by decide) (by decide), gRelQ, gRelT, gRelR, gRelS, gRelD, PlN_off hz oo (by decide)⟩, by have := cs.1; omega, by have := cs.2; omega⟩
theorem lw_5782 {n B T c : Nat} {v4 : Int32} {u5 u6 u7 : Option Value} (h : AR M n B T c) (hc : c + 1 < 1073741824) (hx : LIx xl v4) : LSt xs xl (d + 60) v4 B T c M (D_L_law_5782 xs xl (d + 60) v4 u5 u6 u7 M) := by
  obtain ⟨x1, x2, x3, x4, x5, x6, x7, x8⟩ := hx
  obtain ⟨hp, hl, hq, ht, hr, hs, hd, hz⟩ := h
  have hn := hr.1
  rw [D_L_law_5782_eq]
  (try simp only [if_neg x1, if_neg x2, if_neg x3, if_neg x4, if_neg x5, if_neg x6, if_neg x7, if_neg x8])
  obtain ⟨k, b, M1, M2, e1, e2, e3, e4, ⟨gPR, gRelL, gRelS, gRelD⟩, oo, cs⟩ := s_pay (xs := xs) (xl := xl) (d := d + 52) hp hl hs hd hn ((xs (Int32.toNatClampNeg (v4 + (1 : Int32))))) ((xs (Int32.toNatClampNeg (v4 + (2 : Int32)))))
  rw [e1, rb_bi, e2, rb_bi, lw_thr, rb_bi, tl_i e3 e4]
  exact ⟨_, _, _, M2, n, rfl, ⟨gPR.up (Nat.le_succ c) hc, gRelL, RelQ_off hq oo (by decide) (by decide), RelT_off ht oo (by decide) (by decide), RelR_off hr oo (by decide) (by decide), gRelS, gRelD, PlN_off hz oo (by decide)⟩, by have := cs.1; omega, by have := cs.2; omega⟩
theorem lw_5850 {n B T c : Nat} {v4 : Int32} {u5 u6 u7 : Option Value} (h : AR M n B T c) (hc : c + 1 < 1073741824) (hx : LIx xl v4) : LSt xs xl (d + 60) v4 B T c M (D_L_law_5850 xs xl (d + 60) v4 u5 u6 u7 M) := by
  obtain ⟨x1, x2, x3, x4, x5, x6, x7, x8⟩ := hx
  obtain ⟨hp, hl, hq, ht, hr, hs, hd, hz⟩ := h
  have hn := hr.1
  rw [D_L_law_5850_eq]
  (try simp only [if_neg x1, if_neg x2, if_neg x3, if_neg x4, if_neg x5, if_neg x6, if_neg x7, if_neg x8])
  obtain ⟨k, b, M1, M2, e1, e2, e3, e4, ⟨gPR, gRelL, gRelS, gRelD⟩, oo, cs⟩ := s_claim (xs := xs) (xl := xl) (d := d + 52) hp hl hs hd hn ((xs (Int32.toNatClampNeg (v4 + (1 : Int32))))) ((xs (Int32.toNatClampNeg (v4 + (2 : Int32)))))
  rw [e1, rb_bi, e2, rb_bl, lw_thr, rb_bi, tl_i e3 e4]
  exact ⟨_, _, _, M2, n, rfl, ⟨gPR.up (Nat.le_succ c) hc, gRelL, RelQ_off hq oo (by decide) (by decide), RelT_off ht oo (by decide) (by decide), RelR_off hr oo (by decide) (by decide), gRelS, gRelD, PlN_off hz oo (by decide)⟩, by have := cs.1; omega, by have := cs.2; omega⟩
theorem lw_5917 {n B T c : Nat} {v4 : Int32} {u5 u6 u7 : Option Value} (h : AR M n B T c) (hc : c + 1 < 1073741824) (hx : LIx xl v4) : LSt xs xl (d + 60) v4 B T c M (D_L_law_5917 xs xl (d + 60) v4 u5 u6 u7 M) := by
  obtain ⟨x1, x2, x3, x4, x5, x6, x7, x8⟩ := hx
  obtain ⟨hp, hl, hq, ht, hr, hs, hd, hz⟩ := h
  have hn := hr.1
  rw [D_L_law_5917_eq]
  (try simp only [if_neg x1, if_neg x2, if_neg x3, if_neg x4, if_neg x5, if_neg x6, if_neg x7, if_neg x8])
  obtain ⟨k, b, M1, M2, e1, e2, e3, e4, ⟨gPR, gRelL, gRelQ, gRelT, gRelR, gRelS, gRelD⟩, oo, cs⟩ := s_correct (xs := xs) (xl := xl) (d := d + 48) hp hl hq ht hr hs hd ((xs (Int32.toNatClampNeg (v4 + (1 : Int32))))) ((xs (Int32.toNatClampNeg (v4 + (2 : Int32)))))
  rw [e1, rb_bi, e2, rb_bl, lw_thr, rb_bi, tl_i e3 e4]
  exact ⟨_, _, _, M2, n, rfl, ⟨gPR.up (Nat.le_succ c) hc, gRelL, gRelQ, gRelT, gRelR, gRelS, gRelD, PlN_off hz oo (by decide)⟩, by have := cs.1; omega, by have := cs.2; omega⟩
theorem lw_5984 {n B T c : Nat} {v4 : Int32} {u5 u6 u7 : Option Value} (h : AR M n B T c) (hc : c + 1 < 1073741824) (hx : LIx xl v4) : LSt xs xl (d + 60) v4 B T c M (D_L_law_5984 xs xl (d + 60) v4 u5 u6 u7 M) := by
  obtain ⟨x1, x2, x3, x4, x5, x6, x7, x8⟩ := hx
  obtain ⟨hp, hl, hq, ht, hr, hs, hd, hz⟩ := h
  have hn := hr.1
  rw [D_L_law_5984_eq]
  (try simp only [if_neg x1, if_neg x2, if_neg x3, if_neg x4, if_neg x5, if_neg x6, if_neg x7, if_neg x8])
  obtain ⟨k, b, M1, M2, e1, e2, e3, e4, ⟨gPR, gRelQ, gRelS, gRelD⟩, oo, cs⟩ := s_cancel (xs := xs) (xl := xl) (d := d + 52) hp hq hs hd hn ((xs (Int32.toNatClampNeg (v4 + (1 : Int32)))))
  rw [e1, rb_bi, e2, rb_bi, lw_thr, rb_bi, tl_i e3 e4]
  exact ⟨_, _, _, M2, n, rfl, ⟨gPR.up (Nat.le_succ c) hc, RelL_off hl oo (by decide) (by decide), gRelQ, RelT_off ht oo (by decide) (by decide), RelR_off hr oo (by decide) (by decide), gRelS, gRelD, PlN_off hz oo (by decide)⟩, by have := cs.1; omega, by have := cs.2; omega⟩
theorem lw_6040 {n B T c : Nat} {v4 : Int32} {u5 u6 u7 : Option Value} (h : AR M n B T c) (hc : c + 1 < 1073741824) (hx : LIx xl v4) : LSt xs xl (d + 60) v4 B T c M (D_L_law_6040 xs xl (d + 60) v4 u5 u6 u7 M) := by
  obtain ⟨x1, x2, x3, x4, x5, x6, x7, x8⟩ := hx
  obtain ⟨hp, hl, hq, ht, hr, hs, hd, hz⟩ := h
  have hn := hr.1
  rw [D_L_law_6040_eq]
  (try simp only [if_neg x1, if_neg x2, if_neg x3, if_neg x4, if_neg x5, if_neg x6, if_neg x7, if_neg x8])
  obtain ⟨k, b, M1, M2, e1, e2, e3, e4, ⟨gRelQ, gRelD⟩, oo, cs⟩ := s_declared (xs := xs) (xl := xl) (d := d + 55) hq hd hn ((xs (Int32.toNatClampNeg (v4 + (1 : Int32))))) ((xs (Int32.toNatClampNeg (v4 + (2 : Int32)))))
  rw [e1, rb_bi, e2, rb_bl, lw_thr, rb_bi, tl_i e3 e4]
  exact ⟨_, _, _, M2, n, rfl, ⟨(PR_off hp oo (by decide) (by decide)).up (Nat.le_succ c) hc, RelL_off hl oo (by decide) (by decide), gRelQ, RelT_off ht oo (by decide) (by decide), RelR_off hr oo (by decide) (by decide), RelS_off hs oo (by decide) (by decide), gRelD, PlN_off hz oo (by decide)⟩, by have := cs.1; omega, by have := cs.2; omega⟩
theorem lw_6107 {n B T c : Nat} {v4 : Int32} {u5 u6 u7 : Option Value} (h : AR M n B T c) (hc : c + 1 < 1073741824) (hx : LIx xl v4) : LSt xs xl (d + 60) v4 B T c M (D_L_law_6107 xs xl (d + 60) v4 u5 u6 u7 M) := by
  obtain ⟨x1, x2, x3, x4, x5, x6, x7, x8⟩ := hx
  obtain ⟨hp, hl, hq, ht, hr, hs, hd, hz⟩ := h
  have hn := hr.1
  rw [D_L_law_6107_eq]
  (try simp only [if_neg x1, if_neg x2, if_neg x3, if_neg x4, if_neg x5, if_neg x6, if_neg x7, if_neg x8])
  obtain ⟨v, e1, e2⟩ := s_count (xs := xs) (xl := xl) (d := d + 52) hp hl hq ht hr hs hd ((xs (Int32.toNatClampNeg (v4 + (1 : Int32)))))
  have oo : Off [] [0] M (dp_setI M 114 0 0) := (Off.rr _ _ M).F 0 (by decide) _
  rw [e1, rb_bi, e2, rb_bi, if_pos rfl]
  exact ⟨_, _, _, _, n, rfl, ⟨(PR_off hp oo (by decide) (by decide)).up (Nat.le_succ c) hc, RelL_off hl oo (by decide) (by decide), RelQ_off hq oo (by decide) (by decide), RelT_off ht oo (by decide) (by decide), RelR_off hr oo (by decide) (by decide), RelS_off hs oo (by decide) (by decide), RelD_off hd oo (by decide) (by decide), PlN_off hz oo (by decide)⟩, Nat.le_add_right _ _, Nat.le_add_right _ _⟩
end Lw3
