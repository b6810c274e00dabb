-- needs: 71 72 73 74
/-! RATES: the model's loop -/
section RR
variable {xs : Nat → Int32} {xl d : Nat} {M : dp_M} {t : Nat → Int32} {L : Nat}
def GoM (xs : Nat → Int32) (xl d : Nat) (w : Int32) (M : dp_M) (w' : Int32) (M' : dp_M) : Prop := ∀ r, D_X12_readsText_40 xs xl d w' 1 M' = some r → D_X12_readsText_40 xs xl d w 1 M = some r
theorem GoM.r {w : Int32} : GoM xs xl d w M w M := fun _ h => h
theorem GoM.tr {w w' w'' : Int32} {M' M'' : dp_M} (h : GoM xs xl d w M w' M') (h' : GoM xs xl d w' M' w'' M'') : GoM xs xl d w M w'' M'' := fun r e => h r (h' r e)
theorem g_part1 {M3 : dp_M} (hb : dp_I M 114 81 = -1) (h : dp_den true xs xl d 483 [.ref 114] M = iR (-1) M3) : GoM xs xl d 1 M 1 M3 := fun r e => by
  rw [D_X12_readsText_40_eq, hb, if_neg (by decide), if_neg (by decide), if_neg (by decide), h, rb_bi, if_pos rfl]
  exact D_X12_readsText_40_to_40_a _ _ _ e
theorem g_part0 {M3 M5 : dp_M} {y : Int32} (hb : dp_I M 114 81 = -1) (h : dp_den true xs xl d 483 [.ref 114] M = iR y M3) (hy : ¬ y = -1) (hj : dp_den true xs xl d 484 [.ref 114, .int y] M3 = vR M5) : GoM xs xl d 1 M 0 M5 := fun r e => by
  rw [D_X12_readsText_40_eq, hb, if_neg (by decide), if_neg (by decide), if_neg (by decide), h, rb_bi, if_neg hy, hj, rb_bv]
  simp only [dp_w]
  exact D_X12_readsText_40_to_40_a _ _ _ e
/-- behind a part -/
theorem g_behind {p c nr k : Nat} {M2 : dp_M} {w : Int32} (h : MSt M t L p c nr k) (hs : sk t L p < L ∨ 0 < k) (hw : w = 0 ∨ w = 1) (hb : dp_den true xs xl (d + 1) 485 [.ref 114] (plm M (sk t L p)) = iR w M2) : GoM xs xl (d + 1) 0 M w M2 := fun r e => by
  have b : dp_I M 114 81 = -1 := h.bad
  have hk := h.2.2.2.2.2.2.2.2.2.1
  have e97 : dp_I (plm M (sk t L p)) 114 97 = nI (k + 1) := by rw [plm_o _ _ _ (by decide)]; exact h.2.2.2.2.2.2.2.2.1
  have go : D_X12_readsText_96 xs xl (d + 1) 0 1 1 (plm M (sk t L p)) = some r := by
    rw [D_X12_readsText_96_eq, if_neg (by decide), hb, rb_bi]
    rcases hw with rfl | rfl
    · rw [if_pos rfl]; exact e
    · rw [if_neg (by decide)]; exact e
  rw [D_X12_readsText_40_eq, b, if_neg (by decide), if_neg (by decide), if_pos rfl, m_next h.1 h.2.2.1 h.2.1, rb_bi, e97]
  by_cases z : sk t L p < L
  · rw [if_neg (fun q => (sgM_end h.1).mp q z)]; exact go
  · have k0 := hs.resolve_left z
    rw [if_pos ((sgM_end h.1).mpr z), if_neg (show ¬ nI (k + 1) ≤ (1 : Int32) from nI_ge (a := 1) (b := k + 1) (by omega) (by omega))]; exact go
theorem g_pl {p c nr k : Nat} (h : MSt M t L p c nr k) : GoM xs xl (d + 1) 0 M 0 (plm M (sk t L p)) := fun r e => by
  have b : dp_I M 114 81 = -1 := h.bad
  have sl := sk_le (t := t) h.2.2.1
  have s1 := h.pl (q := sk t L p) sl
  have b1 : dp_I (plm M (sk t L p)) 114 81 = -1 := s1.bad
  rw [D_X12_readsText_40_eq, b1, if_neg (by decide), if_neg (by decide), if_pos rfl, m_next s1.1 s1.2.2.1 s1.2.1, rb_bi, sk_sk, plm_pl] at e
  rw [D_X12_readsText_40_eq, b, if_neg (by decide), if_neg (by decide), if_pos rfl, m_next h.1 h.2.2.1 h.2.1, rb_bi]
  exact e
/-- the letters -/
theorem m_scan {p c nr k : Nat} (h : MSt M t L p c nr k) : ∀ r, D_X12_takesWord_44 xs xl (d + 1) (nI p) (plm M (p + lt' t L p)) = some r → dp_den true xs xl (d + 2) 482 [.ref 114] M = some r := fun r e => by
  obtain ⟨h1, h2, h3, -⟩ := h
  have hL := h1.2.1
  have ll := lt_le (t := t) h3
  have h2' : dp_I M 114 80 = nI p := h2
  rw [D_X12_takesWord_0_den, D_X12_takesWord_0_eq]
  simp only [dp_w]
  rw [h2']
  have key := lpb (F := fun (_ : Nat) i => D_X12_takesWord_5 xs xl (d + 1) (nI p) (plm M (p + i))) (s := fun _ => 0) (N := lt' t L p) (r := r) ?_ (fun i hi hr => ?_)
  · (try dsimp only at key)
    have e0 : plm M (p + 0) = M := plm_self h2
    rw [e0] at key; exact key
  · (try dsimp only)
    have e80 : dp_I (plm M (p + lt' t L p)) 114 80 = nI (p + lt' t L p) := plm_p _ _
    have e79 : dp_I (plm M (p + lt' t L p)) 114 79 = nI L := by rw [plm_o _ _ _ (by decide)]; exact h1.1
    rw [D_X12_takesWord_5_eq, e80, e79]
    by_cases z : p + lt' t L p < L
    · rw [if_neg (nI_nge z (by omega))]
      simp only [nI_cl (show p + lt' t L p < 2147483648 by omega), nI_o (show p + lt' t L p < 400 by omega) (by omega), if_false]
      rw [show dp_I (plm M (p + lt' t L p)) 173 (p + lt' t L p) = t (p + lt' t L p) from by rw [plm_I _ _ _ (by decide)]; exact (h1.2.2 _ z).1, m_isS, rb_bi, ibz, if_neg (fun q => lt_out ⟨z, q⟩)]
      exact e
    · rw [if_pos (nI_lle (by omega) (by omega))]; exact e
  · (try dsimp only at hr); (try dsimp only)
    obtain ⟨q1, q2⟩ := lt_in hi
    have e80 : dp_I (plm M (p + i)) 114 80 = nI (p + i) := plm_p _ _
    have e79 : dp_I (plm M (p + i)) 114 79 = nI L := by rw [plm_o _ _ _ (by decide)]; exact h1.1
    rw [D_X12_takesWord_5_eq, e80, e79, if_neg (nI_nge q1 (by omega))]
    simp only [nI_cl (show p + i < 2147483648 by omega), nI_o (show p + i < 400 by omega) (by omega), if_false]
    rw [show dp_I (plm M (p + i)) 173 (p + i) = t (p + i) from by rw [plm_I _ _ _ (by decide)]; exact (h1.2.2 _ q1).1, m_isS, rb_bi, ibz, if_pos q2]
    simp only [dp_w]
    rw [e80, nI_1, show dp_setI (plm M (p + i)) 114 80 (nI (p + i + 1)) = plm (plm M (p + i)) (p + (i + 1)) from rfl, plm_pl]; exact hr
theorem wd_ne {p : Nat} {w w' : List Int32} (h : isWd t L p w) (h' : isWd t L p w') (i : Nat) (hi : i < w.length) (hne : ¬ w.getD i 0 = w'.getD i 0) : False := by
  have l : w.length = w'.length := by rw [← h.1, ← h'.1]
  exact hne (by rw [← h.2 i hi, ← h'.2 i (by omega)])
/-- what the words do -/
theorem m_words {p c nr k : Nat} (h : MSt M t L p c nr k) : ∀ r, (if isWd t L p [102, 114, 101, 101] ∨ isWd t L p [109, 105, 110] ∨ isWd t L p [109, 97, 120] ∨ isWd t L p [115, 116, 101, 112] then dp_bi (dp_den true xs xl (d + 1) 475 [.ref 114, .int (nI p)] (plm M (p + lt' t L p))) (fun r2 M1 => if r2 = 0 then iR (-1) M1 else if isWd t L p [102, 114, 101, 101] then (dp_bi (dp_den true xs xl (d + 1) 476 [.ref 114, .int (0 : Int32), .int (0 : Int32), .int (-1 : Int32), .int (-1 : Int32), .int (-1 : Int32)] M1) (fun r10 M9 => iR r10 M9)) else if isWd t L p [115, 116, 101, 112] then (dp_bi (dp_den true xs xl (d + 1) 479 [.ref 114] M1) (fun r8 M7 => iR r8 M7)) else (dp_bv (dp_den true xs xl (d + 1) 480 [.ref 114, .int (if isWd t L p [109, 105, 110] then 5 else 6), .int (nI p)] M1) (fun M3 => dp_bv (dp_den true xs xl (d + 1) 468 [.ref 114, .int (40 : Int32)] M3) (fun M4 => iR (-1) M4)))) else iR (-1) (dp_setI (plm M (p + lt' t L p)) 114 81 (nI p))) = some r → dp_den true xs xl (d + 2) 482 [.ref 114] M = some r := fun r e => by
  have h3 := h.2.2.1
  have ll := lt_le (t := t) h3
  have s1 := h.pl (q := p + lt' t L p) ll
  have e80 : dp_I (plm M (p + lt' t L p)) 114 80 = nI (p + lt' t L p) := plm_p _ _
  refine m_scan h r ?_
  rw [D_X12_takesWord_44_eq, e80, m_word_min s1.1 h3, rb_bi, e80, m_word_max s1.1 h3, rb_bi, e80, m_word_free s1.1 h3, rb_bi, e80, m_word_step s1.1 h3, rb_bi]
  simp only [ibz]
  have go : (∀ a b f s : Int32, a = bI (isWd t L p [109, 105, 110]) → b = bI (isWd t L p [109, 97, 120]) → f = bI (isWd t L p [102, 114, 101, 101]) → s = bI (isWd t L p [115, 116, 101, 112]) → isWd t L p [102, 114, 101, 101] ∨ isWd t L p [109, 105, 110] ∨ isWd t L p [109, 97, 120] ∨ isWd t L p [115, 116, 101, 112] → D_X12_takesWord_123 xs xl (d + 1) (nI p) a b f s (plm M (p + lt' t L p)) = some r) := fun a b f s ea eb ef es w => by
    rw [if_pos w] at e
    rw [D_X12_takesWord_123_eq, ef, es, ea]
    simp only [ibz]
    rw [← e]
    congr 1
    funext r2 M1
    by_cases z : r2 = 0
    · rw [if_pos z, if_pos z]
    · rw [if_neg z, if_neg z]
      by_cases w1 : isWd t L p [102, 114, 101, 101]
      · rw [if_pos w1, if_pos w1]
      · rw [if_neg w1, if_neg w1]
        by_cases w2 : isWd t L p [115, 116, 101, 112]
        · rw [if_pos w2, if_pos w2]
        · rw [if_neg w2, if_neg w2]
          by_cases w3 : isWd t L p [109, 105, 110]
          · rw [if_pos w3, if_pos w3]
          · rw [if_neg w3, if_neg w3]
  by_cases w1 : isWd t L p [109, 105, 110]
  · rw [if_pos w1]; exact go _ _ _ _ rfl rfl rfl rfl (Or.inr (Or.inl w1))
  · rw [if_neg w1]
    by_cases w2 : isWd t L p [109, 97, 120]
    · rw [if_pos w2]; exact go _ _ _ _ rfl rfl rfl rfl (Or.inr (Or.inr (Or.inl w2)))
    · rw [if_neg w2]
      by_cases w3 : isWd t L p [102, 114, 101, 101]
      · rw [if_pos w3]; exact go _ _ _ _ rfl rfl rfl rfl (Or.inl w3)
      · rw [if_neg w3]
        by_cases w4 : isWd t L p [115, 116, 101, 112]
        · rw [if_pos w4]; exact go _ _ _ _ rfl rfl rfl rfl (Or.inr (Or.inr (Or.inr w4)))
        · rw [if_neg w4, m_stop s1.2.2.2.1, rb_bv]
          rw [if_neg (fun q => q.elim w3 (fun q => q.elim w1 (fun q => q.elim w2 w4)))] at e
          exact e
end RR
