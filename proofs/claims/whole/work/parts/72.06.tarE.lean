/-! THE TARIFF: last days -/
/-- which of the last days told holds -/
def bb (f : Nat → Int32) (on : Int32) : Nat → Nat
  | 0 => 0
  | k + 1 => if f k ≤ on ∧ f (bb f on k) ≤ f k then k else bb f on k
theorem bb_lt {f : Nat → Int32} {on : Int32} : ∀ n, 1 ≤ n → bb f on n < n
  | 0, h => by omega
  | 1, _ => by rw [bb]; split <;> simp [bb]
  | n + 2, _ => by
    have := bb_lt (f := f) (on := on) (n + 1) (by omega)
    rw [bb]; split <;> omega
theorem bb_kn {f : Nat → Int32} {on : Int32} (h : f 0 ≤ on) : ∀ n, f (bb f on n) ≤ on
  | 0 => h
  | n + 1 => by
    rw [bb]; split
    · rename_i q; exact q.1
    · exact bb_kn h n
theorem bb_c {f g : Nat → Int32} {on on' : Int32} : ∀ n, (∀ k, k < n → f k = g k ∧ (f k ≤ on ↔ f k ≤ on')) → bb f on n = bb g on' n
  | 0, _ => rfl
  | n + 1, h => by
    have ih := bb_c n (fun k hk => h k (by omega))
    by_cases z : n = 0
    · subst z
      have e1 := bb_lt (f := f) (on := on) 1 (by omega)
      have e2 := bb_lt (f := g) (on := on') 1 (by omega)
      show bb f on 1 = bb g on' 1
      omega
    · rw [bb, bb, ih, (h n (by omega)).1.symm]
      have : bb g on' n < n := bb_lt n (by omega)
      rw [← (h _ (show bb g on' n < n + 1 by omega)).1]
      simp only [(h n (by omega)).2]
section TE
variable {xs : Nat → Int32} {xl d : Nat} {M : dp_M}
theorem t_ix8 {r k : Nat} : nI r * (8 : Int32) + nI k = nI (r * 8 + k) := by rw [show (8 : Int32) = nI 8 from rfl, pk_mul, nI_add]
theorem t_jx8 {r k : Nat} : (8 : Int32) * nI r + nI k = nI (r * 8 + k) := by rw [show (8 : Int32) = nI 8 from rfl, pk_mul, nI_add, Nat.mul_comm]
theorem t_8 {r : Nat} : nI r * (8 : Int32) = nI (r * 8) := by rw [show (8 : Int32) = nI 8 from rfl, pk_mul]
theorem t_8' {r : Nat} : (8 : Int32) * nI r = nI (r * 8) := by rw [show (8 : Int32) = nI 8 from rfl, pk_mul, Nat.mul_comm]
theorem tc_lastDay {r n : Nat} {v2 : Int32} (hr : r < 301) (hn1 : 1 ≤ n) (hn8 : n ≤ 8) (he : dp_I M 54 r = nI n) (h0 : dp_I M 64 (r * 8 + 0) ≤ v2) (hq : ∀ k, k < n → qin (dp_I M 64 (r * 8 + k)) 10001) :
    dp_den true xs xl (d + 1) 217 [.ref 51, .int (nI r), .int v2] M = iR (dp_I M 63 (r * 8 + bb (fun k => dp_I M 64 (r * 8 + k)) v2 n)) M := by
  rw [D_X9_lastDay_0_den, D_X9_lastDay_0_eq]
  simp only [dp_w, t_8]
  generalize hf : (fun k => dp_I M 64 (r * 8 + k)) = f
  have hfe : ∀ k, dp_I M 64 (r * 8 + k) = f k := fun k => by rw [← hf]
  refine lpb (F := fun (u : Int32 × Int32) k => D_X9_lastDay_11 xs xl d (nI r) v2 u.1 u.2 (nI (r * 8 + k)) M) (s := fun k => if k = 0 then (-1, -1) else (f (bb f v2 k), dp_I M 63 (r * 8 + bb f v2 k))) (N := n) ?_ (fun k hk hr2 => ?_)
  · (try dsimp only)
    rw [if_neg (show ¬ n = 0 by omega), D_X9_lastDay_11_eq]
    simp only [nI_cl (show r < 2147483648 by omega), nI_o (show r < 301 by omega) (by omega), if_false, he, t_ix8]
    rw [if_pos (nI_lle (Nat.le_refl _) (by omega))]
  · (try dsimp only at hr2); (try dsimp only)
    rw [if_neg (show ¬ k + 1 = 0 by omega)] at hr2
    rw [D_X9_lastDay_11_eq]
    simp only [nI_cl (show r < 2147483648 by omega), nI_o (show r < 301 by omega) (by omega), if_false, he, t_ix8, nI_cl (show r * 8 + k < 2147483648 by omega), nI_o (show r * 8 + k < 2408 by omega) (by omega), dp_w, nI_1, hfe]
    rw [if_neg (nI_nge (show r * 8 + k < r * 8 + n by omega) (by omega))]
    rw [bb] at hr2
    by_cases c1 : v2 < f k
    · rw [if_pos c1]
      rw [if_neg (fun q => absurd q.1 (Int32.not_le.mpr c1))] at hr2
      by_cases z : k = 0
      · subst z; rw [hfe] at h0; exact absurd h0 (Int32.not_le.mpr c1)
      · rw [if_neg z]; exact hr2
    · rw [if_neg c1]
      by_cases z : k = 0
      · subst z
        rw [if_pos rfl]
        rw [if_pos ⟨Int32.not_lt.mp c1, Int32.le_refl _⟩] at hr2
        have hz := hq 0 (by omega)
        rw [hfe] at hz
        rw [if_neg]
        · exact hr2
        · intro q
          have := (qin_iff.mp hz).1
          rw [Int32.lt_iff_toInt_lt] at q
          have e : (-1 : Int32).toInt = -1 := by decide
          (try dsimp only at q)
          omega
      · rw [if_neg z]
        (try dsimp only)
        by_cases c2 : f k < f (bb f v2 k)
        · rw [if_pos c2]
          rw [if_neg (fun q => absurd q.2 (Int32.not_le.mpr c2))] at hr2
          exact hr2
        · rw [if_neg c2]
          rw [if_pos ⟨Int32.not_lt.mp c1, Int32.not_lt.mp c2⟩] at hr2
          exact hr2
theorem tm_lastOf {r n : Nat} {v2 : Int32} (hr : r < 301) (hn1 : 1 ≤ n) (hn8 : n ≤ 8) (he : dp_I M 164 r = nI n) (h0 : dp_I M 166 (r * 8 + 0) ≤ v2) :
    dp_den true xs xl (d + 1) 452 [.ref 114, .int (nI r), .int v2] M = iR (dp_I M 165 (r * 8 + bb (fun k => dp_I M 166 (r * 8 + k)) v2 n)) M := by
  rw [D_X12_lastOf_0_den, D_X12_lastOf_0_eq]
  simp only [dp_w]
  generalize hf : (fun k => dp_I M 166 (r * 8 + k)) = f
  have hfe : ∀ k, dp_I M 166 (r * 8 + k) = f k := fun k => by rw [← hf]
  have kn : ∀ k, f (bb f v2 k) ≤ v2 := fun k => bb_kn (by rw [← hfe]; exact h0) k
  have e1 : bb f v2 1 = 0 := by have := bb_lt (f := f) (on := v2) 1 (by omega); omega
  have key := lpa (F := fun (u : Nat) k => D_X12_lastOf_5 xs xl d (nI r) v2 (nI u) (nI k) M) (s := bb f v2) (a := 1) (N := n) (r := (.inl (some (.int (dp_I M 165 (r * 8 + bb f v2 n)))), M)) hn1 ?_ (fun k hk1 hk hr2 => ?_)
  · (try dsimp only at key); rw [e1] at key; exact key
  · (try dsimp only)
    have := bb_lt (f := f) (on := v2) n hn1
    rw [D_X12_lastOf_5_eq]
    simp only [nI_cl (show r < 2147483648 by omega), nI_o (show r < 301 by omega) (by omega), if_false, he, t_jx8, nI_cl (show r * 8 + bb f v2 n < 2147483648 by omega), nI_o (show r * 8 + bb f v2 n < 2408 by omega) (by omega)]
    rw [if_pos (nI_lle (Nat.le_refl _) (by omega))]
  · (try dsimp only at hr2); (try dsimp only)
    have hb := bb_lt (f := f) (on := v2) k hk1
    rw [D_X12_lastOf_5_eq]
    simp only [nI_cl (show r < 2147483648 by omega), nI_o (show r < 301 by omega) (by omega), if_false, he, t_jx8, nI_cl (show r * 8 + bb f v2 k < 2147483648 by omega), nI_o (show r * 8 + bb f v2 k < 2408 by omega) (by omega), nI_cl (show r * 8 + k < 2147483648 by omega), nI_o (show r * 8 + k < 2408 by omega) (by omega), dp_w, nI_1, hfe]
    rw [if_neg (nI_nge hk (by omega)), if_neg (show ¬ v2 < f (bb f v2 k) from Int32.not_lt.mpr (kn k))]
    rw [bb] at hr2
    by_cases c1 : v2 < f k
    · rw [if_pos c1]
      rw [if_neg (fun q => absurd q.1 (Int32.not_le.mpr c1))] at hr2
      apply D_X12_lastOf_5_to_5_a
      exact hr2
    · rw [if_neg c1]
      by_cases c2 : f k < f (bb f v2 k)
      · rw [if_pos c2]
        rw [if_neg (fun q => absurd q.2 (Int32.not_le.mpr c2))] at hr2
        apply D_X12_lastOf_5_to_5_a
        exact hr2
      · rw [if_neg c2]
        rw [if_pos ⟨Int32.not_lt.mp c1, Int32.not_lt.mp c2⟩] at hr2
        apply D_X12_lastOf_5_to_5_a
        exact hr2
theorem tc_addEnd {r n : Nat} {v2 v3 : Int32} (hr : r < 301) (hn8 : n < 8) (he : dp_I M 54 r = nI n) : dp_den true xs xl (d + 1) 215 [.ref 51, .int (nI r), .int v2, .int v3] M = iR (nI (n + 1)) (dp_setI (dp_setI (dp_setI M 63 (r * 8 + n) v2) 64 (r * 8 + n) v3) 54 r (nI (n + 1))) := by
  rw [D_X9_addEnd_0_den, D_X9_addEnd_0_eq]
  simp only [nI_cl (show r < 2147483648 by omega), nI_o (show r < 301 by omega) (by omega), if_false, he, t_ix8, nI_cl (show r * 8 + n < 2147483648 by omega), nI_o (show r * 8 + n < 2408 by omega) (by omega), dp_w, gII, Nat.reduceEqDiff, nI_1, if_true, uI_s]
/-- rows that are as they were -/
theorem TRw.same {M M' : dp_M} {r : Nat} (h : TRw M r) (t : dp_I M' 164 r = dp_I M 164 r ∧ dp_I M' 54 r = dp_I M 54 r ∧ dp_I M' 60 r = dp_I M 60 r ∧ dp_I M' 156 r = dp_I M 156 r ∧ dp_I M' 61 r = dp_I M 61 r ∧ dp_I M' 157 r = dp_I M 157 r ∧ dp_I M' 52 r = dp_I M 52 r ∧ dp_I M' 158 r = dp_I M 158 r ∧ dp_I M' 53 r = dp_I M 53 r ∧ dp_I M' 159 r = dp_I M 159 r ∧ dp_I M' 62 r = dp_I M 62 r ∧ dp_I M' 160 r = dp_I M 160 r ∧ dp_I M' 161 r = dp_I M 161 r)
    (e : ∀ k, k < 8 → dp_I M' 63 (r * 8 + k) = dp_I M 63 (r * 8 + k) ∧ dp_I M' 64 (r * 8 + k) = dp_I M 64 (r * 8 + k) ∧ dp_I M' 165 (r * 8 + k) = dp_I M 165 (r * 8 + k) ∧ dp_I M' 166 (r * 8 + k) = dp_I M 166 (r * 8 + k)) (l : dp_I M 114 67 ≤ dp_I M' 114 67) : TRw M' r := by
  obtain ⟨n, h1, h2, h3, h4, h5, h6, h7, h8, h9, h10, h11, h12, h13, h14, h15⟩ := h
  obtain ⟨t1, t2, t3, t4, t5, t6, t7, t8, t9, t10, t11, t12, t13⟩ := t
  refine ⟨n, h1, h2, by rw [t1, h3], by rw [t2, h4], by rw [t3, t4, h5], by rw [t5, t6, h6], by rw [t7, t8, h7], by rw [t9, t10, h8], by rw [t11, t12, h9], by rw [t4]; exact h10, by rw [t6]; exact h11, by rw [t10]; exact h12, by rw [t12]; exact h13, ?_, fun k hk => ?_⟩
  · have := (e 0 (by omega)).2.2.2
    rw [Nat.add_zero] at this
    rw [t13, this, h14]
  · obtain ⟨e1, e2, e3, e4⟩ := e k (by omega)
    obtain ⟨b1, b2, b3, b4⟩ := h15 k hk
    rw [e1, e2, e3, e4]
    exact ⟨b1, b2, b3, Int32.le_trans b4 l⟩
end TE
