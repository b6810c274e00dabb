/-! THE LEDGER: a new batch, begun and posted at once -/
/-- a new batch of n entries goes into the books; rb: the batch that it reverses (B: none) -/
theorem RelL.book {M M2 : dp_M} {B E n rb : Nat} {va kn rv : Int32} {ac : Nat → Int32} {ce : Nat → Int32} (h : RelL M) (hB : dp_I M 114 141 = nI B) (hB8 : B < 800) (hE : dp_I M 114 142 = nI E) (hE4 : E ≤ 4000) (hn20 : n ≤ 20) (h1 : n ≠ 0) (hEn : E + n ≤ 4000)
    (hac : ∀ k, k < n → qin (ac k) 12) (hce : ∀ k, k < n → -1000000000 ≤ (ce k).toInt ∧ (ce k).toInt ≤ 1000000000 ∧ ce k ≠ 0) (hs : sl (fun k => (ce k).toInt64) n = 0) (hrv : rv = -1 ∨ qin rv 800)
    (p0 : dp_I M2 97 0 = nI (B + 1)) (p1 : dp_I M2 97 1 = nI (E + n)) (p3 : dp_I M2 97 3 = kn) (p97 : ∀ i, i ≠ 0 → i ≠ 1 → i ≠ 3 → dp_I M2 97 i = dp_I M 97 i)
    (t : ∀ b k, b < B → k < 7 → ¬ (b = rb ∧ k = 3) → dp_I M2 100 (b * 7 + k) = dp_I M 100 (b * 7 + k)) (tr : rb < B → dp_I M2 100 (rb * 7 + 3) = nI B ∧ dp_I M2 225 rb = nI B)
    (t0 : dp_I M2 100 (B * 7 + 0) = 1) (t1 : dp_I M2 100 (B * 7 + 1) = nI n) (t2 : dp_I M2 100 (B * 7 + 2) = rv) (t3 : dp_I M2 100 (B * 7 + 3) = -1) (t4 : dp_I M2 100 (B * 7 + 4) = 0) (t5 : dp_I M2 100 (B * 7 + 5) = va) (t6 : dp_I M2 100 (B * 7 + 6) = kn)
    (t7 : ∀ b k, B < b → b < 800 → k < 7 → dp_I M2 100 (b * 7 + k) = dp_I M 100 (b * 7 + k))
    (e1 : ∀ i, i < B * 20 → dp_I M2 101 i = dp_I M 101 i ∧ dp_I M2 102 i = dp_I M 102 i ∧ dp_I M2 228 i = dp_I M 228 i ∧ dp_J M2 229 i = dp_J M 229 i)
    (e2 : ∀ k, k < n → dp_I M2 101 (B * 20 + k) = ac k ∧ dp_I M2 102 (B * 20 + k) = ce k ∧ dp_I M2 228 (B * 20 + k) = ac k ∧ dp_J M2 229 (B * 20 + k) = (ce k).toInt64)
    (r103 : dp_I M2 103 = fN (dp_I M 103) E n (fun _ => nI B)) (r104 : dp_I M2 104 = fN (dp_I M 104) E n (fun k => nI (B * 20 + k))) (r230 : dp_I M2 230 = fN (dp_I M 230) E n (fun k => nI (B * 20 + k)))
    (q141 : dp_I M2 114 141 = nI (B + 1)) (q142 : dp_I M2 114 142 = nI (E + n)) (q144 : dp_I M2 114 144 = kn) (q114 : ∀ i, (i = 143 ∨ i = 145 ∨ i = 146 ∨ i = 147) → dp_I M2 114 i = dp_I M 114 i)
    (c : ∀ b, b < B → dp_I M2 221 b = dp_I M 221 b ∧ dp_I M2 222 b = dp_I M 222 b ∧ dp_I M2 223 b = dp_I M 223 b ∧ dp_I M2 224 b = dp_I M 224 b ∧ (b ≠ rb → dp_I M2 225 b = dp_I M 225 b) ∧ dp_I M2 226 b = dp_I M 226 b ∧ dp_I M2 227 b = dp_I M 227 b)
    (cB : dp_I M2 221 B = 1 ∧ dp_I M2 222 B = va ∧ dp_I M2 223 B = kn ∧ dp_I M2 224 B = rv ∧ dp_I M2 225 B = -1 ∧ dp_I M2 226 B = 0 ∧ dp_I M2 227 B = nI n)
    (rest : ∀ k, (k = 98 ∨ k = 99 ∨ k = 231 ∨ k = 232) → dp_I M2 k = dp_I M k) : RelL M2 := by
  obtain ⟨B', E', hB8', hE4', a1, a2, a3, a4, a5, a6, a7, a8, a9, a10, a11, a12, a13, a14, a15, a16⟩ := h
  have eB : B' = B := by rw [a2, nI_eq (by omega) (by omega)] at hB; exact hB
  have eE : E' = E := by rw [a4, nI_eq (by omega) (by omega)] at hE; exact hE
  subst eB eE
  obtain ⟨w1, w2, w3, w4, w5, w6, w7⟩ := cB
  refine ⟨B' + 1, E' + n, by omega, hEn, p0, q141, p1, q142, ?_, ?_, ?_, ?_, ?_, ?_, ?_, ?_, ?_, fun b hb => ?_, fun b k q1 q2 q3 => ?_, fun i hi => ?_⟩
  · rw [q114 143 (by omega), p97 2 (by omega) (by omega) (by omega)]; exact a5
  · rw [q144, p3]
  · rw [q114 145 (by omega), p97 4 (by omega) (by omega) (by omega)]; exact a7
  · rw [q114 146 (by omega), p97 5 (by omega) (by omega) (by omega)]; exact a8
  · rw [q114 147 (by omega), p97 6 (by omega) (by omega) (by omega)]; exact a9
  · rw [rest 231 (by omega), rest 98 (by omega)]; exact a10
  · rw [rest 232 (by omega), rest 99 (by omega)]; exact a11
  · rw [rest 98 (by omega)]; exact a12
  · rw [rest 99 (by omega)]; exact a13
  · by_cases e : b = B'
    · subst e
      refine ⟨n, hn20, w7, by rw [t0, w1], by rw [w1]; exact Or.inr (Or.inl rfl), fun _ => t1, (fun q => by rw [w1] at q; cases q), by rw [t2, w4], by rw [t3, w5], by rw [t4, w6], by rw [t5, w2], by rw [t6, w3], by rw [w6]; exact Or.inl rfl, by rw [w4]; exact hrv, by rw [w5]; exact Or.inl rfl, fun k hk => ?_, fun _ => ⟨by omega, ?_⟩⟩
      · obtain ⟨x1, x2, x3, x4⟩ := e2 k hk
        rw [x1, x2, x3, x4]
        exact ⟨rfl, hac k hk, rfl, hce k hk⟩
      · rw [← hs]; exact sl_c (fun k hk => (e2 k hk).2.2.2)
    · have hb' : b < B' := by omega
      obtain ⟨n', c1, c2, c3, c4, c5, c6, c7, c8, c9, c10, c11, c12, c13, c14, c15, c16⟩ := a14 b hb'
      obtain ⟨y1, y2, y3, y4, y5, y6, y7⟩ := c b hb'
      have tt : ∀ k, k < 7 → k ≠ 3 → dp_I M2 100 (b * 7 + k) = dp_I M 100 (b * 7 + k) := fun k hk h3 => t b k hb' hk (fun z => h3 z.2)
      refine ⟨n', c1, by rw [y7]; exact c2, by rw [tt 0 (by omega) (by omega), y1]; exact c3, by rw [y1]; exact c4, by rw [y1, tt 1 (by omega) (by omega)]; exact c5, by rw [y1, tt 1 (by omega) (by omega)]; exact c6, by rw [tt 2 (by omega) (by omega), y4]; exact c7, ?_, by rw [tt 4 (by omega) (by omega), y6]; exact c9, by rw [tt 5 (by omega) (by omega), y2]; exact c10, by rw [tt 6 (by omega) (by omega), y3]; exact c11, by rw [y6]; exact c12, by rw [y4]; exact c13, ?_, fun k hk => ?_, fun q => ?_⟩
      · by_cases er : b = rb
        · rw [er, (tr (by omega)).1, (tr (by omega)).2]
        · rw [t b 3 hb' (by omega) (fun z => er z.1), y5 er]; exact c8
      · by_cases er : b = rb
        · rw [er, (tr (by omega)).2]; exact Or.inr (qin_nI (by omega) (by omega))
        · rw [y5 er]; exact c14
      · obtain ⟨x1, x2, x3, x4⟩ := e1 (b * 20 + k) (by omega)
        rw [x1, x2, x3, x4]; exact c15 k hk
      · rw [y1] at q
        refine ⟨(c16 q).1, ?_⟩
        rw [← (c16 q).2]; exact sl_c (fun k hk => (e1 (b * 20 + k) (by omega)).2.2.2)
  · rw [t7 b k (by omega) q2 q3]; exact a15 b k (by omega) q2 q3
  · by_cases hi' : i < E'
    · obtain ⟨b, k, n', q1, q2, q3, q4, q5, q6, q7, q8⟩ := a16 i hi'
      obtain ⟨y1, y2, y3, y4, y5, y6, y7⟩ := c b q1
      refine ⟨b, k, n', by omega, by rw [y1]; exact q2, by rw [y7]; exact q3, q4, q5, ?_, ?_, ?_⟩
      · rw [r230, fN_lt hi']; exact q6
      · rw [r104, fN_lt hi']; exact q7
      · rw [r103, fN_lt hi']; exact q8
    · obtain ⟨k, rfl⟩ : ∃ k, i = E' + k := ⟨i - E', by omega⟩
      refine ⟨B', k, n, by omega, w1, w7, by omega, hn20, ?_, ?_, ?_⟩
      · rw [r230, fN_in (by omega)]
      · rw [r104, fN_in (by omega)]
      · rw [r103, fN_in (by omega)]
/-- the model may write where no batch is yet -/
theorem RelL.beyond {M M2 : dp_M} {B : Nat} (h : RelL M) (hB : dp_I M 114 141 = nI B) (hB8 : B ≤ 800) (r : ∀ k, (k = 97 ∨ k = 98 ∨ k = 99 ∨ k = 100 ∨ k = 101 ∨ k = 102 ∨ k = 103 ∨ k = 104 ∨ k = 230 ∨ k = 231 ∨ k = 232) → dp_I M2 k = dp_I M k) (q114 : ∀ i, i ≠ 0 → dp_I M2 114 i = dp_I M 114 i)
    (c : ∀ b, b < B → dp_I M2 221 b = dp_I M 221 b ∧ dp_I M2 222 b = dp_I M 222 b ∧ dp_I M2 223 b = dp_I M 223 b ∧ dp_I M2 224 b = dp_I M 224 b ∧ dp_I M2 225 b = dp_I M 225 b ∧ dp_I M2 226 b = dp_I M 226 b ∧ dp_I M2 227 b = dp_I M 227 b)
    (e : ∀ i, i < B * 20 → dp_I M2 228 i = dp_I M 228 i ∧ dp_J M2 229 i = dp_J M 229 i) : RelL M2 := by
  obtain ⟨B', E', hB8', hE4', a1, a2, a3, a4, a5, a6, a7, a8, a9, a10, a11, a12, a13, a14, a15, a16⟩ := h
  have eB : B' = B := by rw [a2, nI_eq (by omega) (by omega)] at hB; exact hB
  subst eB
  refine ⟨B', E', hB8', hE4', by rw [r 97 (by omega)]; exact a1, by rw [q114 _ (by omega)]; exact a2, by rw [r 97 (by omega)]; exact a3, by rw [q114 _ (by omega)]; exact a4, by rw [r 97 (by omega), q114 _ (by omega)]; exact a5, by rw [r 97 (by omega), q114 _ (by omega)]; exact a6, by rw [r 97 (by omega), q114 _ (by omega)]; exact a7, by rw [r 97 (by omega), q114 _ (by omega)]; exact a8, by rw [r 97 (by omega), q114 _ (by omega)]; exact a9, by rw [r 231 (by omega), r 98 (by omega)]; exact a10, by rw [r 232 (by omega), r 99 (by omega)]; exact a11, by rw [r 98 (by omega)]; exact a12, by rw [r 99 (by omega)]; exact a13, fun b hb => ?_, by rw [r 100 (by omega)]; exact a15, fun i hi => ?_⟩
  · refine (a14 b hb).same (fun k hk => by rw [r 100 (by omega)]) (fun k hk => ?_) ?_
    · rw [r 101 (by omega), r 102 (by omega)]
      obtain ⟨x1, x2⟩ := e (b * 20 + k) (by omega)
      exact ⟨rfl, rfl, x1, x2⟩
    · obtain ⟨y1, y2, y3, y4, y5, y6, y7⟩ := c b hb
      exact ⟨y1, y2, y3, y4, y5, y6, y7⟩
  · obtain ⟨b, k, n', q1, q2, q3, q4⟩ := a16 i hi
    obtain ⟨y1, y2, y3, y4, y5, y6, y7⟩ := c b q1
    refine ⟨b, k, n', q1, by rw [y1]; exact q2, by rw [y7]; exact q3, ?_⟩
    rw [r 230 (by omega), r 103 (by omega), r 104 (by omega)]; exact q4
