-- needs: 71 72 73 74
/-! RATES: print: a stack of nodes and signs, for class and model alike -/
section Rbc
abbrev Itm : Type := Int32 × List Int32 × Nat × Nat
/-- an item x on top: it prints s in at most K turns, with H free places -/
def Rn (LP : Nat → Nat → Int32 → dp_M → Option dp_Res) (St : dp_M → Nat → (Nat → Int32) → List Int32 → Prop) (x : Int32) (s : List Int32) (K H : Nat) : Prop := ∀ (i h : Nat) (v : Int32) (N : dp_M) (f : Nat → Int32) (w : List Int32), St N (h + 1) f w → f h = x → w.length + s.length ≤ 1024 → h + H ≤ 390 → i + K ≤ 1024 → ∃ (k : Nat) (v' : Int32) (N' : dp_M) (f' : Nat → Int32), k ≤ K ∧ LP i (h + 1) v N = LP (i + k) h v' N' ∧ St N' h f' (w ++ s) ∧ ∀ x, x < h → f' x = f x
def flI : List Itm → List Int32
  | [] => []
  | y :: T => y.2.1 ++ flI T
def skI : List Itm → Nat
  | [] => 0
  | y :: T => y.2.2.1 + skI T
variable {l : List Nd} {c : Int32 → Int32} {LP : Nat → Nat → Int32 → dp_M → Option dp_Res} {St : dp_M → Nat → (Nat → Int32) → List Int32 → Prop}
theorem run_l : ∀ (T : List Itm) (i h : Nat) (v : Int32) (N : dp_M) (f : Nat → Int32) (w : List Int32), (∀ y, y ∈ T → Rn LP St y.1 y.2.1 y.2.2.1 y.2.2.2 ∧ h + T.length + y.2.2.2 ≤ 391) → St N (h + T.length) f w → (∀ i, i < T.length → f (h + (T.length - 1 - i)) = (T.getD i (0, [], 0, 0)).1) → w.length + (flI T).length ≤ 1024 → i + skI T ≤ 1024 → ∃ (k : Nat) (v' : Int32) (N' : dp_M) (f' : Nat → Int32), k ≤ skI T ∧ LP i (h + T.length) v N = LP (i + k) h v' N' ∧ St N' h f' (w ++ flI T) ∧ ∀ x, x < h → f' x = f x := by
  intro T
  induction T with
  | nil =>
    intro i h v N f w _ hS _ _ _
    refine ⟨0, v, N, f, Nat.le_refl _, rfl, ?_, fun _ _ => rfl⟩
    show St N h f (w ++ [])
    rw [List.append_nil]; exact hS
  | cons y T ih =>
    intro i h v N f w hy hS hf hw hi
    have y1 := hy y (List.mem_cons.mpr (Or.inl rfl))
    have hw' : w.length + (y.2.1 ++ flI T).length ≤ 1024 := hw
    have hi' : i + (y.2.2.1 + skI T) ≤ 1024 := hi
    rw [List.length_append] at hw'
    rw [List.length_cons] at y1 hf
    obtain ⟨k1, v1, N1, f1, a1, a2, a3, a4⟩ := y1.1 i (h + T.length) v N f w hS (by have := hf 0 (by omega); rw [show h + (T.length + 1 - 1 - 0) = h + T.length by omega] at this; exact this) (by omega) (by omega) (by omega)
    obtain ⟨k2, v2, N2, f2, b1, b2, b3, b4⟩ := ih (i + k1) h v1 N1 f1 (w ++ y.2.1) (fun z hz => ⟨(hy z (List.mem_cons.mpr (Or.inr hz))).1, by have := (hy z (List.mem_cons.mpr (Or.inr hz))).2; rw [List.length_cons] at this; omega⟩) a3 (fun i hi => by
      rw [a4 _ (by omega)]
      have := hf (i + 1) (by omega)
      rw [show T.length + 1 - 1 - (i + 1) = T.length - 1 - i by omega] at this
      exact this) (by rw [List.length_append]; omega) (by omega)
    refine ⟨k1 + k2, v2, N2, f2, ?_, ?_, ?_, fun x hx => by rw [b4 x hx, a4 x (by omega)]⟩
    · show k1 + k2 ≤ y.2.2.1 + skI T; omega
    · rw [List.length_cons, ← Nat.add_assoc, a2, b2, Nat.add_assoc]
    · show St N2 h f2 (w ++ (y.2.1 ++ flI T))
      rw [← List.append_assoc]; exact b3
theorem gE {α : Type} {l : List α} {j : Nat} {d : α} (h : j < l.length) : l.getD j d = l[j] := by rw [List.getD_eq_getElem?_getD, List.getElem?_eq_getElem h]; rfl
theorem rv_at (T : List Itm) {i : Nat} (hi : i < T.length) : ((T.map (fun y => y.1)).reverse).getD (T.length - 1 - i) 0 = (T.getD i (0, [], 0, 0)).1 := by
  have h1 : T.length - 1 - i < ((T.map (fun y => y.1)).reverse).length := by rw [List.length_reverse, List.length_map]; omega
  rw [gE h1, List.getElem_reverse, List.getElem_map, gE hi]
  congr 2
  rw [List.length_map]; omega
theorem lfS_1 {v : Nd} : 1 ≤ (lfS v).length := by
  unfold lfS
  repeat' split
  all_goals (simp only [List.length_append, List.length_cons, List.length_nil]; omega)
theorem Pr.s1 : ∀ {n l s}, Pr n l s → 1 ≤ s.length
  | n + 1, l, s, h => by
    rcases h with ⟨v, -, -, e⟩ | ⟨v, l1, l2, s1, s2, -, -, -, -, e⟩
    · rw [e]; exact lfS_1
    · rw [e]; unfold jnS; split <;> simp only [List.length_append, List.length_cons, List.length_nil] <;> omega
theorem run_n (hsg : ∀ s, s ∈ ([32, 40, 41, 43, 44, 45] : List Int32) → Rn LP St (c s) [s] 1 0)
    (hlf : ∀ j, j < l.length → isBn (l.getD j v0) = false → Rn LP St (nI j) (lfS (l.getD j v0)) 1 0)
    (htw : ∀ j m, j < l.length → isBn (l.getD j v0) = true → fR l j = nI m → m < l.length → ∀ (i h : Nat) (v : Int32) (N : dp_M) (f : Nat → Int32) (w : List Int32), St N (h + 1) f w → f h = nI j → w.length + 4 ≤ 1024 → h + 7 ≤ 390 → i < 1024 → ∃ (v' : Int32) (N' : dp_M), LP i (h + 1) v N = LP (i + 1) (h + (twI c l j m).length) v' N' ∧ St N' (h + (twI c l j m).length) (fN f h (twI c l j m).length (fun i => (twI c l j m).getD i 0)) (w ++ twW l j)) :
    ∀ n l1 s, Pr n l1 s → n ≤ 100 → ∀ j r, l.drop j = l1 ++ r → Rn LP St (nI j) s (6 * l1.length) (4 * l1.length) := by
  intro n
  induction n with
  | zero => intro l1 s h; exact absurd h (by rw [Pr]; exact id)
  | succ n ih =>
    intro la s h hn j r hd
    have hp := h.pos
    have hjl : j + (la.length + r.length) = l.length := by
      have := congrArg List.length hd
      rw [List.length_drop, List.length_append] at this
      omega
    have hj : j < l.length := by omega
    have gt' : ∀ x, l.getD (j + x) v0 = (la ++ r).getD x v0 := fun x => by
      rw [← hd]
      simp [List.getD_eq_getElem?_getD, List.getElem?_drop]
    rcases h with ⟨v, h1, e, h2⟩ | ⟨v, l1, l2, s1, s2, h1, h2, h3, e, h4⟩
    · have ev : l.getD j v0 = v := by have := gt' 0; rw [e] at this; exact this
      have q := hlf j hj (by rw [ev]; exact h1)
      rw [ev, ← h2] at q
      intro i h v' N f w a1 a2 a3 a4 a5
      rw [e, List.length_singleton] at a4 a5
      obtain ⟨k, v2, N', f', b1, b2⟩ := q i h v' N f w a1 a2 a3 (by omega) (by omega)
      exact ⟨k, v2, N', f', by rw [e, List.length_singleton]; omega, b2⟩
    · have ev : l.getD j v0 = v := by have := gt' 0; rw [e] at this; exact this
      have p1 := h2.pos
      have p2 := h3.pos
      have q1 := h2.s1
      have q2 := h3.s1
      have ll : la.length = l1.length + l2.length + 1 := by rw [e, List.length_cons, List.length_append]
      have dr : l.drop (j + 1) = l1 ++ (l2 ++ r) := by
        have : l.drop (j + 1) = (l.drop j).drop 1 := by rw [List.drop_drop]
        rw [this, hd, e, List.cons_append, List.append_assoc]
        rfl
      have tl : ts 100 (l.drop (j + 1)) = l1.length := by rw [dr]; exact h2.tsl 100 _ (by omega)
      obtain ⟨m, hm⟩ : ∃ m, m = j + 1 + l1.length := ⟨_, rfl⟩
      have fm : fR l j = nI m := by unfold fR; rw [if_pos (by rw [ev]; exact h1), tl, hm]
      have hm2 : m < l.length := by omega
      have dm : l.drop m = l2 ++ r := by
        have : l.drop m = (l.drop (j + 1)).drop l1.length := by rw [List.drop_drop, hm]
        rw [this, dr, List.drop_left]
      have gm : l.getD m v0 = l2.getD 0 v0 := by
        have a : l.getD m v0 = (l.drop m).getD 0 v0 := by simp [List.getD_eq_getElem?_getD, List.getElem?_drop]
        rw [a, dm, gl (by omega)]
      have bk : brkR l m = bkH l2 := by unfold brkR bkH; rw [gm]
      have r1 := ih l1 s1 h2 (by omega) (j + 1) (l2 ++ r) dr
      have r2 := ih l2 s2 h3 (by omega) m r dm
      have tw := htw j m hj (by rw [ev]; exact h1) fm hm2
      have wd : twW l j = twV v := by unfold twW twV; rw [ev]
      -- it is enough to name the items
      have go : ∀ T : List Itm, twI c l j m = (T.map (fun y => y.1)).reverse → s = twV v ++ flI T → T.length ≤ 7 → (∀ y, y ∈ T → (Rn LP St y.1 y.2.1 y.2.2.1 y.2.2.2 ∧ (y.2.2.2 = 0 ∨ y.2.2.2 = 4 * l1.length ∨ y.2.2.2 = 4 * l2.length))) → skI T ≤ 6 * l1.length + 6 * l2.length + 5 → 4 ≤ s.length → Rn LP St (nI j) s (6 * la.length) (4 * la.length) := by
        intro T hT hs h7 hy hk h4s i h v' N f w a1 a2 a3 a4 a5
        have lT : (twI c l j m).length = T.length := by rw [hT, List.length_reverse, List.length_map]
        obtain ⟨v1, N1, b1, b2⟩ := tw i h v' N f w a1 a2 (by omega) (by omega) (by omega)
        rw [lT] at b1 b2
        rw [wd] at b2
        have ls : s.length = (twV v).length + (flI T).length := by rw [hs, List.length_append]
        obtain ⟨k, v2, N2, f2, c1, c2, c3, c4⟩ := run_l T (i + 1) h v1 N1 _ (w ++ twV v) (fun y hyT => ⟨(hy y hyT).1, by have := (hy y hyT).2; omega⟩) b2 (fun x hx => by
          rw [fN_in (by omega), hT]
          exact rv_at T hx) (by rw [List.length_append]; omega) (by omega)
        refine ⟨1 + k, v2, N2, f2, by omega, by rw [b1, c2, Nat.add_assoc], ?_, fun x hx => by rw [c4 x hx, fN_lt hx]⟩
        rw [hs, ← List.append_assoc]; exact c3
      have kb : v.1 = 3 ∨ v.1 = 4 ∨ v.1 = 5 ∨ v.1 = 6 := by unfold isBn at h1; exact of_decide_eq_true h1
      have R1 : Rn LP St (nI (j + 1)) s1 (6 * l1.length) (4 * l1.length) := r1
      have S : ∀ x, x ∈ ([32, 40, 41, 43, 44, 45] : List Int32) → ∀ y : Itm, y = (c x, [x], 1, 0) → (Rn LP St y.1 y.2.1 y.2.2.1 y.2.2.2 ∧ (y.2.2.2 = 0 ∨ y.2.2.2 = 4 * l1.length ∨ y.2.2.2 = 4 * l2.length)) := fun x hx y e => by rw [e]; exact ⟨hsg x hx, Or.inl rfl⟩
      have A : ∀ y : Itm, y = (nI (j + 1), s1, 6 * l1.length, 4 * l1.length) → (Rn LP St y.1 y.2.1 y.2.2.1 y.2.2.2 ∧ (y.2.2.2 = 0 ∨ y.2.2.2 = 4 * l1.length ∨ y.2.2.2 = 4 * l2.length)) := fun y e => by rw [e]; exact ⟨r1, Or.inr (Or.inl rfl)⟩
      have B : ∀ y : Itm, y = (nI m, s2, 6 * l2.length, 4 * l2.length) → (Rn LP St y.1 y.2.1 y.2.2.1 y.2.2.2 ∧ (y.2.2.2 = 0 ∨ y.2.2.2 = 4 * l1.length ∨ y.2.2.2 = 4 * l2.length)) := fun y e => by rw [e]; exact ⟨r2, Or.inr (Or.inr rfl)⟩
      by_cases k34 : v.1 = 3 ∨ v.1 = 4
      · obtain ⟨o, ho⟩ : ∃ o : Int32, o = (if v.1 = 3 then 43 else 45) := ⟨_, rfl⟩
        have ho' : (if v.1 = 3 then c 43 else c 45) = c o := by rw [ho]; split <;> rfl
        have om : o ∈ ([32, 40, 41, 43, 44, 45] : List Int32) := by rw [ho]; split <;> decide
        have w0 : twV v = [] := by
          unfold twV
          rcases k34 with k | k
          · rw [if_neg (by rw [k]; decide), if_neg (by rw [k]; decide)]
          · rw [if_neg (by rw [k]; decide), if_neg (by rw [k]; decide)]
        have ti : twI c l j m = itJ c l j m := by unfold twI; rw [ev, if_pos k34]
        unfold jnS at h4
        rw [if_pos k34, ← ho] at h4
        unfold itJ at ti
        rw [ev, ho', bk] at ti
        cases hb : bkH l2 with
        | true =>
          rw [hb] at h4 ti
          refine go [(nI (j + 1), s1, 6 * l1.length, 4 * l1.length), (c 32, [32], 1, 0), (c o, [o], 1, 0), (c 32, [32], 1, 0), (c 40, [40], 1, 0), (nI m, s2, 6 * l2.length, 4 * l2.length), (c 41, [41], 1, 0)] ?_ ?_ (Nat.le_of_ble_eq_true rfl) ?_ ?_ ?_
          · rw [ti]; rfl
          · rw [h4, w0]; rfl
          · intro y hy
            simp only [List.mem_cons, List.not_mem_nil, or_false] at hy
            rcases hy with q | q | q | q | q | q | q
            · exact A y q
            · exact S 32 (by decide) y q
            · exact S o om y q
            · exact S 32 (by decide) y q
            · exact S 40 (by decide) y q
            · exact B y q
            · exact S 41 (by decide) y q
          · show 6 * l1.length + (1 + (1 + (1 + (1 + (6 * l2.length + (1 + 0)))))) ≤ _; omega
          · rw [h4]; simp only [List.length_append, List.length_cons, List.length_nil]; omega
        | false =>
          rw [hb] at h4 ti
          refine go [(nI (j + 1), s1, 6 * l1.length, 4 * l1.length), (c 32, [32], 1, 0), (c o, [o], 1, 0), (c 32, [32], 1, 0), (nI m, s2, 6 * l2.length, 4 * l2.length)] ?_ ?_ (Nat.le_of_ble_eq_true rfl) ?_ ?_ ?_
          · rw [ti]; rfl
          · rw [h4, w0]; rfl
          · intro y hy
            simp only [List.mem_cons, List.not_mem_nil, or_false] at hy
            rcases hy with q | q | q | q | q
            · exact A y q
            · exact S 32 (by decide) y q
            · exact S o om y q
            · exact S 32 (by decide) y q
            · exact B y q
          · show 6 * l1.length + (1 + (1 + (1 + (6 * l2.length + 0)))) ≤ _; omega
          · rw [h4]; simp only [List.length_append, List.length_cons, List.length_nil]; omega
      · have ti : twI c l j m = itP c j m := by unfold twI; rw [ev, if_neg k34]
        unfold jnS at h4
        rw [if_neg k34] at h4
        refine go [(nI (j + 1), s1, 6 * l1.length, 4 * l1.length), (c 44, [44], 1, 0), (c 32, [32], 1, 0), (nI m, s2, 6 * l2.length, 4 * l2.length), (c 41, [41], 1, 0)] ?_ ?_ (Nat.le_of_ble_eq_true rfl) ?_ ?_ ?_
        · rw [ti]; rfl
        · rw [h4]; rfl
        · intro y hy
          simp only [List.mem_cons, List.not_mem_nil, or_false] at hy
          rcases hy with q | q | q | q | q
          · exact A y q
          · exact S 44 (by decide) y q
          · exact S 32 (by decide) y q
          · exact B y q
          · exact S 41 (by decide) y q
        · show 6 * l1.length + (1 + (1 + (6 * l2.length + (1 + 0)))) ≤ _; omega
        · rw [h4]; simp only [List.length_append, List.length_cons, List.length_nil]; omega
end Rbc
