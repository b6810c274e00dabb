/-! THE LAW (3): what is known at its entry -/
def dp_jS : List (Nat × Nat) := [(0, 0), (11, 143), (11, 156), (11, 169), (11, 183), (11, 196), (11, 206), (11, 254), (11, 273), (11, 308), (11, 316), (11, 321), (11, 332), (11, 343), (11, 364), (11, 421), (11, 426), (11, 430), (11, 432), (11, 453), (11, 458), (11, 470), (7, 100), (7, 106), (7, 111), (7, 113), (11, 511), (11, 516), (7, 219), (7, 224), (7, 226), (7, 215), (7, 217), (11, 525), (11, 533), (11, 540), (11, 551), (11, 553), (11, 562), (11, 567), (11, 584), (11, 606), (11, 610), (11, 612), (11, 637), (11, 662), (11, 670), (11, 696), (11, 701), (11, 706), (11, 711), (11, 722), (11, 730), (11, 738), (11, 751), (11, 760), (11, 766), (11, 768), (11, 773), (11, 787), (11, 792), (11, 797), (11, 803), (11, 808), (11, 817), (11, 832)]
def dp_pS : List Nat := [0, 1518, 1561, 1579, 1598, 1669, 1687, 1771, 1831, 1865, 1882, 1883, 1899, 1930, 1993, 2065, 2073, 2074, 2075, 2099, 2100, 2109, 2223, 2276, 2285, 2286, 2381, 2393, 2432, 2433, 2434, 2443, 2444, 2452, 2461, 2471, 2513, 2514, 2530, 2531, 2611, 2644, 2646, 2647, 2659, 2695, 2707, 2719, 2750, 2755, 2767, 2777, 2792, 2821, 2830, 2863, 2883, 2884, 2885, 2899, 2900, 2917, 2930, 2956, 3009, 3090]
set_option maxRecDepth 100000 in
theorem dp_S_inv : (List.range dp_dS.length).all (fun o => (dp_dS.getD o []).all (fun q => decide (dp_jS[q.2]? = some (o, q.1)) && decide (dp_tbl (dp_pS.getD q.2 0) = some (Cond.stringRef (dp_own o) q.1 (dp_txs.getD q.2 ""))))) = true := by decide +kernel
theorem dp_S_ok {o i j : Nat} (h : dp_lkS o i = some j) : dp_jS[j]? = some (o, i) ∧ Cond.stringRef (dp_own o) i (dp_tx o i) ∈ lw_tbl := by
  have htx : dp_tx o i = dp_txs.getD j "" := by unfold dp_tx; rw [h]
  unfold dp_lkS at h
  have h1 := dp_getD_all (p := fun o q => decide (dp_jS[q.2]? = some (o, q.1)) && decide (dp_tbl (dp_pS.getD q.2 0) = some (Cond.stringRef (dp_own o) q.1 (dp_txs.getD q.2 "")))) dp_S_inv (dp_look_in h)
  rw [Bool.and_eq_true] at h1
  refine ⟨of_decide_eq_true h1.1, ?_⟩
  rw [htx]
  exact dp_tbl_in (of_decide_eq_true h1.2)
set_option maxRecDepth 100000 in
theorem dp_S_ex : (dp_jS.drop 1).all (fun q => decide (Cond.exactly (.string (dp_own q.1) q.2) "java/lang/String" ∈ flatC (Jvm.Cond.and given_1 narrow_1))) = true := by decide +kernel
set_option maxRecDepth 100000 in
theorem dp_nw_in : ∀ w ∈ dp_nw, w ∈ lw_tbl := by
  have h : (dp_nw.zip [310, 604, 685, 739, 824, 868]).all (fun q => decide (dp_tbl q.2 = some q.1)) = true := by decide +kernel
  exact dp_zip (b := [310, 604, 685, 739, 824, 868]) (p := fun q => decide (dp_tbl q.2 = some q.1)) (P := fun w => w ∈ lw_tbl) rfl h (fun _ _ q => dp_tbl_in (of_decide_eq_true q))
set_option maxRecDepth 100000 in
theorem dp_nc_in : ∀ i j, i < 4 → j < 4 → i ≠ j → Cond.not (.castable (dp_en i) (dp_en j)) ∈ flatC (Jvm.Cond.and given_1 narrow_1) := by
  have h : (List.range 4).all (fun i => (List.range 4).all (fun j => decide (i = j) || decide (Cond.not (.castable (dp_en i) (dp_en j)) ∈ flatC (Jvm.Cond.and given_1 narrow_1)))) = true := by decide +kernel
  intro i j hi hj hij
  have h1 := List.all_eq_true.mp (List.all_eq_true.mp h i (List.mem_range.mpr hi)) j (List.mem_range.mpr hj)
  rw [Bool.or_eq_true] at h1
  rcases h1 with h1 | h1
  · exact absurd (of_decide_eq_true h1) hij
  · exact of_decide_eq_true h1
set_option maxRecDepth 100000 in
theorem dp_xw_in : ∀ w ∈ dp_xw, w ∈ lw_tbl := by
  have h : (dp_xw.zip [1480, 1482, 1484, 1478, 1572, 1662, 2464]).all (fun q => decide (dp_tbl q.2 = some q.1)) = true := by decide +kernel
  exact dp_zip (b := [1480, 1482, 1484, 1478, 1572, 1662, 2464]) (p := fun q => decide (dp_tbl q.2 = some q.1)) (P := fun w => w ∈ lw_tbl) rfl h (fun _ _ q => dp_tbl_in (of_decide_eq_true q))
theorem dp_arrK {args : Array Value} {s : State} {ty : FieldType} (hne : ∀ C, ty ≠ .object C) (h : (Cond.arrayClass ty).before args s = true) : ∃ cA, ArrOfT s cA ty ∧ va_RA s cA ty := by
  obtain ⟨c, k, comp, h1, h2, h3⟩ := Cond.arrayClass_spec h
  refine ⟨c, fun n z => ⟨fun k h => (by cases h), k, h2, comp, h3⟩, ?_⟩
  cases ty with
  | object C => exact absurd rfl (hne C)
  | _ => exact h1
theorem dp_arrR {args : Array Value} {s : State} {C : String} (h : (Cond.arrayOver (.object C)).before args s = true) : ∃ cA, ArrOfT s cA (.object C) ∧ va_RA s cA (.object C) := by
  obtain ⟨comp, c, k, h1, -, h2, h3, h4⟩ := Cond.arrayOver_spec h
  exact ⟨c, fun n z => ⟨fun k h => (by cases h), k, h2, comp, h3⟩, k, comp, h2, h3, h1, h4⟩
/-- the memory at the law's entry: nothing is there -/
def dp_M0 : dp_M := (fun _ _ => 0, fun _ _ => 0, fun _ _ => none, fun _ => 0, fun _ => 0, 0, 0)
set_option maxHeartbeats 4000000 in
set_option maxRecDepth 100000 in
theorem dp_entry {p : Program} {s : State} {m : MethodId} {meth : Method} {c : Code} {b L : Nat} {xs : Nat → Int32} (C0 : lw_At p s m meth c b L xs) : ∃ (G : dp_G) (sa : Nat → Nat), dp_Kn G sa s ∧ dp_Ext s.heap.size sa s.heap xs L s ∧ sa 0 = b ∧ dp_Rep G s.heap.size s.heap false dp_M0 s.heap := by
  obtain ⟨hx, hb, hr, hml, hown, hts, hX, hbl, hlocks, hgv⟩ := C0
  have hfl := flat_of_before _ hgv
  have htsT : ∀ w ∈ dp_T, w.before #[Value.ref b] s = true := fun w hw => hts w (dp_T_good w hw).1
  have hcl : ∀ k : Nat, ∃ q9 : ClassId × (Nat → Nat), ∀ q : vw_C, vwCl[k]? = some q → u_Kn s q.1 q.2.1 q.2.2 q9.1 q9.2 := by
    intro k
    cases hk : vwCl[k]? with
    | none => exact ⟨(0, fun _ => 0), fun q hq => by cases hq⟩
    | some q =>
      obtain ⟨C, T, N⟩ := q
      obtain ⟨h1, -, -, h4, -⟩ := dp_cl_ok hk
      obtain ⟨cC, iS, hq⟩ := u_known (C := C) (T := T) (N := N) (n := N) htsT h1 (htsT _ h4)
      exact ⟨(cC, iS), fun q hq2 => by cases hq2; exact hq⟩
  obtain ⟨dd, hdd⟩ := Classical.axiomOfChoice hcl
  obtain ⟨a1, a2, a3, a4⟩ := dp_arr_ok
  obtain ⟨c1, hc1⟩ := dp_arrK (s := s) (ty := .int) (fun C h => by cases h) (htsT _ a1)
  obtain ⟨c2, hc2⟩ := dp_arrK (s := s) (ty := .long) (fun C h => by cases h) (htsT _ a2)
  obtain ⟨c3, hc3⟩ := dp_arrK (s := s) (ty := .boolean) (fun C h => by cases h) (htsT _ a3)
  obtain ⟨c4, hc4⟩ := dp_arrK (s := s) (ty := .char) (fun C h => by cases h) (htsT _ a4)
  have hov : (Cond.arrayOver (.object "PortHouse$Rate")).before #[Value.ref b] s = true := hts _ (dp_tbl_in (q := 609) (by decide +kernel))
  obtain ⟨c5, hc5⟩ := dp_arrR hov
  have hst : ∀ j : Nat, ∃ a : Nat, ∀ o i, 0 < j → dp_jS[j]? = some (o, i) → (Term.string (dp_own o) i).eval #[Value.ref b] s none [] s = some (.ref a) := by
    intro j
    by_cases hj : 0 < j
    · cases hq : dp_jS[j]? with
      | none => exact ⟨0, fun o i _ h => by cases h⟩
      | some q =>
        obtain ⟨o, i⟩ := q
        have hm : (o, i) ∈ dp_jS.drop 1 := by
          obtain ⟨j', rfl⟩ : ∃ j', j = j' + 1 := ⟨j - 1, by omega⟩
          exact List.mem_of_getElem? (i := j') (by rw [List.getElem?_drop, Nat.add_comm]; exact hq)
        have h1 := of_decide_eq_true (List.all_eq_true.mp dp_S_ex _ hm)
        obtain ⟨a, cc, cA, kA, q1, -⟩ := Cond.exactly_spec (args := #[Value.ref b]) (first := s) (o := none) (s := s) (idx := []) (t := .string (dp_own o) i) (cls := "java/lang/String") (hfl _ h1)
        exact ⟨a, fun o' i' _ h => by cases h; exact q1⟩
    · exact ⟨0, fun o i h => absurd h hj⟩
  obtain ⟨sa0, hsa0⟩ := Classical.axiomOfChoice hst
  have hpos : ∀ o i j, dp_lkS o i = some j → 0 < j := by
    intro o i j h
    unfold dp_lkS at h
    have hp : (List.range dp_dS.length).all (fun o => (dp_dS.getD o []).all (fun q => decide (0 < q.2))) = true := by decide +kernel
    exact of_decide_eq_true (dp_getD_all (p := fun _ q => decide (0 < q.2)) hp (dp_look_in h))
  refine ⟨((fun k => (dd k).1, fun k => (dd k).2), fun t => if t = 1 then c1 else if t = 2 then c2 else if t = 3 then c3 else if t = 4 then c4 else c5), fun j => if j = 0 then b else sa0 j, ⟨⟨fun k q hq => hdd k q hq, ?_⟩, va_AO.of hov, ?_, ?_, ?_, ?_⟩, ⟨rfl, hbl, hX, ?_, ?_, s, #[Value.ref b], rfl, State.WarmedH.refl s, hgv, hts⟩, rfl, ?_⟩
  · intro k q hq
    match k, hq with
    | 0, hq => cases hq; exact hc1
    | 1, hq => cases hq; exact hc2
    | 2, hq => cases hq; exact hc3
    | 3, hq => cases hq; exact hc4
    | 4, hq => cases hq; exact hc5
    | k + 5, hq => simp [dp_tys] at hq
  · intro o i j h
    obtain ⟨h1, h2⟩ := dp_S_ok h
    have h3 := hpos o i j h
    have h4 := hts _ h2
    refine vk_R.of (A := #[Value.ref b]) h4 ?_
    show _ = some (Value.ref (if j = 0 then b else sa0 j))
    rw [if_neg (show ¬ j = 0 by omega)]
    exact hsa0 j o i h3 h1
  · intro w hw
    exact dp_xw_moved (Vm.Alike.refl _) hw (hts w (dp_xw_in w hw))
  · intro w hw
    have := hts w (dp_nw_in w hw)
    simp only [dp_nw, List.mem_cons, List.not_mem_nil, or_false] at hw
    rcases hw with rfl | rfl | rfl | rfl | rfl | rfl <;> exact va_Nw.of rfl this
  · intro i j hi hj hij
    exact va_Nc.of (hfl _ (dp_nc_in i j hi hj hij))
  · exact vx_Zqof (hts _ (dp_tbl_in (q := 1503) (by decide +kernel))) (hts _ (dp_tbl_in (q := 271) (by decide +kernel))) (hfl _ (by decide +kernel)) (fun a h1 h2 => by omega)
  · exact vx_Zqof (hts _ (dp_tbl_in (q := 1505) (by decide +kernel))) (hts _ (dp_tbl_in (q := 271) (by decide +kernel))) (hfl _ (by decide +kernel)) (fun a h1 h2 => by omega)
  · refine ⟨rfl, fun q _ => rfl, fun k hk => ?_, fun h => by (cases h), fun k _ => rfl⟩
    exfalso; apply hk
    unfold dp_t
    split
    · rfl
    · rfl
