-- needs: 71 72 73 74
/-! RATES: the class builds a Rate: rows -/
section BF
variable {md : Bool} {xs : Nat → Int32} {xl d : Nat} {F : dp_Phi} {mi : dp_Mi} {pc : Nat} {L : dp_L} {st : List Value} {M M' : dp_M} {i : Instr} {r : Option dp_Res}
theorem bf_nk {α : Type} {t : Nat} {x : Option α} (h : 246 ≤ dp_n M) : dp_nk M t x = x := by
  unfold dp_nk
  rw [if_neg (show ¬ dp_n M < dp_K0 from by show ¬ dp_n M < 246; omega)]
def bf_w (a : Nat) (b : dp_M) (g : Nat → dp_M → Option dp_Res) : Option dp_Res := g a b
theorem bf_na {c : Int32} {g : Nat → dp_M → Option dp_Res} (hF : dp_grow F) (hf : dp_ins mi pc = some (.newarray .int)) (h : ∀ p M', dp_lim md xs xl F mi (pc + 2, L, .ref p :: st, M') = g p M') : dp_lim md xs xl F mi (pc, L, .int c :: st, M) = if c < 0 ∨ 1000000 ≤ Int32.toNatClampNeg c then none else dp_nk M 1 (bf_w (dp_n M) (dp_new M (Int32.toNatClampNeg c) 1 (Int32.toNatClampNeg c)) g) := by
  rw [dp_s (E := fun k => if c < 0 ∨ 1000000 ≤ Int32.toNatClampNeg c then none else dp_nk M 1 (k (pc + 2, L, .ref (dp_n M) :: st, dp_new M (Int32.toNatClampNeg c) 1 (Int32.toNatClampNeg c)))) hF hf (fun _ => rfl), h]; rfl
theorem bf_nw {ix ci : Nat} (hF : dp_grow F) (hf : dp_ins mi pc = some (.new ix)) (hl : dp_lkN (dp_own1 mi) ix = some ci) (hn : 246 ≤ dp_n M) (h : dp_lim md xs xl F mi (pc + 3, L, .ref (dp_n M) :: st, dp_new M 0 (ci + 10) (dp_nf ci)) = r) : dp_lim md xs xl F mi (pc, L, st, M) = r := by
  rw [← h]
  have hk : ∀ k : dp_Cfg → Option dp_Res, dp_ex md xs xl F mi (.new ix) pc L st M k = k (pc + 3, L, .ref (dp_n M) :: st, dp_new M 0 (ci + 10) (dp_nf ci)) := by
    intro k
    simp only [dp_ex, dp_gr, hl, Option.isSome_some, if_true, dp_mk, bf_nk hn, dp_il]
  exact dp_s (E := fun k => k (pc + 3, L, .ref (dp_n M) :: st, dp_new M 0 (ci + 10) (dp_nf ci))) hF hf hk
theorem bf_if {c : Prop} [Decidable c] {cf : dp_Cfg} (hF : dp_grow F) (hf : dp_ins mi pc = some i) (he : ∀ k, dp_ex md xs xl F mi i pc L st M k = if c then k cf else none) (hc : c) (h : dp_lim md xs xl F mi cf = r) : dp_lim md xs xl F mi (pc, L, st, M) = r := by
  rw [dp_s (E := fun k => if c then k cf else none) hF hf he, if_pos hc, h]
theorem bf_ct {j : Nat} {as rest : List Value} (hF : dp_grow F) (hf : dp_ins mi pc = some i) (he : ∀ k, dp_ex md xs xl F mi i pc L st M k = dp_back0 pc L rest (F j as M) k) (hd : F j as M = some (.inl none, M')) (h : dp_lim md xs xl F mi (pc + 3, L, rest, M') = r) : dp_lim md xs xl F mi (pc, L, st, M) = r := by
  rw [dp_s (E := fun k => dp_back0 pc L rest (F j as M) k) hF hf he, hd]
  exact h
theorem bf_xt {α : Type} {n q p : Int32} {d s : Nat} {k : List Value → dp_M → Option α} (hs : dp_t md M s = 1) : dp_xt md 4 [.int n, .int q, .ref d, .int p, .ref s] M k = if dp_t md M d = 1 then (if n < 0 ∨ q < 0 ∨ p < 0 ∨ dp_ln md M s < p.toNatClampNeg + n.toNatClampNeg ∨ dp_ln md M d < q.toNatClampNeg + n.toNatClampNeg ∨ s = d then none else k [] (dp_cpI M s p.toNatClampNeg d q.toNatClampNeg n.toNatClampNeg)) else none := by
  simp only [dp_xt, hs]
  rw [if_pos (by decide)]
  by_cases hd : dp_t md M d = 1
  · simp only [hd, if_true]
  · rw [if_neg hd]
    by_cases hc : n < 0 ∨ q < 0 ∨ p < 0 ∨ dp_ln md M s < p.toNatClampNeg + n.toNatClampNeg ∨ dp_ln md M d < q.toNatClampNeg + n.toNatClampNeg ∨ s = d
    · rw [if_pos hc]
    · rw [if_neg hc]
      split
      · exact absurd ‹dp_t md M d = 1› hd
      · rename_i h1 _; cases h1
      · rfl
theorem bf_co {α : Type} {n : Int32} {s : Nat} {rest : List Value} {k : List Value → dp_M → Option α} (hr : (rest.map fun v => v.category).sum ≤ 8) (hs : dp_t md M s = 1) (hn : 246 ≤ dp_n M) (h : ¬ (n < 0 ∨ 1000000 ≤ n.toNatClampNeg ∨ 1000000 ≤ dp_ln md M s)) : dp_xt md 6 (.int n :: .ref s :: rest) M k = k (.ref (dp_n M) :: rest) (dp_cpI (dp_new M n.toNatClampNeg 1 n.toNatClampNeg) s 0 (dp_n M) 0 (min n.toNatClampNeg (dp_ln md M s))) := by
  show (if _ ≤ 8 then _ else none) = _
  rw [if_pos hr, if_neg h, hs]
  exact bf_nk hn
theorem bf_ac {n q p : Int32} {D S : Nat} {g : dp_M → Option dp_Res} (hs : dp_t md M S = 1) (hF : dp_grow F) (hf : dp_ins mi pc = some i) (he : ∀ k, dp_ex md xs xl F mi i pc L [.int n, .int q, .ref D, .int p, .ref S] M k = dp_xt md 4 [.int n, .int q, .ref D, .int p, .ref S] M (fun st' M' => k (pc + 3, L, st', M'))) (h : ∀ x, dp_lim md xs xl F mi (pc + 3, L, [], x) = g x) : dp_lim md xs xl F mi (pc, L, [.int n, .int q, .ref D, .int p, .ref S], M) = if dp_t md M D = 1 then (if n < 0 ∨ q < 0 ∨ p < 0 ∨ dp_ln md M S < p.toNatClampNeg + n.toNatClampNeg ∨ dp_ln md M D < q.toNatClampNeg + n.toNatClampNeg ∨ S = D then none else dp_w (dp_cpI M S p.toNatClampNeg D q.toNatClampNeg n.toNatClampNeg) g) else none :=
  dp_s6w (dp_cpI M S p.toNatClampNeg D q.toNatClampNeg n.toNatClampNeg) (fun x => (pc + 3, L, [], x)) hF hf (fun k => (he k).trans (bf_xt hs)) h
theorem bf_cr {n : Int32} {S : Nat} {rest : List Value} (hr : (rest.map fun v => v.category).sum ≤ 8) (hs : dp_t md M S = 1) (hn : 246 ≤ dp_n M) (h : ¬ (n < 0 ∨ 1000000 ≤ n.toNatClampNeg ∨ 1000000 ≤ dp_ln md M S)) (hF : dp_grow F) (hf : dp_ins mi pc = some i) (he : ∀ k, dp_ex md xs xl F mi i pc L (.int n :: .ref S :: rest) M k = dp_xt md 6 (.int n :: .ref S :: rest) M (fun st' M' => k (pc + 3, L, st', M'))) (h2 : dp_lim md xs xl F mi (pc + 3, L, .ref (dp_n M) :: rest, dp_cpI (dp_new M n.toNatClampNeg 1 n.toNatClampNeg) S 0 (dp_n M) 0 (min n.toNatClampNeg (dp_ln md M S))) = r) : dp_lim md xs xl F mi (pc, L, .int n :: .ref S :: rest, M) = r :=
  dp_s1 hF hf (fun k => (he k).trans (bf_co hr hs hn h)) h2
end BF
noncomputable def D_X7_builtFrom_0 (xs : Nat → Int32) (xl d : Nat) (v1 : Int32) (M : dp_M) : Option dp_Res := dp_lim true xs xl (dp_den true xs xl d) dp_m_X7_builtFrom (0, [some (.ref 68), some (.int v1), none, none, none], [], M)
noncomputable def D_X7_builtFrom_17 (xs : Nat → Int32) (xl d : Nat) (v1 : Int32) (p2 : Nat) (v3 : Int32) (u4 : Option Value) (M : dp_M) : Option dp_Res := dp_lim true xs xl (dp_den true xs xl d) dp_m_X7_builtFrom (17, [some (.ref 68), some (.int v1), some (.ref p2), some (.int v3), u4], [], M)
noncomputable def D_X7_builtFrom_90 (xs : Nat → Int32) (xl d : Nat) (v1 : Int32) (p2 : Nat) (v3 : Int32) (u4 : Option Value) (M : dp_M) : Option dp_Res := dp_lim true xs xl (dp_den true xs xl d) dp_m_X7_builtFrom (90, [some (.ref 68), some (.int v1), some (.ref p2), some (.int v3), u4], [], M)
theorem D_X7_builtFrom_0_den (xs : Nat → Int32) (xl d : Nat) (a0 : Int32) (M : dp_M) : dp_den true xs xl (d + 1) 168 [.ref 68, .int a0] M = D_X7_builtFrom_0 xs xl d a0 M := rfl
set_option maxRecDepth 20000 in
theorem D_X7_builtFrom_0_eq (xs : Nat → Int32) (xl d : Nat) (v1 : Int32) (M : dp_M) : D_X7_builtFrom_0 xs xl d v1 M = if ((dp_I M 68 10) * (7 : Int32)) < 0 ∨ 1000000 ≤ Int32.toNatClampNeg ((dp_I M 68 10) * (7 : Int32)) then none else dp_nk M 1 (bf_w (dp_n M) (dp_new M (Int32.toNatClampNeg ((dp_I M 68 10) * (7 : Int32))) 1 (Int32.toNatClampNeg ((dp_I M 68 10) * (7 : Int32)))) (fun q1 M2 => dp_bv (dp_den true xs xl d 170 [.ref 68, .int v1] M2) (fun M3 => dp_w (0 : Int32) (fun y4 => D_X7_builtFrom_17 xs xl d v1 q1 y4 none M3)))) := by
  have hF := dp_den_grow (md := true) (xs := xs) (xl := xl) d
  unfold D_X7_builtFrom_0
  refine dp_s1 hF (i := .aload_n 0) rfl (fun _ => rfl) ?_
  refine dp_s1 hF (i := .getfield 49) rfl (fun _ => rfl) ?_
  refine dp_s1 hF (i := .bipush 7) rfl (fun _ => rfl) ?_
  refine dp_s1 hF (i := .imul) rfl (fun _ => rfl) ?_
  refine bf_na hF rfl (fun q1 M2 => ?_)
  refine dp_s1 hF (i := .astore_n 2) rfl (fun _ => rfl) ?_
  refine dp_s1 hF (i := .aload_n 0) rfl (fun _ => rfl) ?_
  refine dp_s1 hF (i := .iload_n 1) rfl (fun _ => rfl) ?_
  refine dp_sv (mj := dp_m_X7_numberFrom) (i := .invokevirtual 152) rfl rfl rfl rfl (fun _ => rfl) (fun M3 => ?_)
  refine dp_s1 hF (i := .iconst 0) rfl (fun _ => rfl) ?_
  refine dp_s1w (0 : Int32) (fun (y4 : Int32) => (17, [some (.ref 68), some (.int v1), some (.ref q1), some (.int y4), none], [], M3)) hF (i := .istore_n 3) rfl (fun _ => rfl) (fun y4 => ?_)
  exact rfl
set_option maxRecDepth 20000 in
theorem D_X7_builtFrom_17_eq (xs : Nat → Int32) (xl d : Nat) (v1 : Int32) (p2 : Nat) (v3 : Int32) (u4 : Option Value) (M : dp_M) : D_X7_builtFrom_17 xs xl d v1 p2 v3 u4 M = if (dp_I M 68 10) ≤ v3 then (D_X7_builtFrom_90 xs xl d v1 p2 v3 u4 M) else (if v3 < 0 ∨ 60 ≤ Int32.toNatClampNeg v3 then none else (dp_w ((dp_I M 73 (Int32.toNatClampNeg v3)) * (7 : Int32)) (fun y1 => if dp_t true M p2 = 1 then (if (7 : Int32) < 0 ∨ y1 < 0 ∨ (v3 * (7 : Int32)) < 0 ∨ dp_ln true M 71 < Int32.toNatClampNeg (v3 * (7 : Int32)) + Int32.toNatClampNeg (7 : Int32) ∨ dp_ln true M p2 < Int32.toNatClampNeg y1 + Int32.toNatClampNeg (7 : Int32) ∨ (71 : Nat) = p2 then none else dp_w (dp_cpI M 71 (Int32.toNatClampNeg (v3 * (7 : Int32))) p2 (Int32.toNatClampNeg y1) (Int32.toNatClampNeg (7 : Int32))) (fun M2 => if dp_t true M2 p2 = 1 then (if (y1 + (3 : Int32)) < 0 ∨ dp_ln true M2 p2 ≤ Int32.toNatClampNeg (y1 + (3 : Int32)) then none else (dp_bi (dp_den true xs xl d 169 [.ref 68, .int (dp_I M2 p2 (Int32.toNatClampNeg (y1 + (3 : Int32))))] M2) (fun r4 M3 => if dp_t true M3 p2 = 1 then (if (y1 + (3 : Int32)) < 0 ∨ dp_ln true M3 p2 ≤ Int32.toNatClampNeg (y1 + (3 : Int32)) then none else dp_w (dp_setI M3 p2 (Int32.toNatClampNeg (y1 + (3 : Int32))) r4) (fun M5 => if dp_t true M5 p2 = 1 then (if (y1 + (4 : Int32)) < 0 ∨ dp_ln true M5 p2 ≤ Int32.toNatClampNeg (y1 + (4 : Int32)) then none else (dp_bi (dp_den true xs xl d 169 [.ref 68, .int (dp_I M5 p2 (Int32.toNatClampNeg (y1 + (4 : Int32))))] M5) (fun r7 M6 => if dp_t true M6 p2 = 1 then (if (y1 + (4 : Int32)) < 0 ∨ dp_ln true M6 p2 ≤ Int32.toNatClampNeg (y1 + (4 : Int32)) then none else dp_w (dp_setI M6 p2 (Int32.toNatClampNeg (y1 + (4 : Int32))) r7) (fun M8 => dp_w (v3 + (1 : Int32)) (fun y9 => D_X7_builtFrom_17 xs xl d v1 p2 y9 (some (.int y1)) M8))) else none))) else none)) else none))) else none)) else none))) := by
  have hF := dp_den_grow (md := true) (xs := xs) (xl := xl) d
  unfold D_X7_builtFrom_17
  refine dp_s1 hF (i := .iload_n 3) rfl (fun _ => rfl) ?_
  refine dp_s1 hF (i := .aload_n 0) rfl (fun _ => rfl) ?_
  refine dp_s1 hF (i := .getfield 49) rfl (fun _ => rfl) ?_
  refine dp_s2 hF (i := .if_icmp .ge 68) (a := (90, [some (.ref 68), some (.int v1), some (.ref p2), some (.int v3), u4], [], M)) (b := (25, [some (.ref 68), some (.int v1), some (.ref p2), some (.int v3), u4], [], M)) rfl (fun _ => rfl) ?_ ?_
  · exact rfl
  refine dp_s1 hF (i := .aload_n 0) rfl (fun _ => rfl) ?_
  refine dp_s1 hF (i := .getfield 31) rfl (fun _ => rfl) ?_
  refine dp_s1 hF (i := .iload_n 3) rfl (fun _ => rfl) ?_
  refine dp_s3 hF (i := .iaload) rfl (fun _ => rfl) ?_
  refine dp_s1 hF (i := .bipush 7) rfl (fun _ => rfl) ?_
  refine dp_s1 hF (i := .imul) rfl (fun _ => rfl) ?_
  refine dp_s1w ((dp_I M 73 (Int32.toNatClampNeg v3)) * (7 : Int32)) (fun (y1 : Int32) => (36, [some (.ref 68), some (.int v1), some (.ref p2), some (.int v3), some (.int y1)], [], M)) hF (i := .istore 4) rfl (fun _ => rfl) (fun y1 => ?_)
  refine dp_s1 hF (i := .aload_n 0) rfl (fun _ => rfl) ?_
  refine dp_s1 hF (i := .getfield 24) rfl (fun _ => rfl) ?_
  refine dp_s1 hF (i := .iload_n 3) rfl (fun _ => rfl) ?_
  refine dp_s1 hF (i := .bipush 7) rfl (fun _ => rfl) ?_
  refine dp_s1 hF (i := .imul) rfl (fun _ => rfl) ?_
  refine dp_s1 hF (i := .aload_n 2) rfl (fun _ => rfl) ?_
  refine dp_s1 hF (i := .iload 4) rfl (fun _ => rfl) ?_
  refine dp_s1 hF (i := .bipush 7) rfl (fun _ => rfl) ?_
  refine bf_ac rfl hF (i := .invokestatic 156) rfl (fun _ => rfl) (fun M2 => ?_)
  refine dp_s1 hF (i := .aload_n 2) rfl (fun _ => rfl) ?_
  refine dp_s1 hF (i := .iload 4) rfl (fun _ => rfl) ?_
  refine dp_s1 hF (i := .iconst 3) rfl (fun _ => rfl) ?_
  refine dp_s1 hF (i := .iadd) rfl (fun _ => rfl) ?_
  refine dp_s1 hF (i := .aload_n 0) rfl (fun _ => rfl) ?_
  refine dp_s1 hF (i := .aload_n 2) rfl (fun _ => rfl) ?_
  refine dp_s1 hF (i := .iload 4) rfl (fun _ => rfl) ?_
  refine dp_s1 hF (i := .iconst 3) rfl (fun _ => rfl) ?_
  refine dp_s1 hF (i := .iadd) rfl (fun _ => rfl) ?_
  refine dp_s6 hF (i := .iaload) rfl (fun _ => rfl) ?_
  refine dp_si (mj := dp_m_X7_numberOf) (i := .invokevirtual 162) rfl rfl (Or.inl rfl) rfl (fun _ => rfl) (fun r4 M3 => ?_)
  refine dp_s6w (dp_setI M3 p2 (Int32.toNatClampNeg (y1 + (3 : Int32))) r4) (fun (M5 : dp_M) => (68, [some (.ref 68), some (.int v1), some (.ref p2), some (.int v3), some (.int y1)], [], M5)) hF (i := .iastore) rfl (fun _ => rfl) (fun M5 => ?_)
  refine dp_s1 hF (i := .aload_n 2) rfl (fun _ => rfl) ?_
  refine dp_s1 hF (i := .iload 4) rfl (fun _ => rfl) ?_
  refine dp_s1 hF (i := .iconst 4) rfl (fun _ => rfl) ?_
  refine dp_s1 hF (i := .iadd) rfl (fun _ => rfl) ?_
  refine dp_s1 hF (i := .aload_n 0) rfl (fun _ => rfl) ?_
  refine dp_s1 hF (i := .aload_n 2) rfl (fun _ => rfl) ?_
  refine dp_s1 hF (i := .iload 4) rfl (fun _ => rfl) ?_
  refine dp_s1 hF (i := .iconst 4) rfl (fun _ => rfl) ?_
  refine dp_s1 hF (i := .iadd) rfl (fun _ => rfl) ?_
  refine dp_s6 hF (i := .iaload) rfl (fun _ => rfl) ?_
  refine dp_si (mj := dp_m_X7_numberOf) (i := .invokevirtual 162) rfl rfl (Or.inl rfl) rfl (fun _ => rfl) (fun r7 M6 => ?_)
  refine dp_s6w (dp_setI M6 p2 (Int32.toNatClampNeg (y1 + (4 : Int32))) r7) (fun (M8 : dp_M) => (84, [some (.ref 68), some (.int v1), some (.ref p2), some (.int v3), some (.int y1)], [], M8)) hF (i := .iastore) rfl (fun _ => rfl) (fun M8 => ?_)
  refine dp_s1w (v3 + (1 : Int32)) (fun (y9 : Int32) => (87, [some (.ref 68), some (.int v1), some (.ref p2), some (.int y9), some (.int y1)], [], M8)) hF (i := .iinc 3 1) rfl (fun _ => rfl) (fun y9 => ?_)
  refine dp_s1 hF (i := .goto (-70)) rfl (fun _ => rfl) ?_
  exact rfl
section BG
variable {xs : Nat → Int32} {xl d : Nat} {M : dp_M}
/-- the constructor of Rate -/
theorem c_rate {q f s : Nat} {n u : Int32} (hq : 246 ≤ q) (ht : dp_tag M q = 16) : dp_den true xs xl (d + 1) 134 [.ref q, .int n, .int u, .ref f, .ref s] M = vR (dp_setR (dp_setR (dp_setI (dp_setI M q 0 n) q 1 u) q 2 (some f)) q 3 (some s)) := by
  have hF := dp_den_grow (md := true) (xs := xs) (xl := xl) d
  have T : ∀ N : dp_M, dp_tag N q = 16 → dp_t true N q = 6 + 10 := fun N h => by
    unfold dp_t
    rw [if_neg (show ¬ q < dp_K0 from by show ¬ q < 246; omega)]
    exact h
  show dp_lim true xs xl (dp_den true xs xl d) dp_m_X6_init (0, [some (.ref q), some (.int n), some (.int u), some (.ref f), some (.ref s)], [], M) = _
  refine dp_s1 hF (i := .aload_n 0) rfl (fun _ => rfl) ?_
  refine dp_s1 hF (i := .invokespecial 1) rfl (fun _ => rfl) ?_
  refine dp_s1 hF (i := .aload_n 0) rfl (fun _ => rfl) ?_
  refine dp_s1 hF (i := .iload_n 1) rfl (fun _ => rfl) ?_
  refine bf_if hF (i := .putfield 7) (c := dp_t true M q = 6 + 10 ∧ dp_fk 6 0 = 0) (cf := (9, [some (.ref q), some (.int n), some (.int u), some (.ref f), some (.ref s)], [], dp_setI M q 0 n)) rfl (fun _ => rfl) ⟨T _ ht, rfl⟩ ?_
  refine dp_s1 hF (i := .aload_n 0) rfl (fun _ => rfl) ?_
  refine dp_s1 hF (i := .iload_n 2) rfl (fun _ => rfl) ?_
  refine bf_if hF (i := .putfield 13) (c := dp_t true (dp_setI M q 0 n) q = 6 + 10 ∧ dp_fk 6 1 = 0) (cf := (14, [some (.ref q), some (.int n), some (.int u), some (.ref f), some (.ref s)], [], dp_setI (dp_setI M q 0 n) q 1 u)) rfl (fun _ => rfl) ⟨T _ ht, rfl⟩ ?_
  refine dp_s1 hF (i := .aload_n 0) rfl (fun _ => rfl) ?_
  refine dp_s1 hF (i := .aload_n 3) rfl (fun _ => rfl) ?_
  refine bf_if hF (i := .putfield 16) (c := (dp_t true (dp_setI (dp_setI M q 0 n) q 1 u) q = 6 + 10 ∧ dp_fk 6 2 = 2) ∧ (true = false ∨ dp_K0 ≤ q)) (cf := (19, [some (.ref q), some (.int n), some (.int u), some (.ref f), some (.ref s)], [], dp_setR (dp_setI (dp_setI M q 0 n) q 1 u) q 2 (some f))) rfl (fun _ => rfl) ⟨⟨T _ ht, rfl⟩, Or.inr hq⟩ ?_
  refine dp_s1 hF (i := .aload_n 0) rfl (fun _ => rfl) ?_
  refine dp_s1 hF (i := .aload 4) rfl (fun _ => rfl) ?_
  refine bf_if hF (i := .putfield 20) (c := (dp_t true (dp_setR (dp_setI (dp_setI M q 0 n) q 1 u) q 2 (some f)) q = 6 + 10 ∧ dp_fk 6 3 = 2) ∧ (true = false ∨ dp_K0 ≤ q)) (cf := (25, [some (.ref q), some (.int n), some (.int u), some (.ref f), some (.ref s)], [], dp_setR (dp_setR (dp_setI (dp_setI M q 0 n) q 1 u) q 2 (some f)) q 3 (some s))) rfl (fun _ => rfl) ⟨⟨T _ ht, rfl⟩, Or.inr hq⟩ ?_
  exact dp_s0 hF (i := .return_) rfl (fun _ => rfl)
/-- the end of builtFrom: the new Rate, its steps copied -/
def bfE (M : dp_M) (p2 s : Nat) : dp_M := dp_setR (dp_setR (dp_setI (dp_setI (dp_cpI (dp_new (dp_new M 0 16 (dp_nf 6)) s 1 s) 72 0 (dp_n M + 1) 0 (min s 400)) (dp_n M) 0 (dp_I M 68 10)) (dp_n M) 1 (dp_I M 68 12)) (dp_n M) 2 (some p2)) (dp_n M) 3 (some (dp_n M + 1))
theorem c_bend {v1 v3 : Int32} {u4 : Option Value} {p2 s : Nat} (hn : 246 ≤ dp_n M) (hs : Int32.toNatClampNeg (dp_I M 68 11 * 2) = s) (h0 : ¬ dp_I M 68 11 * 2 < 0) (h1 : s < 1000000) : D_X7_builtFrom_90 xs xl (d + 1) v1 p2 v3 u4 M = some (.inl (some (.ref (dp_n M))), bfE M p2 s) := by
  have hF := dp_den_grow (md := true) (xs := xs) (xl := xl) (d + 1)
  unfold D_X7_builtFrom_90
  refine bf_nw hF (ix := 22) (ci := 6) rfl rfl hn ?_
  have e68 : ∀ j, dp_I (dp_new M 0 (6 + 10) (dp_nf 6)) 68 j = dp_I M 68 j := fun j => by rw [gIN (by omega)]
  obtain ⟨N, hN⟩ : ∃ N, N = dp_new M 0 (6 + 10) (dp_nf 6) := ⟨_, rfl⟩
  have nN : dp_n N = dp_n M + 1 := by rw [hN]; rfl
  rw [← hN] at e68 ⊢
  refine dp_s1 hF (i := .dup) rfl (fun _ => rfl) ?_
  refine dp_s1 hF (i := .aload_n 0) rfl (fun _ => rfl) ?_
  refine dp_s1 hF (i := .getfield 49) rfl (fun _ => rfl) ?_
  refine dp_s1 hF (i := .aload_n 0) rfl (fun _ => rfl) ?_
  refine dp_s1 hF (i := .getfield 55) rfl (fun _ => rfl) ?_
  refine dp_s1 hF (i := .aload_n 2) rfl (fun _ => rfl) ?_
  refine dp_s1 hF (i := .aload_n 0) rfl (fun _ => rfl) ?_
  refine dp_s1 hF (i := .getfield 28) rfl (fun _ => rfl) ?_
  refine dp_s1 hF (i := .aload_n 0) rfl (fun _ => rfl) ?_
  refine dp_s1 hF (i := .getfield 52) rfl (fun _ => rfl) ?_
  refine dp_s1 hF (i := .iconst 2) rfl (fun _ => rfl) ?_
  refine dp_s1 hF (i := .imul) rfl (fun _ => rfl) ?_
  refine bf_cr (Nat.le_of_ble_eq_true rfl) rfl (by omega) ?_ hF (i := .invokestatic 165) rfl (fun _ => rfl) ?_
  · show ¬ (dp_I N 68 11 * 2 < 0 ∨ 1000000 ≤ (dp_I N 68 11 * 2).toNatClampNeg ∨ 1000000 ≤ dp_ln true N 72)
    rw [e68, hs]; exact fun h => h.elim h0 (fun h => h.elim (fun h => absurd h (by omega)) (fun h => absurd (show 1000000 ≤ 400 from h) (by decide)))
  have hq : dp_tag (dp_cpI (dp_new N (dp_I N 68 11 * 2).toNatClampNeg 1 (dp_I N 68 11 * 2).toNatClampNeg) 72 0 (dp_n N) 0 (min (dp_I N 68 11 * 2).toNatClampNeg (dp_ln true N 72))) (dp_n M) = 16 := by
    show dp_tag (dp_new N _ 1 _) (dp_n M) = 16
    rw [gtN (by omega), hN]
    exact if_pos rfl
  refine bf_ct hF (i := .invokespecial 171) (j := 134) rfl (fun _ => rfl) (c_rate (n := dp_I N 68 10) (u := dp_I N 68 12) (f := p2) (s := dp_n N) hn hq) ?_
  refine (dp_s0 hF (i := .areturn) rfl (fun _ => rfl)).trans ?_
  show (some (Sum.inl (some (Value.ref (dp_n M))), dp_setR (dp_setR (dp_setI (dp_setI (dp_cpI (dp_new N (dp_I N 68 11 * 2).toNatClampNeg 1 (dp_I N 68 11 * 2).toNatClampNeg) 72 0 (dp_n N) 0 (min (dp_I N 68 11 * 2).toNatClampNeg (dp_ln true N 72))) (dp_n M) 0 (dp_I N 68 10)) (dp_n M) 1 (dp_I N 68 12)) (dp_n M) 2 (some p2)) (dp_n M) 3 (some (dp_n N))) : Option dp_Res) = _
  rw [e68, e68, e68, hs, nN, hN]
  rfl
end BG
