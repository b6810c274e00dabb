-- needs: 71 72 73 74
/-! RATES: the model numbers the nodes -/
section RY
variable {xs : Nat → Int32} {xl d : Nat} {M : dp_M}
/-- k steps of node x at node y too -/
def cpM (N : dp_M) (x y k : Nat) : dp_M := rI (rI N 180 (fN (dp_I N 180) (y * 6) k (fun q => dp_I N 180 (x * 6 + q)))) 181 (fN (dp_I N 181) (y * 6) k (fun q => dp_I N 181 (x * 6 + q)))
theorem cpM_I {x y k : Nat} (K : Nat) (h1 : K ≠ 180) (h2 : K ≠ 181) : dp_I (cpM M x y k) K = dp_I M K := by unfold cpM; rw [rI_I, if_neg h2, rI_I, if_neg h1]
theorem cpM_180 {x y k : Nat} : dp_I (cpM M x y k) 180 = fN (dp_I M 180) (y * 6) k (fun q => dp_I M 180 (x * 6 + q)) := by unfold cpM; rw [rI_I, if_neg (by decide), rI_I, if_pos rfl]
theorem cpM_181 {x y k : Nat} : dp_I (cpM M x y k) 181 = fN (dp_I M 181) (y * 6) k (fun q => dp_I M 181 (x * 6 + q)) := by unfold cpM; rw [rI_I, if_pos rfl]
theorem cpM_s {x y k : Nat} : dp_setI (dp_setI (cpM M x y k) 180 (y * 6 + k) (dp_I M 180 (x * 6 + k))) 181 (y * 6 + k) (dp_I M 181 (x * 6 + k)) = cpM M x y (k + 1) := mext (fun K => by
  by_cases z : K = 181
  · subst z; rw [gII, if_pos rfl, gII, if_neg (by decide), cpM_181, cpM_181, ← fN_s]
  · by_cases y' : K = 180
    · subst y'; rw [gII, if_neg (by decide), gII, if_pos rfl, cpM_180, cpM_180, ← fN_s]
    · rw [gII, if_neg z, gII, if_neg y', cpM_I K y' z, cpM_I K y' z]) (fun K => by rw [gJI, gJI]; rfl) rfl
theorem cpM_0 {x y : Nat} : cpM M x y 0 = M := mext (fun K => by
  by_cases z : K = 181
  · subst z; rw [cpM_181, fN_0]
  · by_cases y' : K = 180
    · subst y'; rw [cpM_180, fN_0]
    · rw [cpM_I K y' z]) (fun K => rfl) rfl
theorem m_cps {v1 v2 v3 : Int32} {x y R : Nat} {r : dp_Res} (hx : x < 60) (hy : 60 ≤ y) (hy2 : y < 120) (hR : R ≤ 6) (h : ∀ k, k < R → ¬ dp_I M 179 x ≤ nI k) (hr : D_X12_numbers_127 xs xl d v1 v2 v3 (nI x) (nI y) (nI R) (cpM M x y R) = some r) : D_X12_numbers_127 xs xl d v1 v2 v3 (nI x) (nI y) 0 M = some r := by
  have key := lpb (F := fun (_ : Nat) k => D_X12_numbers_127 xs xl d v1 v2 v3 (nI x) (nI y) (nI k) (cpM M x y k)) (s := fun _ => 0) (N := R) (r := r) hr (fun k hk e => ?_)
  · (try dsimp only at key)
    rw [cpM_0] at key; exact key
  · (try dsimp only at e); (try dsimp only)
    have e179 : dp_I (cpM M x y k) 179 x = dp_I M 179 x := by rw [cpM_I _ (by decide) (by decide)]
    have e180 : dp_I (cpM M x y k) 180 (x * 6 + k) = dp_I M 180 (x * 6 + k) := by rw [cpM_180, fN_lt (by omega)]
    have e181 : dp_I (dp_setI (cpM M x y k) 180 (y * 6 + k) (dp_I M 180 (x * 6 + k))) 181 (x * 6 + k) = dp_I M 181 (x * 6 + k) := by rw [gII, if_neg (by decide), cpM_181, fN_lt (by omega)]
    rw [D_X12_numbers_127_eq]
    simp only [nI_cl (show x < 2147483648 by omega), nI_o (show x < 120 by omega) (by omega), if_false, e179, t_6, nI_cl (show x * 6 + k < 2147483648 by omega), nI_o (show x * 6 + k < 720 by omega) (by omega), nI_cl (show y * 6 + k < 2147483648 by omega), nI_o (show y * 6 + k < 720 by omega) (by omega), dp_w, nI_1, e180, e181]
    rw [if_neg (h k hk), cpM_s]; exact e
/-- a node is copied -/
def cnM (N : dp_M) (x j R : Nat) : dp_M := cpM (dp_setI (dp_setI (dp_setI (dp_setI (dp_setI (dp_setI (dp_setI N 187 x (nI j)) 174 (60 + j) (dp_I N 174 x)) 175 (60 + j) (dp_I N 175 x)) 176 (60 + j) (dp_I N 176 x)) 177 (60 + j) (dp_I N 177 x)) 178 (60 + j) (dp_I N 178 x)) 179 (60 + j) (dp_I N 179 x)) x (60 + j) R
theorem cnM_n {x j R : Nat} : dp_I (cnM M x j R) 174 = uI (dp_I M 174) (60 + j) (dp_I M 174 x) ∧ dp_I (cnM M x j R) 175 = uI (dp_I M 175) (60 + j) (dp_I M 175 x) ∧ dp_I (cnM M x j R) 176 = uI (dp_I M 176) (60 + j) (dp_I M 176 x) ∧ dp_I (cnM M x j R) 177 = uI (dp_I M 177) (60 + j) (dp_I M 177 x) ∧ dp_I (cnM M x j R) 178 = uI (dp_I M 178) (60 + j) (dp_I M 178 x) ∧ dp_I (cnM M x j R) 179 = uI (dp_I M 179) (60 + j) (dp_I M 179 x) ∧ dp_I (cnM M x j R) 187 = uI (dp_I M 187) x (nI j) ∧ dp_I (cnM M x j R) 180 = fN (dp_I M 180) ((60 + j) * 6) R (fun q => dp_I M 180 (x * 6 + q)) ∧ dp_I (cnM M x j R) 181 = fN (dp_I M 181) ((60 + j) * 6) R (fun q => dp_I M 181 (x * 6 + q)) := by
  unfold cnM
  refine ⟨?_, ?_, ?_, ?_, ?_, ?_, ?_, ?_, ?_⟩
  · rw [cpM_I _ (by decide) (by decide)]; simp only [gII, Nat.reduceEqDiff, if_true, if_false]
  · rw [cpM_I _ (by decide) (by decide)]; simp only [gII, Nat.reduceEqDiff, if_true, if_false]
  · rw [cpM_I _ (by decide) (by decide)]; simp only [gII, Nat.reduceEqDiff, if_true, if_false]
  · rw [cpM_I _ (by decide) (by decide)]; simp only [gII, Nat.reduceEqDiff, if_true, if_false]
  · rw [cpM_I _ (by decide) (by decide)]; simp only [gII, Nat.reduceEqDiff, if_true, if_false]
  · rw [cpM_I _ (by decide) (by decide)]; simp only [gII, Nat.reduceEqDiff, if_true, if_false]
  · rw [cpM_I _ (by decide) (by decide)]; simp only [gII, Nat.reduceEqDiff, if_true, if_false]
  · rw [cpM_180]; simp only [gII, Nat.reduceEqDiff, if_false]
  · rw [cpM_181]; simp only [gII, Nat.reduceEqDiff, if_false]
theorem cnM_o {x j R K : Nat} (h : K ∉ [174, 175, 176, 177, 178, 179, 180, 181, 187]) : dp_I (cnM M x j R) K = dp_I M K := by
  simp only [List.mem_cons, List.not_mem_nil, or_false, not_or] at h
  obtain ⟨k1, k2, k3, k4, k5, k6, k7, k8, k9⟩ := h
  unfold cnM
  rw [cpM_I _ k7 k8, gII, if_neg k6, gII, if_neg k5, gII, if_neg k4, gII, if_neg k3, gII, if_neg k2, gII, if_neg k1, gII, if_neg k9]
theorem cnM_off {x j R : Nat} : Off [174, 175, 176, 177, 178, 179, 180, 181, 186, 187] [] M (cnM M x j R) := by
  unfold cnM cpM
  exact (((((((((Off.rr _ _ M).I 187 (by decide) _ _).I 174 (by decide) _ _).I 175 (by decide) _ _).I 176 (by decide) _ _).I 177 (by decide) _ _).I 178 (by decide) _ _).I 179 (by decide) _ _).rI 180 (by decide) _).rI 181 (by decide) _
theorem rdN_fn {N : dp_M} {y R : Nat} {a b u l r : Int32} {f g : Nat → Int32} (h0 : dp_I N 174 y = a) (h1 : dp_I N 175 y = b) (h2 : dp_I N 176 y = u) (h3 : dp_I N 177 y = l) (h4 : dp_I N 178 y = r) (h5 : (dp_I N 179 y).toNatClampNeg = R) (h6 : ∀ k, k < R → dp_I N 180 (y * 6 + k) = f k ∧ dp_I N 181 (y * 6 + k) = g k) : rdN N y = ((a, b, u, (List.range R).map (fun k => (f k, g k))), l, r) := by
  have e : rwN N y = (List.range R).map (fun k => (f k, g k)) := by
    unfold rwN; rw [h5]
    refine List.map_congr_left (fun k hk => ?_)
    have := List.mem_range.mp hk
    rw [(h6 k this).1, (h6 k this).2]
  unfold rdN; rw [e, h0, h1, h2, h3, h4]
/-- the copy, and what stays -/
theorem cnM_rd {x j R : Nat} (hx : x < 60) (hR : (dp_I M 179 x).toNatClampNeg = R) (hR6 : R ≤ 6) : rdN (cnM M x j R) (60 + j) = rdN M x ∧ (∀ y, y ≠ 60 + j → tN (dp_I M 179 y) ≤ 6 → rdN (cnM M x j R) y = rdN M y) := by
  obtain ⟨e1, e2, e3, e4, e5, e6, e7, e8, e9⟩ := cnM_n (M := M) (x := x) (j := j) (R := R)
  constructor
  · have lhs : rdN M x = ((dp_I M 174 x, dp_I M 175 x, dp_I M 176 x, (List.range R).map (fun k => (dp_I M 180 (x * 6 + k), dp_I M 181 (x * 6 + k)))), dp_I M 177 x, dp_I M 178 x) := rdN_fn rfl rfl rfl rfl rfl hR (fun k _ => ⟨rfl, rfl⟩)
    rw [lhs]
    exact rdN_fn (by rw [e1, uI_s]) (by rw [e2, uI_s]) (by rw [e3, uI_s]) (by rw [e4, uI_s]) (by rw [e5, uI_s]) (by rw [e6, uI_s, hR]) (fun k hk => ⟨by rw [e8, fN_in hk], by rw [e9, fN_in hk]⟩)
  · intro y hy h6
    have h6' := tN_ge (dp_I M 179 y)
    have lhs : rdN M y = ((dp_I M 174 y, dp_I M 175 y, dp_I M 176 y, (List.range (dp_I M 179 y).toNatClampNeg).map (fun k => (dp_I M 180 (y * 6 + k), dp_I M 181 (y * 6 + k)))), dp_I M 177 y, dp_I M 178 y) := rdN_fn rfl rfl rfl rfl rfl rfl (fun k _ => ⟨rfl, rfl⟩)
    rw [lhs]
    refine rdN_fn (by rw [e1, uI_n hy]) (by rw [e2, uI_n hy]) (by rw [e3, uI_n hy]) (by rw [e4, uI_n hy]) (by rw [e5, uI_n hy]) (by rw [e6, uI_n hy]) (fun k hk => ?_)
    rw [e8, e9]
    by_cases z : y < 60 + j
    · rw [fN_lt (by omega), fN_lt (by omega)]; exact ⟨rfl, rfl⟩
    · rw [fN_ge (by omega), fN_ge (by omega)]; exact ⟨rfl, rfl⟩
theorem dpw {α : Type} (x : α) (f : α → Option dp_Res) : dp_w x f = f x := rfl
theorem m_set7 {N : dp_M} {v1 : Int32} {x j S : Nat} (hS : S < 60) (hx : x < 60) (hj : j < 60) (k1 : dp_I N 186 S = nI x) : D_X12_numbers_11 xs xl d v1 (nI j) (nI (S + 1)) N = D_X12_numbers_127 xs xl d v1 (nI j) (nI S) (nI x) (nI (60 + j)) 0 (dp_setI (dp_setI (dp_setI (dp_setI (dp_setI (dp_setI (dp_setI N 187 x (nI j)) 174 (60 + j) (dp_I N 174 x)) 175 (60 + j) (dp_I N 175 x)) 176 (60 + j) (dp_I N 176 x)) 177 (60 + j) (dp_I N 177 x)) 178 (60 + j) (dp_I N 178 x)) 179 (60 + j) (dp_I N 179 x)) := by
  have a1 : nI (S + 1) + (-1 : Int32) = nI S := by rw [← Int32.sub_eq_add_neg, nI_pred]
  have a2 : (60 : Int32) + nI j = nI (60 + j) := by rw [show (60 : Int32) = nI 60 from rfl, nI_add]
  have xb6 : ¬ (nI x < 0 ∨ 60 ≤ (nI x).toNatClampNeg) := by rw [nI_cl (by omega)]; exact fun q => q.elim (r_nn (by omega)) (by omega)
  have xb : ¬ (nI x < 0 ∨ 120 ≤ x) := by exact fun q => q.elim (r_nn (by omega)) (by omega)
  have yb : ¬ (nI (60 + j) < 0 ∨ 120 ≤ 60 + j) := by exact fun q => q.elim (r_nn (by omega)) (by omega)
  have sb : ¬ (nI S < 0 ∨ 400 ≤ (nI S).toNatClampNeg) := by rw [nI_cl (by omega)]; exact fun q => q.elim (r_nn (by omega)) (by omega)
  have cS : (nI S).toNatClampNeg = S := nI_cl (by omega)
  have cx : (nI x).toNatClampNeg = x := nI_cl (by omega)
  have cy : (nI (60 + j)).toNatClampNeg = 60 + j := nI_cl (by omega)
  rw [D_X12_numbers_11_eq, if_neg (show ¬ nI (S + 1) ≤ 0 from nI_ge (a := 0) (b := S + 1) (by omega) (by omega)), dpw, a1, if_neg sb, dpw, cS, k1, dpw, a2, if_neg xb6, dpw, cx, cy]
  obtain ⟨M5, h5⟩ : ∃ M5, M5 = dp_setI N 187 x (nI j) := ⟨_, rfl⟩
  rw [← h5, if_neg xb, if_neg yb, dpw]
  obtain ⟨M6, h6⟩ : ∃ M6, M6 = dp_setI M5 174 (60 + j) (dp_I M5 174 x) := ⟨_, rfl⟩
  rw [← h6, if_neg xb, if_neg yb, dpw]
  obtain ⟨M7, h7⟩ : ∃ M7, M7 = dp_setI M6 175 (60 + j) (dp_I M6 175 x) := ⟨_, rfl⟩
  rw [← h7, if_neg xb, if_neg yb, dpw]
  obtain ⟨M8, h8⟩ : ∃ M8, M8 = dp_setI M7 176 (60 + j) (dp_I M7 176 x) := ⟨_, rfl⟩
  rw [← h8, if_neg xb, if_neg yb, dpw]
  obtain ⟨M9, h9⟩ : ∃ M9, M9 = dp_setI M8 177 (60 + j) (dp_I M8 177 x) := ⟨_, rfl⟩
  rw [← h9, if_neg xb, if_neg yb, dpw]
  obtain ⟨M10, h10⟩ : ∃ M10, M10 = dp_setI M9 178 (60 + j) (dp_I M9 178 x) := ⟨_, rfl⟩
  rw [← h10, if_neg xb, if_neg yb, dpw]
  obtain ⟨M11, h11⟩ : ∃ M11, M11 = dp_setI M10 179 (60 + j) (dp_I M10 179 x) := ⟨_, rfl⟩
  rw [← h11, dpw]
  have r5 : ∀ K, K ≠ 187 → dp_I M5 K = dp_I N K := fun K k => by rw [h5, gII, if_neg k]
  have r6 : ∀ K, K ≠ 174 → dp_I M6 K = dp_I M5 K := fun K k => by rw [h6, gII, if_neg k]
  have r7 : ∀ K, K ≠ 175 → dp_I M7 K = dp_I M6 K := fun K k => by rw [h7, gII, if_neg k]
  have r8 : ∀ K, K ≠ 176 → dp_I M8 K = dp_I M7 K := fun K k => by rw [h8, gII, if_neg k]
  have r9 : ∀ K, K ≠ 177 → dp_I M9 K = dp_I M8 K := fun K k => by rw [h9, gII, if_neg k]
  have r10 : ∀ K, K ≠ 178 → dp_I M10 K = dp_I M9 K := fun K k => by rw [h10, gII, if_neg k]
  have q6 : dp_I M5 174 x = dp_I N 174 x := by rw [r5 _ (by decide)]
  have q7 : dp_I M6 175 x = dp_I N 175 x := by rw [r6 _ (by decide), r5 _ (by decide)]
  have q8 : dp_I M7 176 x = dp_I N 176 x := by rw [r7 _ (by decide), r6 _ (by decide), r5 _ (by decide)]
  have q9 : dp_I M8 177 x = dp_I N 177 x := by rw [r8 _ (by decide), r7 _ (by decide), r6 _ (by decide), r5 _ (by decide)]
  have q10 : dp_I M9 178 x = dp_I N 178 x := by rw [r9 _ (by decide), r8 _ (by decide), r7 _ (by decide), r6 _ (by decide), r5 _ (by decide)]
  have q11 : dp_I M10 179 x = dp_I N 179 x := by rw [r10 _ (by decide), r9 _ (by decide), r8 _ (by decide), r7 _ (by decide), r6 _ (by decide), r5 _ (by decide)]
  rw [h11, q11, h10, q10, h9, q9, h8, q8, h7, q7, h6, q6, h5]
theorem m_one {N : dp_M} {v1 : Int32} {x j S R : Nat} (hS : S < 60) (hx : x < 60) (hj : j < 60) (R6 : R ≤ 6) (k1 : dp_I N 186 S = nI x) (eR : ∀ k, k < R → ¬ dp_I N 179 x ≤ nI k) (eR2 : dp_I N 179 x ≤ nI R) : ∀ rr, (if dp_I N 177 x = (-1 : Int32) then (D_X12_numbers_11_a xs xl d v1 (nI (j + 1)) (nI S) (nI x) (nI (60 + j)) (nI R) (cnM N x j R)) else (D_X12_numbers_11_a xs xl d v1 (nI (j + 1)) (nI (S + 2)) (nI x) (nI (60 + j)) (nI R) (dp_setI (dp_setI (cnM N x j R) 186 S (dp_I N 178 x)) 186 (S + 1) (dp_I N 177 x)))) = some rr → D_X12_numbers_11 xs xl d v1 (nI j) (nI (S + 1)) N = some rr := fun rr e => by
  have a3 : nI S + (2 : Int32) = nI (S + 2) := by rw [show (2 : Int32) = nI 2 from rfl, nI_add]
  rw [m_set7 hS hx hj k1]
  obtain ⟨Z, hZ⟩ : ∃ Z, Z = dp_setI (dp_setI (dp_setI (dp_setI (dp_setI (dp_setI (dp_setI N 187 x (nI j)) 174 (60 + j) (dp_I N 174 x)) 175 (60 + j) (dp_I N 175 x)) 176 (60 + j) (dp_I N 176 x)) 177 (60 + j) (dp_I N 177 x)) 178 (60 + j) (dp_I N 178 x)) 179 (60 + j) (dp_I N 179 x) := ⟨_, rfl⟩
  have eC : cpM Z x (60 + j) R = cnM N x j R := by rw [hZ]; rfl
  have z179 : dp_I Z 179 x = dp_I N 179 x := by
    rw [hZ, gII, if_pos rfl, uI_n (by omega)]
    simp only [gII, Nat.reduceEqDiff, if_false]
  rw [← hZ]
  refine m_cps hx (by omega) (by omega) R6 (fun k hk => by rw [z179]; exact eR k hk) ?_
  obtain ⟨c1, c2, c3, c4, c5, c6, c7, c8, c9⟩ := cnM_n (M := N) (x := x) (j := j) (R := R)
  rw [eC, D_X12_numbers_127_eq]
  generalize cnM N x j R = N1 at *
  have e177 : dp_I N1 177 x = dp_I N 177 x := by rw [c4, uI_n (by omega)]
  have e178 : dp_I N1 178 x = dp_I N 178 x := by rw [c5, uI_n (by omega)]
  have e179 : dp_I N1 179 x = dp_I N 179 x := by rw [c6, uI_n (by omega)]
  have e177' : dp_I (dp_setI N1 186 S (dp_I N 178 x)) 177 x = dp_I N 177 x := by rw [gII, if_neg (by decide)]; exact e177
  simp only [nI_cl (show x < 2147483648 by omega), nI_o (show x < 120 by omega) (by omega), if_false, e179, dp_w, nI_1, e177, e178, nI_cl (show S < 2147483648 by omega), nI_o (show S < 400 by omega) (by omega), nI_cl (show S + 1 < 2147483648 by omega), nI_o (show S + 1 < 400 by omega) (by omega), e177', a3]
  rw [if_pos eR2]; exact e
def Nm_S : List Nat := [174, 175, 176, 177, 178, 179, 180, 181, 186, 187]
theorem m_num {M0 : dp_M} {C : Nat} {v1 : Int32} : ∀ (l : List Nd) (S : List Nat) (ix pre : List Nat) (N : dp_M), SR (rdN M0) S l ix → (pre ++ ix).Nodup → (∀ x, x ∈ pre ++ ix → x < C) → pre.length + l.length = C → C ≤ 60 → Off Nm_S [] M0 N → Cst 0 0 M0 N → (∀ y, y < C → rdN N y = rdN M0 y) → (∀ y, (y < C ∨ 60 ≤ y ∧ y < 60 + pre.length) → tN (dp_I N 179 y) ≤ 6) → (∀ i, i < pre.length → rdN N (60 + i) = rdN M0 (pre.getD i 0)) → (∀ i, i < pre.length → dp_I N 187 (pre.getD i 0) = nI i) → StK (dp_I N 186) S →
    ∃ N', (Off Nm_S [] M0 N' ∧ Cst 0 0 M0 N' ∧ (∀ y, 60 ≤ y → y < 60 + C → tN (dp_I N' 179 y) ≤ 6) ∧ (∀ i, i < C → rdN N' (60 + i) = rdN M0 ((pre ++ ix).getD i 0)) ∧ (∀ i, i < C → dp_I N' 187 ((pre ++ ix).getD i 0) = nI i)) ∧ ∀ r, D_X12_numbers_249 xs xl d v1 (nI C) 0 60 N' = some r → D_X12_numbers_11 xs xl d v1 (nI pre.length) (nI S.length) N = some r := by
  intro l
  induction l with
  | nil =>
    intro S ix pre N hS hnd h60 hC hC6 ho hcs hlow h179 hcp hnum hK
    have hl := hS.len
    rw [List.length_nil] at hl hC
    have e0 : ix = [] := List.length_eq_zero_iff.mp (by omega)
    have s0 : S = [] := List.length_eq_zero_iff.mp (by omega)
    subst e0 s0
    refine ⟨N, ⟨ho, hcs, fun y hy1 hy => h179 y (by omega), fun i hi => by rw [List.append_nil]; exact hcp i (by omega), fun i hi => by rw [List.append_nil]; exact hnum i (by omega)⟩, fun r e => ?_⟩
    rw [D_X12_numbers_11_eq, if_pos (show nI ([] : List Nat).length ≤ 0 by decide)]
    simp only [dp_w]
    rw [show pre.length = C by omega]; exact e
  | cons v l ih =>
    intro S ix pre N hS hnd h60 hC hC6 ho hcs hlow h179 hcp hnum hK
    have hl := hS.len
    rw [List.length_cons] at hl hC
    cases S with
    | nil => have := hS.1; cases this
    | cons x S =>
      obtain ⟨l', ix', e1, e2, e3⟩ := hS.step
      rw [List.cons_eq_cons] at e1
      obtain ⟨ev, el⟩ := e1
      subst el e2
      obtain ⟨k1, k2⟩ := hK.pop
      rw [List.length_cons] at hl
      have xC : x < C := h60 x (List.mem_append_right _ (List.mem_cons_self ..))
      have x6 : x < 60 := by omega
      obtain ⟨R, hR⟩ : ∃ R, R = (dp_I N 179 x).toNatClampNeg := ⟨_, rfl⟩
      have R6 : R ≤ 6 := by rw [hR]; have := tN_ge (dp_I N 179 x); have := h179 x (by omega); omega
      have eR : ∀ k, k < R → ¬ dp_I N 179 x ≤ nI k := fun k hk q => by
        rw [Int32.le_iff_toInt_le, nI_toInt (by omega)] at q
        have : ((dp_I N 179 x).toNatClampNeg : Int) = (dp_I N 179 x).toInt ∨ (dp_I N 179 x).toNatClampNeg = 0 := by
          by_cases z : 0 ≤ (dp_I N 179 x).toInt
          · exact Or.inl (Int.toNat_of_nonneg z)
          · exact Or.inr (Int.toNat_of_nonpos (by omega))
        omega
      have eR2 : dp_I N 179 x ≤ nI R := by
        rw [Int32.le_iff_toInt_le, nI_toInt (by omega)]
        have : (dp_I N 179 x).toInt ≤ ((dp_I N 179 x).toNatClampNeg : Int) := Int.self_le_toNat _
        omega
      obtain ⟨j, hj⟩ : ∃ j, j = pre.length := ⟨_, rfl⟩
      have rN := hlow x xC
      obtain ⟨N1, hN1⟩ : ∃ N1, N1 = cnM N x j R := ⟨_, rfl⟩
      obtain ⟨c1, c2, c3, c4, c5, c6, c7, c8, c9⟩ := cnM_n (M := N) (x := x) (j := j) (R := R)
      rw [← hN1] at c1 c2 c3 c4 c5 c6 c7 c8 c9
      obtain ⟨d1, d2⟩ := cnM_rd (M := N) (j := j) x6 hR.symm R6
      rw [← hN1] at d1 d2
      have n186 : dp_I N1 186 = dp_I N 186 := by rw [hN1]; exact cnM_o (by decide)
      have pre1 : (pre ++ [x]).length = j + 1 := by rw [List.length_append, List.length_singleton, hj]
      have app : pre ++ [x] ++ ix' = pre ++ x :: ix' := by rw [List.append_assoc]; rfl
      have e177 : dp_I N1 177 x = dp_I N 177 x := by rw [c4, uI_n (by omega)]
      have e178 : dp_I N1 178 x = dp_I N 178 x := by rw [c5, uI_n (by omega)]
      have o1 : Off Nm_S [] M0 N1 := ho.tr (by rw [hN1]; exact cnM_off.mono (by decide) (by decide))
      have cs1 : Cst 0 0 M0 N1 := by rw [hN1]; exact hcs
      have low1 : ∀ y, y < C → rdN N1 y = rdN M0 y := fun y hy => by rw [d2 y (by omega) (h179 y (by omega)), hlow y hy]
      have h1791 : ∀ y, (y < C ∨ 60 ≤ y ∧ y < 60 + (pre ++ [x]).length) → tN (dp_I N1 179 y) ≤ 6 := fun y hy => by
        rw [pre1] at hy
        rw [c6]
        by_cases z : y = 60 + j
        · subst z; rw [uI_s]; exact h179 x (by omega)
        · rw [uI_n z]; exact h179 y (by omega)
      have cp1 : ∀ i, i < (pre ++ [x]).length → rdN N1 (60 + i) = rdN M0 ((pre ++ [x]).getD i 0) := fun i hi => by
        rw [pre1] at hi
        by_cases z : i = j
        · subst z
          rw [d1, gr' (by omega), hj, Nat.sub_self, gc0]; exact rN
        · rw [d2 _ (by omega) (h179 _ (by omega)), gl (by omega)]; exact hcp i (by omega)
      have num1 : ∀ i, i < (pre ++ [x]).length → dp_I N1 187 ((pre ++ [x]).getD i 0) = nI i := fun i hi => by
        rw [pre1] at hi
        rw [c7]
        by_cases z : i = j
        · subst z
          rw [gr' (by omega), hj, Nat.sub_self, gc0, uI_s]
        · have hi' : i < pre.length := by omega
          have hne : pre.getD i 0 ≠ x := fun e => by
            rw [List.nodup_append] at hnd
            have hm : pre.getD i 0 ∈ pre := by
              rw [List.getD_eq_getElem?_getD, List.getElem?_eq_getElem hi']; exact List.getElem_mem hi'
            exact hnd.2.2 _ hm x (List.mem_cons_self ..) e
          rw [gl hi', uI_n hne]; exact hnum i hi'
      have st := m_one (xs := xs) (xl := xl) (d := d) (v1 := v1) (N := N) (S := S.length) (x := x) (j := j) (R := R) (by omega) x6 (by omega) R6 k1 eR eR2
      rw [← hN1] at st
      rw [← hj, List.length_cons]
      rcases e3 with ⟨b1, b2, b3⟩ | ⟨b1, x1, x2, b2, m1, m2, b3⟩
      · have l3 : dp_I N 177 x = -1 := by
          have : (rdN N x).2.1 = (-1 : Int32) := by rw [rN, b2]
          exact this
        have hrc := ih S ix' (pre ++ [x]) N1 b3 (by rw [app]; exact hnd) (by rw [app]; exact h60) (by rw [pre1]; omega) hC6 o1 cs1 low1 h1791 cp1 num1 (by rw [n186]; exact k2)
        obtain ⟨N', p1, p2⟩ := hrc
        rw [pre1] at p2
        rw [app] at p1
        exact ⟨N', p1, fun r e => st r (by rw [if_pos l3]; exact D_X12_numbers_11_to_11_a _ _ _ _ _ _ (p2 r e))⟩
      · have l3 : dp_I N 177 x = nI x1 := by
          have : (rdN N x).2.1 = nI x1 := by rw [rN, b2]
          exact this
        have l4 : dp_I N 178 x = nI x2 := by
          have : (rdN N x).2.2 = nI x2 := by rw [rN, b2]
          exact this
        have x1C := h60 x1 (List.mem_append_right _ (List.mem_cons_of_mem _ m1))
        have x16 : x1 < 60 := by omega
        obtain ⟨N2, hN2⟩ : ∃ N2, N2 = dp_setI (dp_setI N1 186 S.length (nI x2)) 186 (S.length + 1) (nI x1) := ⟨_, rfl⟩
        have nK : ∀ K, K ≠ 186 → dp_I N2 K = dp_I N1 K := fun K hK => by rw [hN2, gII, if_neg hK, gII, if_neg hK]
        have r2 : ∀ y, rdN N2 y = rdN N1 y := fun y => by
          unfold rdN rwN
          rw [nK 174 (by decide), nK 175 (by decide), nK 176 (by decide), nK 177 (by decide), nK 178 (by decide), nK 179 (by decide), nK 180 (by decide), nK 181 (by decide)]
        have K2 : StK (dp_I N2 186) (x1 :: x2 :: S) := by
          rw [hN2, gII, if_pos rfl, gII, if_pos rfl, n186]
          have := (k2.push x2).push x1
          rw [List.length_cons] at this; exact this
        have hrc := ih (x1 :: x2 :: S) ix' (pre ++ [x]) N2 b3 (by rw [app]; exact hnd) (by rw [app]; exact h60) (by rw [pre1]; omega) hC6 (by rw [hN2]; exact (o1.I 186 (by decide) _ _).I 186 (by decide) _ _) (by rw [hN2]; exact cs1) (fun y hy => by rw [r2]; exact low1 y hy) (fun y hy => by rw [nK 179 (by decide)]; exact h1791 y hy) (fun i hi => by rw [r2]; exact cp1 i hi) (fun i hi => by rw [nK 187 (by decide)]; exact num1 i hi) K2
        obtain ⟨N', p1, p2⟩ := hrc
        rw [pre1, List.length_cons, List.length_cons] at p2
        rw [app] at p1
        exact ⟨N', p1, fun r e => st r (by rw [l3, if_neg (m1n (by omega)), l4, ← hN2]; exact D_X12_numbers_11_to_11_a _ _ _ _ _ _ (p2 r e))⟩
end RY
