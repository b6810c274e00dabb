/-! SECURITIES: a reservation is claimed, side by side -/
theorem mnJ_b {c a : Int64} (hc : 0 ≤ c.toInt) (ha : 0 ≤ a.toInt) : 0 ≤ (mnJ c a).toInt ∧ (mnJ c a).toInt ≤ c.toInt ∧ (mnJ c a).toInt ≤ a.toInt := by
  unfold mnJ
  by_cases z : c < a
  · rw [if_pos z]
    rw [Int64.lt_iff_toInt_lt] at z
    omega
  · rw [if_neg z]
    rw [Int64.lt_iff_toInt_lt] at z
    omega
theorem sl_le {x c : Nat → Int64} : ∀ n, n ≤ 4 → (∀ k, k < n → 0 ≤ (x k).toInt ∧ (x k).toInt ≤ (c k).toInt ∧ (c k).toInt ≤ 1000000000) → 0 ≤ (sl x n).toInt ∧ (sl x n).toInt ≤ (sl c n).toInt ∧ (sl c n).toInt ≤ 1000000000 * (n : Int)
  | 0, _, _ => by rw [sl, sl]; decide
  | n + 1, hn, h => by
    obtain ⟨i1, i2, i3⟩ := sl_le n (by omega) (fun k hk => h k (by omega))
    obtain ⟨h1, h2, h3⟩ := h n (by omega)
    have e1 : (sl x (n + 1)).toInt = (sl x n).toInt + (x n).toInt := by
      rw [sl, Int64.toInt_add]
      apply Int.bmod_eq_of_le <;> omega
    have e2 : (sl c (n + 1)).toInt = (sl c n).toInt + (c n).toInt := by
      rw [sl, Int64.toInt_add]
      apply Int.bmod_eq_of_le <;> omega
    omega
section SX
variable {xs : Nat → Int32} {xl d : Nat} {M : dp_M}
theorem s_fin3 {R r : Nat} (h : RelS M) (hRR : dp_I M 114 133 = nI R) (hR : R ≤ 400) (hr1 : 1 ≤ r) (hr : r ≤ R) (hl : dp_I M 215 r = 0) :
    ∃ tk C, (∀ {d}, dp_den true xs xl (d + 3) 206 [.ref 90, .int (nI r)] M = lR tk M) ∧ (∀ {d}, dp_den true xs xl (d + 5) 207 [.ref 90, .int (nI r), .int 3] M = lR tk C) ∧ 0 ≤ tk.toInt ∧ tk.toInt ≤ (dp_J M 96 (r * 12 + 1)).toInt ∧ Off [90, 95, 96] [] M C ∧ Cst 0 0 M C ∧
    ∀ N, SameS N C → (∀ {d}, dp_den true xs xl (d + 1) 532 [.ref 114, .int (nI r)] N = lR tk N) ∧ ∃ M2, (∀ {d}, dp_den true xs xl (d + 2) 533 [.ref 114, .int (nI r)] N = vR M2) ∧ RelS M2 ∧ Off [203, 210, 211, 212, 215, 216] [] N M2 ∧ Cst 0 0 N M2 ∧ ∀ q i, q ≠ r → i < 12 → dp_J M2 96 (q * 12 + i) = dp_J M 96 (q * 12 + i) ∧ dp_I M2 215 q = dp_I N 215 q := by
  obtain ⟨G, R', hb⟩ := h.b
  have hR' : R' = R := by
    have := hb.2.2.2.2.2.1
    rw [hRR, nI_eq (by omega) (by have := hb.2.1; omega)] at this; exact this.symm
  subst hR'
  have hb0 := hb
  obtain ⟨hG, hR4, a1, a2, a3, a4, a5, a6, a7, a8, a9, a10, a11, a12, a13, a14, a15, a16, a17⟩ := hb
  obtain ⟨n, c1, c2, -⟩ := sc_clm (xs := xs) (xl := xl) (d := 0) hG hR hr a10 (a14 r hr1 hr)
  have un : ∀ n', n' ≤ 4 → dp_I M 216 r = nI n' → n' = n := fun n' q1 q2 => by rw [c2, nI_eq (by omega) (by omega)] at q2; exact q2.symm
  have hcl : ∀ {d}, dp_den true xs xl (d + 3) 206 [.ref 90, .int (nI r)] M = lR (sl (rX M r) n) M := fun {d} => by
    obtain ⟨n', q1, q2, q3⟩ := sc_clm (xs := xs) (xl := xl) (d := d) hG hR hr a10 (a14 r hr1 hr)
    rw [← un n' q1 q2]; exact q3
  obtain ⟨T, hT⟩ : ∃ T, T = fT (ndF M) (rP M r) (rC M r) (rX M r) (rR M r) (dp_I M 90 3).toInt64 (dp_J M 95) n := ⟨_, rfl⟩
  have hfi : ∀ {d}, dp_den true xs xl (d + 5) 207 [.ref 90, .int (nI r), .int 3] M = lR (sl (rX M r) n) (finC M r 3 T) := fun {d} => by
    obtain ⟨n', q1, q2, q3⟩ := sc_fin3 (xs := xs) (xl := xl) (d := d) hG hR hr1 hr a5 a6 a10 (a14 r hr1 hr) (a17 r hr1 hr)
    have e := un n' q1 q2
    subst e
    rw [hT]; exact q3
  have pr : ∀ k, k < n → wi (rP M r k) 1 G ∧ 1 ≤ (rC M r k).toInt ∧ (rC M r k).toInt ≤ 1000000000 := fun k hk => by
    obtain ⟨n', q1, q2, q3, q4, q5, q6, q7⟩ := a14 r hr1 hr
    have e := un n' q1 q2
    subst e
    exact (q7 k hk).2.2
  have s1 : dp_J M 96 (r * 12 + 1) = sl (rC M r) n := by
    obtain ⟨n', q1, q2, q3, q4, q5, q6, q7⟩ := a14 r hr1 hr
    have e := un n' q1 q2
    subst e
    exact q4
  have ds : ∀ j k, j < n → k < n → rP M r j = rP M r k → j = k := fun j k hj hk q => by
    have := a17 r hr1 hr j k
    rw [c2, nI_cl (by omega)] at this
    exact this hj hk q
  have gx : ∀ k, k < n → ∃ g, 1 ≤ g ∧ g ≤ G ∧ rP M r k = nI g := fun k hk => wi_of (a := 1) (b := G) (pr k hk).1 (by omega)
  have xb : ∀ k, k < n → ∀ g, rP M r k = nI g → 1 ≤ g → g ≤ G → 0 ≤ (rX M r k).toInt ∧ (rX M r k).toInt ≤ (rC M r k).toInt ∧ (rX M r k).toInt ≤ (dp_J M 203 g).toInt := fun k hk g eg g1 g2 => by
    obtain ⟨h, u, m, b1, b2, b3, b4, b5, b6, b7, b8, b9, b10, b11, b12, -⟩ := a10 g g1 g2
    have := (pr k hk).2.1
    unfold rX
    rw [eg, nI_cl (by omega)]
    exact mnJ_b (by omega) b12
  have tb := sl_le (x := rX M r) (c := rC M r) n c1 (fun k hk => by
    obtain ⟨g, g1, g2, eg⟩ := gx k hk
    obtain ⟨q1, q2, -⟩ := xb k hk g eg g1 g2
    exact ⟨q1, q2, (pr k hk).2.2⟩)
  refine ⟨sl (rX M r) n, finC M r 3 T, hcl, hfi, tb.1, by rw [s1]; exact tb.2.1, finC_o _ _ _, ⟨Nat.le_refl _, Nat.le_refl _⟩, fun N hN => ?_⟩
  have nI' : ∀ k ∈ RelS_S, k ≠ 90 → dp_I N k = dp_I M k := fun k hk q => by rw [(hN.1 k hk).1, finC_I _ _ _ k q]
  have nJ' : ∀ k ∈ RelS_S, k ≠ 95 → k ≠ 96 → dp_J N k = dp_J M k := fun k hk q1 q2 => by rw [(hN.1 k hk).2, finC_J _ _ _ k q1 q2]
  have nf : ∀ i ∈ RelS_T, dp_I N 114 i = dp_I M 114 i := fun i hi => by rw [hN.2 i hi, finC_I _ _ _ _ (by decide)]
  have eP : rP N r = rP M r := by funext k; unfold rP; rw [nI' 217 (by decide) (by decide)]
  have eC : rC N r = rC M r := by funext k; unfold rC; rw [nJ' 218 (by decide) (by decide) (by decide)]
  have eX : rX N r = rX M r := by funext k; unfold rX; rw [eP, eC, nJ' 203 (by decide) (by decide) (by decide)]
  have eR : rR N r = rR M r := by
    funext k; unfold rR lrow lst
    rw [eP, nJ' 203 (by decide) (by decide) (by decide), nI' 208 (by decide) (by decide), nI' 209 (by decide) (by decide), nI' 212 (by decide) (by decide), nI' 207 (by decide) (by decide), nf 120 (by decide)]
  have n216 : dp_I N 216 r = nI n := by rw [nI' 216 (by decide) (by decide)]; exact c2
  have nw : ∀ k, k < n → wi (rP N r k) 1 G := fun k hk => by rw [eP]; exact (pr k hk).1
  refine ⟨fun {d} => by rw [sm_would hG (by omega) c1 n216 nw, eX], ?_⟩
  obtain ⟨Q, hQ⟩ : ∃ Q, Q = caM N (rU (rP M r) (rX M r) (fun j => -(rX M r j)) (dp_J M 203) n) (rU (rP M r) (rX M r) (rX M r) (dp_J M 210) n) (rU (rP M r) (rX M r) (rR M r) (dp_J M 211) n) (rV (rP M r) (rX M r) (dp_I M 114 120) (dp_I M 212) n) := ⟨_, rfl⟩
  refine ⟨enM Q r 3, fun {d} => ?_, ?_, ?_, by rw [hQ]; exact ⟨Nat.le_refl _, Nat.le_refl _⟩, fun q i hq hi => ?_⟩
  · rw [sm_claims hG (by omega) c1 n216 nw (by rw [eP]; exact ds), eP, eX, eR, nJ' 203 (by decide) (by decide) (by decide), nJ' 210 (by decide) (by decide) (by decide), nJ' 211 (by decide) (by decide) (by decide), nI' 212 (by decide) (by decide), nf 120 (by decide), ← hQ]
  · have sI : ∀ k ∈ rIf, k ∈ RelS_S ∧ k ≠ 90 ∧ k ≠ 215 ∧ k ≠ 216 ∧ k ≠ 212 := by decide
    have qI : ∀ k, k ≠ 212 → dp_I Q k = dp_I N k := fun k hk => by rw [hQ, caM_I, if_neg hk]
    have qJ : ∀ k, k ≠ 203 → k ≠ 210 → k ≠ 211 → dp_J Q k = dp_J N k := fun k h1 h2 h3 => by rw [hQ, caM_J, if_neg h2, if_neg h1, if_neg h3]
    have e203 : dp_J (enM Q r 3) 203 = rU (rP M r) (rX M r) (fun j => -(rX M r j)) (dp_J M 203) n := by rw [enM_J, hQ, caM_J, if_neg (by decide), if_pos rfl]
    have e210 : dp_J (enM Q r 3) 210 = rU (rP M r) (rX M r) (rX M r) (dp_J M 210) n := by rw [enM_J, hQ, caM_J, if_pos rfl]
    have e211 : dp_J (enM Q r 3) 211 = rU (rP M r) (rX M r) (rR M r) (dp_J M 211) n := by rw [enM_J, hQ, caM_J, if_neg (by decide), if_neg (by decide), if_pos rfl]
    have e212 : dp_I (enM Q r 3) 212 = rV (rP M r) (rX M r) (dp_I M 114 120) (dp_I M 212) n := by rw [enM_I _ _ _ _ (by decide) (by decide), hQ, caM_I, if_pos rfl]
    have e95 : dp_J (enM Q r 3) 95 = T := by rw [enM_J, qJ 95 (by decide) (by decide) (by decide), (hN.1 95 (by decide)).2, finC_95]
    have far : ∀ g, G < g → ∀ j, j < n → (rP M r j).toNatClampNeg ≠ g := fun g hg j hj => by
      obtain ⟨b, b1, b2, eb⟩ := gx j hj
      rw [eb, nI_cl (by omega)]; omega
    refine (hb0.fin (M2 := enM Q r 3) (r := r) (n := n) (how := 3) hr1 hr c1 c2 hl (by decide) (fun k hk => by rw [enM_I _ _ _ k (sI k hk).2.2.1 (sI k hk).2.2.2.1, qI k (sI k hk).2.2.2.2]; exact nI' k (sI k hk).1 (sI k hk).2.1) (by rw [enM_I _ _ _ _ (by decide) (by decide), qI 90 (by decide), (hN.1 90 (by decide)).1, finC_90]) (fun i hi => by rw [enM_I _ _ _ _ (by decide) (by decide), qI 114 (by decide)]; exact nf i hi) (by rw [enM_J, qJ 218 (by decide) (by decide) (by decide), nJ' 218 (by decide) (by decide) (by decide)]) (by rw [enM_215, qI 215 (by decide), nI' 215 (by decide) (by decide)]) (by rw [enM_216, qI 216 (by decide), nI' 216 (by decide) (by decide)]) (by rw [enM_J, qJ 96 (by decide) (by decide) (by decide), (hN.1 96 (by decide)).2, finC_96]) (fun g k hk => ?_) (fun g k hk => by rw [e95, hT, fT_25 hk]) (fun g g1 g2 => ?_) (fun g k hg hk => by rw [e95, hT, fT_g hk n (far g hg)]) (fun g hg => by rw [e210, e211, rU_g n (far g hg), rU_g n (far g hg)]; exact ⟨rfl, rfl⟩)).r
    · have w : ∀ k ∈ [0, 6, 9, 10, 11, 12, 15], k < 16 ∧ k ≠ 1 ∧ k ≠ 2 ∧ k ≠ 5 ∧ k ≠ 8 ∧ k ≠ 13 ∧ k ≠ 14 := by decide
      rw [e95, hT, fT_o (w k hk).1 (w k hk).2]
    · obtain ⟨h, u, m, b1, b2, b3, b4, b5, b6, b7, b8, b9, b10, b11, b12, b13, b14, b15, b16, b17, b18, b19, b20, b21, b22, b23, b24, b25, b26⟩ := a10 g g1 g2
      have bd : ∀ i, i ≤ n → 0 ≤ (rU (rP M r) (rX M r) (fun j => -(rX M r j)) (dp_J M 203) i g).toInt ∧ (rU (rP M r) (rX M r) (fun j => -(rX M r j)) (dp_J M 203) i g).toInt ≤ 1000000000 := by
        intro i
        induction i with
        | zero => intro _; exact ⟨b12, b13⟩
        | succ i ih =>
          intro hi
          have ih' := ih (by omega)
          rw [rU]
          by_cases y : 0 < rX M r i
          case neg => rw [if_neg y]; exact ih'
          rw [if_pos y]
          obtain ⟨g', g1', g2', eg'⟩ := gx i (by omega)
          rw [eg', nI_cl (by omega)]
          by_cases z : g = g'
          · subst z
            rw [uI_s, rU_g i (fun j hj q => by
              obtain ⟨b, q1, q2, eb⟩ := gx j (by omega)
              rw [eb, nI_cl (by omega)] at q
              have := ds j i (by omega) (by omega) (by rw [eb, eg', q])
              omega)]
            obtain ⟨q1, q2, q3⟩ := xb i (by omega) g eg' g1 g2
            have : (dp_J M 203 g + -(rX M r i)).toInt = (dp_J M 203 g).toInt - (rX M r i).toInt := by
              rw [← Int64.sub_eq_add_neg, Int64.toInt_sub]
              apply Int.bmod_eq_of_le <;> omega
            omega
          · rw [uI_n z]; exact ih'
      have bs : ∀ i, i ≤ n → qin (rV (rP M r) (rX M r) (dp_I M 114 120) (dp_I M 212) i g) 100001 := by
        intro i
        induction i with
        | zero => intro _; exact b19
        | succ i ih =>
          intro hi
          have ih' := ih (by omega)
          rw [rV]
          by_cases y : 0 < rX M r i
          case neg => rw [if_neg y]; exact ih'
          rw [if_pos y]
          by_cases z : g = (rP M r i).toNatClampNeg
          · rw [← z, uI_s, a5]; exact a6
          · rw [uI_n z]; exact ih'
      rw [e95, e203, e210, e211, e212, hT, fT_1 b11 n, fT_8 b23 n, fT_14 b24 n, fT_13 (v := dp_I M 114 120) (by rw [a5]) b18 n]
      exact ⟨rfl, (bd n (Nat.le_refl _)).1, (bd n (Nat.le_refl _)).2, rfl, rfl, rfl, bs n (Nat.le_refl _)⟩
  · rw [hQ]; unfold enM caM; exact (((((((Off.rr _ _ N).rJ 211 (by decide) _).rI 212 (by decide) _).rJ 203 (by decide) _).rJ 210 (by decide) _).I 215 (by decide) _ _).I 216 (by decide) _ _)
  · refine ⟨?_, by rw [enM_215, uI_n hq, hQ, caM_I, if_neg (by decide)]⟩
    rw [enM_J, hQ, caM_J, if_neg (by decide), if_neg (by decide), if_neg (by decide), (hN.1 96 (by decide)).2, finC_96, uI_n (by omega), uI_n (by omega), uI_n (by omega)]
end SX
