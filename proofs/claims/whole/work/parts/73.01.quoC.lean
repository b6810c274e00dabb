/-! QUOTAS: the class's course -/
/-- loops with a way out -/
theorem lpx {β : Type} {F : Nat → β → Option dp_Res} {G : β → Option dp_Res} {Inv : Nat → β → Prop} {a N : Nat} (ha : a ≤ N) (he : ∀ s, Inv N s → ∀ r, G s = some r → F N s = some r)
    (hs : ∀ i s, a ≤ i → i < N → Inv i s → (Inv N s ∧ ∀ r, G s = some r → F i s = some r) ∨ ∃ s', Inv (i + 1) s' ∧ ∀ r, F (i + 1) s' = some r → F i s = some r) : ∀ s, Inv a s → ∃ s', Inv N s' ∧ ∀ r, G s' = some r → F a s = some r := by
  have key : ∀ n, n ≤ N - a → ∀ s, Inv (N - n) s → ∃ s', Inv N s' ∧ ∀ r, G s' = some r → F (N - n) s = some r := by
    intro n
    induction n with
    | zero => intro _ s h; exact ⟨s, h, he s h⟩
    | succ n ih =>
      intro hn s h
      rcases hs (N - (n + 1)) s (by omega) (by omega) h with ⟨h1, h2⟩ | ⟨s', h1, h2⟩
      · exact ⟨s, h1, h2⟩
      · rw [show N - (n + 1) + 1 = N - n by omega] at h1 h2
        obtain ⟨s'', h3, h4⟩ := ih (by omega) s' h1
        exact ⟨s'', h3, fun r hr => h2 r (h4 r hr)⟩
  intro s h
  have := key (N - a) (Nat.le_refl _) s
  rw [show N - (N - a) = a by omega] at this
  exact this h
theorem q_sb3 (a b c : Int64) : a - b - c = a - (b + c) := by
  rw [Int64.sub_eq_add_neg, Int64.sub_eq_add_neg, Int64.sub_eq_add_neg, Int64.neg_add, Int64.sub_eq_add_neg, Int64.add_assoc]
theorem ct_in1 {p q : Nat → Bool} {i : Nat} (hp : p i = false) (hq : q i = true) : ∀ n, (∀ j, j < n → j ≠ i → q j = p j) → i < n → ct q n = ct p n + 1
  | 0, _, hi => by omega
  | n + 1, h, hi => by
    rw [ct, ct]
    by_cases e : n = i
    · subst e
      rw [hp, hq, ct_c (p := q) (q := p) (fun j hj => h j (by omega) (by omega))]; simp
    · rw [ct_in1 hp hq n (fun j hj => h j (by omega)) (by omega), h n (by omega) e]; omega
theorem ct_nm {p : Nat → Bool} {a : Nat} : ∀ n, a ≤ n → ct p a ≤ ct p n
  | 0, h => by rw [show a = 0 by omega]; exact Nat.le_refl _
  | n + 1, h => by
    by_cases e : a = n + 1
    · rw [e]; exact Nat.le_refl _
    · have := ct_nm (p := p) n (show a ≤ n by omega)
      rw [ct]; omega
theorem ct_s {p : Nat → Bool} {a : Nat} (h : p a = true) : ct p (a + 1) = ct p a + 1 := by rw [ct, h]; rfl
theorem ct_n {p : Nat → Bool} {a : Nat} (h : ¬ p a = true) : ct p (a + 1) = ct p a := by rw [ct, if_neg h]; rfl
/-- whose asks are whose -/
def qp (M : dp_M) (A o : Nat) (a : Nat) : Bool := decide (a < A) && decide (dp_I M 82 a = nI o)
theorem qp_lt {M : dp_M} {A o a : Nat} (h : qp M A o a = true) : a < A := by
  unfold qp at h; simp only [Bool.and_eq_true, decide_eq_true_eq] at h; exact h.1
/-- the asks of an order, gathered -/
def MN (N : dp_M) (p : Nat → Bool) (A : Nat) : Prop := dp_I N 75 1 = nI A ∧ dp_I N 75 16 = nI (ct p A) ∧ ∀ a, a < A → p a = true → dp_I N 89 (ct p a) = nI a
section QC
variable {xs : Nat → Int32} {xl d : Nat} {M : dp_M}
theorem qc_gather {o A : Nat} (hA : A ≤ 400) (ho : o < 16) (a1 : dp_I M 75 1 = nI A) : ∃ M', dp_den true xs xl (d + 1) 130 [.ref 75, .int (nI o)] M = vR M' ∧ Off [75, 86, 87, 89] [] M M' ∧ dp_n M' = dp_n M ∧ dp_z M' = dp_z M ∧ dp_I M' 75 0 = dp_I M 75 0 ∧ MN M' (qp M A o) A ∧ dp_I M' 75 17 = nI (ct (qp M A o) A) ∧ (∀ a, qp M A o a = true → dp_I M' 87 a = -1 ∧ dp_J M' 86 a = 0) ∧ (∀ a, ¬ qp M A o a = true → dp_I M' 87 a = dp_I M 87 a ∧ dp_J M' 86 a = dp_J M 86 a) ∧ (∀ k, k ≠ 75 → k ≠ 87 → k ≠ 89 → dp_I M' k = dp_I M k) ∧ ∀ k, k ≠ 86 → dp_J M' k = dp_J M k := by
  obtain ⟨N, ⟨o1, i1, i2, i3, i4, i5, i6, i7, i8, i9, i10⟩, t⟩ := lpt (F := fun a N => D_X5_gather_7 xs xl d (nI o) (nI a) N) (a := 0) (N := A)
    (Inv := fun a N => Off [75, 86, 87, 89] [] M N ∧ dp_n N = dp_n M ∧ dp_z N = dp_z M ∧ dp_I N 75 0 = dp_I M 75 0 ∧ dp_I N 75 1 = nI A ∧ dp_I N 75 16 = nI (ct (qp M A o) a) ∧ (∀ x, x < a → qp M A o x = true → dp_I N 89 (ct (qp M A o) x) = nI x) ∧ (∀ x, qp M A o x = true → x < a → dp_I N 87 x = -1 ∧ dp_J N 86 x = 0) ∧ (∀ x, ¬ (qp M A o x = true ∧ x < a) → dp_I N 87 x = dp_I M 87 x ∧ dp_J N 86 x = dp_J M 86 x) ∧ (∀ k, k ≠ 75 → k ≠ 87 → k ≠ 89 → dp_I N k = dp_I M k) ∧ ∀ k, k ≠ 86 → dp_J N k = dp_J M k)
    (Nat.zero_le _) (by
      rintro a N - ha ⟨o1, i1, i2, i3, i4, i5, i6, i7, i8, i9, i10⟩
      have e82 := i9 82 (by decide) (by decide) (by decide)
      have hc := ct_le (qp M A o) a
      by_cases c : qp M A o a = true
      · have co : dp_I M 82 a = nI o := by unfold qp at c; simp only [Bool.and_eq_true, decide_eq_true_eq] at c; exact c.2
        refine ⟨dp_setI (dp_setI (dp_setI (dp_setJ N 86 a 0) 87 a (-1)) 89 (ct (qp M A o) a) (nI a)) 75 16 (nI (ct (qp M A o) a + 1)), ⟨(((o1.J 86 (by decide) _ _).I 87 (by decide) _ _).I 89 (by decide) _ _).I 75 (by decide) _ _, i1, i2, ?_, ?_, ?_, ?_, ?_, ?_, ?_, fun k k1 => by rw [gJI, gJI, gJI, gJJ, if_neg k1]; exact i10 k k1⟩, fun r hr => ?_⟩
        · simp [gII, gIJ, gIR, gJI, gJJ, gJR, gRI, gRJ, glI, glJ, glR, uI]; exact i3
        · simp [gII, gIJ, gIR, gJI, gJJ, gJR, gRI, gRJ, glI, glJ, glR, uI]; exact i4
        · simp only [gII, if_true, uI_s]; rw [ct_s c]
        · intro x hx hp
          simp only [gII, gIJ, Nat.reduceEqDiff, if_false, if_true]
          by_cases e : x = a
          · rw [e, uI_s]
          · have h1 : ct (qp M A o) (x + 1) ≤ ct (qp M A o) a := ct_nm a (by omega)
            rw [ct_s hp] at h1
            rw [uI_n (by omega)]; exact i6 x (by omega) hp
        · intro x hp hx
          simp only [gII, gIJ, gJI, gJJ, Nat.reduceEqDiff, if_false, if_true]
          by_cases e : x = a
          · rw [e, uI_s, uI_s]; exact ⟨rfl, rfl⟩
          · rw [uI_n e, uI_n e]; exact i7 x hp (by omega)
        · intro x hx
          simp only [gII, gIJ, gJI, gJJ, Nat.reduceEqDiff, if_false, if_true]
          have e : x ≠ a := fun e => hx ⟨by rw [e]; exact c, by omega⟩
          rw [uI_n e, uI_n e]; exact i8 x (fun q => hx ⟨q.1, by omega⟩)
        · intro k k1 k2 k3
          simp only [gII, gIJ, if_neg k1, if_neg k2, if_neg k3]; exact i9 k k1 k2 k3
        · (try dsimp only at hr); (try dsimp only)
          rw [D_X5_gather_7_eq, i4, if_neg (nI_nge ha (by omega))]
          simp only [nI_cl (show a < 2147483648 by omega), nI_o (show a < 400 by omega) (by omega), if_false, e82, if_pos co, dp_w, nI_1, gII, gIJ, Nat.reduceEqDiff, i5, nI_cl (show ct (qp M A o) a < 2147483648 by omega), nI_o (show ct (qp M A o) a < 400 by omega) (by omega)]
          exact hr
      · have co : ¬ dp_I M 82 a = nI o := fun q => c (by unfold qp; simp only [Bool.and_eq_true, decide_eq_true_eq]; exact ⟨ha, q⟩)
        refine ⟨N, ⟨o1, i1, i2, i3, i4, by rw [ct_n c]; exact i5, fun x hx hp => i6 x (by have : x ≠ a := fun e => c (by rw [← e]; exact hp); omega) hp, fun x hp hx => i7 x hp (by have : x ≠ a := fun e => c (by rw [← e]; exact hp); omega), fun x hx => i8 x (fun q => hx ⟨q.1, by omega⟩), i9, i10⟩, fun r hr => ?_⟩
        (try dsimp only at hr); (try dsimp only)
        rw [D_X5_gather_7_eq, i4, if_neg (nI_nge ha (by omega))]
        simp only [nI_cl (show a < 2147483648 by omega), nI_o (show a < 400 by omega) (by omega), if_false, e82, if_neg co, dp_w, nI_1]
        exact hr) (dp_setI M 75 16 0) ⟨(Off.rr _ _ _).I 75 (by decide) _ _, rfl, rfl, by simp [gII, gIJ, gIR, gJI, gJJ, gJR, gRI, gRJ, glI, glJ, glR, uI], by simp [gII, gIJ, gIR, gJI, gJJ, gJR, gRI, gRJ, glI, glJ, glR, uI]; exact a1, by simp only [gII, if_true, uI_s]; rfl, fun x hx => by omega, fun x _ hx => by omega, fun x _ => by simp [gII, gIJ, gIR, gJI, gJJ, gJR, gRI, gRJ, glI, glJ, glR, uI], fun k k1 k2 k3 => by rw [gII, if_neg k1], fun k _ => by rw [gJI]⟩
  refine ⟨dp_setI N 75 17 (nI (ct (qp M A o) A)), ?_, o1.I 75 (by decide) _ _, i1, i2, by simp [gII, gIJ, gIR, gJI, gJJ, gJR, gRI, gRJ, glI, glJ, glR, uI]; exact i3, ⟨by simp [gII, gIJ, gIR, gJI, gJJ, gJR, gRI, gRJ, glI, glJ, glR, uI]; exact i4, by simp [gII, gIJ, gIR, gJI, gJJ, gJR, gRI, gRJ, glI, glJ, glR, uI]; exact i5, fun a ha hp => by simp only [gII, Nat.reduceEqDiff, if_false]; exact i6 a ha hp⟩, by simp only [gII, if_true, uI_s], fun a hp => by simp only [gII, gJI, Nat.reduceEqDiff, if_false]; exact i7 a hp (qp_lt hp), fun a hp => by simp only [gII, gJI, Nat.reduceEqDiff, if_false]; exact i8 a (fun q => hp q.1), fun k k1 k2 k3 => by rw [gII, if_neg k1]; exact i9 k k1 k2 k3, fun k k1 => by rw [gJI]; exact i10 k k1⟩
  rw [D_X5_gather_0_den, D_X5_gather_0_eq]
  simp only [dp_w]
  apply t
  (try dsimp only)
  rw [D_X5_gather_7_eq, i4, if_pos (nI_lle (Nat.le_refl _) (by omega)), i5]
  simp only [dp_w]
theorem qc_due {a : Nat} {v : Int32} (ha : a < 400) : dp_den true xs xl (d + 1) 131 [.ref 75, .int (nI a), .int v] M = iR (bI (dp_I M 87 a = -1 ∧ ¬ v < dp_I M 84 a)) M := by
  rw [D_X5_isDue_0_den, D_X5_isDue_0_eq]
  simp only [nI_cl (show a < 2147483648 by omega), nI_o (show a < 400 by omega) (by omega), if_false]
  by_cases c1 : dp_I M 87 a = -1
  case neg => rw [if_neg c1, bI_f (fun q => c1 q.1)]
  rw [if_pos c1]
  by_cases c2 : v < dp_I M 84 a
  · rw [if_pos c2, bI_f (fun q => q.2 c2)]
  · rw [if_neg c2, bI_t ⟨c1, c2⟩]
/-- the handing out -/
theorem qc_hand {A : Nat} {p c : Nat → Bool} {v : Int32} {L : Int64} {g : Nat → Int64} (hA : A ≤ 400) (mn : MN M p A) (hpA : ∀ a, p a = true → a < A) (hc : ∀ a, p a = true → (dp_I M 87 a = v ↔ c a = true)) (hcp : ∀ a, c a = true → p a = true) (hg : ∀ a, p a = true → dp_J M 86 a = g a) :
    ∃ M', dp_den true xs xl (d + 1) 133 [.ref 75, .int v, .long L] M = lR (ho A (dp_J M 85) (fun k a => c a && decide (dp_I M 83 a = nI k)) (L, g) 4).1 M' ∧ Off [86] [] M M' ∧ dp_n M' = dp_n M ∧ dp_z M' = dp_z M ∧ dp_I M' = dp_I M ∧ (∀ k, k ≠ 86 → dp_J M' k = dp_J M k) ∧ (∀ a, p a = true → dp_J M' 86 a = (ho A (dp_J M 85) (fun k a => c a && decide (dp_I M 83 a = nI k)) (L, g) 4).2 a) ∧ ∀ a, ¬ p a = true → dp_J M' 86 a = dp_J M 86 a := by
  obtain ⟨m1, m2, m3⟩ := mn
  generalize hask : dp_J M 85 = ask
  generalize hcc : (fun k a => c a && decide (dp_I M 83 a = nI k)) = cc
  have hcA := ct_le p A
  obtain ⟨N, ⟨o, i1, i2, i3, i4, i5, i6⟩, t⟩ := lpt (F := fun k N => D_X5_handOut_6 xs xl d v L (ho A ask cc (L, g) k).1 (nI k) N) (a := 0) (N := 4)
    (Inv := fun k N => Off [86] [] M N ∧ dp_n N = dp_n M ∧ dp_z N = dp_z M ∧ dp_I N = dp_I M ∧ (∀ j, j ≠ 86 → dp_J N j = dp_J M j) ∧ (∀ a, p a = true → dp_J N 86 a = (ho A ask cc (L, g) k).2 a) ∧ ∀ a, ¬ p a = true → dp_J N 86 a = dp_J M 86 a)
    (Nat.zero_le _) (by
      rintro k N - hk ⟨o, i1, i2, i3, i4, i5, i6⟩
      generalize hs : ho A ask cc (L, g) k = s at i5
      obtain ⟨N', ⟨o', j1, j2, j3, j4, j5, j6⟩, t'⟩ := lpx (F := fun a N => D_X5_handOut_15 xs xl d v L (hoA ask (cc k) s a).1 (nI k) (nI (ct p a)) N) (G := fun N => D_X5_handOut_6 xs xl d v L (hoA ask (cc k) s A).1 (nI (k + 1)) N) (a := 0) (N := A)
        (Inv := fun a N => Off [86] [] M N ∧ dp_n N = dp_n M ∧ dp_z N = dp_z M ∧ dp_I N = dp_I M ∧ (∀ j, j ≠ 86 → dp_J N j = dp_J M j) ∧ (∀ x, p x = true → dp_J N 86 x = (hoA ask (cc k) s a).2 x) ∧ ∀ x, ¬ p x = true → dp_J N 86 x = dp_J M 86 x)
        (Nat.zero_le _) (by
          rintro N ⟨o, i1, i2, i3, i4, i5, i6⟩ r hr
          (try dsimp only at hr); (try dsimp only)
          rw [D_X5_handOut_15_eq, i3, m2, if_pos (nI_lle (Nat.le_refl _) (by omega))]
          simp only [dp_w, nI_1]
          apply D_X5_handOut_6_to_6_a
          exact hr) (by
          rintro a N - ha ⟨o, i1, i2, i3, i4, i5, i6⟩
          by_cases cp : p a = true
          case neg =>
            right
            have cn : ¬ cc k a = true := fun q => by
              rw [← hcc] at q
              simp only [Bool.and_eq_true] at q
              exact cp (hcp a q.1)
            refine ⟨N, ⟨o, i1, i2, i3, i4, ?_, i6⟩, fun r hr => ?_⟩
            · rw [hoA, if_neg (fun q => cn q.1)]; exact i5
            · (try dsimp only at hr); (try dsimp only)
              rw [hoA, if_neg (fun q => cn q.1), ct_n cp] at hr
              exact hr
          by_cases cl : 0 < (hoA ask (cc k) s a).1
          case neg =>
            left
            have hd := hoA_done cl A (by omega)
            refine ⟨⟨o, i1, i2, i3, i4, by rw [hd]; exact i5, i6⟩, fun r hr => ?_⟩
            (try dsimp only at hr); (try dsimp only)
            have h1 : ct p (a + 1) ≤ ct p A := ct_nm A (by omega)
            rw [ct_s cp] at h1
            rw [D_X5_handOut_15_eq, i3, m2, if_neg (nI_nge (by omega) (by omega))]
            simp only [lg_cmp_le]
            rw [if_pos (Int64.not_lt.mp cl)]
            simp only [dp_w, nI_1]
            apply D_X5_handOut_6_to_6_a
            rw [hd] at hr
            exact hr
          right
          have h1 : ct p (a + 1) ≤ ct p A := ct_nm A (by omega)
          rw [ct_s cp] at h1
          have e85 : dp_J N 85 = ask := by rw [i4 85 (by decide)]; exact hask
          by_cases cq : cc k a = true ∧ (hoA ask (cc k) s a).2 a < ask a ∧ 0 < (hoA ask (cc k) s a).1
          · have q0 := cq.1
            rw [← hcc] at q0
            simp only [Bool.and_eq_true, decide_eq_true_eq] at q0
            refine ⟨dp_setJ N 86 a ((hoA ask (cc k) s a).2 a + 1), ⟨o.J 86 (by decide) _ _, i1, i2, i3, fun j hj => by rw [gJJ, if_neg hj]; exact i4 j hj, fun x hx => ?_, fun x hx => ?_⟩, fun r hr => ?_⟩
            · rw [gJJ, if_pos rfl, hoA, if_pos cq]
              (try dsimp only)
              by_cases e : x = a
              · rw [e, uI_s, uI_s]
              · rw [uI_n e, uI_n e]; exact i5 x hx
            · rw [gJJ, if_pos rfl, uI_n (fun e => hx (by rw [e]; exact cp))]; exact i6 x hx
            · (try dsimp only at hr); (try dsimp only)
              rw [hoA, if_pos cq, ct_s cp] at hr
              rw [D_X5_handOut_15_eq]
              simp only [i3, m2, m3 a ha cp, nI_cl (show ct p a < 2147483648 by omega), nI_o (show ct p a < 400 by omega) (by omega), nI_cl (show a < 2147483648 by omega), nI_o (show a < 400 by omega) (by omega), if_false, lg_cmp_le, lg_cmp_ge, dp_w, nI_1, e85, i5 a cp]
              rw [if_neg (nI_nge (by omega) (by omega)), if_neg (Int64.not_le.mpr cl), if_pos ((hc a cp).mpr q0.1), if_pos q0.2, if_neg (Int64.not_le.mpr cq.2.1)]
              apply D_X5_handOut_15_to_15_a
              exact hr
          · refine ⟨N, ⟨o, i1, i2, i3, i4, by rw [hoA, if_neg cq]; exact i5, i6⟩, fun r hr => ?_⟩
            (try dsimp only at hr); (try dsimp only)
            rw [hoA, if_neg cq, ct_s cp] at hr
            rw [D_X5_handOut_15_eq]
            simp only [i3, m2, m3 a ha cp, nI_cl (show ct p a < 2147483648 by omega), nI_o (show ct p a < 400 by omega) (by omega), nI_cl (show a < 2147483648 by omega), nI_o (show a < 400 by omega) (by omega), if_false, lg_cmp_le, lg_cmp_ge, dp_w, nI_1, e85, i5 a cp]
            rw [if_neg (nI_nge (by omega) (by omega)), if_neg (Int64.not_le.mpr cl)]
            by_cases z1 : dp_I M 87 a = v
            case neg => rw [if_neg z1]; apply D_X5_handOut_15_to_15_a; exact hr
            rw [if_pos z1]
            by_cases z2 : dp_I M 83 a = nI k
            case neg => rw [if_neg z2]; apply D_X5_handOut_15_to_15_a; exact hr
            rw [if_pos z2]
            by_cases z3 : ask a ≤ (hoA ask (cc k) s a).2 a
            · rw [if_pos z3]; apply D_X5_handOut_15_to_15_a; exact hr
            · exfalso
              apply cq
              refine ⟨?_, Int64.not_le.mp z3, cl⟩
              rw [← hcc]
              simp only [Bool.and_eq_true, decide_eq_true_eq]
              exact ⟨(hc a cp).mp z1, z2⟩) N ⟨o, i1, i2, i3, i4, i5, i6⟩
      refine ⟨N', ⟨o', j1, j2, j3, j4, fun a ha => by rw [ho, hs]; exact j5 a ha, j6⟩, fun r hr => ?_⟩
      (try dsimp only at hr); (try dsimp only)
      rw [ho, hs] at hr
      rw [D_X5_handOut_6_eq, if_neg (show ¬ (4 : Int32) ≤ nI (k) from nI_ge (a := k) (b := 4) (by omega) (by omega))]
      simp only [dp_w]
      have := t' r hr
      (try dsimp only at this)
      exact this) M ⟨Off.rr _ _ _, rfl, rfl, rfl, fun _ _ => rfl, fun a ha => hg a ha, fun _ _ => rfl⟩
  refine ⟨N, ?_, o, i1, i2, i3, i4, i5, i6⟩
  rw [D_X5_handOut_0_den, D_X5_handOut_0_eq]
  simp only [dp_w]
  apply t
  (try dsimp only)
  rw [D_X5_handOut_6_eq, if_pos (by decide)]
end QC
