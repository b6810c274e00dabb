/-! QUOTAS: the model's course -/
def mp (M : dp_M) (A o : Nat) (a : Nat) : Bool := decide (a < A) && decide (dp_I M 197 a = nI o)
theorem mp_lt {M : dp_M} {A o a : Nat} (h : mp M A o a = true) : a < A := by
  unfold mp at h; simp only [Bool.and_eq_true, decide_eq_true_eq] at h; exact h.1
theorem mp_o {M : dp_M} {A o a : Nat} (h : mp M A o a = true) : dp_I M 197 a = nI o := by
  unfold mp at h; simp only [Bool.and_eq_true, decide_eq_true_eq] at h; exact h.2
theorem mp_n {M : dp_M} {A o a : Nat} (ha : a < A) (h : ¬ mp M A o a = true) : ¬ dp_I M 197 a = nI o := fun q => h (by
  unfold mp; simp only [Bool.and_eq_true, decide_eq_true_eq]; exact ⟨ha, q⟩)
def mdy (M : dp_M) (a : Nat) : Int32 := dp_I M 238 (dp_I M 196 a).toNatClampNeg
def mdk (M : dp_M) (a : Nat) : Int32 := dp_I M 235 (dp_I M 196 a).toNatClampNeg
section QM
variable {xs : Nat → Int32} {xl d : Nat} {M : dp_M}
theorem qm_day {a : Nat} (ha : a < 400) (hq : qin (dp_I M 196 a) 400) : dp_den true xs xl (d + 1) 506 [.ref 114, .int (nI a)] M = iR (mdy M a) M := by
  rw [D_X12_dayOfAsk_0_den, D_X12_dayOfAsk_0_eq]
  simp only [nI_cl (show a < 2147483648 by omega), nI_o (show a < 400 by omega) (by omega), if_false]
  rw [if_neg hq]
  rfl
theorem qm_treats {A o : Nat} {t : Nat → Int32} {g : Nat → Int64} {v : Int32} {L : Int64} (hA : A ≤ 400) (a2 : dp_I M 114 111 = nI A) (hk : ∀ a, a < A → qin (dp_I M 196 a) 400) (hL : 0 ≤ L.toInt) (aL : dp_J M 114 118 = L) (ht : ∀ a, mp M A o a = true → t a ≠ v)
    (hs : ∀ a, mp M A o a = true → dp_I M 199 a = t a ∧ dp_J M 200 a = g a) :
    ∃ M', dp_den true xs xl (d + 2) 507 [.ref 114, .int (nI o), .int v] M = vR M' ∧ Off [199, 200] [118] M M' ∧ dp_n M' = dp_n M ∧ dp_z M' = dp_z M ∧ (∀ k, k ≠ 199 → dp_I M' k = dp_I M k) ∧ (∀ k, k ≠ 200 → k ≠ 114 → dp_J M' k = dp_J M k) ∧ dp_J M' 114 118 = (trt A (mp M A o) (mdy M) (mdk M) (dp_J M 198) v (L, t, g)).1 ∧
      (∀ a, mp M A o a = true → dp_I M' 199 a = (trt A (mp M A o) (mdy M) (mdk M) (dp_J M 198) v (L, t, g)).2.1 a ∧ dp_J M' 200 a = (trt A (mp M A o) (mdy M) (mdk M) (dp_J M 198) v (L, t, g)).2.2 a) ∧ ∀ a, ¬ mp M A o a = true → dp_I M' 199 a = dp_I M 199 a ∧ dp_J M' 200 a = dp_J M 200 a := by
  generalize hp : mp M A o = p at *
  have hpA : ∀ a, p a = true → a < A := fun a h => by rw [← hp] at h; exact mp_lt h
  have hpo : ∀ a, p a = true → dp_I M 197 a = nI o := fun a h => by rw [← hp] at h; exact mp_o h
  have hpn : ∀ a, a < A → ¬ p a = true → ¬ dp_I M 197 a = nI o := fun a ha h => by rw [← hp] at h; exact mp_n ha h
  generalize hask : dp_J M 198 = ask
  generalize hdy : mdy M = dy
  generalize hdk : mdk M = dk
  obtain ⟨c, hcd⟩ : ∃ c, c = nw p dy v t := ⟨_, rfl⟩
  have hcp : ∀ a, c a = true → p a = true := fun a q => by
    rw [hcd] at q; unfold nw at q; simp only [Bool.and_eq_true] at q; exact q.1.1
  have hcq : ∀ a, p a = true → ((¬ v < dy a ∧ t a = -1) ↔ c a = true) := fun a hp => by
    rw [hcd]; unfold nw; simp only [Bool.and_eq_true, decide_eq_true_eq, hp, true_and]
  obtain ⟨all, hall⟩ : ∃ all, all = qall A c ask := ⟨_, rfl⟩
  -- who is treated, and the sum
  obtain ⟨N1, ⟨o1, i1, i2, i3, i4, i5, i6⟩, tr1⟩ := lpt (F := fun a N => D_X12_treats_5 xs xl (d + 1) (nI o) v (qall a c ask) (nI a) N) (a := 0) (N := A)
    (Inv := fun a N => Off [199] [] M N ∧ dp_n N = dp_n M ∧ dp_z N = dp_z M ∧ dp_J N = dp_J M ∧ (∀ k, k ≠ 199 → dp_I N k = dp_I M k) ∧ (∀ x, p x = true → dp_I N 199 x = t1 c v t a x) ∧ ∀ x, ¬ p x = true → dp_I N 199 x = dp_I M 199 x)
    (Nat.zero_le _) (by
      rintro a N - ha ⟨o1, i1, i2, i3, i4, i5, i6⟩
      have e114 : dp_I N 114 111 = nI A := by rw [i4 114 (by decide)]; exact a2
      have e197 := i4 197 (by decide)
      have e196 := i4 196 (by decide)
      have e238 := i4 238 (by decide)
      have ta : t1 c v t a a = t a := by unfold t1; rw [if_neg (fun q => by have := q.2; omega)]
      have emd : mdy N a = dy a := by rw [← hdy]; unfold mdy; rw [e196, e238]
      have hda := qm_day (xs := xs) (xl := xl) (d := d) (M := N) (show a < 400 by omega) (by rw [e196]; exact hk a ha)
      have hqs : qall (a + 1) c ask = qall a c ask + (if c a = true then ask a else 0) := rfl
      -- what is written
      have wr : ∀ x, (x = if c a = true then v else dp_I N 199 a) → (Off [199] [] M (dp_setI N 199 a x) ∧ dp_n (dp_setI N 199 a x) = dp_n M ∧ dp_z (dp_setI N 199 a x) = dp_z M ∧ dp_J (dp_setI N 199 a x) = dp_J M ∧ (∀ k, k ≠ 199 → dp_I (dp_setI N 199 a x) k = dp_I M k) ∧ (∀ y, p y = true → dp_I (dp_setI N 199 a x) 199 y = t1 c v t (a + 1) y) ∧ ∀ y, ¬ p y = true → dp_I (dp_setI N 199 a x) 199 y = dp_I M 199 y) := fun x hx => by
        refine ⟨o1.I 199 (by decide) _ _, i1, i2, i3, fun k k1 => by rw [gII, if_neg k1]; exact i4 k k1, fun y hy => ?_, fun y hy => ?_⟩
        · rw [gII, if_pos rfl]
          by_cases e : y = a
          · subst e
            rw [uI_s, hx]
            unfold t1
            by_cases z : c y = true
            · rw [if_pos z, if_pos ⟨z, by omega⟩]
            · rw [if_neg z, if_neg (fun q => z q.1), i5 y hy, ta]
          · rw [uI_n e, i5 y hy]
            unfold t1
            by_cases q : c y = true ∧ y < a
            · rw [if_pos q, if_pos ⟨q.1, by omega⟩]
            · rw [if_neg q, if_neg (fun w => q ⟨w.1, by omega⟩)]
        · rw [gII, if_pos rfl]
          by_cases e : y = a
          · subst e
            rw [uI_s, hx, if_neg (fun q => hy (hcp y q)), i6 y hy]
          · rw [uI_n e]; exact i6 y hy
      refine ⟨dp_setI N 199 a (if c a = true then v else dp_I N 199 a), wr _ rfl, fun r hr => ?_⟩
      (try dsimp only at hr); (try dsimp only)
      rw [hqs] at hr
      rw [D_X12_treats_5_eq, e114, if_neg (nI_nge ha (by omega))]
      simp only [nI_cl (show a < 2147483648 by omega), nI_o (show a < 400 by omega) (by omega), if_false, e197, hda, rb_bi, emd, dp_w, D_X12_treats_75_eq, nI_1, gJI, i3, hask, if_true, if_neg (show ¬ (1 : Int32) = 0 by decide)]
      by_cases cp : p a = true
      · rw [if_pos (hpo a cp)]
        by_cases z1 : v < dy a
        · have z : ¬ c a = true := fun q => ((hcq a cp).mpr q).1 z1
          rw [if_pos z1]
          rw [if_neg z, if_neg z] at hr
          apply D_X12_treats_5_to_5_a; exact hr
        · rw [if_neg z1, i5 a cp, ta]
          by_cases z2 : t a = -1
          · have z : c a = true := (hcq a cp).mp ⟨z1, z2⟩
            rw [if_pos z2]
            rw [if_pos z, if_pos z] at hr
            apply D_X12_treats_5_to_5_a; exact hr
          · have z : ¬ c a = true := fun q => z2 ((hcq a cp).mpr q).2
            rw [if_neg z2]
            rw [if_neg z, if_neg z, i5 a cp, ta] at hr
            apply D_X12_treats_5_to_5_a; exact hr
      · have z : ¬ c a = true := fun q => cp (hcp a q)
        rw [if_neg (hpn a ha cp)]
        rw [if_neg z, if_neg z] at hr
        apply D_X12_treats_5_to_5_a; exact hr) M ⟨Off.rr _ _ _, rfl, rfl, rfl, fun _ _ => rfl, fun x hx => by unfold t1; rw [if_neg (fun q => by have := q.2; omega)]; exact (hs x hx).1, fun _ _ => rfl⟩
  -- today's are those
  have tv : ∀ a, p a = true → (dp_I N1 199 a = v ↔ c a = true) := fun a hpa => by
    rw [i5 a hpa]
    unfold t1
    by_cases z : c a = true ∧ a < A
    · rw [if_pos z]; exact ⟨fun _ => z.1, fun _ => rfl⟩
    · rw [if_neg z]
      exact ⟨fun q => absurd q (ht a hpa), fun q => absurd ⟨q, hpA a hpa⟩ z⟩
  -- what each gets
  obtain ⟨N2, ⟨o2, j1, j2, j3, j4, j5, j6, j7⟩, tr2⟩ := lpt (F := fun a N => D_X12_treats_110 xs xl (d + 1) (nI o) v all L (nI a) N) (a := 0) (N := A)
    (Inv := fun a N => Off [199, 200] [118] M N ∧ dp_n N = dp_n M ∧ dp_z N = dp_z M ∧ dp_I N = dp_I N1 ∧ (∀ k, k ≠ 200 → k ≠ 114 → dp_J N k = dp_J M k) ∧ dp_J N 114 118 = l1 c ask all L a ∧ (∀ x, p x = true → dp_J N 200 x = g1 c ask all L g a x) ∧ ∀ x, ¬ p x = true → dp_J N 200 x = dp_J M 200 x)
    (Nat.zero_le _) (by
      rintro a N - ha ⟨o2, j1, j2, j3, j4, j5, j6, j7⟩
      have e114 : dp_I N 114 111 = nI A := by rw [j3, i4 114 (by decide)]; exact a2
      have e197 : dp_I N 197 = dp_I M 197 := by rw [j3]; exact i4 197 (by decide)
      have e198 : dp_J N 198 = ask := by rw [j4 198 (by decide) (by decide)]; exact hask
      by_cases z : c a = true
      · have cp := hcp a z
        have gv : g1 c ask all L g (a + 1) = uI (g1 c ask all L g a) a (qsh ask all L a) := by
          funext x; unfold g1 uI
          by_cases e : x = a
          · subst e; rw [if_pos ⟨z, by omega⟩, if_pos rfl]
          · rw [if_neg e]
            (try dsimp only)
            by_cases q : c x = true ∧ x < a
            · rw [if_pos q, if_pos ⟨q.1, by omega⟩]
            · rw [if_neg q, if_neg (fun w => q ⟨w.1, by omega⟩)]
        have lv : l1 c ask all L (a + 1) = l1 c ask all L a - qsh ask all L a := by
          unfold l1; rw [sl, if_pos z, q_sb3]
        refine ⟨dp_setJ (dp_setJ N 200 a (qsh ask all L a)) 114 118 (l1 c ask all L (a + 1)), ⟨(o2.J 200 (by decide) _ _).G 118 (by decide) _, j1, j2, j3, fun k k1 k2 => by rw [gJJ, if_neg k2, gJJ, if_neg k1]; exact j4 k k1 k2, by simp only [gJJ, if_true, uI_s], fun x hx => ?_, fun x hx => ?_⟩, fun r hr => ?_⟩
        · simp only [gJJ, Nat.reduceEqDiff, if_false, if_true, gv]
          unfold uI; rw [j6 x hx]
        · simp only [gJJ, Nat.reduceEqDiff, if_false, if_true]
          rw [uI_n (fun e => hx (by rw [e]; exact cp))]; exact j7 x hx
        · (try dsimp only at hr); (try dsimp only)
          rw [lv] at hr
          rw [D_X12_treats_110_eq, e114, if_neg (nI_nge ha (by omega))]
          simp only [nI_cl (show a < 2147483648 by omega), nI_o (show a < 400 by omega) (by omega), if_false, e197, if_pos (hpo a cp), j3, if_pos ((tv a cp).mpr z), lg_cmp_gt, e198, dp_w, nI_1, gJJ, Nat.reduceEqDiff, if_true, uI_s, j5]
          by_cases w : all ≤ L
          · rw [if_neg (Int64.not_lt.mpr w)]
            have : qsh ask all L a = ask a := by unfold qsh; rw [if_pos w]
            rw [this] at hr; exact hr
          · rw [if_pos (Int64.not_le.mp w)]
            have e0 : (0 : Int64).toInt = 0 := by decide
            have w2 : ¬ all = 0 := fun q => by
              rw [q, Int64.le_iff_toInt_le, e0] at w; omega
            rw [if_neg w2]
            have : qsh ask all L a = ask a * L / all := by unfold qsh; rw [if_neg w]
            rw [this] at hr; exact hr
      · have sg : g1 c ask all L g (a + 1) = g1 c ask all L g a := by
          funext x; unfold g1
          by_cases q : c x = true ∧ x < a
          · rw [if_pos q, if_pos ⟨q.1, by omega⟩]
          · rw [if_neg q, if_neg (fun w => q ⟨w.1, by have : x ≠ a := fun e => z (by rw [← e]; exact w.1); omega⟩)]
        have sl1 : l1 c ask all L (a + 1) = l1 c ask all L a := by unfold l1; rw [sl, if_neg z, Int64.add_zero]
        refine ⟨N, ⟨o2, j1, j2, j3, j4, by rw [sl1]; exact j5, by rw [sg]; exact j6, j7⟩, fun r hr => ?_⟩
        (try dsimp only at hr); (try dsimp only)
        rw [D_X12_treats_110_eq, e114, if_neg (nI_nge ha (by omega))]
        simp only [nI_cl (show a < 2147483648 by omega), nI_o (show a < 400 by omega) (by omega), if_false, e197, j3, dp_w, nI_1]
        by_cases cp : p a = true
        · rw [if_pos (hpo a cp), if_neg (fun q => z ((tv a cp).mp q))]; exact hr
        · rw [if_neg (hpn a ha cp)]; exact hr) N1 ⟨o1.mono (by decide) (by decide), i1, i2, rfl, fun k _ _ => by rw [i3], by
          rw [i3, aL]; unfold l1; rw [sl, Int64.sub_zero], fun x hx => by
          rw [i3]; unfold g1; rw [if_neg (fun q => by have := q.2; omega)]; exact (hs x hx).2, fun x _ => by rw [i3]⟩
  have start : ∀ r, D_X12_treats_202 xs xl (d + 1) (nI o) v all L 0 N2 = some r → dp_den true xs xl (d + 2) 507 [.ref 114, .int (nI o), .int v] M = some r := fun r hr => by
    rw [D_X12_treats_0_den, D_X12_treats_0_eq]
    simp only [dp_w]
    apply tr1
    (try dsimp only)
    rw [D_X12_treats_5_eq, i4 114 (by decide), a2, if_pos (nI_lle (Nat.le_refl _) (by omega)), i3, aL, ← hall]
    simp only [dp_w]
    apply tr2
    (try dsimp only)
    rw [D_X12_treats_110_eq, j3, i4 114 (by decide), a2, if_pos (nI_lle (Nat.le_refl _) (by omega))]
    simp only [dp_w]
    exact hr
  have e3 : (trt A p dy dk ask v (L, t, g)).2.1 = t1 c v t A := by rw [hcd]; rfl
  have fI : ∀ k, k ≠ 199 → dp_I N2 k = dp_I M k := fun k hk => by rw [j3]; exact i4 k hk
  by_cases w : all ≤ L
  · have e1 : (trt A p dy dk ask v (L, t, g)).1 = l1 c ask all L A ∧ (trt A p dy dk ask v (L, t, g)).2.2 = g1 c ask all L g A := by
      unfold trt
      simp only [← hcd, ← hall, if_pos w]
      exact ⟨trivial, trivial⟩
    refine ⟨N2, ?_, o2, j1, j2, fI, j4, by rw [e1.1]; exact j5, fun a ha => ?_, fun a ha => ?_⟩
    · apply start
      rw [D_X12_treats_202_eq, if_neg (by decide)]
      simp only [lg_cmp_le, if_pos w]
    · rw [e3, e1.2, j3]; exact ⟨i5 a ha, j6 a ha⟩
    · rw [j3]; exact ⟨i6 a ha, j7 a ha⟩
  · obtain ⟨cc, hcc⟩ : ∃ cc : Nat → Nat → Bool, cc = fun k a => c a && decide (dk a = nI k) := ⟨_, rfl⟩
    have e1 : (trt A p dy dk ask v (L, t, g)).1 = (ho A ask cc (l1 c ask all L A, g1 c ask all L g A) 4).1 ∧ (trt A p dy dk ask v (L, t, g)).2.2 = (ho A ask cc (l1 c ask all L A, g1 c ask all L g A) 4).2 := by
      unfold trt
      simp only [← hcd, ← hall, if_neg w, hcc]
      exact ⟨trivial, trivial⟩
    obtain ⟨s0, hs0⟩ : ∃ s0, s0 = (l1 c ask all L A, g1 c ask all L g A) := ⟨_, rfl⟩
    obtain ⟨N3, ⟨o3, k1, k2, k3, k4, k5, k6, k7⟩, tr3⟩ := lpt (F := fun k N => D_X12_treats_202 xs xl (d + 1) (nI o) v all L (nI k) N) (a := 0) (N := 4)
      (Inv := fun k N => Off [199, 200] [118] M N ∧ dp_n N = dp_n M ∧ dp_z N = dp_z M ∧ dp_I N = dp_I N1 ∧ (∀ j, j ≠ 200 → j ≠ 114 → dp_J N j = dp_J M j) ∧ dp_J N 114 118 = (ho A ask cc s0 k).1 ∧ (∀ x, p x = true → dp_J N 200 x = (ho A ask cc s0 k).2 x) ∧ ∀ x, ¬ p x = true → dp_J N 200 x = dp_J M 200 x)
      (Nat.zero_le _) (by
        rintro k N - hk4 ⟨o3, k1, k2, k3, k4, k5, k6, k7⟩
        generalize hsk : ho A ask cc s0 k = s at k5 k6
        obtain ⟨N', ⟨o', l1', l2, l3, l4, l5, l6, l7⟩, t'⟩ := lpt (F := fun a N => D_X12_treats_218 xs xl (d + 1) (nI o) v all L (nI k) (nI a) N) (a := 0) (N := A)
          (Inv := fun a N => Off [199, 200] [118] M N ∧ dp_n N = dp_n M ∧ dp_z N = dp_z M ∧ dp_I N = dp_I N1 ∧ (∀ j, j ≠ 200 → j ≠ 114 → dp_J N j = dp_J M j) ∧ dp_J N 114 118 = (hoA ask (cc k) s a).1 ∧ (∀ x, p x = true → dp_J N 200 x = (hoA ask (cc k) s a).2 x) ∧ ∀ x, ¬ p x = true → dp_J N 200 x = dp_J M 200 x)
          (Nat.zero_le _) (by
            rintro a N - ha ⟨o3, k1, k2, k3, k4, k5, k6, k7⟩
            have e114 : dp_I N 114 111 = nI A := by rw [k3, i4 114 (by decide)]; exact a2
            have e197 : dp_I N 197 = dp_I M 197 := by rw [k3]; exact i4 197 (by decide)
            have e196 : dp_I N 196 = dp_I M 196 := by rw [k3]; exact i4 196 (by decide)
            have e235 : dp_I N 235 = dp_I M 235 := by rw [k3]; exact i4 235 (by decide)
            have e198 : dp_J N 198 = ask := by rw [k4 198 (by decide) (by decide)]; exact hask
            have edk : dp_I M 235 (dp_I M 196 a).toNatClampNeg = dk a := by rw [← hdk]; rfl
            have hka := hk a ha
            by_cases cq : cc k a = true ∧ (hoA ask (cc k) s a).2 a < ask a ∧ 0 < (hoA ask (cc k) s a).1
            · have q0 := cq.1
              rw [hcc] at q0
              simp only [Bool.and_eq_true, decide_eq_true_eq] at q0
              have cp := hcp a q0.1
              refine ⟨dp_setJ (dp_setJ N 200 a ((hoA ask (cc k) s a).2 a + 1)) 114 118 ((hoA ask (cc k) s a).1 - 1), ⟨(o3.J 200 (by decide) _ _).G 118 (by decide) _, k1, k2, k3, fun j h1 h2 => by rw [gJJ, if_neg h2, gJJ, if_neg h1]; exact k4 j h1 h2, by simp only [gJJ, if_true, uI_s]; rw [hoA, if_pos cq], fun x hx => ?_, fun x hx => ?_⟩, fun r hr => ?_⟩
              · simp only [gJJ, Nat.reduceEqDiff, if_false, if_true]
                rw [hoA, if_pos cq]
                (try dsimp only)
                unfold uI; rw [k6 x hx]
              · simp only [gJJ, Nat.reduceEqDiff, if_false, if_true]
                rw [uI_n (fun e => hx (by rw [e]; exact cp))]; exact k7 x hx
              · (try dsimp only at hr); (try dsimp only)
                rw [D_X12_treats_218_eq, e114, if_neg (nI_nge ha (by omega))]
                simp only [nI_cl (show a < 2147483648 by omega), nI_o (show a < 400 by omega) (by omega), if_false, e197, if_pos (hpo a cp), k3 ▸ (rfl : dp_I N = dp_I N), e196, e235, if_neg hka, edk, if_pos q0.2, e198, k6 a cp, lg_cmp_ge, lg_cmp_le, k5, dp_w, nI_1, gJJ, Nat.reduceEqDiff]
                rw [k3, if_pos ((tv a cp).mpr q0.1), if_neg (Int64.not_le.mpr cq.2.1), if_neg (Int64.not_le.mpr cq.2.2)]
                exact hr
            · refine ⟨N, ⟨o3, k1, k2, k3, k4, by rw [hoA, if_neg cq]; exact k5, by rw [hoA, if_neg cq]; exact k6, k7⟩, fun r hr => ?_⟩
              (try dsimp only at hr); (try dsimp only)
              rw [D_X12_treats_218_eq, e114, if_neg (nI_nge ha (by omega))]
              simp only [nI_cl (show a < 2147483648 by omega), nI_o (show a < 400 by omega) (by omega), if_false, e197, e196, e235, if_neg hka, edk, e198, lg_cmp_ge, lg_cmp_le, k5, dp_w, nI_1]
              by_cases cp : p a = true
              case neg => rw [if_neg (hpn a ha cp)]; exact hr
              rw [if_pos (hpo a cp), k3]
              by_cases z1 : dp_I N1 199 a = v
              case neg => rw [if_neg z1]; exact hr
              rw [if_pos z1]
              by_cases z2 : dk a = nI k
              case neg => rw [if_neg z2]; exact hr
              rw [if_pos z2, k6 a cp]
              by_cases z3 : ask a ≤ (hoA ask (cc k) s a).2 a
              · rw [if_pos z3]; exact hr
              rw [if_neg z3]
              by_cases z4 : (hoA ask (cc k) s a).1 ≤ 0
              · rw [if_pos z4]; exact hr
              exfalso
              apply cq
              refine ⟨?_, Int64.not_le.mp z3, Int64.not_le.mp z4⟩
              rw [hcc]
              simp only [Bool.and_eq_true, decide_eq_true_eq]
              exact ⟨(tv a cp).mp z1, z2⟩) N ⟨o3, k1, k2, k3, k4, k5, k6, k7⟩
        refine ⟨N', ⟨o', l1', l2, l3, l4, by rw [ho, hsk]; exact l5, by rw [ho, hsk]; exact l6, l7⟩, fun r hr => ?_⟩
        (try dsimp only at hr); (try dsimp only)
        rw [D_X12_treats_202_eq, if_neg (show ¬ (4 : Int32) ≤ nI (k) from nI_ge (a := k) (b := 4) (by omega) (by omega))]
        simp only [lg_cmp_le, if_neg w, dp_w]
        apply t'
        (try dsimp only)
        rw [D_X12_treats_218_eq, l3, i4 114 (by decide), a2, if_pos (nI_lle (Nat.le_refl _) (by omega))]
        simp only [dp_w, nI_1]
        apply D_X12_treats_202_to_202_a
        exact hr) N2 ⟨o2, j1, j2, j3, j4, by rw [hs0]; exact j5, by rw [hs0]; exact j6, j7⟩
    rw [← hs0] at e1
    refine ⟨N3, ?_, o3, k1, k2, fun k hk => by rw [k3]; exact i4 k hk, k4, by rw [e1.1]; exact k5, fun a ha => ?_, fun a ha => ?_⟩
    · apply start
      apply tr3
      (try dsimp only)
      rw [D_X12_treats_202_eq, if_pos (by decide)]
    · rw [e3, e1.2, k3]; exact ⟨i5 a ha, k6 a ha⟩
    · rw [k3]; exact ⟨i6 a ha, k7 a ha⟩
end QM
