/-! QUOTAS: the class's course, day by day -/
section QT
variable {xs : Nat → Int32} {xl d : Nat} {M : dp_M}
/-- who waits -/
def wt (p : Nat → Bool) (t : Nat → Int32) (A : Nat) : Nat := ct (fun a => p a && decide (t a = -1)) A
theorem t1_wt {p c : Nat → Bool} {t : Nat → Int32} {v : Int32} {A a : Nat} (hv : v ≠ -1) (ha : a < A) (hc : c a = true) (hp : p a = true) (ht : t a = -1) : wt p (t1 c v t a) A = wt p (t1 c v t (a + 1)) A + 1 := by
  unfold wt
  refine ct_in1 (i := a) ?_ ?_ A (fun j _ hj => ?_) ha
  · (try dsimp only)
    have : t1 c v t (a + 1) a = v := by unfold t1; rw [if_pos ⟨hc, by omega⟩]
    rw [this, decide_eq_false hv, Bool.and_false]
  · (try dsimp only)
    have : t1 c v t a a = -1 := by unfold t1; rw [if_neg (fun q => by have := q.2; omega)]; exact ht
    rw [this, hp]; rfl
  · (try dsimp only)
    have : t1 c v t a j = t1 c v t (a + 1) j := by
      unfold t1
      by_cases q : c j = true ∧ j < a
      · rw [if_pos q, if_pos ⟨q.1, by omega⟩]
      · rw [if_neg q, if_neg (fun z => q ⟨z.1, by omega⟩)]
    rw [this]
theorem qc_treat {A : Nat} {p : Nat → Bool} {t : Nat → Int32} {g : Nat → Int64} {v : Int32} {L : Int64} (hA : A ≤ 400) (hv : v ≠ -1) (mn : MN M p A) (hpA : ∀ a, p a = true → a < A) (hL : 0 ≤ L.toInt) (hw : dp_I M 75 17 = nI (wt p t A)) (ht : ∀ a, p a = true → t a ≠ v)
    (hs : ∀ a, p a = true → dp_I M 87 a = t a ∧ dp_J M 86 a = g a) :
    ∃ M', dp_den true xs xl (d + 2) 132 [.ref 75, .int v, .long L] M = lR (trt A p (dp_I M 84) (dp_I M 83) (dp_J M 85) v (L, t, g)).1 M' ∧ Off [75, 86, 87] [] M M' ∧ dp_n M' = dp_n M ∧ dp_z M' = dp_z M ∧ MN M' p A ∧ dp_I M' 75 0 = dp_I M 75 0 ∧ dp_I M' 75 17 = nI (wt p (trt A p (dp_I M 84) (dp_I M 83) (dp_J M 85) v (L, t, g)).2.1 A) ∧
      (∀ k, k ≠ 75 → k ≠ 87 → dp_I M' k = dp_I M k) ∧ (∀ k, k ≠ 86 → dp_J M' k = dp_J M k) ∧ (∀ a, p a = true → dp_I M' 87 a = (trt A p (dp_I M 84) (dp_I M 83) (dp_J M 85) v (L, t, g)).2.1 a ∧ dp_J M' 86 a = (trt A p (dp_I M 84) (dp_I M 83) (dp_J M 85) v (L, t, g)).2.2 a) ∧ ∀ a, ¬ p a = true → dp_I M' 87 a = dp_I M 87 a ∧ dp_J M' 86 a = dp_J M 86 a := by
  have mn0 := mn
  obtain ⟨m1, m2, m3⟩ := mn
  have hcA := ct_le p A
  have ctA : ∀ a, a < A → p a = true → ct p a < ct p A := fun a ha cp => by
    have h1 : ct p (a + 1) ≤ ct p A := ct_nm A (by omega)
    rw [ct_s cp] at h1
    omega
  generalize hask : dp_J M 85 = ask
  generalize hdy : dp_I M 84 = dy
  generalize hdk : dp_I M 83 = dk
  obtain ⟨c, hcd⟩ : ∃ c, c = nw p dy v t := ⟨_, rfl⟩
  have hcp : ∀ a, c a = true → p a = true := fun a q => by
    rw [hcd] at q; unfold nw at q; simp only [Bool.and_eq_true] at q; exact q.1.1
  have hct : ∀ a, c a = true → t a = -1 := fun a q => by
    rw [hcd] at q; unfold nw at q; simp only [Bool.and_eq_true, decide_eq_true_eq] at q; exact q.2
  have hcq : ∀ a, p a = true → ((t a = -1 ∧ ¬ v < dy a) ↔ c a = true) := fun a hp => by
    rw [hcd]; unfold nw; simp only [Bool.and_eq_true, decide_eq_true_eq, hp, true_and]
    exact ⟨fun q => ⟨q.2, q.1⟩, fun q => ⟨q.2, q.1⟩⟩
  obtain ⟨all, hall⟩ : ∃ all, all = qall A c ask := ⟨_, rfl⟩
  -- the sum
  have first : ∀ r, D_X5_treat_63 xs xl (d + 1) v L all L 0 M = some r → dp_den true xs xl (d + 2) 132 [.ref 75, .int v, .long L] M = some r := fun r hr => by
    rw [D_X5_treat_0_den, D_X5_treat_0_eq]
    simp only [dp_w]
    refine lpb (F := fun u a => D_X5_treat_6 xs xl (d + 1) v L u (nI (ct p a)) M) (s := sl (fun a => if c a = true then ask a else 0)) (N := A) ?_ (fun a ha hr2 => ?_)
    · (try dsimp only)
      rw [D_X5_treat_6_eq, m2, if_pos (nI_lle (Nat.le_refl _) (by omega))]
      simp only [dp_w]
      rw [hall] at hr
      exact hr
    · (try dsimp only at hr2); (try dsimp only)
      rw [show sl (fun a => if c a = true then ask a else 0) (a + 1) = sl (fun a => if c a = true then ask a else 0) a + (if c a = true then ask a else 0) from rfl] at hr2
      by_cases cp : p a = true
      · have h1 := ctA a ha cp
        rw [D_X5_treat_6_eq, m2, if_neg (nI_nge h1 (by omega))]
        simp only [nI_cl (show ct p a < 2147483648 by omega), nI_o (show ct p a < 400 by omega) (by omega), if_false, m3 a ha cp, qc_due (show a < 400 by omega), rb_bi, ibz, (hs a cp).1, hdy, nI_cl (show a < 2147483648 by omega), nI_o (show a < 400 by omega) (by omega), dp_w, nI_1, hask]
        rw [ct_s cp] at hr2
        by_cases z : c a = true
        · rw [if_pos z] at hr2
          rw [if_pos ((hcq a cp).mpr z)]; exact hr2
        · rw [if_neg z] at hr2
          rw [if_neg (fun q => z ((hcq a cp).mp q))]; exact hr2
      · rw [if_neg (fun q => cp (hcp a q)), ct_n cp, Int64.add_zero] at hr2
        exact hr2
  -- what each gets
  obtain ⟨N, ⟨o, i1, i2, i3, i4, i5, i6, i7, i8⟩, tr⟩ := lpt (F := fun a N => D_X5_treat_63 xs xl (d + 1) v L all (l1 c ask all L a) (nI (ct p a)) N) (a := 0) (N := A)
    (Inv := fun a N => Off [75, 86, 87] [] M N ∧ dp_n N = dp_n M ∧ dp_z N = dp_z M ∧ (dp_I N 75 0 = dp_I M 75 0 ∧ dp_I N 75 1 = nI A ∧ dp_I N 75 16 = nI (ct p A)) ∧ dp_I N 75 17 = nI (wt p (t1 c v t a) A) ∧ (∀ k, k ≠ 75 → k ≠ 87 → dp_I N k = dp_I M k) ∧ (∀ k, k ≠ 86 → dp_J N k = dp_J M k) ∧ (∀ x, p x = true → dp_I N 87 x = t1 c v t a x ∧ dp_J N 86 x = g1 c ask all L g a x) ∧ ∀ x, ¬ p x = true → dp_I N 87 x = dp_I M 87 x ∧ dp_J N 86 x = dp_J M 86 x)
    (Nat.zero_le _) (by
      rintro a N - ha ⟨o, i1, i2, i3, i4, i5, i6, i7, i8⟩
      have same : ¬ c a = true → t1 c v t (a + 1) = t1 c v t a ∧ g1 c ask all L g (a + 1) = g1 c ask all L g a ∧ l1 c ask all L (a + 1) = l1 c ask all L a := fun z => by
        refine ⟨?_, ?_, ?_⟩
        · funext x; unfold t1
          by_cases q : c x = true ∧ x < a
          · rw [if_pos q, if_pos ⟨q.1, by omega⟩]
          · rw [if_neg q, if_neg (fun w => q ⟨w.1, by have : x ≠ a := fun e => z (by rw [← e]; exact w.1); omega⟩)]
        · funext x; unfold g1
          by_cases q : c x = true ∧ x < a
          · rw [if_pos q, if_pos ⟨q.1, by omega⟩]
          · rw [if_neg q, if_neg (fun w => q ⟨w.1, by have : x ≠ a := fun e => z (by rw [← e]; exact w.1); omega⟩)]
        · unfold l1; rw [sl, if_neg z, Int64.add_zero]
      by_cases cp : p a = true
      case neg =>
        have z : ¬ c a = true := fun q => cp (hcp a q)
        obtain ⟨s1, s2, s3⟩ := same z
        refine ⟨N, ⟨o, i1, i2, i3, by rw [s1]; exact i4, i5, i6, by rw [s1, s2]; exact i7, i8⟩, fun r hr => ?_⟩
        (try dsimp only at hr); (try dsimp only)
        rw [s3, ct_n cp] at hr
        exact hr
      have h1 := ctA a ha cp
      have ta : t1 c v t a a = t a := by unfold t1; rw [if_neg (fun q => by have := q.2; omega)]
      have e89 : dp_I N 89 = dp_I M 89 := i5 89 (by decide) (by decide)
      have e84 : dp_I N 84 = dy := by rw [i5 84 (by decide) (by decide)]; exact hdy
      have e85 : dp_J N 85 = ask := by rw [i6 85 (by decide)]; exact hask
      by_cases z : c a = true
      · have gv : g1 c ask all L g (a + 1) = uI (g1 c ask all L g a) a (qsh ask all L a) := by
          funext x; unfold g1 uI
          by_cases e : x = a
          · subst e; rw [if_pos ⟨z, by omega⟩, if_pos rfl]
          · rw [if_neg e]
            (try dsimp only)
            by_cases q : c x = true ∧ x < a
            · rw [if_pos q, if_pos ⟨q.1, by omega⟩]
            · rw [if_neg q, if_neg (fun w => q ⟨w.1, by omega⟩)]
        have tv : t1 c v t (a + 1) = uI (t1 c v t a) a v := by
          funext x; unfold t1 uI
          by_cases e : x = a
          · subst e; rw [if_pos ⟨z, by omega⟩, if_pos rfl]
          · rw [if_neg e]
            (try dsimp only)
            by_cases q : c x = true ∧ x < a
            · rw [if_pos q, if_pos ⟨q.1, by omega⟩]
            · rw [if_neg q, if_neg (fun w => q ⟨w.1, by omega⟩)]
        have lv : l1 c ask all L (a + 1) = l1 c ask all L a - qsh ask all L a := by
          unfold l1; rw [sl, if_pos z, q_sb3]
        have wv := t1_wt (p := p) (c := c) (t := t) (v := v) hv ha z cp (hct a z)
        refine ⟨dp_setI (dp_setI (dp_setJ N 86 a (qsh ask all L a)) 87 a v) 75 17 (nI (wt p (t1 c v t (a + 1)) A)), ⟨((o.J 86 (by decide) _ _).I 87 (by decide) _ _).I 75 (by decide) _ _, i1, i2, ?_, ?_, ?_, ?_, ?_, ?_⟩, fun r hr => ?_⟩
        · simp [gII, gIJ, gIR, gJI, gJJ, gJR, gRI, gRJ, glI, glJ, glR, uI]; exact i3
        · simp only [gII, if_true, uI_s]
        · intro k k1 k2; rw [gII, if_neg k1, gII, if_neg k2, gIJ]; exact i5 k k1 k2
        · intro k k1; rw [gJI, gJI, gJJ, if_neg k1]; exact i6 k k1
        · intro x hx
          simp only [gII, gIJ, gJI, gJJ, Nat.reduceEqDiff, if_false, if_true, gv, tv]
          obtain ⟨y1, y2⟩ := i7 x hx
          unfold uI
          rw [y1, y2]; exact ⟨rfl, rfl⟩
        · intro x hx
          simp only [gII, gIJ, gJI, gJJ, Nat.reduceEqDiff, if_false, if_true]
          have e : x ≠ a := fun e => hx (by rw [e]; exact cp)
          rw [uI_n e, uI_n e]; exact i8 x hx
        · (try dsimp only at hr); (try dsimp only)
          rw [lv, ct_s cp] at hr
          have wpred : nI (wt p (t1 c v t a) A) - 1 = nI (wt p (t1 c v t (a + 1)) A) := by rw [wv, nI_pred]
          have fin : ∀ val, val = qsh ask all L a → D_X5_treat_133 xs xl (d + 1) v L all (l1 c ask all L a) (nI (ct p a)) (nI a) val (nI a) N = some r := fun val hval => by
            rw [D_X5_treat_133_eq]
            simp only [nI_cl (show a < 2147483648 by omega), nI_o (show a < 400 by omega) (by omega), if_false, dp_w, nI_1, gII, gIJ, gJJ, Nat.reduceEqDiff, if_true, uI_s, i4, wpred, hval]
            apply D_X5_treat_63_to_63_a
            exact hr
          rw [D_X5_treat_63_eq, i3.2.2, if_neg (nI_nge h1 (by omega))]
          simp only [nI_cl (show ct p a < 2147483648 by omega), nI_o (show ct p a < 400 by omega) (by omega), if_false, e89, m3 a ha cp, qc_due (show a < 400 by omega), rb_bi, ibz, (i7 a cp).1, ta, e84, nI_cl (show a < 2147483648 by omega), nI_o (show a < 400 by omega) (by omega), dp_w, lg_cmp_le, lg_cmp_gt, e85]
          rw [if_pos ((hcq a cp).mpr z)]
          by_cases w : all ≤ L
          · rw [if_pos w]; exact fin _ (by unfold qsh; rw [if_pos w])
          · rw [if_neg w]
            have e0 : (0 : Int64).toInt = 0 := by decide
            have w2 : 0 < all := by
              rw [Int64.le_iff_toInt_le] at w
              rw [Int64.lt_iff_toInt_lt, e0]; omega
            rw [if_pos w2, if_neg (fun q => by rw [q] at w2; exact absurd w2 (by decide))]
            exact fin _ (by unfold qsh; rw [if_neg w])
      · obtain ⟨s1, s2, s3⟩ := same z
        refine ⟨N, ⟨o, i1, i2, i3, by rw [s1]; exact i4, i5, i6, by rw [s1, s2]; exact i7, i8⟩, fun r hr => ?_⟩
        (try dsimp only at hr); (try dsimp only)
        rw [s3, ct_s cp] at hr
        rw [D_X5_treat_63_eq, i3.2.2, if_neg (nI_nge h1 (by omega))]
        simp only [nI_cl (show ct p a < 2147483648 by omega), nI_o (show ct p a < 400 by omega) (by omega), if_false, e89, m3 a ha cp, qc_due (show a < 400 by omega), rb_bi, ibz, (i7 a cp).1, ta, e84, dp_w, nI_1]
        rw [if_neg (fun q => z ((hcq a cp).mp q))]
        apply D_X5_treat_63_to_63_a
        exact hr) M ⟨Off.rr _ _ _, rfl, rfl, ⟨rfl, m1, m2⟩, by
          rw [hw]; congr 2; funext x; unfold t1; rw [if_neg (fun q => by have := q.2; omega)], fun _ _ _ => rfl, fun _ _ => rfl, fun x hx => by
          obtain ⟨y1, y2⟩ := hs x hx
          unfold t1 g1
          rw [if_neg (fun q => by have := q.2; omega), if_neg (fun q => by have := q.2; omega)]
          exact ⟨y1, y2⟩, fun _ _ => ⟨rfl, rfl⟩⟩
  have l0 : l1 c ask all L 0 = L := by unfold l1; rw [sl, Int64.sub_zero]
  have go : ∀ r, D_X5_treat_63 xs xl (d + 1) v L all (l1 c ask all L A) (nI (ct p A)) N = some r → dp_den true xs xl (d + 2) 132 [.ref 75, .int v, .long L] M = some r := fun r hr => by
    apply first
    have := tr r hr
    (try dsimp only at this)
    rw [l0] at this
    exact this
  have e3 : (trt A p dy dk ask v (L, t, g)).2.1 = t1 c v t A := by rw [hcd]; rfl
  have mnN : MN N p A := ⟨i3.2.1, i3.2.2, fun a ha hp => by rw [i5 89 (by decide) (by decide)]; exact m3 a ha hp⟩
  by_cases w : all ≤ L
  · have e1 : (trt A p dy dk ask v (L, t, g)).1 = l1 c ask all L A ∧ (trt A p dy dk ask v (L, t, g)).2.2 = g1 c ask all L g A := by
      unfold trt
      simp only [← hcd, ← hall, if_pos w]
      exact ⟨trivial, trivial⟩
    refine ⟨N, ?_, o, i1, i2, mnN, i3.1, by rw [e3]; exact i4, i5, i6, by rw [e3, e1.2]; exact i7, i8⟩
    apply go
    rw [D_X5_treat_63_eq, i3.2.2, if_pos (nI_lle (Nat.le_refl _) (by omega)), e1.1]
    simp only [lg_cmp_le, if_pos w]
  · have hcv : ∀ a, p a = true → (dp_I N 87 a = v ↔ c a = true) := fun a hp => by
      rw [(i7 a hp).1]
      unfold t1
      by_cases z : c a = true ∧ a < A
      · rw [if_pos z]; exact ⟨fun _ => z.1, fun _ => rfl⟩
      · rw [if_neg z]
        exact ⟨fun q => absurd q (ht a hp), fun q => absurd ⟨q, hpA a hp⟩ z⟩
    obtain ⟨N', j1, j2, j3, j4, j5, j6, j7, j8⟩ := qc_hand (xs := xs) (xl := xl) (d := d) (M := N) (A := A) (p := p) (c := c) (v := v) (L := l1 c ask all L A) (g := g1 c ask all L g A) hA mnN hpA hcv hcp (fun a hp => (i7 a hp).2)
    rw [i6 85 (by decide), hask, i5 83 (by decide) (by decide), hdk] at j1 j7
    have e1 : (trt A p dy dk ask v (L, t, g)).1 = (ho A ask (fun k a => c a && decide (dk a = nI k)) (l1 c ask all L A, g1 c ask all L g A) 4).1 ∧ (trt A p dy dk ask v (L, t, g)).2.2 = (ho A ask (fun k a => c a && decide (dk a = nI k)) (l1 c ask all L A, g1 c ask all L g A) 4).2 := by
      unfold trt
      simp only [← hcd, ← hall, if_neg w]
      exact ⟨trivial, trivial⟩
    refine ⟨N', ?_, o.tr (j2.mono (by decide) (by decide)), by rw [j3, i1], by rw [j4, i2], ?_, by rw [j5]; exact i3.1, by rw [e3, j5]; exact i4, fun k k1 k2 => by rw [j5]; exact i5 k k1 k2, fun k k1 => by rw [j6 k k1]; exact i6 k k1, fun a hp => ?_, fun a hp => ?_⟩
    · apply go
      rw [D_X5_treat_63_eq, i3.2.2, if_pos (nI_lle (Nat.le_refl _) (by omega)), e1.1]
      simp only [lg_cmp_le, if_neg w]
      rw [j1, rb_bl]
    · unfold MN; rw [j5]; exact mnN
    · rw [e3, e1.2, j5]; exact ⟨(i7 a hp).1, j7 a hp⟩
    · rw [j5, j8 a hp]; exact i8 a hp
end QT
