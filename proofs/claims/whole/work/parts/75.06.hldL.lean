/-! HOLD: who leads to whom (the model); before -/
theorem uI_self {α : Type} (f : Nat → α) (i : Nat) : uI f i (f i) = f := by
  funext j; unfold uI
  by_cases e : j = i
  · rw [if_pos e, e]
  · rw [if_neg e]
def cse (c : Nat → Int32) (k : Nat) : Bool := decide (c k = 1)
theorem cse_t {c : Nat → Int32} {k : Nat} : cse c k = true ↔ c k = 1 := decide_eq_true_iff
def ldI (needs : Nat → Int32) (n y : Nat) (c : Nat → Int32) : Prop := (∀ k, k < n → c k = 0 ∨ c k = 1) ∧ c y = 1 ∧ ∀ k, k < n → c k = 1 → Rch needs n y k
def ldC (needs : Nat → Int32) (n : Nat) (c : Nat → Int32) (a : Nat) : Prop := ∀ k i, k < a → i < n → c k = 1 → needs (k * 100 + i) = 1 → c i = 1
theorem one_ne : ¬ (1 : Int32) = 0 := by decide
theorem zero_ne : ¬ (0 : Int32) = 1 := by decide
section HG
variable {xs : Nat → Int32} {xl d : Nat} {M : dp_M}
theorem hm_in {n x y k : Nat} {c c0 : Nat → Int32} {mo : Int32} (h3 : dp_I M 114 3 = nI n) (hn : n ≤ 100) (h6 : ∀ k, dp_I M 119 k = 0 ∨ dp_I M 119 k = 1) (hk : k < n) (ck : c k = 1) (hmo : mo = 0 ∨ mo = 1) (hI : ldI (dp_I M 119) n y c) (hm : ∀ j, j < n → c0 j = 1 → c j = 1) (h0 : mo = 0 → (∀ j, j < n → c j = c0 j) ∧ ldC (dp_I M 119) n c0 k) (h1 : mo = 1 → ct (cse c0) n < ct (cse c) n) :
    ∃ (c' : Nat → Int32) (mo' : Int32), (mo' = 0 ∨ mo' = 1) ∧ ldI (dp_I M 119) n y c' ∧ (∀ j, j < n → c0 j = 1 → c' j = 1) ∧ (mo' = 0 → (∀ j, j < n → c' j = c0 j) ∧ ldC (dp_I M 119) n c0 (k + 1)) ∧ (mo' = 1 → ct (cse c0) n < ct (cse c') n) ∧ ∀ r, D_X12_leads_43 xs xl d (nI y) (nI x) mo' (nI (k + 1)) (rI M 132 c') = some r → D_X12_leads_55 xs xl d (nI y) (nI x) mo (nI k) 0 (rI M 132 c) = some r := by
  have key := lpt (F := fun i (s : Int32 × (Nat → Int32)) => D_X12_leads_55 xs xl d (nI y) (nI x) s.1 (nI k) (nI i) (rI M 132 s.2)) (a := 0) (N := n)
    (Inv := fun i s => (s.1 = 0 ∨ s.1 = 1) ∧ ldI (dp_I M 119) n y s.2 ∧ (∀ j, j < n → c0 j = 1 → s.2 j = 1) ∧ s.2 k = 1 ∧ (s.1 = 0 → (∀ j, j < n → s.2 j = c0 j) ∧ ldC (dp_I M 119) n c0 k ∧ ∀ i', i' < i → dp_I M 119 (k * 100 + i') = 1 → c0 i' = 1) ∧ (s.1 = 1 → ct (cse c0) n < ct (cse s.2) n))
    (Nat.zero_le _) ?_ (mo, c) ⟨hmo, hI, hm, ck, fun e => ⟨(h0 e).1, (h0 e).2, fun i' q => by omega⟩, h1⟩
  · obtain ⟨⟨mo', c'⟩, ⟨p1, p2, p3, p4, p5, p6⟩, p7⟩ := key
    dsimp only at p1 p2 p3 p4 p5 p6 p7
    refine ⟨c', mo', p1, p2, p3, fun e => ⟨(p5 e).1, ?_⟩, p6, fun r hr => p7 r ?_⟩
    · obtain ⟨e1, e2, e3⟩ := p5 e
      intro k' i q1 q2 q3 q4
      by_cases z : k' = k
      · subst z; exact e3 i q2 q4
      · exact e2 k' i (by omega) q2 q3 q4
    · rw [D_X12_leads_55_eq]
      simp only [rI_I, Nat.reduceEqDiff, if_false, h3]
      rw [if_pos (nI_lle (Nat.le_refl _) (by omega))]
      simp only [dp_w, nI_1]
      apply D_X12_leads_43_to_43_a
      exact hr
  · rintro i ⟨mo, c⟩ - hi ⟨p1, p2, p3, p4, p5, p6⟩
    dsimp only at p1 p2 p3 p4 p5 p6
    have ci := p2.1 i hi
    by_cases w : c i = 0 ∧ dp_I M 119 (k * 100 + i) = 1
    · obtain ⟨w1, w2⟩ := w
      have hct : ct (cse c) n < ct (cse (uI c i 1)) n := ct_lt n hi (fun j _ q => by
        rw [cse_t] at q ⊢
        unfold uI; split
        · rfl
        · exact q) (by unfold cse; rw [w1]; rfl) (by rw [cse_t, uI_s])
      have hcm : ct (cse c0) n ≤ ct (cse c) n := ct_mono n (fun j hj q => cse_t.mpr (p3 j hj (cse_t.mp q)))
      refine ⟨(1, uI c i 1), ⟨Or.inr rfl, ⟨fun j hj => ?_, ?_, fun j hj q => ?_⟩, fun j hj q => ?_, ?_, fun e => absurd e one_ne, fun _ => by dsimp only; omega⟩, fun r hr => ?_⟩
      · dsimp only; unfold uI; split
        · exact Or.inr rfl
        · exact p2.1 j hj
      · dsimp only; unfold uI; split
        · rfl
        · exact p2.2.1
      · dsimp only at q
        by_cases z : j = i
        · subst z; exact (p2.2.2 k hk p4).st w2 hi
        · rw [uI_n z] at q; exact p2.2.2 j hj q
      · dsimp only; unfold uI; split
        · rfl
        · exact p3 j hj q
      · dsimp only; unfold uI; split
        · rfl
        · exact p4
      · (try dsimp only at hr); (try dsimp only)
        rw [D_X12_leads_55_eq]
        simp only [D_X12_leads_109_eq, rI_I, Nat.reduceEqDiff, if_false, if_true, h3, t_100', nI_cl (show k < 2147483648 by omega), nI_o (show k < 100 by omega) (by omega), nI_cl (show i < 2147483648 by omega), nI_o (show i < 100 by omega) (by omega), nI_cl (show k * 100 + i < 2147483648 by omega), nI_o (show k * 100 + i < 10000 by omega) (by omega), p4, w1, w2, if_neg one_ne, dp_w, nI_1, rI_set, show (1 : Int32) &&& 1 = 1 from rfl]
        rw [if_neg (nI_nge hi (by omega))]
        split <;> exact hr
    · refine ⟨(mo, c), ⟨p1, p2, p3, p4, fun e => ⟨(p5 e).1, (p5 e).2.1, fun i' q1 q2 => ?_⟩, p6⟩, fun r hr => ?_⟩
      · by_cases z : i' = i
        · subst z
          rw [← (p5 e).1 i' hi]
          exact ci.resolve_left (fun q => w ⟨q, q2⟩)
        · exact (p5 e).2.2 i' (by omega) q2
      · (try dsimp only at hr); (try dsimp only)
        rw [D_X12_leads_55_eq]
        simp only [D_X12_leads_109_eq, rI_I, Nat.reduceEqDiff, if_false, if_true, h3, t_100', nI_cl (show k < 2147483648 by omega), nI_o (show k < 100 by omega) (by omega), nI_cl (show i < 2147483648 by omega), nI_o (show i < 100 by omega) (by omega), nI_cl (show k * 100 + i < 2147483648 by omega), nI_o (show k * 100 + i < 10000 by omega) (by omega), p4, if_neg one_ne, dp_w, nI_1, rI_set, show (1 : Int32) &&& 1 = 1 from rfl, show (0 : Int32) &&& 1 = 0 from rfl]
        rw [if_neg (nI_nge hi (by omega))]
        have us : ∀ v, c i = v → uI c i v = c := fun v e => by rw [← e]; exact uI_self c i
        rcases ci with z | z
        · have wn : dp_I M 119 (k * 100 + i) = 0 := (h6 _).resolve_right (fun q => w ⟨z, q⟩)
          simp only [z, wn, if_true, us 0 z]
          rcases p1 with e | e
          · subst e; rw [if_pos rfl]; exact hr
          · subst e; rw [if_neg one_ne]; exact hr
        · simp only [z, if_neg one_ne, us 1 z]
          rcases p1 with e | e
          · subst e; rw [if_pos rfl]
            split <;> exact hr
          · subst e; rw [if_neg one_ne]; exact hr
theorem hm_pass {n x y : Nat} {c : Nat → Int32} (h3 : dp_I M 114 3 = nI n) (hn : n ≤ 100) (h6 : ∀ k, dp_I M 119 k = 0 ∨ dp_I M 119 k = 1) (hI : ldI (dp_I M 119) n y c) :
    ∃ (c' : Nat → Int32) (mo' : Int32), (mo' = 0 ∨ mo' = 1) ∧ ldI (dp_I M 119) n y c' ∧ (mo' = 0 → ldC (dp_I M 119) n c' n) ∧ (mo' = 1 → ct (cse c) n < ct (cse c') n) ∧ ∀ r, D_X12_leads_34 xs xl d (nI y) (nI x) mo' (rI M 132 c') = some r → D_X12_leads_34 xs xl d (nI y) (nI x) 1 (rI M 132 c) = some r := by
  have key := lpt (F := fun k (s : Int32 × (Nat → Int32)) => D_X12_leads_43 xs xl d (nI y) (nI x) s.1 (nI k) (rI M 132 s.2)) (a := 0) (N := n)
    (Inv := fun k s => (s.1 = 0 ∨ s.1 = 1) ∧ ldI (dp_I M 119) n y s.2 ∧ (∀ j, j < n → c j = 1 → s.2 j = 1) ∧ (s.1 = 0 → (∀ j, j < n → s.2 j = c j) ∧ ldC (dp_I M 119) n c k) ∧ (s.1 = 1 → ct (cse c) n < ct (cse s.2) n))
    (Nat.zero_le _) ?_ (0, c) ⟨Or.inl rfl, hI, fun _ _ q => q, fun _ => ⟨fun _ _ => rfl, fun k' i q => by omega⟩, fun e => absurd e zero_ne⟩
  · obtain ⟨⟨mo', c'⟩, ⟨p1, p2, p3, p4, p5⟩, p7⟩ := key
    dsimp only at p1 p2 p3 p4 p5 p7
    refine ⟨c', mo', p1, p2, fun e => ?_, p5, fun r hr => ?_⟩
    · obtain ⟨e1, e2⟩ := p4 e
      intro k i q1 q2 q3 q4
      rw [e1 k q1] at q3
      rw [e1 i q2]
      exact e2 k i q1 q2 q3 q4
    · rw [D_X12_leads_34_eq, if_neg one_ne]
      simp only [dp_w]
      refine p7 r ?_
      rw [D_X12_leads_43_eq]
      simp only [rI_I, Nat.reduceEqDiff, if_false, h3]
      rw [if_pos (nI_lle (Nat.le_refl _) (by omega))]
      apply D_X12_leads_34_to_34_a
      exact hr
  · rintro k ⟨mo, c1⟩ - hk ⟨p1, p2, p3, p4, p5⟩
    dsimp only at p1 p2 p3 p4 p5
    rcases p2.1 k hk with z | z
    · refine ⟨(mo, c1), ⟨p1, p2, p3, fun e => ⟨(p4 e).1, fun k' i q1 q2 q3 q4 => ?_⟩, p5⟩, fun r hr => ?_⟩
      · by_cases w : k' = k
        · subst w
          rw [← (p4 e).1 k' hk, z] at q3; exact absurd q3 zero_ne
        · exact (p4 e).2 k' i (by omega) q2 q3 q4
      · (try dsimp only at hr); (try dsimp only)
        rw [D_X12_leads_43_eq]
        simp only [rI_I, Nat.reduceEqDiff, if_false, h3]
        rw [if_neg (nI_nge hk (by omega))]
        simp only [dp_w]
        rw [D_X12_leads_55_eq]
        simp only [rI_I, Nat.reduceEqDiff, if_false, if_true, h3, nI_cl (show k < 2147483648 by omega), nI_o (show k < 100 by omega) (by omega), z]
        rw [if_neg (show ¬ nI n ≤ (0 : Int32) from nI_nge (i := 0) (n := n) (by omega) (by omega))]
        simp only [dp_w, nI_1]
        apply D_X12_leads_43_to_43_a
        exact hr
    · obtain ⟨c', mo', q1, q2, q3, q4, q5, q6⟩ := hm_in (xs := xs) (xl := xl) (d := d) (x := x) h3 hn h6 hk z p1 p2 p3 p4 p5
      refine ⟨(mo', c'), ⟨q1, q2, q3, q4, q5⟩, fun r hr => ?_⟩
      (try dsimp only at hr); (try dsimp only)
      rw [D_X12_leads_43_eq]
      simp only [rI_I, Nat.reduceEqDiff, if_false, h3]
      rw [if_neg (nI_nge hk (by omega))]
      simp only [dp_w]
      exact q6 r hr
theorem hm_leads {n x y : Nat} (h3 : dp_I M 114 3 = nI n) (hn : n ≤ 100) (h6 : ∀ k, dp_I M 119 k = 0 ∨ dp_I M 119 k = 1) (hx : x < n) (hy : y < n) : ∃ (v : Int32) (f : Nat → Int32), dp_den true xs xl (d + 1) 375 [.ref 114, .int (nI y), .int (nI x)] M = iR v (rI M 132 f) ∧ (v = 0 ∨ v = 1) ∧ (v = 1 ↔ Rch (dp_I M 119) n y x) := by
  have loop := lpw (F := fun c => D_X12_leads_34 xs xl d (nI y) (nI x) 1 (rI M 132 c)) (Inv := fun c => ldI (dp_I M 119) n y c) (Post := fun r => ∃ (v : Int32) (f : Nat → Int32), r = (.inl (some (.int v)), rI M 132 f) ∧ (v = 0 ∨ v = 1) ∧ (v = 1 ↔ Rch (dp_I M 119) n y x)) (fun c => n - ct (cse c) n) (fun c hI => by
    obtain ⟨c', mo, q1, q2, q3, q4, q5⟩ := hm_pass (xs := xs) (xl := xl) (d := d) (x := x) h3 hn h6 hI
    rcases q1 with e | e
    · left
      subst e
      have cl := q3 rfl
      refine ⟨(.inl (some (.int (c' x))), rI M 132 c'), q5 _ ?_, c' x, c', rfl, q2.1 x hx, fun e => q2.2.2 x hx e, fun e => ?_⟩
      · rw [D_X12_leads_34_eq, if_pos rfl]
        simp only [nI_cl (show x < 2147483648 by omega), nI_o (show x < 100 by omega) (by omega), if_false, rI_I, if_true]
        rw [if_pos (q2.1 x hx)]
      · have key : ∀ z, Rch (dp_I M 119) n y z → z < n ∧ c' z = 1 := fun z hz =>
          hz (fun z => z < n ∧ c' z = 1) ⟨hy, q2.2.1⟩ (fun k i ih e hi => ⟨hi, cl k i ih.1 hi ih.2 e⟩)
        exact (key x e).2
    · right
      subst e
      have := q4 rfl
      have hle := ct_le (cse c') n
      exact ⟨c', q2, by omega, q5⟩)
  obtain ⟨g, hg⟩ : ∃ g, g = fN (dp_I M 132) 0 n (fun k => if k = y then (1 : Int32) else 0) := ⟨_, rfl⟩
  have gi : ∀ k, k < n → g k = if k = y then 1 else 0 := fun k hk => by rw [hg]; unfold fN; rw [if_pos ⟨Nat.zero_le _, by omega⟩]; rfl
  obtain ⟨r, hr, v, f, e, hv⟩ := loop g ⟨fun k hk => by rw [gi k hk]; split <;> simp, by rw [gi y hy, if_pos rfl], fun k hk e => by
    rw [gi k hk] at e
    by_cases z : k = y
    · subst z; exact Rch.rf
    · rw [if_neg z] at e; exact absurd e zero_ne⟩
  refine ⟨v, f, ?_, hv⟩
  rw [e] at hr
  rw [D_X12_leads_0_den, D_X12_leads_0_eq]
  simp only [dp_w]
  have key := lpb (F := fun (N : dp_M) i => D_X12_leads_2 xs xl d (nI y) (nI x) (nI i) N) (s := fun i => rI M 132 (fN (dp_I M 132) 0 i (fun k => if k = y then (1 : Int32) else 0))) (N := n) (r := (.inl (some (.int v)), rI M 132 f)) ?_ (fun i hi hr2 => ?_)
  · (try dsimp only at key)
    rw [fN_0, rI_id] at key
    exact key
  · (try dsimp only)
    rw [D_X12_leads_2_eq]
    simp only [rI_I, Nat.reduceEqDiff, if_false, h3]
    rw [if_pos (nI_lle (Nat.le_refl _) (by omega))]
    simp only [dp_w]
    rw [hg] at hr
    exact hr
  · (try dsimp only at hr2); (try dsimp only)
    rw [D_X12_leads_2_eq]
    simp only [rI_I, Nat.reduceEqDiff, if_false, h3, nI_eq (show i < 2147483648 by omega) (show y < 2147483648 by omega), nI_cl (show i < 2147483648 by omega), nI_o (show i < 100 by omega) (by omega), dp_w, nI_1, rI_set, show (1 : Int32) &&& 1 = 1 from rfl, show (0 : Int32) &&& 1 = 0 from rfl]
    rw [if_neg (nI_nge hi (by omega))]
    have fs := fN_s (dp_I M 132) 0 i (fun k => if k = y then (1 : Int32) else 0)
    rw [Nat.zero_add] at fs
    rw [← fs] at hr2
    by_cases z : i = y
    · rw [if_pos z] at hr2
      rw [if_pos z]; exact hr2
    · rw [if_neg z] at hr2
      rw [if_neg z]; exact hr2
/-- before -/
theorem HSt.need {n B T x y : Nat} {port bay S D needs : Nat → Int32} (h : HSt n B T port bay S D needs) (hx : x < n) (hy : y < n) (hn : n ≤ 100) (e : bay x = bay y) (sy : ¬ S y = 3) : HSt n B T port bay S D (uI needs (x * 100 + y) 1) := by
  obtain ⟨a1, a2, a3, a4, a5, a6, a7⟩ := h
  refine ⟨a1, a2, a3, a4, a5, fun k => ?_, fun u v hv q => ?_⟩
  · unfold uI; split
    · exact Or.inr rfl
    · exact a6 k
  · by_cases z : u * 100 + v = x * 100 + y
    · have e1 : u = x := by omega
      have e2 : v = y := by omega
      subst e1; subst e2
      exact ⟨hx, hy, e, fun q => absurd q sy⟩
    · rw [uI_n z] at q
      exact a7 u v hv q
theorem s_before {n B T : Nat} (h : HR M n B T) (v1 v2 : Int32) : ∃ v M1 M2, dp_den true xs xl (d + 5) 265 [.ref 0, .int v1, .int v2] M = iR v M1 ∧ dp_den true xs xl (d + 5) 376 [.ref 114, .int v1, .int v2] M1 = iR v M2 ∧ HR M2 n B T ∧ Off [12, 13, 25, 119, 120, 132] [0] M M2 ∧ Cst 0 0 M M2 := by
  have h0 := h
  obtain ⟨a1, a2, a3, a4, a5, a6, a7, a8, a9, a10, a11, a12, a13, a14, a15, b1, b2, b3, b4, b5, b6, b7, b8, b9, b10, c1, c2, c3⟩ := h
  have h6 := c2.2.2.2.2.2.1
  have smz : HR (dp_setI M 114 0 0) n B T ∧ Off [12, 13, 25, 119, 120, 132] [0] M (dp_setI M 114 0 0) ∧ Cst 0 0 M (dp_setI M 114 0 0) := ⟨h0.same.1, (Off.rr _ _ M).F 0 (by decide) 0, h0.same.2.2⟩
  rw [D_X11_before_0_den, D_X11_before_0_eq, pc_box a6 a1, rb_bi, ibz]
  have mz : ∀ N : dp_M, dp_I N 114 3 = nI n → dp_den true xs xl (d + 5) 376 [.ref 114, .int v1, .int v2] N = if qin v1 n ∧ qin v2 n then D_X12_before_0 xs xl (d + 4) v1 v2 N else iR 0 (dp_setI N 114 0 0) := fun N hN => by
    rw [D_X12_before_0_den]
    by_cases g : qin v1 n ∧ qin v2 n
    · rw [if_pos g]
    · rw [if_neg g, D_X12_before_0_eq]
      simp only [dp_w]
      have e : dp_I (dp_setI N 114 0 0) 114 3 = nI n := by rw [gII, if_pos rfl, uI_n (by decide)]; exact hN
      rw [pm_box e a1, rb_bi, ibz]
      by_cases z1 : qin v1 n
      · rw [if_pos z1, pm_box e a1, rb_bi, ibz, if_neg (fun q => g ⟨z1, q⟩)]
      · rw [if_neg z1]
  by_cases g : qin v1 n ∧ qin v2 n
  case neg =>
    refine ⟨0, M, dp_setI M 114 0 0, ?_, by rw [mz M a7, if_neg g], smz⟩
    by_cases z1 : qin v1 n
    · rw [if_pos z1, pc_box a6 a1, rb_bi, ibz, if_neg (fun q => g ⟨z1, q⟩)]
    · rw [if_neg z1]
  obtain ⟨g1, g2⟩ := g
  rw [if_pos g1, pc_box a6 a1, rb_bi, ibz, if_pos g2]
  obtain ⟨x, hx, rfl⟩ := qin_of g1 (by omega)
  obtain ⟨y, hy, rfl⟩ := qin_of g2 (by omega)
  obtain ⟨bx, hbx, ebx⟩ := qin_of (c2.1 x hx).2.1 (by omega)
  have lv : ∀ z, z < n → dp_den true xs xl (d + 3) 54 [.ref 1, .int (nI z)] M = iR (bI (dp_I M 2 z = 0 ∧ ¬ dp_I M 9 z = 3)) M := fun z hz => by
    rw [D_X2_isLeaving_0_den, D_X2_isLeaving_0_eq]
    simp only [nI_cl (show z < 2147483648 by omega), nI_o (show z < 100 by omega) (by omega), if_false]
    by_cases q1 : dp_I M 2 z = 0
    · rw [if_pos q1]
      by_cases q2 : dp_I M 9 z = 3
      · rw [if_pos q2, bI_f (fun q => q.2 q2)]
      · rw [if_neg q2, bI_t ⟨q1, q2⟩]
    · rw [if_neg q1, bI_f (fun q => q1 q.1)]
  have z45 : D_X2_addNeed_45 xs xl (d + 3) (nI x) (nI y) 0 M = iR 0 M := by rw [D_X2_addNeed_45_eq, if_pos rfl]
  have hc : dp_den true xs xl (d + 4) 61 [.ref 1, .int (nI x), .int (nI y)] M = if dp_I M 8 x = dp_I M 8 y ∧ (dp_I M 2 x = 0 ∧ ¬ dp_I M 9 x = 3) ∧ (dp_I M 2 y = 0 ∧ ¬ dp_I M 9 y = 3) ∧ dp_I M 12 (x * 100 + y) = 0 then D_X2_addNeed_45 xs xl (d + 3) (nI x) (nI y) 1 M else iR 0 M := by
    rw [D_X2_addNeed_0_den, D_X2_addNeed_0_eq]
    simp only [nI_cl (show x < 2147483648 by omega), nI_o (show x < 100 by omega) (by omega), nI_cl (show y < 2147483648 by omega), nI_o (show y < 100 by omega) (by omega), if_false, lv x hx, lv y hy, rb_bi, ibz, hc_need (show x < 100 by omega) (show y < 100 by omega) h6, z45]
    by_cases q1 : dp_I M 8 x = dp_I M 8 y
    case neg => rw [if_neg q1, if_neg (fun q => q1 q.1)]
    rw [if_pos q1]
    by_cases q2 : dp_I M 2 x = 0 ∧ ¬ dp_I M 9 x = 3
    case neg => rw [if_neg q2, if_neg (fun q => q2 q.2.1)]
    rw [if_pos q2]
    by_cases q3 : dp_I M 2 y = 0 ∧ ¬ dp_I M 9 y = 3
    case neg => rw [if_neg q3, if_neg (fun q => q3 q.2.2.1)]
    rw [if_pos q3]
    by_cases q4 : dp_I M 12 (x * 100 + y) = 0
    case neg => rw [if_neg q4, if_neg (fun q => q4 q.2.2.2)]
    rw [if_pos q4, if_pos ⟨q1, q2, q3, q4⟩]
  have hm : ∀ N : dp_M, dp_I N 114 3 = nI n → dp_I N 116 = dp_I M 8 → dp_I N 117 = dp_I M 9 → dp_I N 115 = dp_I M 2 → dp_I N 119 = dp_I M 12 → dp_den true xs xl (d + 5) 376 [.ref 114, .int (nI x), .int (nI y)] N = if dp_I M 8 x = dp_I M 8 y ∧ (dp_I M 2 x = 0 ∧ ¬ dp_I M 9 x = 3) ∧ (dp_I M 2 y = 0 ∧ ¬ dp_I M 9 y = 3) ∧ dp_I M 12 (x * 100 + y) = 0 then dp_bi (dp_den true xs xl (d + 4) 375 [.ref 114, .int (nI y), .int (nI x)] (dp_setI N 114 0 0)) (fun r7 M6 => if r7 = 0 then dp_w (dp_setI M6 119 (x * 100 + y) 1) (fun M8 => if (dp_I M8 116 x) < 0 ∨ 12 ≤ (dp_I M8 116 x).toNatClampNeg then none else dp_w (dp_setI M8 120 (dp_I M8 116 x).toNatClampNeg 0) (fun M9 => iR 1 M9)) else iR 0 M6) else iR 0 (dp_setI N 114 0 0) := fun N e3 e116 e117 e115 e119 => by
    have e : dp_I (dp_setI N 114 0 0) 114 3 = nI n := by rw [gII, if_pos rfl, uI_n (by decide)]; exact e3
    rw [D_X12_before_0_den, D_X12_before_0_eq]
    simp only [dp_w]
    rw [pm_box e a1, rb_bi, ibz, if_pos g1, pm_box e a1, rb_bi, ibz, if_pos g2]
    simp only [nI_cl (show x < 2147483648 by omega), nI_o (show x < 100 by omega) (by omega), nI_cl (show y < 2147483648 by omega), nI_o (show y < 100 by omega) (by omega), if_false, t_100', nI_cl (show x * 100 + y < 2147483648 by omega), nI_o (show x * 100 + y < 10000 by omega) (by omega), gII, Nat.reduceEqDiff, e116, e117, e115, e119, show (1 : Int32) &&& 1 = 1 from rfl, show (0 : Int32) &&& 1 = 0 from rfl]
    by_cases q1 : dp_I M 8 x = dp_I M 8 y
    case neg => rw [if_neg q1, if_neg (show ¬ _ from fun q => q1 q.1)]
    rw [if_pos q1]
    by_cases q2 : dp_I M 9 x = 3
    · rw [if_pos q2, if_neg (show ¬ _ from fun q => q.2.1.2 q2)]
    rw [if_neg q2]
    by_cases q3 : dp_I M 9 y = 3
    · rw [if_pos q3, if_neg (show ¬ _ from fun q => q.2.2.1.2 q3)]
    rw [if_neg q3]
    by_cases q4 : dp_I M 2 x = 0
    case neg => rw [if_neg q4, if_neg (show ¬ _ from fun q => q4 q.2.1.1)]
    rw [if_pos q4]
    by_cases q5 : dp_I M 2 y = 0
    case neg => rw [if_neg q5, if_neg (show ¬ _ from fun q => q5 q.2.2.1.1)]
    rw [if_pos q5]
    by_cases q6 : dp_I M 12 (x * 100 + y) = 0
    case neg => rw [if_neg q6, if_neg (show ¬ _ from fun q => q6 q.2.2.2)]
    rw [if_pos q6, if_pos (show dp_I M 8 x = dp_I M 8 y ∧ (dp_I M 2 x = 0 ∧ ¬ dp_I M 9 x = 3) ∧ (dp_I M 2 y = 0 ∧ ¬ dp_I M 9 y = 3) ∧ dp_I M 12 (x * 100 + y) = 0 from ⟨q1, ⟨q4, q2⟩, ⟨q5, q3⟩, q6⟩)]
  by_cases gg : dp_I M 8 x = dp_I M 8 y ∧ (dp_I M 2 x = 0 ∧ ¬ dp_I M 9 x = 3) ∧ (dp_I M 2 y = 0 ∧ ¬ dp_I M 9 y = 3) ∧ dp_I M 12 (x * 100 + y) = 0
  case neg =>
    refine ⟨0, M, dp_setI M 114 0 0, ?_, ?_, smz⟩
    · rw [hc, if_neg gg, rb_bi, if_pos rfl]
    · rw [hm M a7 b2 b3 b1 b5, if_neg gg]
  obtain ⟨w, f, e1, e2, e3⟩ := hc_ahead (xs := xs) (xl := xl) (d := d) a6 a1 a3 c2 hx hy hbx ebx (by rw [← gg.1]; exact ebx) gg.2.1.2 gg.2.2.1.2
  have nxt : ∀ N : dp_M, dp_I N 114 3 = nI n → dp_I N 119 = dp_I M 12 → ∃ f', dp_den true xs xl (d + 4) 375 [.ref 114, .int (nI y), .int (nI x)] (dp_setI N 114 0 0) = iR w (rI (dp_setI N 114 0 0) 132 f') := fun N q3 q119 => by
    have e119 : dp_I (dp_setI N 114 0 0) 119 = dp_I M 12 := by rw [gII, if_neg (by decide)]; exact q119
    obtain ⟨v, f', y1, y2, y3⟩ := hm_leads (xs := xs) (xl := xl) (d := d + 3) (M := dp_setI N 114 0 0) (n := n) (x := x) (y := y) (by rw [gII, if_pos rfl, uI_n (by decide)]; exact q3) a1 (by rw [e119]; exact h6) hx hy
    rw [e119] at y3
    have : v = w := by
      rcases y2 with rfl | rfl
      · rcases e2 with rfl | rfl
        · rfl
        · exact y3.mpr (e3.mp rfl)
      · exact (e3.mpr (y3.mp rfl)).symm
    exact ⟨f', by rw [← this]; exact y1⟩
  by_cases gw : w = 1
  · obtain ⟨f', y1⟩ := nxt (rI M 13 f) (by rw [rI_I, if_neg (by decide)]; exact a7) (by rw [rI_I, if_neg (by decide)]; exact b5)
    refine ⟨0, rI M 13 f, rI (dp_setI (rI M 13 f) 114 0 0) 132 f', ?_, ?_, ?_, ?_, ⟨Nat.le_refl _, Nat.le_refl _⟩⟩
    · rw [hc, if_pos gg, D_X2_addNeed_45_eq, if_neg one_ne, e1, rb_bi, gw, if_neg one_ne, rb_bi, if_pos rfl]
    · rw [hm _ (by rw [rI_I, if_neg (by decide)]; exact a7) (by rw [rI_I, if_neg (by decide)]; exact b2) (by rw [rI_I, if_neg (by decide)]; exact b3) (by rw [rI_I, if_neg (by decide)]; exact b1) (by rw [rI_I, if_neg (by decide)]; exact b5), if_pos gg, y1, rb_bi, gw, if_neg one_ne]
    · exact HR_off h0 ((((Off.rr [13, 132] [0] M).rI 13 (by decide) f).F 0 (by decide) 0).rI 132 (by decide) f') (by decide) (by decide)
    · exact (((Off.rr _ _ M).rI 13 (by decide) f).F 0 (by decide) 0).rI 132 (by decide) f'
  have w0 : w = 0 := e2.resolve_right gw
  subst w0
  obtain ⟨C, hC⟩ : ∃ C, C = dp_setI (dp_setI (rI M 13 f) 12 (x * 100 + y) 1) 25 bx (-1) := ⟨_, rfl⟩
  have cI : ∀ k, k ≠ 12 → k ≠ 13 → k ≠ 25 → dp_I C k = dp_I M k := fun k h1 h2 h3 => by
    rw [hC, gII, if_neg h3, gII, if_neg h1, rI_I, if_neg h2]
  have f114 : dp_I C 114 = dp_I M 114 := cI 114 (by decide) (by decide) (by decide)
  obtain ⟨f', y1⟩ := nxt C (by rw [f114]; exact a7) (by rw [cI 119 (by decide) (by decide) (by decide)]; exact b5)
  obtain ⟨K, hK⟩ : ∃ K, K = dp_setI (dp_setI (rI (dp_setI C 114 0 0) 132 f') 119 (x * 100 + y) 1) 120 bx 0 := ⟨_, rfl⟩
  have kI : ∀ k, k ≠ 114 → k ≠ 119 → k ≠ 120 → k ≠ 132 → dp_I K k = dp_I C k := fun k h1 h2 h3 h4 => by
    rw [hK, gII, if_neg h3, gII, if_neg h2, rI_I, if_neg h4, gII, if_neg h1]
  have k114 : ∀ i, i ≠ 0 → dp_I K 114 i = dp_I M 114 i := fun i hi => by
    rw [hK, gII, if_neg (by decide), gII, if_neg (by decide), rI_I, if_neg (by decide), gII, if_pos rfl, uI_n hi, f114]
  have ko : ∀ k, k ≠ 114 → k ≠ 119 → k ≠ 120 → k ≠ 132 → k ≠ 12 → k ≠ 13 → k ≠ 25 → dp_I K k = dp_I M k := fun k h1 h2 h3 h4 h5 h6 h7 => by rw [kI k h1 h2 h3 h4, cI k h5 h6 h7]
  have k12 : dp_I K 12 = uI (dp_I M 12) (x * 100 + y) 1 := by
    rw [kI 12 (by decide) (by decide) (by decide) (by decide), hC, gII, if_neg (by decide), gII, if_pos rfl, rI_I, if_neg (by decide)]
  have k119 : dp_I K 119 = uI (dp_I M 12) (x * 100 + y) 1 := by
    rw [hK, gII, if_neg (by decide), gII, if_pos rfl, rI_I, if_neg (by decide), gII, if_neg (by decide), cI 119 (by decide) (by decide) (by decide), b5]
  have k25 : dp_I K 25 = uI (dp_I M 25) bx (-1) := by
    rw [kI 25 (by decide) (by decide) (by decide) (by decide), hC, gII, if_pos rfl, gII, if_neg (by decide), rI_I, if_neg (by decide)]
  have k120 : dp_I K 120 = uI (dp_I M 120) bx 0 := by
    rw [hK, gII, if_pos rfl, gII, if_neg (by decide), rI_I, if_neg (by decide), gII, if_neg (by decide), cI 120 (by decide) (by decide) (by decide)]
  have kl : dp_len K = dp_len M := by rw [hK, hC]; rfl
  have k1 := ko 1 (by decide) (by decide) (by decide) (by decide) (by decide) (by decide) (by decide)
  refine ⟨1, C, K, ?_, ?_, ?_, ?_, by rw [hK, hC]; exact ⟨Nat.le_refl _, Nat.le_refl _⟩⟩
  · rw [hc, if_pos gg, D_X2_addNeed_45_eq, if_neg one_ne, e1, rb_bi, if_pos rfl]
    simp only [dp_w, t_100, nI_cl (show x * 100 + y < 2147483648 by omega), nI_o (show x * 100 + y < 10000 by omega) (by omega), nI_cl (show x < 2147483648 by omega), nI_o (show x < 100 by omega) (by omega), if_false, gII, glI, rI_I, rI_len, Nat.reduceEqDiff, ebx, nI_cl (show bx < 2147483648 by omega), a13, nI_o hbx (by omega), show (1 : Int32) &&& 1 = 1 from rfl, rb_bi, if_neg one_ne, hC]
  · rw [hm C (by rw [f114]; exact a7) (by rw [cI 116 (by decide) (by decide) (by decide)]; exact b2) (by rw [cI 117 (by decide) (by decide) (by decide)]; exact b3) (by rw [cI 115 (by decide) (by decide) (by decide)]; exact b1) (by rw [cI 119 (by decide) (by decide) (by decide)]; exact b5), if_pos gg, y1, rb_bi, if_pos rfl]
    simp only [dp_w, gII, rI_I, Nat.reduceEqDiff, if_false, cI 116 (by decide) (by decide) (by decide), b2, ebx, nI_cl (show bx < 2147483648 by omega), nI_o (show bx < 12 by omega) (by omega), hK]
  · refine ⟨a1, a2, a3, a4, a5, by rw [k1]; exact a6, by rw [k114 _ (by decide)]; exact a7, by rw [k1]; exact a8, by rw [k114 _ (by decide)]; exact a9, by rw [k1]; exact a10, by rw [k114 _ (by decide)]; exact a11, by rw [k1, k114 _ (by decide)]; exact a12, by rw [kl]; exact a13, by rw [kl]; exact a14, by rw [kl]; exact a15, ?_, ?_, ?_, ?_, by rw [k119, k12], ?_, ?_, ?_, ?_, ?_, ?_, ?_, fun b' hb' => ?_⟩
    · rw [ko 115 (by decide) (by decide) (by decide) (by decide) (by decide) (by decide) (by decide), ko 2 (by decide) (by decide) (by decide) (by decide) (by decide) (by decide) (by decide)]; exact b1
    · rw [ko 116 (by decide) (by decide) (by decide) (by decide) (by decide) (by decide) (by decide), ko 8 (by decide) (by decide) (by decide) (by decide) (by decide) (by decide) (by decide)]; exact b2
    · rw [ko 117 (by decide) (by decide) (by decide) (by decide) (by decide) (by decide) (by decide), ko 9 (by decide) (by decide) (by decide) (by decide) (by decide) (by decide) (by decide)]; exact b3
    · rw [ko 118 (by decide) (by decide) (by decide) (by decide) (by decide) (by decide) (by decide), ko 10 (by decide) (by decide) (by decide) (by decide) (by decide) (by decide) (by decide)]; exact b4
    · rw [ko 136 (by decide) (by decide) (by decide) (by decide) (by decide) (by decide) (by decide), ko 3 (by decide) (by decide) (by decide) (by decide) (by decide) (by decide) (by decide)]; exact b6
    · rw [ko 135 (by decide) (by decide) (by decide) (by decide) (by decide) (by decide) (by decide), ko 4 (by decide) (by decide) (by decide) (by decide) (by decide) (by decide) (by decide)]; exact b7
    · rw [ko 137 (by decide) (by decide) (by decide) (by decide) (by decide) (by decide) (by decide), ko 5 (by decide) (by decide) (by decide) (by decide) (by decide) (by decide) (by decide)]; exact b8
    · rw [ko 138 (by decide) (by decide) (by decide) (by decide) (by decide) (by decide) (by decide), ko 6 (by decide) (by decide) (by decide) (by decide) (by decide) (by decide) (by decide)]; exact b9
    · rw [ko 139 (by decide) (by decide) (by decide) (by decide) (by decide) (by decide) (by decide), ko 7 (by decide) (by decide) (by decide) (by decide) (by decide) (by decide) (by decide)]; exact b10
    · rw [ko 3 (by decide) (by decide) (by decide) (by decide) (by decide) (by decide) (by decide), ko 4 (by decide) (by decide) (by decide) (by decide) (by decide) (by decide) (by decide), ko 5 (by decide) (by decide) (by decide) (by decide) (by decide) (by decide) (by decide), ko 6 (by decide) (by decide) (by decide) (by decide) (by decide) (by decide) (by decide), ko 7 (by decide) (by decide) (by decide) (by decide) (by decide) (by decide) (by decide)]; exact c1
    · rw [k12, ko 2 (by decide) (by decide) (by decide) (by decide) (by decide) (by decide) (by decide), ko 8 (by decide) (by decide) (by decide) (by decide) (by decide) (by decide) (by decide), ko 9 (by decide) (by decide) (by decide) (by decide) (by decide) (by decide) (by decide), ko 10 (by decide) (by decide) (by decide) (by decide) (by decide) (by decide) (by decide)]
      exact c2.need hx hy a1 gg.1 gg.2.2.1.2
    · by_cases z : b' = bx
      · subst z
        exact Or.inl ⟨by rw [k120, uI_s], by rw [k25, uI_s]⟩
      · refine (c3 b' hb').mono (by rw [k120, uI_n z]) (by rw [k25, uI_n z]) (by rw [ko 121 (by decide) (by decide) (by decide) (by decide) (by decide) (by decide) (by decide)]) (by rw [ko 26 (by decide) (by decide) (by decide) (by decide) (by decide) (by decide) (by decide)]) (by rw [ko 122 (by decide) (by decide) (by decide) (by decide) (by decide) (by decide) (by decide)]) (fun i _ => by rw [ko 27 (by decide) (by decide) (by decide) (by decide) (by decide) (by decide) (by decide)]) (fun i _ => by rw [ko 123 (by decide) (by decide) (by decide) (by decide) (by decide) (by decide) (by decide)]) (fun i _ => by rw [ko 124 (by decide) (by decide) (by decide) (by decide) (by decide) (by decide) (by decide)]) (fun i _ => by rw [ko 125 (by decide) (by decide) (by decide) (by decide) (by decide) (by decide) (by decide)]) (fun mb mt k e => ?_)
        rw [k12, ko 8 (by decide) (by decide) (by decide) (by decide) (by decide) (by decide) (by decide), ko 9 (by decide) (by decide) (by decide) (by decide) (by decide) (by decide) (by decide), ko 10 (by decide) (by decide) (by decide) (by decide) (by decide) (by decide) (by decide)]
        refine PV_c (Nat.le_refl _) (fun i hi => Iff.rfl) (fun i h1 h2 => by omega) (fun u v hu hv q1 q2 => uI_n (fun q => ?_)) k e _ _ _ _ (fun i hi _ => ⟨rfl, rfl⟩)
        have : v = x := by omega
        subst this
        rw [ebx, nI_eq (by omega) (by omega)] at q2
        exact z q2.symm
  · rw [hK, hC]
    exact ((((((Off.rr _ _ M).rI 13 (by decide) f).I 12 (by decide) _ _).I 25 (by decide) _ _).F 0 (by decide) 0).rI 132 (by decide) f').I 119 (by decide) _ _ |>.I 120 (by decide) _ _
end HG
