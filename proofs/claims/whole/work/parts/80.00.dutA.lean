-- needs: 71 72 73 74 75 76 77 78 79
/-! DUTY: what an ask got lies between 0 and what was asked; parts of a sum -/
section DuA
variable {A : Nat} {p : Nat → Bool} {dy dk : Nat → Int32} {ask : Nat → Int64}
def gbd (ask g : Nat → Int64) : Prop := ∀ a, 0 ≤ (g a).toInt ∧ (g a).toInt ≤ (ask a).toInt
theorem hoA_g {c : Nat → Bool} {s : Int64 × (Nat → Int64)} (hb : ∀ a, (ask a).toInt ≤ 1000000) (h : gbd ask s.2) : ∀ n, gbd ask (hoA ask c s n).2
  | 0 => h
  | n + 1 => by
    have ih : gbd ask (hoA ask c s n).2 := hoA_g hb h n
    rw [hoA]
    split
    · rename_i q
      have q2 := q.2.1
      rw [Int64.lt_iff_toInt_lt] at q2
      intro a
      show 0 ≤ (uI (hoA ask c s n).2 n ((hoA ask c s n).2 n + 1) a).toInt ∧ _
      by_cases z : a = n
      · have e1 : (1 : Int64).toInt = 1 := by decide
        have i1 := ih n
        have b1 := hb n
        have e2 : ((hoA ask c s n).2 n + 1).toInt = ((hoA ask c s n).2 n).toInt + 1 := by rw [q_addJ (by rw [e1]; omega) (by rw [e1]; omega), e1]
        have e3 : uI (hoA ask c s n).2 n ((hoA ask c s n).2 n + 1) a = (hoA ask c s n).2 n + 1 := by rw [z, uI_s]
        rw [z] at e3 ⊢
        show 0 ≤ (uI (hoA ask c s n).2 n ((hoA ask c s n).2 n + 1) n).toInt ∧ (uI (hoA ask c s n).2 n ((hoA ask c s n).2 n + 1) n).toInt ≤ _
        rw [e3, e2]; omega
      · show 0 ≤ (uI (hoA ask c s n).2 n ((hoA ask c s n).2 n + 1) a).toInt ∧ (uI (hoA ask c s n).2 n ((hoA ask c s n).2 n + 1) a).toInt ≤ _
        rw [uI_n z]; exact ih a
    · exact ih
theorem ho_g {c : Nat → Nat → Bool} {s : Int64 × (Nat → Int64)} (hb : ∀ a, (ask a).toInt ≤ 1000000) (h : gbd ask s.2) : ∀ k, gbd ask (ho A ask c s k).2
  | 0 => h
  | k + 1 => hoA_g hb (ho_g hb h k) A
theorem trt_g {d : Int32} {s : QS} (hb : ∀ a, 0 ≤ (ask a).toInt ∧ (ask a).toInt ≤ 1000000) (hA : A ≤ 400) (h0 : 0 ≤ s.1.toInt) (h1 : s.1.toInt ≤ 1000000000) (h : gbd ask s.2.2) : gbd ask (trt A p dy dk ask d s).2.2 := by
  have hq := qall_b (c := nw p dy d s.2.1) hb hA A (Nat.le_refl _)
  have g : gbd ask (g1 (nw p dy d s.2.1) ask (qall A (nw p dy d s.2.1) ask) s.1 s.2.2 A) := by
    intro a
    unfold g1
    split
    · unfold qsh
      split
      · have := hb a; omega
      · rename_i q
        rw [Int64.le_iff_toInt_le] at q
        have ha := hb a
        have m1 : 0 ≤ (ask a).toInt * s.1.toInt := Int.mul_nonneg ha.1 h0
        have m2 : (ask a).toInt * s.1.toInt ≤ 1000000 * 1000000000 := Int.mul_le_mul ha.2 h1 h0 (by omega)
        have e1 : (ask a * s.1).toInt = (ask a).toInt * s.1.toInt := q_mulJ (by omega) (by omega)
        rw [q_divJ (by omega) (by omega), e1]
        refine ⟨Int.ediv_nonneg m1 (by omega), ?_⟩
        have m3 : (ask a).toInt * s.1.toInt ≤ (ask a).toInt * (qall A (nw p dy d s.2.1) ask).toInt := Int.mul_le_mul_of_nonneg_left (by omega) ha.1
        have := Int.ediv_le_ediv (show 0 < (qall A (nw p dy d s.2.1) ask).toInt by omega) m3
        rw [Int.mul_ediv_cancel _ (by omega)] at this
        exact this
    · exact h a
  unfold trt
  (try dsimp only)
  split
  · exact g
  · exact ho_g (fun a => (hb a).2) g 4
theorem crs_g {blk : Nat → Int32} {f : Nat} {V : Int64} (hb : ∀ a, 0 ≤ (ask a).toInt ∧ (ask a).toInt ≤ 1000000) (hA : A ≤ 400) (h0 : 0 ≤ V.toInt) (h1 : V.toInt ≤ 1000000000) : ∀ n, gbd ask (crs A p dy dk ask blk f V n).2.2
  | 0 => fun a => ⟨by show 0 ≤ (0 : Int64).toInt; decide, (hb a).1⟩
  | n + 1 => by
    have ih : gbd ask (crs A p dy dk ask blk f V n).2.2 := crs_g hb hA h0 h1 n
    have b := crs_b (p := p) (dy := dy) (dk := dk) (blk := blk) (f := f) hb hA h0 h1 n
    rw [crs]
    split
    · exact trt_g hb hA b.1 b.2 ih
    · exact ih
end DuA
section DuB
/-- a part of a sum: 0 all, 1 what the quota has, 2 the rest -/
def pt (h w : Int64) (wc : Nat) (v : Int64) : Int64 := if wc = 0 then v else if wc = 1 then v * h / w else v - v * h / w
/-- which part a row of a kind is on; b: there is an ask; 3: none -/
def wch (k : Nat) (b : Bool) (h w : Int64) : Nat := if 1 < k then 0 else if k = 1 then (if 0 < h then 1 else 3) else if b = true then (if h < w then 2 else 3) else 0
theorem pt_b {h w v : Int64} {wc : Nat} (h0 : 0 ≤ h.toInt) (h1 : h.toInt ≤ w.toInt) (h2 : w.toInt ≤ 1000000) (hw : ¬ wc = 0 → 0 < w.toInt) (v0 : 0 ≤ v.toInt) (v1 : v.toInt ≤ 100000000) : 0 ≤ (pt h w wc v).toInt ∧ (pt h w wc v).toInt ≤ v.toInt := by
  unfold pt
  by_cases z : wc = 0
  · rw [if_pos z]; omega
  rw [if_neg z]
  have hw := hw z
  have m1 : 0 ≤ v.toInt * h.toInt := Int.mul_nonneg v0 h0
  have m2 : v.toInt * h.toInt ≤ 100000000 * 1000000 := Int.mul_le_mul v1 (by omega) h0 (by omega)
  have e1 : (v * h).toInt = v.toInt * h.toInt := q_mulJ (by omega) (by omega)
  have e2 : (v * h / w).toInt = v.toInt * h.toInt / w.toInt := by rw [q_divJ (by omega) hw, e1]
  have d1 : 0 ≤ v.toInt * h.toInt / w.toInt := Int.ediv_nonneg m1 (by omega)
  have m3 : v.toInt * h.toInt ≤ v.toInt * w.toInt := Int.mul_le_mul_of_nonneg_left (by omega) v0
  have d2 := Int.ediv_le_ediv hw m3
  rw [Int.mul_ediv_cancel _ (by omega)] at d2
  by_cases z1 : wc = 1
  · rw [if_pos z1, e2]; omega
  · rw [if_neg z1, q_subJ (by rw [e2]; omega) (by rw [e2]; omega), e2]; omega
theorem wch_lt (k : Nat) (b : Bool) (h w : Int64) : wch k b h w < 4 := by
  unfold wch; repeat' split
  all_goals omega
theorem wch_w {k : Nat} {b : Bool} {h w : Int64} (h0 : 0 ≤ h.toInt) (h1 : h.toInt ≤ w.toInt) (hz : b = false → h = 0 ∧ w = 0) (h3 : ¬ wch k b h w = 3) : ¬ wch k b h w = 0 → 0 < w.toInt ∧ b = true := by
  intro n0
  have e0 : (0 : Int64).toInt = 0 := by decide
  have hb : 0 < w.toInt → b = true := fun q => by
    cases b with
    | true => rfl
    | false => rw [(hz rfl).2, e0] at q; omega
  unfold wch at h3 n0
  split at n0
  · exact absurd rfl n0
  · rename_i z1
    rw [if_neg z1] at h3
    split at n0
    · rename_i z2
      rw [if_pos z2] at h3
      split at h3
      · rename_i z3
        rw [Int64.lt_iff_toInt_lt, e0] at z3
        exact ⟨by omega, hb (by omega)⟩
      · exact absurd rfl h3
    · rename_i z2
      rw [if_neg z2] at h3
      split at n0
      · rename_i z3
        rw [if_pos z3] at h3
        split at h3
        · rename_i z4
          rw [Int64.lt_iff_toInt_lt] at z4
          exact ⟨by omega, z3⟩
        · exact absurd rfl h3
      · exact absurd rfl n0
/-- the sum over the rows found: nothing, wanting, cents -/
def dfn (rv : Nat → Option (Option Int64)) : Nat → Nat → Int64 → Int64
  | _, 0, s => if s ≤ 1000000000 then s else -1
  | i, k + 1, s => match rv i with
    | none => dfn rv (i + 1) k s
    | some none => -1
    | some (some c) => dfn rv (i + 1) k (s + c)
/-- is an amount wanting -/
def lkB (l : List Nd) (am : Nat → Int64) : Bool := an (fun j => decide ((l.getD j v0).1 = 2 ∧ am (l.getD j v0).2.2.1.toNatClampNeg = -1)) l.length
theorem lkB_t {l : List Nd} {am : Nat → Int64} : lkB l am = true ↔ ∃ j, j < l.length ∧ lack l am j := by
  unfold lkB
  rw [an_iff]
  simp only [decide_eq_true_eq]
  exact Iff.rfl
/-- a unit is asked for -/
theorem tb_umk {k : Nat} (hk : k < 8) : ∀ l : List Nd, ndl l → (tb (umk l) k = true ↔ ∃ v, v ∈ l ∧ v.1 = 2 ∧ v.2.2.1 = nI k)
  | [], _ => ⟨fun q => (by rw [show umk [] = 0 from rfl, tb_0] at q; cases q), fun ⟨v, hv, _⟩ => (by cases hv)⟩
  | v :: l, h => by
    have ih := tb_umk hk l (fun w hw => h w (List.mem_cons_of_mem _ hw))
    show tb ((if v.1 = 2 then (1 : Int32) <<< (v.2.2.1 &&& 31) else 0) ||| umk l) k = true ↔ _
    have key : tb (if v.1 = 2 then (1 : Int32) <<< (v.2.2.1 &&& 31) else 0) k = true ↔ (v.1 = 2 ∧ v.2.2.1 = nI k) := by
      by_cases z : v.1 = 2
      · rw [if_pos z]
        obtain ⟨u, u8, hu⟩ : ∃ u, u < 8 ∧ v.2.2.1 = nI u := by
          rcases h v (List.mem_cons_self ..) with k0 | k1 | ⟨-, hu⟩ | kb | ⟨k7, -⟩
          · rw [k0] at z; exact absurd z (by decide)
          · rw [k1] at z; exact absurd z (by decide)
          · exact hu
          · rw [z] at kb; exact absurd kb (by decide)
          · rw [k7] at z; exact absurd z (by decide)
        rw [hu, tb_one (by omega) (by omega), decide_eq_true_eq, nI_eq (by omega) (by omega)]
        exact ⟨fun e => ⟨z, e.symm⟩, fun e => e.2.symm⟩
      · rw [if_neg z, tb_0]
        exact ⟨fun q => (by cases q), fun q => absurd q.1 z⟩
    rw [tb_or, Bool.or_eq_true, key, ih]
    constructor
    · rintro (q | ⟨w, w1, w2⟩)
      · exact ⟨v, List.mem_cons_self .., q⟩
      · exact ⟨w, List.mem_cons_of_mem _ w1, w2⟩
    · rintro ⟨w, w1, w2⟩
      rcases List.mem_cons.mp w1 with rfl | w1
      · exact Or.inl w2
      · exact Or.inr ⟨w, w1, w2⟩
end DuB
