-- needs: 71 72 73 74
/-! RATES: valueAt -/
/-- the values, when the last n nodes are reckoned -/
def vrow (l : List Nd) (pr : Int64) (am w0 : Nat → Int64) : Nat → Nat → Int64
  | 0 => w0
  | n + 1 => uI (vrow l pr am w0 n) (l.length - 1 - n) (nvl l pr am (vrow l pr am w0 n) (l.length - 1 - n))
/-- what is below a node stands behind it -/
def Shp (l : List Nd) : Prop := ∀ j, j < l.length → isBn (l.getD j v0) = true → ∃ m, fR l j = nI m ∧ j + 1 < m ∧ m < l.length
theorem nvl_c {l : List Nd} {pr : Int64} {am w w' : Nat → Int64} {j : Nat} (hs : Shp l) (hj : j < l.length) (hl : l.length ≤ 60) (h : ∀ i, j < i → i < l.length → w i = w' i) : nvl l pr am w j = nvl l pr am w' j := by
  unfold nvl
  by_cases b : isBn (l.getD j v0) = true
  · obtain ⟨m, m1, m2, m3⟩ := hs j hj b
    have eL : fL l j = nI (j + 1) := by unfold fL; rw [if_pos b]
    rw [if_pos b, if_pos b, eL, m1, nI_cl (by omega), nI_cl (by omega), h (j + 1) (by omega) (by omega), h m (by omega) m3]
  · rw [if_neg b, if_neg b]
theorem vrow_c {l : List Nd} {pr : Int64} {am w w' : Nat → Int64} (hs : Shp l) (hl : l.length ≤ 60) : ∀ n, n ≤ l.length → ∀ i, l.length - n ≤ i → i < l.length → vrow l pr am w n i = vrow l pr am w' n i
  | 0, _, i, h1, h2 => by omega
  | n + 1, hn, i, h1, h2 => by
    have ih := vrow_c (pr := pr) (am := am) (w := w) (w' := w') hs hl n (by omega)
    unfold vrow
    have e : nvl l pr am (vrow l pr am w n) (l.length - 1 - n) = nvl l pr am (vrow l pr am w' n) (l.length - 1 - n) := nvl_c hs (by omega) hl (fun i a b => ih i (by omega) b)
    rw [e]
    by_cases z : i = l.length - 1 - n
    · rw [z, uI_s, uI_s]
    · rw [uI_n z, uI_n z]; exact ih i (by omega) h2
/-- the value of a rate -/
def rval (l : List Nd) (pr : Int64) (am : Nat → Int64) : Int64 := if vrow l pr am (fun _ => 0) l.length 0 < 0 then 0 else vrow l pr am (fun _ => 0) l.length 0
section Ro
variable {xs : Nat → Int32} {xl d : Nat} {M : dp_M} {q : Nat} {l : List Nd}
theorem RtO.shp (h : RtO M q l) : Shp l := by
  obtain ⟨f, s, S, -, -, -, -, g⟩ := h.fv
  exact fun j hj hb => (g j hj).2.1 hb
theorem c_value {pr : Int64} (h : RtO M q l) (hk : ndl l) : dp_den true xs xl (d + 5) 138 [.ref q, .long pr, .ref 112, .ref 113] M = lR (rval l pr (dp_J M 112)) (rJ M 113 (vrow l pr (dp_J M 112) (dp_J M 113) l.length)) := by
  have q1 := h.1
  have q3 := h.2.2.1
  have l1 := h.2.2.2.2.2.1
  have l60 := h.2.2.2.2.2.2.1
  have T : ∀ w, dp_t true (rJ M 113 w) q = 16 := fun w => by rw [bg_t q1]; exact q3
  have H : ∀ w, RtO (rJ M 113 w) q l := fun w => h.off (S := [113]) (T := []) ((Off.rr _ _ M).rJ 113 (by decide) w)
  have J2 : ∀ w, dp_J (rJ M 113 w) 112 = dp_J M 112 := fun w => by rw [rJ_J, if_neg (by decide)]
  have J3 : ∀ w, dp_J (rJ M 113 w) 113 = w := fun w => by rw [rJ_J, if_pos rfl]
  have T2 : ∀ N : dp_M, dp_t true N 113 = 2 := fun _ => rfl
  have L2 : ∀ N : dp_M, dp_ln true N 113 = 60 := fun _ => rfl
  obtain ⟨W, hW⟩ : ∃ W, W = vrow l pr (dp_J M 112) (dp_J M 113) := ⟨_, rfl⟩
  have W0 : W 0 = dp_J M 113 := by rw [hW]; rfl
  have Ws : ∀ n, W (n + 1) = uI (W n) (l.length - 1 - n) (nvl l pr (dp_J M 112) (W n) (l.length - 1 - n)) := fun n => by rw [hW]; rfl
  have key := lpb (F := fun (_ : Nat) n => D_X6_valueAt_8 xs xl (d + 4) q pr 112 113 (nI (l.length - n) - 1) (rJ M 113 (W n))) (s := fun _ => 0) (N := l.length) (r := (.inl (some (.long (rval l pr (dp_J M 112)))), rJ M 113 (W l.length))) ?_ (fun n hn hr => ?_)
  · (try dsimp only at key)
    rw [W0, rJ_id, Nat.sub_zero] at key
    rw [← hW, D_X6_valueAt_0_den, D_X6_valueAt_0_eq, bg_t q1, if_pos q3, dpw, h.2.2.2.1]
    exact key
  · (try dsimp only)
    have e : W l.length 0 = vrow l pr (dp_J M 112) (fun _ => 0) l.length 0 := by rw [hW]; exact vrow_c h.shp l60 l.length (Nat.le_refl _) 0 (by omega) (by omega)
    rw [Nat.sub_self, D_X6_valueAt_8_eq, if_pos (by decide), if_pos (T2 _), L2, J3, if_neg (by decide), show Int32.toNatClampNeg (0 : Int32) = 0 from rfl, e]
    rfl
  · (try dsimp only at hr); (try dsimp only)
    obtain ⟨j, hj⟩ : ∃ j, j = l.length - 1 - n := ⟨_, rfl⟩
    rw [show l.length - n = j + 1 by omega, nI_pr]
    rw [Ws, ← hj, show l.length - (n + 1) = j by omega, Int32.sub_eq_add_neg] at hr
    have jl : j < l.length := by omega
    have kd := hk (l.getD j v0) (by rw [List.getD_eq_getElem?_getD, List.getElem?_eq_getElem jl]; exact List.getElem_mem jl)
    have k2 : ∀ {d}, dp_den true xs xl (d + 2) 136 [.ref q, .int (nI j)] (rJ M 113 (W n)) = iR (l.getD j v0).1 (rJ M 113 (W n)) := fun {d} => c_kind (H _) jl
    have sg := fun (hb : isBn (l.getD j v0) = false) => c_single (xs := xs) (xl := xl) (d := d) (pr := pr) (H (W n)) jl kd hb (W n)
    have jn := fun (hb : isBn (l.getD j v0) = true) => c_joined (xs := xs) (xl := xl) (d := d + 1) (pr := pr) (am := dp_J M 112) (H (W n)) jl hb
    rw [J2] at sg
    rw [J3] at jn
    have ends : ∀ x, dp_w (dp_setJ (rJ M 113 (W n)) 113 j x) (fun M5 => dp_w (nI j + (-1 : Int32)) (fun y6 => D_X6_valueAt_8 xs xl (d + 4) q pr 112 113 y6 M5)) = D_X6_valueAt_8 xs xl (d + 4) q pr 112 113 (nI j + -1) (rJ M 113 (uI (W n) j x)) := fun x => by rw [dpw, dpw, rJ_set]
    have no : ¬ (nI j < 0 ∨ 60 ≤ (nI j).toNatClampNeg) := by rw [nI_cl (by omega), nI_o (show j < 60 by omega) (by omega)]; exact id
    rw [D_X6_valueAt_8_eq, if_neg (r_nn (by omega)), if_pos (T _), k2 (d := d + 2), rb_bi]
    cases hb : isBn (l.getD j v0) with
    | false =>
      have nb : ¬ ((l.getD j v0).1 = 3 ∨ (l.getD j v0).1 = 4 ∨ (l.getD j v0).1 = 5 ∨ (l.getD j v0).1 = 6) := by unfold isBn at hb; exact of_decide_eq_false hb
      have s := sg hb
      by_cases z : (l.getD j v0).1 < 3
      · rw [if_pos z, if_pos (T _), s, rb_bl, if_pos (T2 _), L2, if_neg no, nI_cl (by omega), ends]
        exact hr
      · have z7 : (6 : Int32) < (l.getD j v0).1 := by
          rcases kd with k0 | k1 | ⟨k2', -⟩ | kb | ⟨k7, -⟩
          · rw [k0] at z; exact absurd (by decide) z
          · rw [k1] at z; exact absurd (by decide) z
          · rw [k2'] at z; exact absurd (by decide) z
          · exact absurd kb nb
          · rw [k7]; decide
        rw [if_neg z, if_pos (T _), k2 (d := d + 2), rb_bi, if_pos z7, if_pos (T _), s, rb_bl, if_pos (T2 _), L2, if_neg no, nI_cl (by omega), ends]
        exact hr
    | true =>
      have kb : (l.getD j v0).1 = 3 ∨ (l.getD j v0).1 = 4 ∨ (l.getD j v0).1 = 5 ∨ (l.getD j v0).1 = 6 := by unfold isBn at hb; exact of_decide_eq_true hb
      have z : ¬ (l.getD j v0).1 < 3 := by rcases kb with k | k | k | k <;> rw [k] <;> decide
      have z7 : ¬ (6 : Int32) < (l.getD j v0).1 := by rcases kb with k | k | k | k <;> rw [k] <;> decide
      rw [if_neg z, if_pos (T _), k2 (d := d + 2), rb_bi, if_neg z7, if_pos (T _), jn hb, rb_bl, if_pos (T2 _), L2, if_neg no, nI_cl (by omega), ends]
      exact hr
end Ro
