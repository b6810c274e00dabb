/-! THE DEEP LAYER (8): contracts out of runs -/
theorem dp_entL_len (b : Nat) (sa : Nat → Nat) : ∀ as : List Value, (lg_sl (as.map (dp_cv b sa))).length = (dp_entL as).length
  | [] => rfl
  | v :: as => by
    have ih := dp_entL_len b sa as
    have e : lg_sl ((v :: as).map (dp_cv b sa)) = (if (dp_cv b sa v).category = 2 then [Slot.val (dp_cv b sa v), Slot.second] else [Slot.val (dp_cv b sa v)]) ++ lg_sl (as.map (dp_cv b sa)) := by
      simp only [lg_sl, List.map_cons, List.flatMap_cons]
    rw [e, List.length_append, ih, dp_cv_cat]
    show _ = (if v.category = 2 then some v :: none :: dp_entL as else some v :: dp_entL as).length
    split <;> simp <;> omega
theorem dp_entL_in (b : Nat) (sa : Nat → Nat) : ∀ (as : List Value) (k i : Nat) (v : Value), (dp_entL as)[i]? = some (some v) → (k + i, dp_cv b sa v) ∈ lv_args k (as.map (dp_cv b sa))
  | [], k, i, v, h => by simp [dp_entL] at h
  | w :: as, k, i, v, h => by
    unfold dp_entL at h
    simp only [List.map_cons, lv_args, dp_cv_cat]
    split at h
    · rename_i hc
      rw [if_pos hc]
      match i, h with
      | 0, h => cases h; exact List.mem_cons_self
      | 1, h => cases h
      | i + 2, h =>
        have := dp_entL_in b sa as (k + 2) i v (by simpa using h)
        rw [show k + (i + 2) = k + 2 + i by omega]
        exact List.mem_cons_of_mem _ this
    · rename_i hc
      rw [if_neg hc]
      match i, h with
      | 0, h => cases h; exact List.mem_cons_self
      | i + 1, h =>
        have := dp_entL_in b sa as (k + 1) i v (by simpa using h)
        rw [show k + (i + 1) = k + 1 + i by omega]
        exact List.mem_cons_of_mem _ this
theorem dp_has_entry (b : Nat) (sa : Nat → Nat) (as : List Value) {n : Nat} (h : (dp_entL as).length ≤ n) :
    dp_has b sa ((lg_sl (as.map (dp_cv b sa)) ++ List.replicate (n - (lg_sl (as.map (dp_cv b sa))).length) Slot.unset).toArray) (dp_entL as ++ List.replicate (n - (dp_entL as).length) none) := by
  have hl := lv_entry (as.map (dp_cv b sa)) (n := n) (by rw [dp_entL_len]; exact h)
  refine ⟨by rw [hl.1]; simp; omega, hl.2.1, fun i v hi => ?_⟩
  have hi2 : (dp_entL as)[i]? = some (some v) := by
    by_cases hlt : i < (dp_entL as).length
    · rw [List.getElem?_append_left hlt] at hi; exact hi
    · rw [List.getElem?_append_right (by omega), List.getElem?_replicate] at hi
      split at hi <;> cases hi
  have := dp_entL_in b sa as 0 i v hi2
  rw [Nat.zero_add] at this
  exact hl.2.2 _ this
/-- the law's start, from which the state has come -/
def dp_From (H0 : Heap) (U : State) : Prop := ∃ (s0 : State) (A0 : Array Value), s0.heap = H0 ∧ s0.WarmedH U.vm ∧ (Jvm.Cond.and given_1 narrow_1).before A0 s0 = true ∧ ∀ w ∈ lw_tbl, w.before A0 s0 = true
/-- what is known of the outside: the script, the statics that an exception's making reads -/
def dp_Ext (b : Nat) (sa : Nat → Nat) (H0 : Heap) (xs : Nat → Int32) (xl : Nat) (U : State) : Prop :=
  H0.size = b ∧ sa 0 < b ∧ va_X (sa 0) xl xs U H0 ∧ vx_Zq Bundle.tN "UNASSIGNED_STACK" Bundle.steD (fun q => b ≤ q) U H0 ∧ vx_Zq Bundle.tN "SUPPRESSED_SENTINEL" Bundle.listD (fun q => b ≤ q) U H0 ∧ dp_From H0 U
theorem dp_Ext.moved {b : Nat} {sa : Nat → Nat} {H0 : Heap} {xs : Nat → Int32} {xl : Nat} {u U : State} (hW : u.WarmedH U.vm) (h : dp_Ext b sa H0 xs xl u) : dp_Ext b sa H0 xs xl U := by
  obtain ⟨s0, A0, h1, h2, h3, h4⟩ := h.2.2.2.2.2
  exact ⟨h.1, h.2.1, va_X.moved hW.alike h.2.2.1, vx_Zq.moved hW.alike h.2.2.2.1, vx_Zq.moved hW.alike h.2.2.2.2.1, s0, A0, h1, State.WarmedH.trans h2 hW, h3, h4⟩
theorem dp_nw_warm {u U : State} (hW : u.WarmedH U.vm) {w : Cond} (hw : w ∈ dp_nw) (h : va_Nw w u) : va_Nw w U := by
  simp only [dp_nw, List.mem_cons, List.not_mem_nil, or_false] at hw
  rcases hw with rfl | rfl | rfl | rfl | rfl | rfl <;> exact va_Nw.warmM hW h
theorem dp_nw_same {u U : State} (hv : U.vm = u.vm) {w : Cond} (hw : w ∈ dp_nw) (h : va_Nw w u) : va_Nw w U := by
  simp only [dp_nw, List.mem_cons, List.not_mem_nil, or_false] at hw
  rcases hw with rfl | rfl | rfl | rfl | rfl | rfl <;> exact va_Nw.same rfl hv.symm h
theorem dp_Kn.moved {G : dp_G} {sa : Nat → Nat} {u U : State} (hW : u.WarmedH U.vm) (h : dp_Kn G sa u) : dp_Kn G sa U := ⟨va_K.moved hW.alike h.1, va_AO.moved hW.alike h.2.1, fun o i j hj => vk_R.warm hW (h.2.2.1 o i j hj), fun w hw => dp_xw_moved hW.alike hw (h.2.2.2.1 w hw), fun w hw => dp_nw_warm hW hw (h.2.2.2.2.1 w hw), fun i j hi hj hij => va_Nc.moved hW.alike (h.2.2.2.2.2 i j hi hj hij)⟩
theorem dp_Kn.same {G : dp_G} {sa : Nat → Nat} {u U : State} (hv : U.vm = u.vm) (h : dp_Kn G sa u) : dp_Kn G sa U := ⟨va_K.moved (by rw [hv]; exact Vm.Alike.refl _) h.1, va_AO.moved (by rw [hv]; exact Vm.Alike.refl _) h.2.1, fun o i j hj => vk_R.same hv (h.2.2.1 o i j hj), fun w hw => dp_xw_moved (by rw [hv]; exact Vm.Alike.refl _) hw (h.2.2.2.1 w hw), fun w hw => dp_nw_same hv hw (h.2.2.2.2.1 w hw), fun i j hi hj hij => va_Nc.moved (by rw [hv]; exact Vm.Alike.refl _) (h.2.2.2.2.2 i j hi hj hij)⟩
section DPct
variable (l : Launch) (G : dp_G) (b : Nat) (sa : Nat → Nat) (H0 : Heap) (md : Bool) (xs : Nat → Int32) (xl : Nat)
def dp_Pc (as : List Value) (M : dp_M) : Array Value → State → Prop := fun v U => v = (as.map (dp_cv b sa)).toArray ∧ dp_Rep G b H0 md M U.heap ∧ dp_Kn G sa U ∧ dp_Ext b sa H0 xs xl U
def dp_Qc (r : dp_Res) : Array Value → State → Outcome → State → Prop := fun _ _ oc t => ∃ v, r.1 = .inl v ∧ oc = .returned (v.map (dp_cv b sa)) ∧ dp_Rep G b H0 md r.2 t.heap
def dp_XC (r : dp_Res) : String → State → State → Prop := fun E _ t => ∃ e, r.1 = .inr e ∧ E = dp_en e ∧ dp_Rep G b H0 md r.2 t.heap
def dp_rm (d : Nat) (M : dp_M) (r : dp_Res) : Room := { frames := d + 6, cells := dp_n r.2 - dp_n M, slots := dp_z r.2 - dp_z M, locals := 100 * d + 100 }
def dp_ws (mi : dp_Mi) : List Cond := dp_cw mi :: dp_T
/-- the contract of one answer of a method -/
def dp_Ok (d : Nat) (mi : dp_Mi) (as : List Value) (M : dp_M) (r : dp_Res) : Prop :=
  vx_Met l (dp_y mi) (dp_ws mi) (dp_rm d M r) (dp_Pc G b sa H0 md xs xl as M) (dp_Qc G b sa H0 md r) (dp_XC G b H0 md r) (dp_n r.2 - dp_n M) (dp_z r.2 - dp_z M) (fun q => b ≤ q)
end DPct
theorem dp_blind {G : dp_G} {b : Nat} {sa : Nat → Nat} {H0 : Heap} {md : Bool} {xs : Nat → Int32} {xl : Nat} {as : List Value} {M : dp_M} : FrameBlind (dp_Pc G b sa H0 md xs xl as M) := fun a U g mk h =>
  ⟨h.1, h.2.1, dp_Kn.same (u := U) (U := U.calling g mk a) rfl h.2.2.1, dp_Ext.moved (u := U) (U := U.calling g mk a) (State.WarmedH.refl U) h.2.2.2⟩
theorem dp_tk_s : ∀ (n : Nat) (as st as' rest : List Value), dp_tk n as st = some (as', rest) → ∃ bs, bs.length = n ∧ as' = bs ++ as ∧ st = bs.reverse ++ rest
  | 0, as, st, as', rest, h => by cases h; exact ⟨[], rfl, rfl, rfl⟩
  | n + 1, as, [], as', rest, h => by cases h
  | n + 1, as, v :: st, as', rest, h => by
    obtain ⟨bs, h1, h2, h3⟩ := dp_tk_s n (v :: as) st as' rest h
    exact ⟨bs ++ [v], by simp [h1], by rw [h2]; simp, by rw [h3]; simp⟩
theorem dp_T_good : ∀ w ∈ dp_T, w ∈ lw_tbl ∧ goodWord w = true := fun w h => List.mem_filter.mp h
theorem dp_ws_warm {s : State} {args : Array Value} (hts : ∀ w ∈ dp_T, w.before args s = true) {mi : dp_Mi} (hm : dp_Mok mi) : ∀ w ∈ dp_ws mi, ∀ (a' : Array Value) (U : State), s.WarmedH U.vm → w.before a' U = true := by
  intro w hw a' U hW
  have hT : w ∈ dp_T := by
    rcases List.mem_cons.mp hw with rfl | h
    · exact hm.2.2.2.2.1
    · exact h
  exact word_at hW (good_of_word (dp_T_good w hT).2) (hts w hT)
