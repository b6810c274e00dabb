/-! THE DEEP LAYER (7): the limit and its equation -/
section DPlim
variable {md : Bool} {xs : Nat → Int32} {xl : Nat} {F : dp_Phi} {mi : dp_Mi}
theorem dp_stp_f (hF : dp_grow F) {cf : dp_Cfg} {k : dp_Cfg → Option dp_Res} {r : dp_Res} (h : dp_stp md xs xl F mi cf k = some r) :
    (dp_n cf.2.2.2 ≤ dp_n r.2 ∧ dp_z cf.2.2.2 ≤ dp_z r.2 ∧ ∀ k' : dp_Cfg → Option dp_Res, dp_stp md xs xl F mi cf k' = some r) ∨
    ∃ cf', k cf' = some r ∧ dp_n cf.2.2.2 ≤ dp_n cf'.2.2.2 ∧ dp_z cf.2.2.2 ≤ dp_z cf'.2.2.2 ∧ ∀ k' : dp_Cfg → Option dp_Res, dp_stp md xs xl F mi cf k' = k' cf' := by
  unfold dp_stp at h
  split at h
  · rename_i i hi
    rcases dp_ex_f hF h with ⟨h1, h2, h3⟩ | ⟨cf', h1, h2, h3, h4⟩
    · exact Or.inl ⟨h1, h2, fun k' => by unfold dp_stp; rw [hi]; exact h3 k'⟩
    · exact Or.inr ⟨cf', h1, h2, h3, fun k' => by unfold dp_stp; rw [hi]; exact h4 k'⟩
  · cases h
theorem dp_runs_up (hF : dp_grow F) : ∀ (n : Nat) (cf : dp_Cfg) (r : dp_Res), dp_runs md xs xl F mi n cf = some r → dp_runs md xs xl F mi (n + 1) cf = some r
  | 0, cf, r, h => by cases h
  | n + 1, cf, r, h => by
    have h' : dp_stp md xs xl F mi cf (dp_runs md xs xl F mi n) = some r := h
    show dp_stp md xs xl F mi cf (dp_runs md xs xl F mi (n + 1)) = some r
    rcases dp_stp_f hF h' with ⟨-, -, h3⟩ | ⟨cf', h1, -, -, h4⟩
    · exact h3 _
    · rw [h4]; exact dp_runs_up hF n cf' r h1
theorem dp_runs_le (hF : dp_grow F) {n n' : Nat} (hn : n ≤ n') {cf : dp_Cfg} {r : dp_Res} (h : dp_runs md xs xl F mi n cf = some r) : dp_runs md xs xl F mi n' cf = some r := by
  induction hn with
  | refl => exact h
  | step _ ih => exact dp_runs_up hF _ _ _ ih
theorem dp_runs_grow (hF : dp_grow F) : ∀ (n : Nat) (cf : dp_Cfg) (r : dp_Res), dp_runs md xs xl F mi n cf = some r → dp_n cf.2.2.2 ≤ dp_n r.2 ∧ dp_z cf.2.2.2 ≤ dp_z r.2
  | 0, cf, r, h => by cases h
  | n + 1, cf, r, h => by
    have h' : dp_stp md xs xl F mi cf (dp_runs md xs xl F mi n) = some r := h
    rcases dp_stp_f hF h' with ⟨h1, h2, -⟩ | ⟨cf', h1, h2, h3, -⟩
    · exact ⟨h1, h2⟩
    · have := dp_runs_grow hF n cf' r h1
      exact ⟨by omega, by omega⟩
theorem dp_lim_s (hF : dp_grow F) {cf : dp_Cfg} {r : dp_Res} : dp_lim md xs xl F mi cf = some r ↔ ∃ n, dp_runs md xs xl F mi n cf = some r := by
  unfold dp_lim
  constructor
  · intro h
    split at h
    · rename_i hx
      cases h
      exact Classical.choose_spec hx
    · cases h
  · rintro ⟨n, hn⟩
    have hx : ∃ (r : dp_Res) (n : Nat), dp_runs md xs xl F mi n cf = some r := ⟨r, n, hn⟩
    rw [dif_pos hx]
    obtain ⟨n2, hn2⟩ := Classical.choose_spec hx
    have e1 := dp_runs_le hF (Nat.le_max_left n n2) hn
    have e2 := dp_runs_le hF (Nat.le_max_right n n2) hn2
    exact e2.symm.trans e1
/-- THE EQUATION: one step, and the limit from there -/
theorem dp_lim_eq (hF : dp_grow F) (cf : dp_Cfg) : dp_lim md xs xl F mi cf = dp_stp md xs xl F mi cf (dp_lim md xs xl F mi) := by
  apply Option.ext
  intro r
  constructor
  · intro h
    obtain ⟨n, hn⟩ := (dp_lim_s hF).mp h
    cases n with
    | zero => cases hn
    | succ n =>
      rcases dp_stp_f hF (show dp_stp md xs xl F mi cf (dp_runs md xs xl F mi n) = some r from hn) with ⟨-, -, h3⟩ | ⟨cf', h1, -, -, h4⟩
      · exact h3 _
      · rw [h4]; exact (dp_lim_s hF).mpr ⟨n, h1⟩
  · intro h
    rcases dp_stp_f hF h with ⟨-, -, h3⟩ | ⟨cf', h1, -, -, h4⟩
    · exact (dp_lim_s hF).mpr ⟨1, h3 _⟩
    · obtain ⟨n, hn⟩ := (dp_lim_s hF).mp h1
      exact (dp_lim_s hF).mpr ⟨n + 1, by show dp_stp md xs xl F mi cf (dp_runs md xs xl F mi n) = some r; rw [h4]; exact hn⟩
theorem dp_den_grow : ∀ d, dp_grow (dp_den md xs xl d)
  | 0 => fun j as M o M' h => by cases h
  | d + 1 => fun j as M o M' h => by
    unfold dp_den at h
    split at h
    · split at h
      · obtain ⟨n, hn⟩ := (dp_lim_s (dp_den_grow d)).mp h
        exact dp_runs_grow (dp_den_grow d) n _ _ hn
      · cases h
    · cases h
end DPlim
