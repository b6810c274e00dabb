def dp_dL : List (List Nat) := [[953, 955, 957, 959, 961, 963, 965, 967, 969, 971, 973], [567, 569, 571, 573, 575, 577, 579, 581, 583, 585, 587, 589, 591, 593, 595, 597, 599], [416, 418, 420, 422, 424, 426, 428, 430, 432, 434, 436, 438, 440, 442, 444, 446, 448, 450, 452, 454], [898, 900, 902, 904, 906, 908, 910, 912, 914, 916, 918, 920, 922, 924, 926, 928, 930], [332, 334, 336, 338, 340, 342, 344, 346, 348, 350, 352, 354, 356, 358, 360, 362], [784, 786, 788, 790, 792, 794, 796, 798, 800, 802, 804, 806, 808, 810, 812, 814, 816, 818], [2361, 2363, 2365, 2367], [707, 709, 711, 713, 715, 717, 719, 721, 723, 725, 727, 729, 731, 733], [845, 847, 849, 851, 853, 855, 857, 859, 861, 863], [642, 644, 646, 648, 650, 652, 654, 656, 658, 660, 662, 664, 666, 668, 670, 672, 674, 676, 678, 680], [489, 491, 493, 495, 513, 515, 517, 519, 521, 523, 525, 527, 529, 531, 533], [985, 987, 989, 991, 993, 995, 997, 999, 1001], [3309, 3311, 3329, 3331, 3333, 3335, 3337, 3339, 3341, 3343, 3345, 3347, 3349, 3351, 3353, 3355, 3357, 3359, 3361, 3363, 3365, 3367, 3369, 3371, 3373, 3375, 3377, 3379, 3381, 3383, 3385, 3387, 3389, 3391, 3393, 3395, 3397, 3399, 3401, 3403, 3405, 3407, 3409, 3411, 3413, 3415, 3417, 3419, 3421, 3423, 3425, 3427, 3429, 3431, 3433, 3435, 3437, 3439, 3441, 3443, 3445, 3447, 3449, 3451, 3453, 3455, 3457, 3459, 3461, 3463, 3465, 3467, 3469, 3471, 3473, 3475, 3477, 3479, 3481, 3483, 3485, 3487, 3489, 3491, 3493, 3495, 3497, 3499, 3501, 3503, 3505, 3507, 3509, 3511, 3513, 3515, 3517, 3519, 3521, 3523, 3525, 3527, 3529, 3531, 3533, 3535, 3537, 3539, 3541, 3543, 3545, 3547, 3549, 3551, 3553, 3555, 3557, 3559, 3561, 3563, 3565, 3567, 3585, 3587, 3589, 3591, 3593, 3595, 3597, 3599, 3601, 3603, 3605, 3607, 3609, 3611, 3613, 3615, 3617, 3619, 3621, 3623, 3625, 3627, 3629, 3631, 3633, 3635, 3637, 3639, 3641, 3643, 3645, 3647, 3649, 3651, 3653, 3655, 3657, 3659, 3661, 3663, 3665, 3667, 3669, 3671, 3673, 3675, 3677, 3679, 3681, 3683, 3685]]
def dp_dLi : List (Nat × Nat) := [(934, 269), (537, 263), (294, 258), (867, 268), (309, 260), (738, 266), (2337, 283), (684, 265), (823, 267), (603, 264), (458, 262), (286, 257), (3126, 270)]
def dp_ckC (ci : Nat) : Bool := match vwCl[ci]? with
  | some (C, T, N) => (List.range N).all (fun k => dp_is ((dp_dL.getD ci []).getD k 0) (u_lay C T k) && decide ((T k).2.2.2 = dp_fin ci k) && decide ((T k).1 = dp_own ci)) && decide (dp_nf ci = N) && dp_is (dp_dLi.getD ci (0, 0)).1 (Cond.instantiable C N) && dp_is (dp_dLi.getD ci (0, 0)).2 (Cond.initialized C) && decide (C = dp_own ci)
  | none => true
set_option maxRecDepth 100000 in
theorem dp_ckC0 : dp_ckC 0 = true := by decide +kernel
set_option maxRecDepth 100000 in
theorem dp_ckC1 : dp_ckC 1 = true := by decide +kernel
set_option maxRecDepth 100000 in
theorem dp_ckC2 : dp_ckC 2 = true := by decide +kernel
set_option maxRecDepth 100000 in
theorem dp_ckC3 : dp_ckC 3 = true := by decide +kernel
set_option maxRecDepth 100000 in
theorem dp_ckC4 : dp_ckC 4 = true := by decide +kernel
set_option maxRecDepth 100000 in
theorem dp_ckC5 : dp_ckC 5 = true := by decide +kernel
set_option maxRecDepth 100000 in
theorem dp_ckC6 : dp_ckC 6 = true := by decide +kernel
set_option maxRecDepth 100000 in
theorem dp_ckC7 : dp_ckC 7 = true := by decide +kernel
set_option maxRecDepth 100000 in
theorem dp_ckC8 : dp_ckC 8 = true := by decide +kernel
set_option maxRecDepth 100000 in
theorem dp_ckC9 : dp_ckC 9 = true := by decide +kernel
set_option maxRecDepth 100000 in
theorem dp_ckC10 : dp_ckC 10 = true := by decide +kernel
set_option maxRecDepth 100000 in
theorem dp_ckC11 : dp_ckC 11 = true := by decide +kernel
set_option maxRecDepth 100000 in
theorem dp_ckC12 : dp_ckC 12 = true := by decide +kernel
theorem dp_ckC_all : ∀ ci, dp_ckC ci = true
  | 0 => dp_ckC0
  | 1 => dp_ckC1
  | 2 => dp_ckC2
  | 3 => dp_ckC3
  | 4 => dp_ckC4
  | 5 => dp_ckC5
  | 6 => dp_ckC6
  | 7 => dp_ckC7
  | 8 => dp_ckC8
  | 9 => dp_ckC9
  | 10 => dp_ckC10
  | 11 => dp_ckC11
  | 12 => dp_ckC12
  | n + 13 => rfl
theorem dp_ckC_s {ci : Nat} {C : String} {T : u_T} {N : Nat} (h : vwCl[ci]? = some (C, T, N)) : (∀ k, k < N → u_lay C T k ∈ dp_T ∧ (T k).2.2.2 = dp_fin ci k ∧ (T k).1 = dp_own ci) ∧ dp_nf ci = N ∧ Cond.instantiable C N ∈ dp_T ∧ Cond.initialized C ∈ dp_T ∧ C = dp_own ci := by
  have h1 := dp_ckC_all ci
  unfold dp_ckC at h1
  rw [h] at h1
  simp only [Bool.and_eq_true, decide_eq_true_eq] at h1
  obtain ⟨⟨⟨⟨h2, h3⟩, h4⟩, h5⟩, h6⟩ := h1
  refine ⟨fun k hk => ?_, h3, dp_is_ok h4, dp_is_ok h5, h6⟩
  have := List.all_eq_true.mp h2 k (List.mem_range.mpr hk)
  simp only [Bool.and_eq_true, decide_eq_true_eq] at this
  exact ⟨dp_is_ok this.1.1, this.1.2, this.2⟩
theorem dp_fin_ok {ci k : Nat} {C : String} {T : u_T} {N : Nat} (h : vwCl[ci]? = some (C, T, N)) (hk : k < N) : (T k).2.2.2 = dp_fin ci k := ((dp_ckC_s h).1 k hk).2.1
theorem dp_decl_ok {ci k : Nat} {C : String} {T : u_T} {N : Nat} (h : vwCl[ci]? = some (C, T, N)) (hk : k < N) : (T k).1 = dp_own ci := ((dp_ckC_s h).1 k hk).2.2
theorem dp_nf_ok {ci : Nat} {C : String} {T : u_T} {N : Nat} (h : vwCl[ci]? = some (C, T, N)) : dp_nf ci = N := (dp_ckC_s h).2.1
theorem dp_rate_ok : ∃ T N, vwCl[6]? = some ("PortHouse$Rate", T, N) := ⟨_, _, rfl⟩
def dp_kdb (kd : Nat) (ty : FieldType) : Bool := match kd, ty with
  | 0, .int => true
  | 1, .long => true
  | 2, .object _ => true
  | 2, .array _ => true
  | _, _ => false
theorem dp_kdb_ok {kd : Nat} {ty : FieldType} (h : dp_kdb kd ty = true) : dp_kd kd ty := by
  unfold dp_kdb at h
  split at h
  · exact Or.inl ⟨rfl, rfl⟩
  · exact Or.inr (Or.inl ⟨rfl, rfl⟩)
  · exact Or.inr (Or.inr ⟨rfl, Or.inl ⟨_, rfl⟩⟩)
  · exact Or.inr (Or.inr ⟨rfl, Or.inr ⟨_, rfl⟩⟩)
  · cases h
set_option maxRecDepth 100000 in
theorem dp_kx0 : ∀ k, k < 11 → dp_kdb (dp_fk 0 k) (tyX0 k) = true := by decide +kernel
set_option maxRecDepth 100000 in
theorem dp_kx1 : ∀ k, k < 17 → dp_kdb (dp_fk 1 k) (tyX1 k) = true := by decide +kernel
set_option maxRecDepth 100000 in
theorem dp_kx2 : ∀ k, k < 20 → dp_kdb (dp_fk 2 k) (tyX2 k) = true := by decide +kernel
set_option maxRecDepth 100000 in
theorem dp_kx3 : ∀ k, k < 17 → dp_kdb (dp_fk 3 k) (tyX3 k) = true := by decide +kernel
set_option maxRecDepth 100000 in
theorem dp_kx4 : ∀ k, k < 16 → dp_kdb (dp_fk 4 k) (tyX4 k) = true := by decide +kernel
set_option maxRecDepth 100000 in
theorem dp_kx5 : ∀ k, k < 18 → dp_kdb (dp_fk 5 k) (tyX5 k) = true := by decide +kernel
set_option maxRecDepth 100000 in
theorem dp_kx6 : ∀ k, k < 4 → dp_kdb (dp_fk 6 k) (tyX6 k) = true := by decide +kernel
set_option maxRecDepth 100000 in
theorem dp_kx7 : ∀ k, k < 14 → dp_kdb (dp_fk 7 k) (tyX7 k) = true := by decide +kernel
set_option maxRecDepth 100000 in
theorem dp_kx8 : ∀ k, k < 10 → dp_kdb (dp_fk 8 k) (tyX8 k) = true := by decide +kernel
set_option maxRecDepth 100000 in
theorem dp_kx9 : ∀ k, k < 20 → dp_kdb (dp_fk 9 k) (tyX9 k) = true := by decide +kernel
set_option maxRecDepth 100000 in
theorem dp_kx10 : ∀ k, k < 15 → dp_kdb (dp_fk 10 k) (tyX10 k) = true := by decide +kernel
set_option maxRecDepth 100000 in
theorem dp_kx11 : ∀ k, k < 9 → dp_kdb (dp_fk 11 k) (tyX11 k) = true := by decide +kernel
set_option maxRecDepth 100000 in
theorem dp_kx12 : ∀ k, k < 173 → dp_kdb (dp_fk 12 k) (tyX12 k) = true := by decide +kernel
theorem dp_cl2 : ∀ {ci : Nat} {C : String} {T : u_T} {N : Nat}, vwCl[ci]? = some (C, T, N) → (∃ ty : Nat → FieldType, (∀ k, k < N → parseFieldDescriptor (T k).2.2.1 = some (ty k)) ∧ ∀ k, k < N → dp_kd (dp_fk ci k) (ty k)) ∧ (∀ a, a < N → ∀ b, b < N → a ≠ b → (T a).2.1 ≠ (T b).2.1)
  | 0, _, _, _, h => by cases h; exact ⟨⟨tyX0, tyX0_ok, fun k hk => dp_kdb_ok (dp_kx0 k hk)⟩, nmX0⟩
  | 1, _, _, _, h => by cases h; exact ⟨⟨tyX1, tyX1_ok, fun k hk => dp_kdb_ok (dp_kx1 k hk)⟩, nmX1⟩
  | 2, _, _, _, h => by cases h; exact ⟨⟨tyX2, tyX2_ok, fun k hk => dp_kdb_ok (dp_kx2 k hk)⟩, nmX2⟩
  | 3, _, _, _, h => by cases h; exact ⟨⟨tyX3, tyX3_ok, fun k hk => dp_kdb_ok (dp_kx3 k hk)⟩, nmX3⟩
  | 4, _, _, _, h => by cases h; exact ⟨⟨tyX4, tyX4_ok, fun k hk => dp_kdb_ok (dp_kx4 k hk)⟩, nmX4⟩
  | 5, _, _, _, h => by cases h; exact ⟨⟨tyX5, tyX5_ok, fun k hk => dp_kdb_ok (dp_kx5 k hk)⟩, nmX5⟩
  | 6, _, _, _, h => by cases h; exact ⟨⟨tyX6, tyX6_ok, fun k hk => dp_kdb_ok (dp_kx6 k hk)⟩, nmX6⟩
  | 7, _, _, _, h => by cases h; exact ⟨⟨tyX7, tyX7_ok, fun k hk => dp_kdb_ok (dp_kx7 k hk)⟩, nmX7⟩
  | 8, _, _, _, h => by cases h; exact ⟨⟨tyX8, tyX8_ok, fun k hk => dp_kdb_ok (dp_kx8 k hk)⟩, nmX8⟩
  | 9, _, _, _, h => by cases h; exact ⟨⟨tyX9, tyX9_ok, fun k hk => dp_kdb_ok (dp_kx9 k hk)⟩, nmX9⟩
  | 10, _, _, _, h => by cases h; exact ⟨⟨tyX10, tyX10_ok, fun k hk => dp_kdb_ok (dp_kx10 k hk)⟩, nmX10⟩
  | 11, _, _, _, h => by cases h; exact ⟨⟨tyX11, tyX11_ok, fun k hk => dp_kdb_ok (dp_kx11 k hk)⟩, nmX11⟩
  | 12, _, _, _, h => by cases h; exact ⟨⟨tyX12, tyX12_ok, fun k hk => dp_kdb_ok (dp_kx12 k hk)⟩, nmX12⟩
  | n + 13, _, _, _, h => by cases h
theorem dp_cl_ok {ci : Nat} {C : String} {T : u_T} {N : Nat} (h : vwCl[ci]? = some (C, T, N)) : (∀ w ∈ u_ws C T N, w ∈ dp_T) ∧ (∃ ty : Nat → FieldType, (∀ k, k < N → parseFieldDescriptor (T k).2.2.1 = some (ty k)) ∧ ∀ k, k < N → dp_kd (dp_fk ci k) (ty k)) ∧ (∀ a, a < N → ∀ b, b < N → a ≠ b → (T a).2.1 ≠ (T b).2.1) ∧ Cond.instantiable C N ∈ dp_T ∧ Cond.initialized C ∈ dp_T := by
  obtain ⟨h1, -, h3, h4, -⟩ := dp_ckC_s h
  obtain ⟨h5, h6⟩ := dp_cl2 h
  refine ⟨fun w hw => ?_, h5, h6, h3, h4⟩
  obtain ⟨k, hk, rfl⟩ := List.mem_map.mp hw
  exact (h1 k (List.mem_range.mp hk)).1
