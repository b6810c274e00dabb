-- needs: 71 72 73 74 75 76 77 78 85
/-! PLAN: valid codes stay valid -/
def vk1 (n c k : Nat) : Bool := vc n (pu c k 12) && (vc n (pu c k 13) && !(an (fun t => !(Nat.beq (pl c k / 4) t || (!(Nat.blt (hgt c n t) 4) || vc n (pu c k (t * 4 + hgt c n t))))) 3))
def vk (n c : Nat) : Bool := !(an (fun f => match tkn c n f with | none => false | some k => !(vk1 n c k)) 7)
theorem an_K (p : Nat → Bool) {K m : Nat} (h : an (fun a => an (fun j => p (K * a + j)) K) m = false) (c : Nat) (hc : c < K * m) : p c = false := by
  have hK : 0 < K := Nat.pos_of_ne_zero (fun e => by rw [e, Nat.zero_mul] at hc; omega)
  cases e : p c with
  | false => rfl
  | true =>
    exfalso
    have : an (fun a => an (fun j => p (K * a + j)) K) m = true := an_iff.mpr ⟨c / K, (Nat.div_lt_iff_lt_mul hK).mpr (by rw [Nat.mul_comm]; exact hc), an_iff.mpr ⟨c % K, Nat.mod_lt _ hK, by (try dsimp only); rw [Nat.div_add_mod]; exact e⟩⟩
    rw [h] at this; cases this
def vkb (b : Nat) : Bool := an (fun a => an (fun j => vc 4 (4096 * b + (256 * a + j)) && !(vk 4 (4096 * b + (256 * a + j)))) 256) 16
theorem vkb_0 : vkb 0 = false := by decide +kernel
theorem vkb_1 : vkb 1 = false := by decide +kernel
theorem vkb_2 : vkb 2 = false := by decide +kernel
theorem vkb_3 : vkb 3 = false := by decide +kernel
theorem vkb_4 : vkb 4 = false := by decide +kernel
theorem vkb_5 : vkb 5 = false := by decide +kernel
theorem vkb_6 : vkb 6 = false := by decide +kernel
theorem vkb_7 : vkb 7 = false := by decide +kernel
theorem vkb_8 : vkb 8 = false := by decide +kernel
theorem vkb_9 : vkb 9 = false := by decide +kernel
theorem vkb_10 : vkb 10 = false := by decide +kernel
theorem vkb_11 : vkb 11 = false := by decide +kernel
theorem vkb_12 : vkb 12 = false := by decide +kernel
theorem vkb_13 : vkb 13 = false := by decide +kernel
theorem vkb_14 : vkb 14 = false := by decide +kernel
theorem vkb_15 : vkb 15 = false := by decide +kernel
theorem vkb_t {b : Nat} (hb : b < 16) : vkb b = false := by
  have cs : b = 0 ∨ b = 1 ∨ b = 2 ∨ b = 3 ∨ b = 4 ∨ b = 5 ∨ b = 6 ∨ b = 7 ∨ b = 8 ∨ b = 9 ∨ b = 10 ∨ b = 11 ∨ b = 12 ∨ b = 13 ∨ b = 14 ∨ b = 15 := by omega
  rcases cs with rfl | rfl | rfl | rfl | rfl | rfl | rfl | rfl | rfl | rfl | rfl | rfl | rfl | rfl | rfl | rfl
  · exact vkb_0
  · exact vkb_1
  · exact vkb_2
  · exact vkb_3
  · exact vkb_4
  · exact vkb_5
  · exact vkb_6
  · exact vkb_7
  · exact vkb_8
  · exact vkb_9
  · exact vkb_10
  · exact vkb_11
  · exact vkb_12
  · exact vkb_13
  · exact vkb_14
  · exact vkb_15
theorem vk_4 {c : Nat} (hc : c < 65536) : (vc 4 c && !(vk 4 c)) = false := by
  have h := vkb_t (b := c / 4096) (by omega)
  rw [vkb] at h
  have := an_K (fun x => vc 4 (4096 * (c / 4096) + x) && !(vk 4 (4096 * (c / 4096) + x))) h (c % 4096) (Nat.mod_lt _ (by decide))
  (try dsimp only at this)
  rw [Nat.div_add_mod] at this
  exact this
theorem vk_3 : an (fun a => an (fun j => vc 3 (256 * a + j) && !(vk 3 (256 * a + j))) 256) 16 = false := by decide +kernel
theorem vk_2 : an (fun a => an (fun j => vc 2 (16 * a + j) && !(vk 2 (16 * a + j))) 16) 16 = false := by decide +kernel
theorem vk_1 : an (fun a => an (fun j => vc 1 (16 * a + j) && !(vk 1 (16 * a + j))) 16) 1 = false := by decide +kernel
theorem vk_0 : an (fun a => an (fun j => vc 0 (1 * a + j) && !(vk 0 (1 * a + j))) 1) 1 = false := by decide +kernel
theorem vk_t {n c : Nat} (hn : n ≤ 4) (hc : c < 16 ^ n) (h : vc n c = true) : vk n c = true := by
  have key : (vc n c && !(vk n c)) = false := by
    have cs : n = 0 ∨ n = 1 ∨ n = 2 ∨ n = 3 ∨ n = 4 := by omega
    rcases cs with rfl | rfl | rfl | rfl | rfl
    · exact an_K (fun c => vc 0 c && !(vk 0 c)) vk_0 c hc
    · exact an_K (fun c => vc 1 c && !(vk 1 c)) vk_1 c hc
    · exact an_K (fun c => vc 2 c && !(vk 2 c)) vk_2 c hc
    · exact an_K (fun c => vc 3 c && !(vk 3 c)) vk_3 c hc
    · exact vk_4 hc
  rw [h, Bool.true_and] at key
  cases e : vk n c with
  | true => rfl
  | false => rw [e] at key; cases key
