/-! BITS: how many are set -/
def frc (x : Nat) (k : Nat → Nat) : Nat := Nat.rec (k 0) (fun n _ => k (Nat.succ n)) x
theorem frc_eq (x : Nat) (k : Nat → Nat) : frc x k = k x := by cases x <;> rfl
def bcN (x : Nat) : Nat := frc ((4294967296 - ((x >>> 1) &&& 1431655765) + x) % 4294967296) (fun y1 => frc (((y1 &&& 858993459) + ((y1 >>> 2) &&& 858993459)) % 4294967296) (fun y2 => frc (((y2 + (y2 >>> 4)) % 4294967296) &&& 252645135) (fun y3 => frc ((y3 + (y3 >>> 8)) % 4294967296) (fun y4 => frc ((y4 + (y4 >>> 16)) % 4294967296) (fun y5 => y5 &&& 63)))))
def pcR : Nat → Nat → Nat
  | 0, _ => 0
  | n + 1, x => x % 2 + pcR n (x / 2)
def pcK (x : Nat) : Nat := x % 2 + (x >>> 1) % 2 + (x >>> 2) % 2 + (x >>> 3) % 2 + (x >>> 4) % 2 + (x >>> 5) % 2 + (x >>> 6) % 2 + (x >>> 7) % 2 + (x >>> 8) % 2 + (x >>> 9) % 2 + (x >>> 10) % 2 + (x >>> 11) % 2 + (x >>> 12) % 2 + (x >>> 13) % 2 + (x >>> 14) % 2 + (x >>> 15) % 2
def allB (f : Nat → Bool) : Nat → Nat → Bool
  | 0, a => f a
  | n + 1, a => allB f n (2 * a) && allB f n (2 * a + 1)
theorem allB_s {f : Nat → Bool} : ∀ n a, allB f n a = true → ∀ x, a * 2 ^ n ≤ x → x < (a + 1) * 2 ^ n → f x = true
  | 0, a, h, x, h1, h2 => by
    simp at h1 h2
    rw [show x = a by omega]; exact h
  | n + 1, a, h, x, h1, h2 => by
    rw [allB, Bool.and_eq_true] at h
    rw [Nat.pow_succ] at h1 h2
    have e1 : a * (2 ^ n * 2) = 2 * a * 2 ^ n := by rw [Nat.mul_comm (2 ^ n) 2, ← Nat.mul_assoc, Nat.mul_comm a 2]
    have e2 : (a + 1) * (2 ^ n * 2) = (2 * a + 1 + 1) * 2 ^ n := by rw [Nat.mul_comm (2 ^ n) 2, ← Nat.mul_assoc]; congr 1; omega
    by_cases c : x < (2 * a + 1) * 2 ^ n
    · exact allB_s n (2 * a) h.1 x (by omega) c
    · exact allB_s n (2 * a + 1) h.2 x (by omega) (by omega)
set_option maxRecDepth 100000 in
theorem bcN_16 : allB (fun x => Nat.beq (bcN x) (pcK x)) 16 0 = true := by decide +kernel
