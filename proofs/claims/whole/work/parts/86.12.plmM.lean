-- needs: 71 72 73 74 75 76 77 78 85
/-! PLAN: a short way -/
def Rle (n T : Nat) (l ah : Nat → Int32) (m c c' : Nat) : Prop := ∃ m', m' ≤ m ∧ Rcm n T l ah m' c c'
theorem Rle.tr {n T : Nat} {l ah : Nat → Int32} {a b c c1 c2 : Nat} (h : Rle n T l ah a c c1) (h' : Rle n T l ah b c1 c2) : Rle n T l ah (a + b) c c2 := by
  obtain ⟨x, x1, x2⟩ := h
  obtain ⟨y, y1, y2⟩ := h'
  exact ⟨x + y, by omega, x2.tr y c2 y2⟩
theorem Rle.up {n T : Nat} {l ah : Nat → Int32} {a b c c1 : Nat} (h : Rle n T l ah a c c1) (hb : a ≤ b) : Rle n T l ah b c c1 := by
  obtain ⟨x, x1, x2⟩ := h
  exact ⟨x, by omega, x2⟩
theorem St1.le {n T : Nat} {l ah : Nat → Int32} {c c' : Nat} (h : St1 n T l ah c c') : Rle n T l ah 1 c c' := ⟨1, Nat.le_refl _, c, rfl, h⟩
theorem Rle.z {n T : Nat} {l ah : Nat → Int32} {m c : Nat} : Rle n T l ah m c c := ⟨0, Nat.zero_le _, rfl⟩
/-- how many stand in stacks, aside, ashore -/
def nSk (n c : Nat) : Nat := ct (fun i => Nat.blt (pl c i) 12) n
def n13 (n c : Nat) : Nat := ct (fun i => Nat.beq (pl c i) 13) n
def n12 (n c : Nat) : Nat := ct (fun i => Nat.beq (pl c i) 12) n
def s12 (n c c' : Nat) : Bool := !(an (fun i => !(Nat.beq (pl c i) 12 == Nat.beq (pl c' i) 12)) n)
def fAs (n c : Nat) : Nat := if 0 < hgt c n 0 then pu c (tpp c n 0) 13 else if 0 < hgt c n 1 then pu c (tpp c n 1) 13 else if 0 < hgt c n 2 then pu c (tpp c n 2) 13 else c
def kt1 (n c : Nat) : Bool := Nat.beq (nSk n c) 0 || (vc n (fAs n c) && (Nat.blt (fAs n c) (16 ^ n) && (s12 n c (fAs n c) && Nat.blt (nSk n (fAs n c)) (nSk n c))))
theorem kt1_a : vlt kt1 = true := by decide +kernel
def kt2 (n c : Nat) : Bool := Nat.blt 0 (nSk n c) || (Nat.beq (hgt c n 0) 0 && !(an (fun k => Nat.beq (pl c k) 13 && !(Nat.beq (hgt (pu c k 0) n 0) 1 && (Nat.beq (tpp (pu c k 0) n 0) k && (Nat.beq (ash (pu c k 0) n) (ash c n) &&
    (vc n (pu (pu c k 0) k 12) && (Nat.blt (pu (pu c k 0) k 12) (16 ^ n) && (Nat.beq (nSk n (pu (pu c k 0) k 12)) 0 && Nat.beq (n12 n (pu (pu c k 0) k 12)) (n12 n c + 1)))))))) n))
theorem kt2_a : vlt kt2 = true := by decide +kernel
def hTb (n T c : Nat) : Bool := !(an (fun i => Nat.blt (pl c i) 12 && !(Nat.blt (pl c i % 4) T)) n)
def fBk (n T c : Nat) : Nat :=
  match tkn c n 3 with
  | none => c
  | some k => if hgt c n 0 < T then pu c k (0 * 4 + hgt c n 0) else if hgt c n 1 < T then pu c k (1 * 4 + hgt c n 1) else if hgt c n 2 < T then pu c k (2 * 4 + hgt c n 2) else c
def kt3 (T n c : Nat) : Bool := !(hTb n T c) || (!(Nat.ble (n - n12 n c) (3 * T)) || (Nat.beq (n13 n c) 0 || (vc n (fBk n T c) && (Nat.blt (fBk n T c) (16 ^ n) && (s12 n c (fBk n T c) && (hTb n T (fBk n T c) && (Nat.blt (n13 n (fBk n T c)) (n13 n c) && Nat.beq (n12 n (fBk n T c)) (n12 n c))))))))
theorem kt3_1 : vlt (kt3 1) = true := by decide +kernel
theorem kt3_2 : vlt (kt3 2) = true := by decide +kernel
theorem kt3_3 : vlt (kt3 3) = true := by decide +kernel
theorem kt3_4 : vlt (kt3 4) = true := by decide +kernel
def kt4 (n c : Nat) : Bool := !(hTb n 1 c) || (Nat.blt 0 (n13 n c) || Nat.ble (n - n12 n c) 3)
theorem kt4_a : vlt kt4 = true := by decide +kernel
