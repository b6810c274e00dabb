-- needs: 71 72 73 74 75 76 77
/-! DECLARATIONS: what cancelling one does to its reservation and its ask -/
theorem RelS.sm {M N : dp_M} (h : RelS M) (q : SameS N M) : RelS N := by
  have e := q.1
  have f := q.2
  have u : ∀ g R, uO N g R = uO M g R := fun g R => by
    induction R with
    | zero => rfl
    | succ R ih => rw [uO, uO, ih]; unfold usR; rw [(e 216 (by decide)).1, (e 217 (by decide)).1]
  unfold RelS SRw SRv SOr SLv SDs nO ndR ndF at h ⊢
  simp only [(e 90 (by decide)).1, (e 91 (by decide)).1, (e 92 (by decide)).1, (e 93 (by decide)).1, (e 94 (by decide)).1, (e 95 (by decide)).2, (e 96 (by decide)).2, (e 202 (by decide)).1, (e 203 (by decide)).2, (e 204 (by decide)).1, (e 205 (by decide)).1, (e 206 (by decide)).1, (e 207 (by decide)).1, (e 208 (by decide)).1, (e 209 (by decide)).1, (e 210 (by decide)).2, (e 211 (by decide)).2, (e 212 (by decide)).1, (e 213 (by decide)).1, (e 214 (by decide)).1, (e 215 (by decide)).1, (e 216 (by decide)).1, (e 217 (by decide)).1, (e 218 (by decide)).2, (e 219 (by decide)).1, (e 220 (by decide)).1, f 119 (by decide), f 120 (by decide), f 133 (by decide), u]
  exact h
def SameQ (N C : dp_M) : Prop := (∀ k ∈ RelQ_S, dp_I N k = dp_I C k ∧ dp_J N k = dp_J C k) ∧ ∀ i ∈ RelQ_T, dp_I N 114 i = dp_I C 114 i
theorem SameQ.off {S T : List Nat} {C N : dp_M} (o : Off S T C N) (hS : ∀ k ∈ RelQ_S, k ∉ S) (hT : ∀ i ∈ RelQ_T, i ∉ T) : SameQ N C := by
  have q : ∀ k ∈ RelQ_S, k < 246 ∧ k ≠ 114 := by decide
  exact ⟨fun k hk => ⟨(o.1 k (q k hk).1 (hS k hk) (q k hk).2).1, (o.1 k (q k hk).1 (hS k hk) (q k hk).2).2.1⟩, fun i hi => (o.2.1 i (hT i hi)).1⟩
theorem RelQ.sm {M N : dp_M} (h : RelQ M) (q : SameQ N M) : RelQ N := by
  have e := q.1
  have f := q.2
  unfold RelQ QRw cC qp mdy mdk at h ⊢
  simp only [(e 75 (by decide)).1, (e 76 (by decide)).2, (e 77 (by decide)).1, (e 78 (by decide)).1, (e 79 (by decide)).1, (e 80 (by decide)).1, (e 81 (by decide)).2, (e 82 (by decide)).1, (e 83 (by decide)).1, (e 84 (by decide)).1, (e 85 (by decide)).2, (e 86 (by decide)).2, (e 87 (by decide)).1, (e 191 (by decide)).2, (e 192 (by decide)).1, (e 193 (by decide)).1, (e 194 (by decide)).1, (e 195 (by decide)).1, (e 196 (by decide)).1, (e 197 (by decide)).1, (e 198 (by decide)).2, (e 235 (by decide)).1, (e 238 (by decide)).1, f 105 (by decide), f 111 (by decide)]
  exact h
section DN
variable {xs : Nat → Int32} {xl d : Nat} {M : dp_M}
theorem DSt.rv {R i : Nat} (h : DSt M R i) (hst : dp_I M 241 i = 0 ∨ dp_I M 241 i = 1) : dp_I M 243 i = 0 ∨ ∃ r : Nat, 1 ≤ r ∧ r ≤ R ∧ dp_I M 243 i = nI r ∧ dp_I M 215 r = 0 ∧ dp_I M 241 i = 1 ∧ ¬ dp_J M 242 i = 0 ∧ dp_J M 96 (r * 12 + 1) = dp_J M 242 i := by
  obtain ⟨m1, m2, m3, m4, m5, m6, m7, m8, m9⟩ := h
  rcases hst with q | q
  · exact Or.inl (m8 q).2
  · rcases m9 q with w | ⟨w1, r, r1, r2, r3, r4, r5⟩
    · exact Or.inl w.2
    · exact Or.inr ⟨r, r1, r2, r3, r4, q, w1, r5⟩
theorem cn_res {D A R i : Nat} (hs : RelS M) (h : DBd M D A R) (hi : i < D) (hst : dp_I M 241 i = 0 ∨ dp_I M 241 i = 1) :
    ∃ C, (∀ {d} {X : dp_M → Option dp_Res}, dp_bl (dp_den true xs xl (d + 5) 1 [.ref 108, .int (nI i), .int (9 : Int32)] M) (fun r4 M3 => if (lg_cmp r4 (0 : Int64)) ≤ 0 then X M3 else (dp_bi (dp_den true xs xl (d + 5) 2 [.ref 108, .int (nI i), .int (9 : Int32)] M3) (fun r6 M5 => dp_bl (dp_den true xs xl (d + 5) 207 [.ref 90, .int r6, .int (1 : Int32)] M5) (fun r8 M7 => X M7)))) = X C) ∧ Off [90, 95, 96] [] M C ∧ Cst 0 0 M C ∧
    ∀ N, SameS N C → dp_I N 243 i = dp_I M 243 i → ∃ K, (∀ {d} {Y : dp_M → Option dp_Res}, (if (dp_I N 243 i) ≤ 0 then Y N else (dp_bv (dp_den true xs xl (d + 1) 530 [.ref 114, .int (dp_I N 243 i), .int (1 : Int32)] N) (fun M6 => Y M6))) = Y K) ∧ RelS K ∧ Off [215, 216] [] N K ∧ Cst 0 0 N K ∧ ∀ q, q ≤ R → ¬ dp_I M 243 i = nI q → dp_I K 215 q = dp_I M 215 q ∧ dp_J K 96 (q * 12 + 1) = dp_J M 96 (q * 12 + 1) := by
  obtain ⟨h1, h2, h3, h4, h5, h6, h7, h8, -⟩ := h
  have m6 : dp_J M 111 (i * 23 + 9) = (dp_I M 243 i).toInt64 := (h8 i hi).2.1.2.2.2.2.2.1
  rcases (h8 i hi).2.1.rv hst with z | ⟨r, r1, r2, r3, r4, -⟩
  · have z' : dp_I M 243 i = 0 := z
    refine ⟨M, fun {d} {X} => ?_, Off.rr _ _ M, Cst.r M, fun N hN e => ⟨N, fun {d} {Y} => ?_, hs.sm hN, Off.rr _ _ N, Cst.r N, fun q _ _ => ⟨by rw [(hN.1 215 (by decide)).1], by rw [(hN.1 96 (by decide)).2]⟩⟩⟩
    · rw [dc_get (v2 := 9) (k := 9) rfl (by omega) (by omega), rb_bl, m6, z', if_pos (by decide)]
    · rw [e, z', if_pos (by decide)]
  · have r3' : dp_I M 243 i = nI r := r3
    obtain ⟨C, c1, c2, c3, c4⟩ := s_fin12 (xs := xs) (xl := xl) (how := 1) hs h6 h7 r1 r2 r4 (Or.inl rfl)
    have r0 : ¬ (nI r).toInt64 ≤ 0 := by
      rw [Int64.le_iff_toInt_le, Int32.toInt_toInt64, nI_toInt (by omega)]
      have : (0 : Int64).toInt = 0 := rfl
      omega
    refine ⟨C, fun {d} {X} => ?_, c2, c3, fun N hN e => ?_⟩
    · rw [dc_get (v2 := 9) (k := 9) rfl (by omega) (by omega), rb_bl, m6, r3']
      simp only [lg_cmp_le]
      rw [if_neg r0, dc_small (v2 := 9) (k := 9) (w := nI r) rfl (by omega) (by omega) (by rw [m6, r3']), rb_bi, c1, rb_bl]
    · obtain ⟨a1, a2, a3, a4, a5⟩ := c4 N hN
      refine ⟨_, fun {d} {Y} => ?_, a2, a3, a4, fun q hq hne => ?_⟩
      · rw [e, r3', if_neg (by rw [Int32.le_iff_toInt_le, nI_toInt (by omega)]; have : (0 : Int32).toInt = 0 := rfl; omega), a1, rb_bv]
      · have hqr : q ≠ r := fun w => hne (by rw [r3', w])
        refine ⟨?_, a5 q 1 hqr (by omega)⟩
        rw [enM_215, uI_n hqr, (hN.1 215 (by decide)).1, (c2.1 215 (by decide) (by decide) (by decide)).1]
theorem cn_ask {A i : Nat} (hq : RelQ M) (hA : dp_I M 114 111 = nI A) (hA4 : A ≤ 400) (hi : i < 400) (hk : DAk M A i) :
    ∃ C, (∀ {X : dp_M → Option dp_Res}, (if (dp_I M 109 i) = (-1 : Int32) then X M else (dp_bi (dp_den true xs xl (d + 4) 120 [.ref 75, .int (dp_I M 109 i), .long (0 : Int64)] M) (fun r2 M1 => X M1))) = X C) ∧ Off [75, 81, 85, 86, 87, 88, 89] [] M C ∧ Cst 0 0 M C ∧
    ∀ N, SameQ N C → dp_I N 109 i = dp_I M 109 i → ∃ K, (∀ {d} {Y : dp_M → Option dp_Res}, dp_bi (dp_den true xs xl (d + 1) 570 [.ref 114, .int (nI i)] N) (fun r2 M1 => if r2 < 0 then Y M1 else (if r2 < 0 ∨ 400 ≤ Int32.toNatClampNeg r2 then none else Y (dp_setJ M1 198 (Int32.toNatClampNeg r2) (0 : Int64)))) = Y K) ∧ RelQ K ∧ Off [198] [] N K ∧ Cst 0 0 N K := by
  have hq0 := hq
  have sk : ∀ C, Off [75, 81, 85, 86, 87, 88, 89] [] M C → ∀ N, SameQ N C → dp_I N 109 i = dp_I M 109 i → ∀ {d}, dp_den true xs xl (d + 1) 570 [.ref 114, .int (nI i)] N = iR (dp_I M 109 i) N := fun C oC N hN e d => by
    have e2 : dp_I N 196 = dp_I M 196 := by rw [(hN.1 196 (by decide)).1, (oC.1 196 (by decide) (by decide) (by decide)).1]
    have e3 : dp_I N 114 111 = nI A := by rw [← hA, hN.2 111 (by decide), (oC.2.1 111 (by decide)).1]
    rw [dm_af hA4 e3 (hk.c e (fun a _ => by rw [e2])), e]
  by_cases z : dp_I M 109 i = -1
  · refine ⟨M, fun {X} => if_pos z, Off.rr _ _ M, Cst.r M, fun N hN e => ⟨N, fun {d} {Y} => ?_, hq.sm hN, Off.rr _ _ N, Cst.r N⟩⟩
    rw [sk M (Off.rr _ _ M) N hN e, rb_bi, z, if_pos (by decide)]
  · rcases hk with ⟨w, -⟩ | ⟨a, w1, w2, w3, w4⟩
    · exact absurd w z
    · have w2' : dp_I M 109 i = nI a := w2
      obtain ⟨O, A', hO, hA', a1, a2, a3, a4, b1, b2, b3, b4, b5, b6, b7, b8, b9, b10⟩ := hq
      have eA : A' = A := by rw [hA, nI_eq (by omega) (by omega)] at a4; exact a4.symm
      subst eA
      obtain ⟨y1, y2, -⟩ := b9 a w1
      obtain ⟨o, ho, eo⟩ := qin_of y2 (by omega)
      obtain ⟨C, c1, c2, c3, c4, c5, c6, c7, -⟩ := qc_change (xs := xs) (xl := xl) (d := d) (v := 0) hO hA' w1 ho a3 eo b8 (by decide) (by decide) b10
      refine ⟨C, fun {X} => ?_, c2, c3, fun N hN e => ⟨dp_setJ N 198 a 0, fun {d} {Y} => ?_, ?_, (Off.rr _ _ N).J 198 (by decide) _ _, ⟨Nat.le_refl _, Nat.le_refl _⟩⟩⟩
      · rw [if_neg z, w2', c1, rb_bi]
      · rw [sk C c2 N hN e, rb_bi, w2', if_neg (nI_nn (by omega)), if_neg (by rw [nI_cl (by omega)]; exact fun q => q.elim (nI_nn (by omega)) (by omega)), nI_cl (by omega)]
      · have cm : ∀ k ∈ [191, 192, 193, 194, 195, 196, 197, 198, 235, 238], dp_I C k = dp_I M k ∧ dp_J C k = dp_J M k := fun k hk => by
          have w : ∀ k ∈ [191, 192, 193, 194, 195, 196, 197, 198, 235, 238], k < 246 ∧ k ∉ [75, 81, 85, 86, 87, 88, 89] ∧ k ≠ 114 := by decide
          exact ⟨(c2.1 k (w k hk).1 (w k hk).2.1 (w k hk).2.2).1, (c2.1 k (w k hk).1 (w k hk).2.1 (w k hk).2.2).2.1⟩
        refine RelQ.chg (M := M) (C := C) (a := a) (v := 0) hO hA' a1 a2 a3 a4 b1 b2 b3 b4 b5 b6 b7 b8 b9 (by decide) (by decide) c2 c4 c5 c6 c7 (by rw [gIJ]; exact (hN.1 75 (by decide)).1) (fun k hk => ?_) (fun k hk => ?_) (fun j hj => ?_) ?_ ?_ (fun k hk => ?_)
        · have w : ∀ k ∈ qcI, k ∈ RelQ_S := by decide
          rw [gIJ]; exact (hN.1 k (w k hk)).1
        · have w : ∀ k ∈ qcJ, k ∈ RelQ_S ∧ k ≠ 198 := by decide
          rw [gJJ, if_neg (w k hk).2]; exact (hN.1 k (w k hk).1).2
        · have w : ∀ j ∈ [105, 111], j ∈ RelQ_T := by decide
          rw [gIJ, hN.2 j (w j hj), (c2.2.1 j (by simp)).1]
        · rw [gJJ, if_neg (by decide), (hN.1 191 (by decide)).2, (cm 191 (by decide)).2]
        · rw [gJJ, if_pos rfl, (hN.1 198 (by decide)).2, (cm 198 (by decide)).2]
        · have w : ∀ k ∈ [192, 193, 194, 195, 196, 197, 235, 238], k ∈ RelQ_S ∧ k ∈ [191, 192, 193, 194, 195, 196, 197, 198, 235, 238] := by decide
          rw [gIJ, (hN.1 k (w k hk).1).1, (cm k (w k hk).2).1]
end DN
