-- needs: 71 72 73 74 75 76 77
/-! DECLARATIONS: the quotas once an ask has changed -/
section DK
variable {xs : Nat → Int32} {xl d : Nat} {M : dp_M}
def qcI : List Nat := [77, 78, 79, 80, 82, 83, 84, 87]
def qcJ : List Nat := [76, 81, 85, 86]
theorem RelQ.chg {C K : dp_M} {O A a : Nat} {v : Int64} (hO : O ≤ 16) (hA : A ≤ 400) (a1 : dp_I M 75 0 = nI O) (a2 : dp_I M 114 105 = nI O) (a3 : dp_I M 75 1 = nI A) (a4 : dp_I M 114 111 = nI A) (b1 : dp_J M 191 = dp_J M 76) (b2 : dp_I M 192 = dp_I M 77) (b3 : dp_I M 193 = dp_I M 78) (b4 : dp_I M 194 = dp_I M 79) (b5 : dp_I M 195 = dp_I M 80) (b6 : dp_J M 198 = dp_J M 85) (b7 : ∀ i, dp_I M 80 i = 0 ∨ dp_I M 80 i = 1) (b8 : ∀ a, 0 ≤ (dp_J M 85 a).toInt ∧ (dp_J M 85 a).toInt ≤ 1000000)
    (b9 : ∀ a, a < A → dp_I M 82 a = dp_I M 197 a ∧ qin (dp_I M 82 a) O ∧ qin (dp_I M 196 a) 400 ∧ dp_I M 84 a = mdy M a ∧ dp_I M 83 a = mdk M a) (v0 : 0 ≤ v.toInt) (v1 : v.toInt ≤ 1000000) (oC : Off [75, 81, 85, 86, 87, 88, 89] [] M C) (cq : ∀ o, o < O → QRw C A o) (c85 : dp_J C 85 = uI (dp_J M 85) a v) (c0 : dp_I C 75 0 = dp_I M 75 0) (c1 : dp_I C 75 1 = dp_I M 75 1)
    (k75 : dp_I K 75 = dp_I C 75) (eI : ∀ k ∈ qcI, dp_I K k = dp_I C k) (eJ : ∀ k ∈ qcJ, dp_J K k = dp_J C k) (f : ∀ i ∈ [105, 111], dp_I K 114 i = dp_I M 114 i) (k191 : dp_J K 191 = dp_J M 191) (k198 : dp_J K 198 = uI (dp_J M 198) a v) (mI : ∀ k ∈ [192, 193, 194, 195, 196, 197, 235, 238], dp_I K k = dp_I M k) : RelQ K := by
  have cI : ∀ k ∈ [77, 78, 79, 80, 82, 83, 84], dp_I C k = dp_I M k := fun k hk => by
    have w : ∀ k ∈ [77, 78, 79, 80, 82, 83, 84], k < 246 ∧ k ∉ [75, 81, 85, 86, 87, 88, 89] ∧ k ≠ 114 := by decide
    exact (oC.1 k (w k hk).1 (w k hk).2.1 (w k hk).2.2).1
  have cJ : dp_J C 76 = dp_J M 76 := (oC.1 76 (by decide) (by decide) (by decide)).2.1
  have sI : ∀ k ∈ [77, 78, 79, 80, 82, 83, 84], dp_I K k = dp_I M k := fun k hk => by
    have w : ∀ k ∈ [77, 78, 79, 80, 82, 83, 84], k ∈ qcI := by decide
    rw [eI k (w k hk), cI k hk]
  refine ⟨O, A, hO, hA, by rw [k75, c0]; exact a1, by rw [f 105 (by decide)]; exact a2, by rw [k75, c1]; exact a3, by rw [f 111 (by decide)]; exact a4, by rw [k191, eJ 76 (by decide), cJ]; exact b1, by rw [mI 192 (by decide), sI 77 (by decide)]; exact b2, by rw [mI 193 (by decide), sI 78 (by decide)]; exact b3, by rw [mI 194 (by decide), sI 79 (by decide)]; exact b4, by rw [mI 195 (by decide), sI 80 (by decide)]; exact b5, by rw [k198, eJ 85 (by decide), c85, b6], by rw [sI 80 (by decide)]; exact b7, fun x => ?_, fun x hx => ?_, fun o ho => ?_⟩
  · rw [eJ 85 (by decide), c85]
    by_cases z : x = a
    · subst z; rw [uI_s]; exact ⟨v0, v1⟩
    · rw [uI_n z]; exact b8 x
  · have q := b9 x hx
    unfold mdy mdk at q ⊢
    rw [sI 82 (by decide), sI 83 (by decide), sI 84 (by decide), mI 196 (by decide), mI 197 (by decide), mI 235 (by decide), mI 238 (by decide)]; exact q
  · exact (cq o ho).same (by omega) (eI 82 (by decide)) (eI 84 (by decide)) (eI 83 (by decide)) (eJ 85 (by decide)) (fun x _ => by rw [eI 80 (by decide)]) (by rw [eJ 76 (by decide)]) (by rw [eI 77 (by decide)]) (by rw [eI 78 (by decide)]) (by rw [eI 79 (by decide)]) (fun x _ => by rw [eI 87 (by decide), eJ 86 (by decide)]; exact ⟨rfl, rfl⟩) (fun x _ => by rw [eJ 81 (by decide)])
end DK
