-- needs: 71 72 73 74 75 76 77 78 79 80 81 82 83
/-! THE CLAIM: the start, the loop and the end joined; plan and the JDK's members are still owed -/
theorem dk_all {p : Program} {e : Env} {s : State} {m : MethodId} {below : List Frame} {meth : Method} {c : Code} (l : Launch) {b L : Nat} {xs : Nat → Int32} (hL : L ≤ 4613) (C0 : lw_At p s m meth c b L xs) (hXO : dp_XOk l) (hst : l.stackTraces = false) (htab : ∀ x ∈ c.exceptionTable.toList, False) (hplan : LPl xs L) :
    W p l e room_1 s m #[Value.ref b] below meth c s.heap [] 0 0 (lw_Z below #[Value.ref b] s) (entryFrame m ([Value.ref b] : List Value).toArray 8) := by
  obtain ⟨B, T, hA⟩ := ar_start (dq_c xs L)
  obtain ⟨M', h1, h2, h3⟩ := lw_loop (xs := xs) (xl := L) (d := 143) hplan (by omega) 512 5 0 0 B T (dq_519 (dq_c xs L)) none none none (by omega) (by omega) (by omega) hA
  have n0 := dqn_519 (dq_c xs L)
  have z0 := zq_519 (dq_c xs L)
  exact dk_start l hL C0 hXO hst htab (r := (.inl (some (.int 1)), M')) rfl ⟨by show dp_n M' ≤ 601024; omega, by show dp_z M' ≤ 7293000; omega⟩ h1
