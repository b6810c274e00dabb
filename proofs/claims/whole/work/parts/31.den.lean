/-! THE DEEP LAYER (12): what the interpreter answers, the machine answers -/
theorem dp_st1_len (L : dp_L) (k : Nat) (v : Value) : (dp_st1 L k v).length = L.length := by unfold dp_st1; rw [dp_cut_len, List.length_set]
theorem dp_st2_len (L : dp_L) (k : Nat) (v : Value) : (dp_st2 L k v).length = L.length := by unfold dp_st2; rw [dp_cut_len, List.length_set, List.length_set]
theorem dp_sto_len {i : Instr} {L L' : dp_L} {st st' : List Value} (h : dp_sto i L st = some (L', st')) : L'.length = L.length := by
  have hi : ∀ k, dp_sti L k st = some (L', st') → L'.length = L.length := fun k h => by
    unfold dp_sti at h
    split at h
    · split at h
      · cases h; exact dp_st1_len _ _ _
      · cases h
    · cases h
  have hl : ∀ k, dp_stl L k st = some (L', st') → L'.length = L.length := fun k h => by
    unfold dp_stl at h
    split at h
    · split at h
      · cases h; exact dp_st2_len _ _ _
      · cases h
    · cases h
  have ha : ∀ k, dp_sta L k st = some (L', st') → L'.length = L.length := fun k h => by
    unfold dp_sta at h
    split at h
    · split at h
      · cases h; exact dp_st1_len _ _ _
      · cases h
    · split at h
      · cases h; exact dp_st1_len _ _ _
      · cases h
    · split at h
      · cases h; exact dp_st1_len _ _ _
      · cases h
    · cases h
  unfold dp_sto at h
  split at h
  · exact hi _ h
  · exact hi _ h
  · exact hl _ h
  · exact hl _ h
  · exact ha _ h
  · exact ha _ h
  · unfold dp_inc at h
    split at h
    · split at h
      · cases h; exact dp_st1_len _ _ _
      · cases h
    · cases h
  · cases h
theorem dp_gr_sw {o : Nat} {i : Instr} (h : dp_gr o i ≠ 3) : dp_isSw i = false := by
  cases i <;> first | rfl | (exfalso; apply h; rfl)
section DPden
variable {p : Program} {l : Launch} {e : Env} {R : Room} {s : State} {m : MethodId} {args : Array Value} {below : List Frame} {meth : Method} {c : Code}
variable {b : Nat} {sa : Nat → Nat} {G : dp_G} {H0 : Heap} {md : Bool} {xs : Nat → Int32} {xl : Nat} {n0 z0 : Nat}
set_option maxHeartbeats 4000000 in
theorem dp_runs_ok {mi : dp_Mi} {d : Nat} {F : dp_Phi} (hx : p.tables.exec = Jvm.exec) (hb : c.code = dp_bytes mi) (hml : c.maxLocals = dp_maxL mi) (hst : l.stackTraces = false) (hts : ∀ w ∈ dp_T, w.before args s = true) (hown : s.vm.findClass (dp_own (dp_own1 mi)) = some m.cls) (hK : dp_Kn G sa s) (hE : dp_Ext b sa H0 xs xl s) (hs0 : ∀ q : Nat, q < b → s.heap[q]? = H0[q]?) (hsz : s.heap.size = b + n0)
    (hins : ∀ pc i, dp_ins mi pc = some i → ∃ len, decode (dp_bytes mi) pc = .ok (i, len) ∧ (dp_isSw i = false → len = dp_il i)) (htab : ∀ x ∈ c.exceptionTable.toList, False) (hr : meth.sig.returnType = dp_rt mi) (hlocks : meth.locks = false) (hini : dp_kind mi = 2 → meth.name = "<init>")
    (hF : dp_grow F) (hFo : ∀ j mj as M r, dp_mi j = some mj → F j as M = some r → dp_Ok l G b sa H0 md xs xl d mj as M r) (hRf : d + 7 ≤ R.frames) (hRl : 100 * d + 200 ≤ R.locals) :
    ∀ (n : Nat) (cf : dp_Cfg) (r : dp_Res), dp_runs md xs xl F mi n cf = some r → (dp_n r.2 ≤ n0 + R.cells ∧ dp_z r.2 ≤ z0 + R.slots) → ∀ (H : Heap) (locs : List Loc) (ls : Array Slot), dp_Rep G b H0 md cf.2.2.2 H → (∀ q ∈ locs, b ≤ q.base) → n0 ≤ dp_n cf.2.2.2 → z0 ≤ dp_z cf.2.2.2 → dp_has b sa ls cf.2.1 → cf.2.1.length = dp_maxL mi →
      W p l e R s m args below meth c H locs (dp_n cf.2.2.2 - n0) (dp_z cf.2.2.2 - z0) (vx_MQ below (dp_Qc G b sa H0 md r) (dp_XC G b H0 md r) args s (dp_n r.2 - n0) (dp_z r.2 - z0) (fun q => b ≤ q)) (F0 m cf.1 ls (cf.2.2.1.map (dp_cv b sa)))
  | 0, cf, r, h, _, H, locs, ls, _, _, _, _, _, _ => by cases h
  | n + 1, (pc, L, st, M), r, h, hroom, H, locs, ls, hRp, hl, hn0, hz0, hls, hLl => by
    have ih := dp_runs_ok hx hb hml hst hts hown hK hE hs0 hsz hins htab hr hlocks hini hF hFo hRf hRl n
    have hrm : ∀ cf, dp_runs md xs xl F mi n cf = some r → dp_n cf.2.2.2 ≤ n0 + R.cells ∧ dp_z cf.2.2.2 ≤ z0 + R.slots := fun cf hc => by
      have := dp_runs_grow hF n cf r hc
      omega
    have hX : va_X (sa 0) xl xs s H := hE.2.2.1.kept (hRp.2.1 _ hE.2.1)
    dsimp only at hRp hn0 hz0 hls hLl ⊢
    have h' : dp_stp md xs xl F mi (pc, L, st, M) (dp_runs md xs xl F mi n) = some r := h
    unfold dp_stp at h'
    split at h'
    · rename_i i hi
      dsimp only at hi h'
      obtain ⟨len, hd, hlen⟩ := hins pc i hi
      have hd1 : dp_isSw i = false → decode (dp_bytes mi) pc = .ok (i, dp_il i) := fun q => by rw [← hlen q]; exact hd
      unfold dp_ex at h'
      split at h'
      · rename_i hg
        split at h'
        · rename_i st' h1
          exact dp_pure_ok hx hb h1 (hd1 (dp_gr_sw (by rw [hg]; decide))) (ih _ r h' hroom H locs ls hRp hl hn0 hz0 hls hLl)
        · cases h'
      · rename_i hg
        split at h'
        · rename_i v h1
          exact dp_ld_ok hx hb hls h1 (hd1 (dp_gr_sw (by rw [hg]; decide))) (ih _ r h' hroom H locs ls hRp hl hn0 hz0 hls hLl)
        · cases h'
      · rename_i hg
        split at h'
        · rename_i L' st' h1
          exact dp_sto_ok hx hb hls h1 (hd1 (dp_gr_sw (by rw [hg]; decide))) (fun ls' hls' => ih _ r h' hroom H locs ls' hRp hl hn0 hz0 hls' ((dp_sto_len h1).trans hLl))
        · cases h'
      · exact dp_br_ok hx hb h' hd hlen (fun pc' st' hk => ih _ r hk hroom H locs ls hRp hl hn0 hz0 hls hLl)
      · rename_i hg
        exact dp_dv_ok hx hb h' (hd1 (dp_gr_sw (by rw [hg]; decide))) (fun st' hk => ih _ r hk hroom H locs ls hRp hl hn0 hz0 hls hLl)
      · rename_i hg
        exact dp_ald_ok hx hb hK hRp hX h' (hd1 (dp_gr_sw (by rw [hg]; decide))) (fun st' hk => ih _ r hk hroom H locs ls hRp hl hn0 hz0 hls hLl)
      · rename_i hg
        exact dp_ast_ok hx hb hK hRp hl h' (hd1 (dp_gr_sw (by rw [hg]; decide))) (fun st' M' H' locs' hk e1 e2 q1 q2 => by
          have := ih _ r hk hroom H' locs' ls q1 q2 (by show n0 ≤ dp_n M'; omega) (by show z0 ≤ dp_z M'; omega) hls hLl
          dsimp only at this
          rw [e1, e2] at this
          exact this)
      · rename_i hg
        exact dp_fld_ok hx hb hts hown hK hRp hl (fun q => hini (by simpa using q)) h' (hd1 (dp_gr_sw (by rw [hg]; decide))) (fun st' M' H' locs' hk e1 e2 q1 q2 => by
          have := ih _ r hk hroom H' locs' ls q1 q2 (by show n0 ≤ dp_n M'; omega) (by show z0 ≤ dp_z M'; omega) hls hLl
          dsimp only at this
          rw [e1, e2] at this
          exact this)
      · rename_i hg
        exact dp_mk_ok hx hb hts hown hK hRp hn0 hz0 h' (hd1 (dp_gr_sw (by rw [hg]; decide))) (fun st' M' hk => hrm _ hk) (fun st' M' H' hk e1 e2 q1 => ih _ r hk hroom H' locs ls q1 hl e1 e2 hls hLl)
      · rename_i hg
        split at h'
        · rename_i v h1
          exact dp_cst_ok hx hb hts hown hK h1 (hd1 (dp_gr_sw (by rw [hg]; decide))) (ih _ r h' hroom H locs ls hRp hl hn0 hz0 hls hLl)
        · cases h'
      · rename_i hg
        exact dp_cal_ok (mi := mi) hx hb hml hts hown hK hE hF hFo hRf hRl hRp hl hn0 hz0 (hls.1.trans hLl) h' (hd1 (dp_gr_sw (by rw [hg]; decide))) (fun cf hk => hrm cf hk) (fun st' M' H' locs' hk e1 e2 q1 q2 => ih _ r hk hroom H' locs' ls q1 q2 e1 e2 hls hLl)
      · rename_i hg
        exact dp_end_ok hx hb hr hlocks hRp hl h' (hd1 (dp_gr_sw (by rw [hg]; decide)))
      · split at h'
        · exact dp_thr_ok hx hb hst hts hown hK hE hs0 hsz hins htab hlocks ((hls.1.trans hLl).trans hml.symm) hRf hRl hRp hl hn0 hz0 h' (hd1 rfl) hroom
        · cases h'
    · cases h'
end DPden
/-- THE SOUNDNESS OF THE INTERPRETER, for methods without a table of handlers: what dp_den answers is a contract of the machine -/
def dp_InsOk (mi : dp_Mi) : Prop := ∀ pc i, dp_ins mi pc = some i → ∃ len, decode (dp_bytes mi) pc = .ok (i, len) ∧ (dp_isSw i = false → len = dp_il i)
