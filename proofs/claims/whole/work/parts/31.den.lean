/-! THE DEEP LAYER (12): what the interpreter answers, the machine answers -/
theorem dp_st1_len (L : dp_L) (k : Nat) (v : Value) : (dp_st1 L k v).length = L.length := by unfold dp_st1; rw [dp_cut_len, List.length_set]
theorem dp_st2_len (L : dp_L) (k : Nat) (v : Value) : (dp_st2 L k v).length = L.length := by unfold dp_st2; rw [dp_cut_len, List.length_set, List.length_set]
theorem dp_sto_len {i : Instr} {L L' : dp_L} {st st' : List Value} (h : dp_sto i L st = some (L', st')) : L'.length = L.length := by
  have hi : ∀ k, dp_sti L k st = some (L', st') → L'.length = L.length := fun k h => by
    unfold dp_sti at h
    split at h
    · split at h
      · cases h; exact dp_st1_len _ _ _
      · cases h
    · cases h
  have hl : ∀ k, dp_stl L k st = some (L', st') → L'.length = L.length := fun k h => by
    unfold dp_stl at h
    split at h
    · split at h
      · cases h; exact dp_st2_len _ _ _
      · cases h
    · cases h
  have ha : ∀ k, dp_sta L k st = some (L', st') → L'.length = L.length := fun k h => by
    unfold dp_sta at h
    split at h
    · split at h
      · cases h; exact dp_st1_len _ _ _
      · cases h
    · split at h
      · cases h; exact dp_st1_len _ _ _
      · cases h
    · split at h
      · cases h; exact dp_st1_len _ _ _
      · cases h
    · cases h
  unfold dp_sto at h
  split at h
  · exact hi _ h
  · exact hi _ h
  · exact hl _ h
  · exact hl _ h
  · exact ha _ h
  · exact ha _ h
  · unfold dp_inc at h
    split at h
    · split at h
      · cases h; exact dp_st1_len _ _ _
      · cases h
    · cases h
  · cases h
theorem dp_gr_sw {o : Nat} {i : Instr} (h : dp_gr o i ≠ 3) : dp_isSw i = false := by
  cases i <;> first | rfl | (exfalso; apply h; rfl)
section DPden
variable {p : Program} {l : Launch} {e : Env} {R : Room} {s : State} {m : MethodId} {args : Array Value} {below : List Frame} {meth : Method} {c : Code}
variable {b : Nat} {sa : Nat → Nat} {G : dp_G} {H0 : Heap} {md : Bool} {xs : Nat → Int32} {xl : Nat} {n0 z0 : Nat}
set_option maxHeartbeats 4000000 in
theorem dp_runs_ok {mi : dp_Mi} {d : Nat} {F : dp_Phi} (hXO : dp_XOk l) (hx : p.tables.exec = Jvm.exec) (hb : c.code = dp_bytes mi) (hml : c.maxLocals = dp_maxL mi) (hst : l.stackTraces = false) (hts : ∀ w ∈ dp_T, w.before args s = true) (hown : s.vm.findClass (dp_own (dp_own1 mi)) = some m.cls) (hK : dp_Kn G sa s) (hE : dp_Ext b sa H0 xs xl s) (hs0 : ∀ q : Nat, q < b → s.heap[q]? = H0[q]?) (hsz : s.heap.size = b + n0)
    (hins : ∀ pc i, dp_ins mi pc = some i → ∃ len, decode (dp_bytes mi) pc = .ok (i, len) ∧ (dp_isSw i = false → len = dp_il i)) (htab : c.exceptionTable.toList = tableOf (dp_hh mi)) (hr : meth.sig.returnType = dp_rt mi) (hlocks : meth.locks = false) (hini : dp_kind mi = 2 → meth.name = "<init>")
    (hF : dp_grow F) (hFo : ∀ j mj as M r, dp_mi j = some mj → F j as M = some r → dp_Ok l G b sa H0 md xs xl d mj as M r) (hRf : d + 7 ≤ R.frames) (hRl : 100 * d + 200 ≤ R.locals) :
    ∀ (n : Nat) (cf : dp_Cfg) (r : dp_Res), dp_runs md xs xl F mi n cf = some r → (dp_n r.2 ≤ n0 + R.cells ∧ dp_z r.2 ≤ z0 + R.slots) → ∀ (H : Heap) (locs : List Loc) (ls : Array Slot), dp_Rep G b H0 md cf.2.2.2 H → (∀ q ∈ locs, b ≤ q.base) → n0 ≤ dp_n cf.2.2.2 → z0 ≤ dp_z cf.2.2.2 → dp_has b sa ls cf.2.1 → cf.2.1.length = dp_maxL mi →
      W p l e R s m args below meth c H locs (dp_n cf.2.2.2 - n0) (dp_z cf.2.2.2 - z0) (vx_MQ below (dp_Qc G b sa H0 md r) (dp_XC G b H0 md r) args s (dp_n r.2 - n0) (dp_z r.2 - z0) (fun q => b ≤ q)) (F0 m cf.1 ls (cf.2.2.1.map (dp_cv b sa)))
  | 0, cf, r, h, _, H, locs, ls, _, _, _, _, _, _ => by cases h
  | n + 1, (pc, L, st, M), r, h, hroom, H, locs, ls, hRp, hl, hn0, hz0, hls, hLl => by
    have ih := dp_runs_ok hXO hx hb hml hst hts hown hK hE hs0 hsz hins htab hr hlocks hini hF hFo hRf hRl n
    have hrm : ∀ cf, dp_runs md xs xl F mi n cf = some r → dp_n cf.2.2.2 ≤ n0 + R.cells ∧ dp_z cf.2.2.2 ≤ z0 + R.slots := fun cf hc => by
      have := dp_runs_grow hF n cf r hc
      omega
    have hX : va_X (sa 0) xl xs s H := hE.2.2.1.kept (hRp.2.1 _ hE.2.1)
    dsimp only at hRp hn0 hz0 hls hLl ⊢
    have h' : dp_stp md xs xl F mi (pc, L, st, M) (dp_runs md xs xl F mi n) = some r := h
    unfold dp_stp at h'
    split at h'
    · rename_i i hi
      dsimp only at hi h'
      obtain ⟨len, hd, hlen⟩ := hins pc i hi
      have hd1 : dp_isSw i = false → decode (dp_bytes mi) pc = .ok (i, dp_il i) := fun q => by rw [← hlen q]; exact hd
      unfold dp_ex at h'
      split at h'
      · rename_i hg
        split at h'
        · rename_i st' h1
          exact dp_pure_ok hx hb h1 (hd1 (dp_gr_sw (by rw [hg]; decide))) (ih _ r h' hroom H locs ls hRp hl hn0 hz0 hls hLl)
        · cases h'
      · rename_i hg
        split at h'
        · rename_i v h1
          exact dp_ld_ok hx hb hls h1 (hd1 (dp_gr_sw (by rw [hg]; decide))) (ih _ r h' hroom H locs ls hRp hl hn0 hz0 hls hLl)
        · cases h'
      · rename_i hg
        split at h'
        · rename_i L' st' h1
          exact dp_sto_ok hx hb hls h1 (hd1 (dp_gr_sw (by rw [hg]; decide))) (fun ls' hls' => ih _ r h' hroom H locs ls' hRp hl hn0 hz0 hls' ((dp_sto_len h1).trans hLl))
        · cases h'
      · exact dp_br_ok hx hb h' hd hlen (fun pc' st' hk => ih _ r hk hroom H locs ls hRp hl hn0 hz0 hls hLl)
      · rename_i hg
        exact dp_dv_ok hx hb h' (hd1 (dp_gr_sw (by rw [hg]; decide))) (fun st' hk => ih _ r hk hroom H locs ls hRp hl hn0 hz0 hls hLl)
      · rename_i hg
        exact dp_ald_ok hx hb hK hRp hX h' (hd1 (dp_gr_sw (by rw [hg]; decide))) (fun st' hk => ih _ r hk hroom H locs ls hRp hl hn0 hz0 hls hLl)
      · rename_i hg
        exact dp_ast_ok hx hb hK hRp hl h' (hd1 (dp_gr_sw (by rw [hg]; decide))) (fun st' M' H' locs' hk e1 e2 q1 q2 => by
          have := ih _ r hk hroom H' locs' ls q1 q2 (by show n0 ≤ dp_n M'; omega) (by show z0 ≤ dp_z M'; omega) hls hLl
          dsimp only at this
          rw [e1, e2] at this
          exact this)
      · rename_i hg
        exact dp_fld_ok hx hb hts hown hK hRp hl (fun q => hini (by simpa using q)) h' (hd1 (dp_gr_sw (by rw [hg]; decide))) (fun st' M' H' locs' hk e1 e2 q1 q2 => by
          have := ih _ r hk hroom H' locs' ls q1 q2 (by show n0 ≤ dp_n M'; omega) (by show z0 ≤ dp_z M'; omega) hls hLl
          dsimp only at this
          rw [e1, e2] at this
          exact this)
      · rename_i hg
        exact dp_mk_ok hx hb hts hown hK hRp hn0 hz0 h' (hd1 (dp_gr_sw (by rw [hg]; decide))) (fun st' M' hk => hrm _ hk) (fun st' M' H' hk e1 e2 q1 => ih _ r hk hroom H' locs ls q1 hl e1 e2 hls hLl)
      · rename_i hg
        split at h'
        · rename_i v h1
          exact dp_cst_ok hx hb hts hown hK h1 (hd1 (dp_gr_sw (by rw [hg]; decide))) (ih _ r h' hroom H locs ls hRp hl hn0 hz0 hls hLl)
        · cases h'
      · rename_i hg
        exact dp_cal_ok (mi := mi) hXO hx hb hml hts hown hK hE hF hFo hRf hRl hRp hl hn0 hz0 (hls.1.trans hLl) h' (hd1 (dp_gr_sw (by rw [hg]; decide))) (fun cf hk => hrm cf hk) hroom
          (fun ee M' H' locs' q ce rest hr9 hh9 g1 g2 q1 q2 q3 q4 q5 => by
            subst hr9
            exact vx_out (E := dp_en ee) (ce := ce) (by rw [htab, hh9]; intro x hx; cases hx) hlocks q3 q4 q5 (fun t ht _ => ⟨ee, rfl, rfl, by rw [ht]; exact q1⟩) q2 (Nat.le_refl _) (Nat.le_refl _))
          (fun ee M' h1 a H' locs' q ce rest hd9 ha9 hk9 g1 g2 q1 q2 q3 q4 q5 => dp_hand_ok hx hb hts hown hK htab hins hls hd9 ha9 q3 q4 q5 (fun ls' hls' => ih _ r hk9 hroom H' locs' ls' q1 q2 g1 g2 hls' ((dp_un_len L a).trans hLl)))
          (fun st' M' H' locs' hk e1 e2 q1 q2 => ih _ r hk hroom H' locs' ls q1 q2 e1 e2 hls hLl)
      · rename_i hg
        exact dp_end_ok hx hb hr hlocks hRp hl h' (hd1 (dp_gr_sw (by rw [hg]; decide)))
      · split at h'
        · split at h'
          · rename_i hh9
            exact dp_thr_ok hx hb hst hts hown hK hE hs0 hsz hins (by rw [htab, hh9]; intro x hx; cases hx) hlocks ((hls.1.trans hLl).trans hml.symm) hRf hRl hRp hl hn0 hz0 h' (hd1 rfl) hroom
          · cases h'
        · cases h'
    · cases h'
end DPden
/-- THE SOUNDNESS OF THE INTERPRETER: what dp_den answers is a contract of the machine -/
def dp_InsOk (mi : dp_Mi) : Prop := ∀ pc i, dp_ins mi pc = some i → ∃ len, decode (dp_bytes mi) pc = .ok (i, len) ∧ (dp_isSw i = false → len = dp_il i)
theorem dp_den_ok {l : Launch} {G : dp_G} {b : Nat} {sa : Nat → Nat} {H0 : Heap} {md : Bool} {xs : Nat → Int32} {xl : Nat} (hXO : dp_XOk l) (hst : l.stackTraces = false) (hmi : ∀ j mi, dp_mi j = some mi → dp_InsOk mi) :
    ∀ (d j : Nat) (mi : dp_Mi) (as : List Value) (M : dp_M) (r : dp_Res), dp_mi j = some mi → dp_den md xs xl d j as M = some r → dp_Ok l G b sa H0 md xs xl d mi as M r
  | 0, j, mi, as, M, r, hm, h => by cases h
  | d + 1, j, mi, as, M, r, hm, h => by
    have ih := dp_den_ok (l := l) (G := G) (b := b) (sa := sa) (H0 := H0) (md := md) (xs := xs) (xl := xl) hXO hst hmi d
    have ok := dp_mi_ok hm
    have hgrow := dp_den_grow (md := md) (xs := xs) (xl := xl) (d + 1) j as M r.1 r.2 h
    unfold dp_den at h
    rw [hm] at h
    dsimp only at h
    split at h
    · rename_i hlen
      obtain ⟨n, hn⟩ := (dp_lim_s (dp_den_grow d)).mp h
      have body : ∀ p e s m args below meth c s₁, BodyLoose p l (dp_y mi) (headSpec (dp_ws mi) (dp_rm (d + 1) M r)) (dp_bytes mi) (dp_maxL mi) (dp_rt mi) e s m args below meth c s₁ → c.maxLocals = dp_maxL mi → c.exceptionTable.toList = tableOf (dp_hh mi) → dp_Pc G b sa H0 md xs xl as M args s →
          W p l e (headSpec (dp_ws mi) (dp_rm (d + 1) M r)).room s m args below meth c s.heap [] 0 0 (vx_MQ below (dp_Qc G b sa H0 md r) (dp_XC G b H0 md r) args s (dp_n r.2 - dp_n M) (dp_z r.2 - dp_z M) (fun q => b ≤ q)) (entryFrame m args (dp_maxL mi)) := by
        intro p e s m args below meth c s₁ B hml htab hP
        obtain ⟨rfl, hRp, hK, hE⟩ := hP
        have hts0 := atoms_spec (ws := dp_ws mi) B.pre
        have hts : ∀ w ∈ dp_T, w.before (as.map (dp_cv b sa)).toArray s = true := fun w hw => hts0 w (List.mem_cons_of_mem _ hw)
        have hown : s.vm.findClass (dp_own (dp_own1 mi)) = some m.cls := by
          rw [← ok.2.1]; exact findClass_of_methodNamed B.named
        rw [lg_entry_eq]
        have key := dp_runs_ok (e := e) (R := (headSpec (dp_ws mi) (dp_rm (d + 1) M r)).room) (below := below) (n0 := dp_n M) (z0 := dp_z M) (d := d) hXO B.exec B.bytes hml hst hts hown hK hE (fun q hq => hRp.2.1 q hq) hRp.1 (hmi j mi hm) htab B.returns B.notSynchronized
          (fun hk2 => ((name_of_methodNamed B.named B.method).1).trans (ok.2.2.2.2.2.2.2.2.1 hk2).2.1) (dp_den_grow d) ih (Nat.le_refl _) (by show 100 * d + 200 ≤ 100 * (d + 1) + 100; omega) n (dp_ent mi as M) r hn
          ⟨by show dp_n r.2 ≤ dp_n M + (dp_n r.2 - dp_n M); omega, by show dp_z r.2 ≤ dp_z M + (dp_z r.2 - dp_z M); omega⟩ s.heap [] _ hRp (fun q hq => by cases hq) (Nat.le_refl _) (Nat.le_refl _) (dp_has_entry b sa as hlen) (by
            show (dp_entL as ++ List.replicate (dp_maxL mi - (dp_entL as).length) none).length = dp_maxL mi
            simp; omega)
        have e1 : dp_n (dp_ent mi as M).2.2.2 - dp_n M = 0 := Nat.sub_self _
        have e2 : dp_z (dp_ent mi as M).2.2.2 - dp_z M = 0 := Nat.sub_self _
        rw [e1, e2] at key
        exact key
      by_cases hk : dp_kind mi = 3
      · have hh3 : dp_hh mi ≠ [] := (ok.2.2.2.2.2.2.2.2.2.2 hk).2
        have hcw : dp_ws mi = Cond.codeWith (dp_y mi) (dp_bytes mi) (dp_maxL mi) (dp_rt mi) (dp_hh mi) :: dp_T := by
          unfold dp_ws dp_cw
          split
          · rename_i hq; exact absurd hq hh3
          · rfl
        refine vx_ofWH (cc := dp_bytes mi) (maxL := dp_maxL mi) (ret := dp_rt mi) (hh := dp_hh mi) ok.1 hcw ?_
        intro p e s m args below meth c s₁ B hml hP
        exact body p e s m args below meth c s₁ B hml (vx_table (x := dp_y mi) B (atoms_spec (ws := dp_ws mi) B.pre _ (by rw [hcw]; exact List.mem_cons_self))) hP
      · have hh0 : dp_hh mi = [] := ok.2.2.2.2.2.2.2.2.2.1 hk
        have hcw : dp_ws mi = Cond.code (dp_y mi) (dp_bytes mi) (dp_maxL mi) (dp_rt mi) :: dp_T := by
          unfold dp_ws dp_cw
          rw [show mi.2.2.2 = [] from hh0]
        refine vx_ofW (cc := dp_bytes mi) (maxL := dp_maxL mi) (ret := dp_rt mi) ok.1 hcw ?_
        intro p e s m args below meth c s₁ B hml htab hP
        refine body p e s m args below meth c s₁ B hml ?_ hP
        rw [hh0]
        exact List.eq_nil_iff_forall_not_mem.mpr htab
    · cases h
