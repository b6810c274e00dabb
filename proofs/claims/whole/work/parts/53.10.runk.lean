/-! THE LAW (2): runs that go over into others -/
section DPk
variable {p : Program} {l : Launch} {e : Env} {R : Room} {s : State} {m : MethodId} {args : Array Value} {below : List Frame} {meth : Method} {c : Code} {H : Heap} {locs : List Loc} {cells slots : Nat}
theorem dp_Wm {Q Q' : State → Prop} {g : JFrame} (hQ : ∀ t, Q t → Q' t) (h : W p l e R s m args below meth c H locs cells slots Q g) : W p l e R s m args below meth c H locs cells slots Q' g := fun T hT X => by
  obtain ⟨t, a, b⟩ := h T hT X
  exact ⟨t, a, hQ t b⟩
theorem dp_Wxm {Q Q' : State → Prop} {g : JFrame} {q : Addr} (hQ : ∀ t, Q t → Q' t) (h : vx_W p l e R s m args below meth c H locs cells slots Q g q) : vx_W p l e R s m args below meth c H locs cells slots Q' g q := fun T hT X => by
  obtain ⟨t, a, b⟩ := h T hT X
  exact ⟨t, a, hQ t b⟩
end DPk
def dp_runK (md : Bool) (xs : Nat → Int32) (xl : Nat) (F : dp_Phi) (mi : dp_Mi) (K : dp_Cfg → Option dp_Res) : Nat → dp_Cfg → Option dp_Res
  | 0, cf => K cf
  | n + 1, cf => dp_stp md xs xl F mi cf (dp_runK md xs xl F mi K n)
theorem dp_runK_grow {md : Bool} {xs : Nat → Int32} {xl : Nat} {F : dp_Phi} {mi : dp_Mi} {K : dp_Cfg → Option dp_Res} (hF : dp_grow F) (hKg : ∀ cf r, K cf = some r → dp_n cf.2.2.2 ≤ dp_n r.2 ∧ dp_z cf.2.2.2 ≤ dp_z r.2) : ∀ (n : Nat) (cf : dp_Cfg) (r : dp_Res), dp_runK md xs xl F mi K n cf = some r → dp_n cf.2.2.2 ≤ dp_n r.2 ∧ dp_z cf.2.2.2 ≤ dp_z r.2
  | 0, cf, r, h => hKg cf r h
  | n + 1, cf, r, h => by
    have h' : dp_stp md xs xl F mi cf (dp_runK md xs xl F mi K n) = some r := h
    rcases dp_stp_f hF h' with ⟨h1, h2, -⟩ | ⟨cf', h1, h2, h3, -⟩
    · exact ⟨h1, h2⟩
    · have := dp_runK_grow hF hKg n cf' r h1
      exact ⟨by omega, by omega⟩
section DPden
variable {p : Program} {l : Launch} {e : Env} {R : Room} {s : State} {m : MethodId} {args : Array Value} {below : List Frame} {meth : Method} {c : Code}
variable {b : Nat} {sa : Nat → Nat} {G : dp_G} {H0 : Heap} {md : Bool} {xs : Nat → Int32} {xl : Nat} {n0 z0 : Nat}
set_option maxHeartbeats 4000000 in
theorem dp_runK_ok {mi : dp_Mi} {d : Nat} {F : dp_Phi} {K : dp_Cfg → Option dp_Res} {Q : dp_Res → State → Prop} (hQ : ∀ r t, vx_MQ below (dp_Qc G b sa H0 md r) (dp_XC G b H0 md r) args s (dp_n r.2 - n0) (dp_z r.2 - z0) (fun q => b ≤ q) t → Q r t) (hKg : ∀ cf r, K cf = some r → dp_n cf.2.2.2 ≤ dp_n r.2 ∧ dp_z cf.2.2.2 ≤ dp_z r.2)
    (hKW : ∀ (cf : dp_Cfg) (r : dp_Res), K cf = some r → (dp_n r.2 ≤ n0 + R.cells ∧ dp_z r.2 ≤ z0 + R.slots) → ∀ (H : Heap) (locs : List Loc) (ls : Array Slot), dp_Rep G b H0 md cf.2.2.2 H → (∀ q ∈ locs, b ≤ q.base) → n0 ≤ dp_n cf.2.2.2 → z0 ≤ dp_z cf.2.2.2 → dp_has b sa ls cf.2.1 → cf.2.1.length = dp_maxL mi → W p l e R s m args below meth c H locs (dp_n cf.2.2.2 - n0) (dp_z cf.2.2.2 - z0) (Q r) (F0 m cf.1 ls (cf.2.2.1.map (dp_cv b sa))))
    (hXO : dp_XOk l) (hx : p.tables.exec = Jvm.exec) (hb : c.code = dp_bytes mi) (hml : c.maxLocals = dp_maxL mi) (hst : l.stackTraces = false) (hts : ∀ w ∈ dp_T, w.before args s = true) (hown : s.vm.findClass (dp_own (dp_own1 mi)) = some m.cls) (hK : dp_Kn G sa s) (hE : dp_Ext b sa H0 xs xl s) (hs0 : ∀ q : Nat, q < b → s.heap[q]? = H0[q]?) (hsz : s.heap.size = b + n0)
    (hins : ∀ pc i, dp_ins mi pc = some i → ∃ len, decode (dp_bytes mi) pc = .ok (i, len) ∧ (dp_isSw i = false → len = dp_il i)) (htab : c.exceptionTable.toList = tableOf (dp_hh mi)) (hr : meth.sig.returnType = dp_rt mi) (hlocks : meth.locks = false) (hini : dp_kind mi = 2 → meth.name = "<init>")
    (hF : dp_grow F) (hFo : ∀ j mj as M r, dp_mi j = some mj → F j as M = some r → dp_Ok l G b sa H0 md xs xl d mj as M r) (hRf : d + 7 ≤ R.frames) (hRl : 100 * d + 200 ≤ R.locals) :
    ∀ (n : Nat) (cf : dp_Cfg) (r : dp_Res), dp_runK md xs xl F mi K n cf = some r → (dp_n r.2 ≤ n0 + R.cells ∧ dp_z r.2 ≤ z0 + R.slots) → ∀ (H : Heap) (locs : List Loc) (ls : Array Slot), dp_Rep G b H0 md cf.2.2.2 H → (∀ q ∈ locs, b ≤ q.base) → n0 ≤ dp_n cf.2.2.2 → z0 ≤ dp_z cf.2.2.2 → dp_has b sa ls cf.2.1 → cf.2.1.length = dp_maxL mi →
      W p l e R s m args below meth c H locs (dp_n cf.2.2.2 - n0) (dp_z cf.2.2.2 - z0) (Q r) (F0 m cf.1 ls (cf.2.2.1.map (dp_cv b sa)))
  | 0, cf, r, h, hroom, H, locs, ls, h1, h2, h3, h4, h5, h6 => hKW cf r h hroom H locs ls h1 h2 h3 h4 h5 h6
  | n + 1, (pc, L, st, M), r, h, hroom, H, locs, ls, hRp, hl, hn0, hz0, hls, hLl => by
    have ih := dp_runK_ok hQ hKg hKW hXO hx hb hml hst hts hown hK hE hs0 hsz hins htab hr hlocks hini hF hFo hRf hRl n
    have hrm : ∀ cf, dp_runK md xs xl F mi K n cf = some r → dp_n cf.2.2.2 ≤ n0 + R.cells ∧ dp_z cf.2.2.2 ≤ z0 + R.slots := fun cf hc => by
      have := dp_runK_grow hF hKg n cf r hc
      omega
    have hX : va_X (sa 0) xl xs s H := hE.2.2.1.kept (hRp.2.1 _ hE.2.1)
    dsimp only at hRp hn0 hz0 hls hLl ⊢
    have h' : dp_stp md xs xl F mi (pc, L, st, M) (dp_runK md xs xl F mi K n) = some r := h
    unfold dp_stp at h'
    split at h'
    · rename_i i hi
      dsimp only at hi h'
      obtain ⟨len, hd, hlen⟩ := hins pc i hi
      have hd1 : dp_isSw i = false → decode (dp_bytes mi) pc = .ok (i, dp_il i) := fun q => by rw [← hlen q]; exact hd
      unfold dp_ex at h'
      split at h'
      · rename_i hg
        split at h'
        · rename_i st' h1
          exact dp_pure_ok hx hb h1 (hd1 (dp_gr_sw (by rw [hg]; decide))) (ih _ r h' hroom H locs ls hRp hl hn0 hz0 hls hLl)
        · cases h'
      · rename_i hg
        split at h'
        · rename_i v h1
          exact dp_ld_ok hx hb hls h1 (hd1 (dp_gr_sw (by rw [hg]; decide))) (ih _ r h' hroom H locs ls hRp hl hn0 hz0 hls hLl)
        · cases h'
      · rename_i hg
        split at h'
        · rename_i L' st' h1
          exact dp_sto_ok hx hb hls h1 (hd1 (dp_gr_sw (by rw [hg]; decide))) (fun ls' hls' => ih _ r h' hroom H locs ls' hRp hl hn0 hz0 hls' ((dp_sto_len h1).trans hLl))
        · cases h'
      · exact dp_br_ok hx hb h' hd hlen (fun pc' st' hk => ih _ r hk hroom H locs ls hRp hl hn0 hz0 hls hLl)
      · rename_i hg
        exact dp_dv_ok hx hb h' (hd1 (dp_gr_sw (by rw [hg]; decide))) (fun st' hk => ih _ r hk hroom H locs ls hRp hl hn0 hz0 hls hLl)
      · rename_i hg
        exact dp_ald_ok hx hb hK hRp hX h' (hd1 (dp_gr_sw (by rw [hg]; decide))) (fun st' hk => ih _ r hk hroom H locs ls hRp hl hn0 hz0 hls hLl)
      · rename_i hg
        exact dp_ast_ok hx hb hK hRp hl h' (hd1 (dp_gr_sw (by rw [hg]; decide))) (fun st' M' H' locs' hk e1 e2 q1 q2 => by
          have := ih _ r hk hroom H' locs' ls q1 q2 (by show n0 ≤ dp_n M'; omega) (by show z0 ≤ dp_z M'; omega) hls hLl
          dsimp only at this
          rw [e1, e2] at this
          exact this)
      · rename_i hg
        exact dp_fld_ok hx hb hts hown hK hRp hl (fun q => hini (by simpa using q)) h' (hd1 (dp_gr_sw (by rw [hg]; decide))) (fun st' M' H' locs' hk e1 e2 q1 q2 => by
          have := ih _ r hk hroom H' locs' ls q1 q2 (by show n0 ≤ dp_n M'; omega) (by show z0 ≤ dp_z M'; omega) hls hLl
          dsimp only at this
          rw [e1, e2] at this
          exact this)
      · rename_i hg
        exact dp_mk_ok hx hb hts hown hK hRp hn0 hz0 h' (hd1 (dp_gr_sw (by rw [hg]; decide))) (fun st' M' hk => hrm _ hk) (fun st' M' H' hk e1 e2 q1 => ih _ r hk hroom H' locs ls q1 hl e1 e2 hls hLl)
      · rename_i hg
        split at h'
        · rename_i v h1
          exact dp_cst_ok hx hb hts hown hK h1 (hd1 (dp_gr_sw (by rw [hg]; decide))) (ih _ r h' hroom H locs ls hRp hl hn0 hz0 hls hLl)
        · cases h'
      · rename_i hg
        exact dp_cal_ok (mi := mi) hXO hx hb hml hts hown hK hE hF hFo hRf hRl hRp hl hn0 hz0 (hls.1.trans hLl) h' (hd1 (dp_gr_sw (by rw [hg]; decide))) (fun cf hk => hrm cf hk) hroom
          (fun ee M' H' locs' q ce rest hr9 hh9 g1 g2 q1 q2 q3 q4 q5 => by
            subst hr9
            exact dp_Wxm (hQ _) <| vx_out (E := dp_en ee) (ce := ce) (by rw [htab, hh9]; intro x hx; cases hx) hlocks q3 q4 q5 (fun t ht _ => ⟨ee, rfl, rfl, by rw [ht]; exact q1⟩) q2 (Nat.le_refl _) (Nat.le_refl _))
          (fun ee M' h1 a H' locs' q ce rest hd9 ha9 hk9 g1 g2 q1 q2 q3 q4 q5 => dp_hand_ok hx hb hts hown hK htab hins hls hd9 ha9 q3 q4 q5 (fun ls' hls' => ih _ r hk9 hroom H' locs' ls' q1 q2 g1 g2 hls' ((dp_un_len L a).trans hLl)))
          (fun st' M' H' locs' hk e1 e2 q1 q2 => ih _ r hk hroom H' locs' ls q1 q2 e1 e2 hls hLl)
      · rename_i hg
        exact dp_Wm (hQ r) <| dp_end_ok hx hb hr hlocks hRp hl h' (hd1 (dp_gr_sw (by rw [hg]; decide)))
      · split at h'
        · split at h'
          · rename_i hh9
            exact dp_Wm (hQ r) <| dp_thr_ok hx hb hst hts hown hK hE hs0 hsz hins (by rw [htab, hh9]; intro x hx; cases hx) hlocks ((hls.1.trans hLl).trans hml.symm) hRf hRl hRp hl hn0 hz0 h' (hd1 rfl) hroom
          · cases h'
        · cases h'
    · cases h'
end DPden
