/-! THE DEEP LAYER (15): the printed instructions are the bytes' -/
def dp_ckD (cc : ByteArray) (q : Nat × Instr) : Bool := match decode cc q.1 with
  | .ok (i, len) => decide (i = q.2) && (dp_isSw i || decide (len = dp_il i))
  | .error _ => false
theorem dp_ckD_ok {cc : ByteArray} {c : List (List (Nat × Instr))} (h : c.all (fun r => r.all (dp_ckD cc)) = true) : ∀ pc i, dp_fetch c pc = some i → ∃ len, decode cc pc = .ok (i, len) ∧ (dp_isSw i = false → len = dp_il i) := by
  intro pc i hf
  unfold dp_fetch at hf
  obtain ⟨r, hr, hm⟩ := dp_getD_in (dp_look_in hf)
  have h1 := List.all_eq_true.mp (List.all_eq_true.mp h r hr) _ hm
  unfold dp_ckD at h1
  dsimp only at h1
  split at h1
  · rename_i i' len hd
    rw [Bool.and_eq_true] at h1
    have e : i' = i := of_decide_eq_true h1.1
    subst e
    refine ⟨len, hd, fun hs => ?_⟩
    have h2 := h1.2
    rw [hs, Bool.false_or] at h2
    exact of_decide_eq_true h2
  · cases h1
theorem dp_ckD_and {cc : ByteArray} {a b : List (List (Nat × Instr))} (h1 : a.all (fun r => r.all (dp_ckD cc)) = true) (h2 : b.all (fun r => r.all (dp_ckD cc)) = true) : (a ++ b).all (fun r => r.all (dp_ckD cc)) = true := by
  rw [List.all_append, h1, h2]; rfl

set_option maxRecDepth 100000 in
theorem dp_d_X0_init : dp_InsOk dp_m_X0_init := dp_ckD_ok (c := dp_c_X0_init) (cc := dp_bytes dp_m_X0_init) (by decide +kernel)
set_option maxRecDepth 100000 in
theorem dp_d_X0_get : dp_InsOk dp_m_X0_get := dp_ckD_ok (c := dp_c_X0_get) (cc := dp_bytes dp_m_X0_get) (by decide +kernel)
set_option maxRecDepth 100000 in
theorem dp_d_X0_small : dp_InsOk dp_m_X0_small := dp_ckD_ok (c := dp_c_X0_small) (cc := dp_bytes dp_m_X0_small) (by decide +kernel)
set_option maxRecDepth 100000 in
theorem dp_d_X0_set : dp_InsOk dp_m_X0_set := dp_ckD_ok (c := dp_c_X0_set) (cc := dp_bytes dp_m_X0_set) (by decide +kernel)
set_option maxRecDepth 100000 in
theorem dp_d_X0_add : dp_InsOk dp_m_X0_add := dp_ckD_ok (c := dp_c_X0_add) (cc := dp_bytes dp_m_X0_add) (by decide +kernel)
set_option maxRecDepth 100000 in
theorem dp_d_X0_stateOf : dp_InsOk dp_m_X0_stateOf := dp_ckD_ok (c := dp_c_X0_stateOf) (cc := dp_bytes dp_m_X0_stateOf) (by decide +kernel)
set_option maxRecDepth 100000 in
theorem dp_d_X0_dutyOf : dp_InsOk dp_m_X0_dutyOf := dp_ckD_ok (c := dp_c_X0_dutyOf) (cc := dp_bytes dp_m_X0_dutyOf) (by decide +kernel)
set_option maxRecDepth 100000 in
theorem dp_d_X0_inState : dp_InsOk dp_m_X0_inState := dp_ckD_ok (c := dp_c_X0_inState) (cc := dp_bytes dp_m_X0_inState) (by decide +kernel)
set_option maxRecDepth 100000 in
theorem dp_d_X0_fact : dp_InsOk dp_m_X0_fact := dp_ckD_ok (c := dp_c_X0_fact) (cc := dp_bytes dp_m_X0_fact) (by decide +kernel)
set_option maxRecDepth 100000 in
theorem dp_d_X0_factOfAsk : dp_InsOk dp_m_X0_factOfAsk := dp_ckD_ok (c := dp_c_X0_factOfAsk) (cc := dp_bytes dp_m_X0_factOfAsk) (by decide +kernel)
set_option maxRecDepth 100000 in
theorem dp_d_X0_setAmount : dp_InsOk dp_m_X0_setAmount := dp_ckD_ok (c := dp_c_X0_setAmount) (cc := dp_bytes dp_m_X0_setAmount) (by decide +kernel)
set_option maxRecDepth 100000 in
theorem dp_d_X0_addAsk : dp_InsOk dp_m_X0_addAsk := dp_ckD_ok (c := dp_c_X0_addAsk) (cc := dp_bytes dp_m_X0_addAsk) (by decide +kernel)
set_option maxRecDepth 100000 in
theorem dp_d_X0_valueWithOne : dp_InsOk dp_m_X0_valueWithOne := dp_ckD_ok (c := dp_c_X0_valueWithOne) (cc := dp_bytes dp_m_X0_valueWithOne) (by decide +kernel)
set_option maxRecDepth 100000 in
theorem dp_d_X0_reckon : dp_InsOk dp_m_X0_reckon := dp_ckD_ok (c := dp_c_X0_reckon) (cc := dp_bytes dp_m_X0_reckon) (by decide +kernel)
set_option maxRecDepth 100000 in
theorem dp_d_X0_baseOf : dp_InsOk dp_m_X0_baseOf := dp_ckD_ok (c := dp_c_X0_baseOf) (cc := dp_bytes dp_m_X0_baseOf) (by decide +kernel)
set_option maxRecDepth 100000 in
theorem dp_d_X0_lacksAmount : dp_InsOk dp_m_X0_lacksAmount := dp_ckD_ok (c := dp_c_X0_lacksAmount) (cc := dp_bytes dp_m_X0_lacksAmount) (by decide +kernel)
set_option maxRecDepth 100000 in
theorem dp_d_X0_centsOf : dp_InsOk dp_m_X0_centsOf := dp_ckD_ok (c := dp_c_X0_centsOf) (cc := dp_bytes dp_m_X0_centsOf) (by decide +kernel)
set_option maxRecDepth 100000 in
theorem dp_d_X0_onBase : dp_InsOk dp_m_X0_onBase := dp_ckD_ok (c := dp_c_X0_onBase) (cc := dp_bytes dp_m_X0_onBase) (by decide +kernel)
set_option maxRecDepth 100000 in
theorem dp_d_X0_secure : dp_InsOk dp_m_X0_secure := dp_ckD_ok (c := dp_c_X0_secure) (cc := dp_bytes dp_m_X0_secure) (by decide +kernel)
set_option maxRecDepth 100000 in
theorem dp_d_X0_book : dp_InsOk dp_m_X0_book := dp_ckD_ok (c := dp_c_X0_book) (cc := dp_bytes dp_m_X0_book) (by decide +kernel)
set_option maxRecDepth 100000 in
theorem dp_d_X0_settle : dp_InsOk dp_m_X0_settle := dp_ckD_ok (c := dp_c_X0_settle) (cc := dp_bytes dp_m_X0_settle) (by decide +kernel)
set_option maxRecDepth 100000 in
theorem dp_d_X0_claimEntries : dp_InsOk dp_m_X0_claimEntries := dp_ckD_ok (c := dp_c_X0_claimEntries) (cc := dp_bytes dp_m_X0_claimEntries) (by decide +kernel)
set_option maxRecDepth 100000 in
theorem dp_d_X0_callIn : dp_InsOk dp_m_X0_callIn := dp_ckD_ok (c := dp_c_X0_callIn) (cc := dp_bytes dp_m_X0_callIn) (by decide +kernel)
set_option maxRecDepth 100000 in
theorem dp_d_X0_setRight : dp_InsOk dp_m_X0_setRight := dp_ckD_ok (c := dp_c_X0_setRight) (cc := dp_bytes dp_m_X0_setRight) (by decide +kernel)
set_option maxRecDepth 100000 in
theorem dp_d_X0_giveUp : dp_InsOk dp_m_X0_giveUp := dp_ckD_ok (c := dp_c_X0_giveUp) (cc := dp_bytes dp_m_X0_giveUp) (by decide +kernel)
set_option maxRecDepth 100000 in
theorem dp_d_X1_init : dp_InsOk dp_m_X1_init := dp_ckD_ok (c := dp_c_X1_init) (cc := dp_bytes dp_m_X1_init) (by decide +kernel)
set_option maxRecDepth 100000 in
theorem dp_d_X1_kilograms : dp_InsOk dp_m_X1_kilograms := dp_ckD_ok (c := dp_c_X1_kilograms) (cc := dp_bytes dp_m_X1_kilograms) (by decide +kernel)
set_option maxRecDepth 100000 in
theorem dp_d_X1_roomIn : dp_InsOk dp_m_X1_roomIn := dp_ckD_ok (c := dp_c_X1_roomIn) (cc := dp_bytes dp_m_X1_roomIn) (by decide +kernel)
set_option maxRecDepth 100000 in
theorem dp_d_X1_addGoods : dp_InsOk dp_m_X1_addGoods := dp_ckD_ok (c := dp_c_X1_addGoods) (cc := dp_bytes dp_m_X1_addGoods) (by decide +kernel)
set_option maxRecDepth 100000 in
theorem dp_d_X1_setFree : dp_InsOk dp_m_X1_setFree := dp_ckD_ok (c := dp_c_X1_setFree) (cc := dp_bytes dp_m_X1_setFree) (by decide +kernel)
set_option maxRecDepth 100000 in
theorem dp_d_X1_isBehind : dp_InsOk dp_m_X1_isBehind := dp_ckD_ok (c := dp_c_X1_isBehind) (cc := dp_bytes dp_m_X1_isBehind) (by decide +kernel)
set_option maxRecDepth 100000 in
theorem dp_d_X1_cell : dp_InsOk dp_m_X1_cell := dp_ckD_ok (c := dp_c_X1_cell) (cc := dp_bytes dp_m_X1_cell) (by decide +kernel)
set_option maxRecDepth 100000 in
theorem dp_d_X1_addBar : dp_InsOk dp_m_X1_addBar := dp_ckD_ok (c := dp_c_X1_addBar) (cc := dp_bytes dp_m_X1_addBar) (by decide +kernel)
set_option maxRecDepth 100000 in
theorem dp_d_X1_takeBar : dp_InsOk dp_m_X1_takeBar := dp_ckD_ok (c := dp_c_X1_takeBar) (cc := dp_bytes dp_m_X1_takeBar) (by decide +kernel)
set_option maxRecDepth 100000 in
theorem dp_d_X1_ownBars : dp_InsOk dp_m_X1_ownBars := dp_ckD_ok (c := dp_c_X1_ownBars) (cc := dp_bytes dp_m_X1_ownBars) (by decide +kernel)
set_option maxRecDepth 100000 in
theorem dp_d_X1_unite : dp_InsOk dp_m_X1_unite := dp_ckD_ok (c := dp_c_X1_unite) (cc := dp_bytes dp_m_X1_unite) (by decide +kernel)
set_option maxRecDepth 100000 in
theorem dp_d_X1_groupSize : dp_InsOk dp_m_X1_groupSize := dp_ckD_ok (c := dp_c_X1_groupSize) (cc := dp_bytes dp_m_X1_groupSize) (by decide +kernel)
set_option maxRecDepth 100000 in
theorem dp_d_X1_ownBar : dp_InsOk dp_m_X1_ownBar := dp_ckD_ok (c := dp_c_X1_ownBar) (cc := dp_bytes dp_m_X1_ownBar) (by decide +kernel)
set_option maxRecDepth 100000 in
theorem dp_d_X1_verdict : dp_InsOk dp_m_X1_verdict := dp_ckD_ok (c := dp_c_X1_verdict) (cc := dp_bytes dp_m_X1_verdict) (by decide +kernel)
set_option maxRecDepth 100000 in
theorem dp_d_X1_askRelease : dp_InsOk dp_m_X1_askRelease := dp_ckD_ok (c := dp_c_X1_askRelease) (cc := dp_bytes dp_m_X1_askRelease) (by decide +kernel)
set_option maxRecDepth 100000 in
theorem dp_d_X1_askRules : dp_InsOk dp_m_X1_askRules := dp_ckD_ok (c := dp_c_X1_askRules) (cc := dp_bytes dp_m_X1_askRules) (by decide +kernel)
set_option maxRecDepth 100000 in
theorem dp_d_X1_barOfGroup : dp_InsOk dp_m_X1_barOfGroup := dp_ckD_ok (c := dp_c_X1_barOfGroup) (cc := dp_bytes dp_m_X1_barOfGroup) (by decide +kernel)
set_option maxRecDepth 100000 in
theorem dp_d_X1_barsOf : dp_InsOk dp_m_X1_barsOf := dp_ckD_ok (c := dp_c_X1_barsOf) (cc := dp_bytes dp_m_X1_barsOf) (by decide +kernel)
set_option maxRecDepth 100000 in
theorem dp_d_X1_barOf : dp_InsOk dp_m_X1_barOf := dp_ckD_ok (c := dp_c_X1_barOf) (cc := dp_bytes dp_m_X1_barOf) (by decide +kernel)
set_option maxRecDepth 100000 in
theorem dp_d_X1_barIn : dp_InsOk dp_m_X1_barIn := dp_ckD_ok (c := dp_c_X1_barIn) (cc := dp_bytes dp_m_X1_barIn) (by decide +kernel)
set_option maxRecDepth 100000 in
theorem dp_d_X1_releasePart : dp_InsOk dp_m_X1_releasePart := dp_ckD_ok (c := dp_c_X1_releasePart) (cc := dp_bytes dp_m_X1_releasePart) (by decide +kernel)
set_option maxRecDepth 100000 in
theorem dp_d_X1_takeBackRelease : dp_InsOk dp_m_X1_takeBackRelease := dp_ckD_ok (c := dp_c_X1_takeBackRelease) (cc := dp_bytes dp_m_X1_takeBackRelease) (by decide +kernel)
set_option maxRecDepth 100000 in
theorem dp_d_X1_mayLeave : dp_InsOk dp_m_X1_mayLeave := dp_ckD_ok (c := dp_c_X1_mayLeave) (cc := dp_bytes dp_m_X1_mayLeave) (by decide +kernel)
set_option maxRecDepth 100000 in
theorem dp_d_X1_letOut : dp_InsOk dp_m_X1_letOut := dp_ckD_ok (c := dp_c_X1_letOut) (cc := dp_bytes dp_m_X1_letOut) (by decide +kernel)
set_option maxRecDepth 100000 in
theorem dp_d_X1_bond : dp_InsOk dp_m_X1_bond := dp_ckD_ok (c := dp_c_X1_bond) (cc := dp_bytes dp_m_X1_bond) (by decide +kernel)
set_option maxRecDepth 100000 in
theorem dp_d_X1_tell : dp_InsOk dp_m_X1_tell := dp_ckD_ok (c := dp_c_X1_tell) (cc := dp_bytes dp_m_X1_tell) (by decide +kernel)
set_option maxRecDepth 100000 in
theorem dp_d_X1_keptNotice : dp_InsOk dp_m_X1_keptNotice := dp_ckD_ok (c := dp_c_X1_keptNotice) (cc := dp_bytes dp_m_X1_keptNotice) (by decide +kernel)
set_option maxRecDepth 100000 in
theorem dp_d_X2_init : dp_InsOk dp_m_X2_init := dp_ckD_ok (c := dp_c_X2_init) (cc := dp_bytes dp_m_X2_init) (by decide +kernel)
set_option maxRecDepth 100000 in
theorem dp_d_X2_isHere : dp_InsOk dp_m_X2_isHere := dp_ckD_ok (c := dp_c_X2_isHere) (cc := dp_bytes dp_m_X2_isHere) (by decide +kernel)
set_option maxRecDepth 100000 in
theorem dp_d_X2_isLeaving : dp_InsOk dp_m_X2_isLeaving := dp_ckD_ok (c := dp_c_X2_isLeaving) (cc := dp_bytes dp_m_X2_isLeaving) (by decide +kernel)
set_option maxRecDepth 100000 in
theorem dp_d_X2_countIn : dp_InsOk dp_m_X2_countIn := dp_ckD_ok (c := dp_c_X2_countIn) (cc := dp_bytes dp_m_X2_countIn) (by decide +kernel)
set_option maxRecDepth 100000 in
theorem dp_d_X2_countStaying : dp_InsOk dp_m_X2_countStaying := dp_ckD_ok (c := dp_c_X2_countStaying) (cc := dp_bytes dp_m_X2_countStaying) (by decide +kernel)
set_option maxRecDepth 100000 in
theorem dp_d_X2_lyingIn : dp_InsOk dp_m_X2_lyingIn := dp_ckD_ok (c := dp_c_X2_lyingIn) (cc := dp_bytes dp_m_X2_lyingIn) (by decide +kernel)
set_option maxRecDepth 100000 in
theorem dp_d_X2_heightOf : dp_InsOk dp_m_X2_heightOf := dp_ckD_ok (c := dp_c_X2_heightOf) (cc := dp_bytes dp_m_X2_heightOf) (by decide +kernel)
set_option maxRecDepth 100000 in
theorem dp_d_X2_add : dp_InsOk dp_m_X2_add := dp_ckD_ok (c := dp_c_X2_add) (cc := dp_bytes dp_m_X2_add) (by decide +kernel)
set_option maxRecDepth 100000 in
theorem dp_d_X2_isNeeded : dp_InsOk dp_m_X2_isNeeded := dp_ckD_ok (c := dp_c_X2_isNeeded) (cc := dp_bytes dp_m_X2_isNeeded) (by decide +kernel)
set_option maxRecDepth 100000 in
theorem dp_d_X2_addNeed : dp_InsOk dp_m_X2_addNeed := dp_ckD_ok (c := dp_c_X2_addNeed) (cc := dp_bytes dp_m_X2_addNeed) (by decide +kernel)
set_option maxRecDepth 100000 in
theorem dp_d_X2_isAheadOf : dp_InsOk dp_m_X2_isAheadOf := dp_ckD_ok (c := dp_c_X2_isAheadOf) (cc := dp_bytes dp_m_X2_isAheadOf) (by decide +kernel)
set_option maxRecDepth 100000 in
theorem dp_d_X2_behind : dp_InsOk dp_m_X2_behind := dp_ckD_ok (c := dp_c_X2_behind) (cc := dp_bytes dp_m_X2_behind) (by decide +kernel)
set_option maxRecDepth 100000 in
theorem dp_d_X2_ahead : dp_InsOk dp_m_X2_ahead := dp_ckD_ok (c := dp_c_X2_ahead) (cc := dp_bytes dp_m_X2_ahead) (by decide +kernel)
set_option maxRecDepth 100000 in
theorem dp_d_X2_gather : dp_InsOk dp_m_X2_gather := dp_ckD_ok (c := dp_c_X2_gather) (cc := dp_bytes dp_m_X2_gather) (by decide +kernel)
set_option maxRecDepth 100000 in
theorem dp_d_X2_indexOf : dp_InsOk dp_m_X2_indexOf := dp_ckD_ok (c := dp_c_X2_indexOf) (cc := dp_bytes dp_m_X2_indexOf) (by decide +kernel)
set_option maxRecDepth 100000 in
theorem dp_d_X2_makePlan : dp_InsOk dp_m_X2_makePlan := dp_ckD_ok (c := dp_c_X2_makePlan) (cc := dp_bytes dp_m_X2_makePlan) (by decide +kernel)
set_option maxRecDepth 100000 in
theorem dp_d_X2_plannedMove : dp_InsOk dp_m_X2_plannedMove := dp_ckD_ok (c := dp_c_X2_plannedMove) (cc := dp_bytes dp_m_X2_plannedMove) (by decide +kernel)
set_option maxRecDepth 100000 in
theorem dp_d_X2_movesLeft : dp_InsOk dp_m_X2_movesLeft := dp_ckD_ok (c := dp_c_X2_movesLeft) (cc := dp_bytes dp_m_X2_movesLeft) (by decide +kernel)
set_option maxRecDepth 100000 in
theorem dp_d_X2_workNext : dp_InsOk dp_m_X2_workNext := dp_ckD_ok (c := dp_c_X2_workNext) (cc := dp_bytes dp_m_X2_workNext) (by decide +kernel)
set_option maxRecDepth 100000 in
theorem dp_d_X2_boundOf : dp_InsOk dp_m_X2_boundOf := dp_ckD_ok (c := dp_c_X2_boundOf) (cc := dp_bytes dp_m_X2_boundOf) (by decide +kernel)
set_option maxRecDepth 100000 in
theorem dp_d_X2_liesAboveLeaving : dp_InsOk dp_m_X2_liesAboveLeaving := dp_ckD_ok (c := dp_c_X2_liesAboveLeaving) (cc := dp_bytes dp_m_X2_liesAboveLeaving) (by decide +kernel)
set_option maxRecDepth 100000 in
theorem dp_d_X2_hasNeeds : dp_InsOk dp_m_X2_hasNeeds := dp_ckD_ok (c := dp_c_X2_hasNeeds) (cc := dp_bytes dp_m_X2_hasNeeds) (by decide +kernel)
set_option maxRecDepth 100000 in
theorem dp_d_X2_isInStack : dp_InsOk dp_m_X2_isInStack := dp_ckD_ok (c := dp_c_X2_isInStack) (cc := dp_bytes dp_m_X2_isInStack) (by decide +kernel)
set_option maxRecDepth 100000 in
theorem dp_d_X2_exchange : dp_InsOk dp_m_X2_exchange := dp_ckD_ok (c := dp_c_X2_exchange) (cc := dp_bytes dp_m_X2_exchange) (by decide +kernel)
set_option maxRecDepth 100000 in
theorem dp_d_X2_change : dp_InsOk dp_m_X2_change := dp_ckD_ok (c := dp_c_X2_change) (cc := dp_bytes dp_m_X2_change) (by decide +kernel)
set_option maxRecDepth 100000 in
theorem dp_d_X3_init : dp_InsOk dp_m_X3_init := dp_ckD_ok (c := dp_c_X3_init) (cc := dp_bytes dp_m_X3_init) (by decide +kernel)
set_option maxRecDepth 100000 in
theorem dp_d_X3_fact : dp_InsOk dp_m_X3_fact := dp_ckD_ok (c := dp_c_X3_fact) (cc := dp_bytes dp_m_X3_fact) (by decide +kernel)
set_option maxRecDepth 100000 in
theorem dp_d_X3_set : dp_InsOk dp_m_X3_set := dp_ckD_ok (c := dp_c_X3_set) (cc := dp_bytes dp_m_X3_set) (by decide +kernel)
set_option maxRecDepth 100000 in
theorem dp_d_X3_stateOf : dp_InsOk dp_m_X3_stateOf := dp_ckD_ok (c := dp_c_X3_stateOf) (cc := dp_bytes dp_m_X3_stateOf) (by decide +kernel)
set_option maxRecDepth 100000 in
theorem dp_d_X3_entriesOf : dp_InsOk dp_m_X3_entriesOf := dp_ckD_ok (c := dp_c_X3_entriesOf) (cc := dp_bytes dp_m_X3_entriesOf) (by decide +kernel)
set_option maxRecDepth 100000 in
theorem dp_d_X3_begin : dp_InsOk dp_m_X3_begin := dp_ckD_ok (c := dp_c_X3_begin) (cc := dp_bytes dp_m_X3_begin) (by decide +kernel)
set_option maxRecDepth 100000 in
theorem dp_d_X3_addEntry : dp_InsOk dp_m_X3_addEntry := dp_ckD_ok (c := dp_c_X3_addEntry) (cc := dp_bytes dp_m_X3_addEntry) (by decide +kernel)
set_option maxRecDepth 100000 in
theorem dp_d_X3_setFailing : dp_InsOk dp_m_X3_setFailing := dp_ckD_ok (c := dp_c_X3_setFailing) (cc := dp_bytes dp_m_X3_setFailing) (by decide +kernel)
set_option maxRecDepth 100000 in
theorem dp_d_X3_isTooEarly : dp_InsOk dp_m_X3_isTooEarly := dp_ckD_ok (c := dp_c_X3_isTooEarly) (cc := dp_bytes dp_m_X3_isTooEarly) (by decide +kernel)
set_option maxRecDepth 100000 in
theorem dp_d_X3_hasRoom : dp_InsOk dp_m_X3_hasRoom := dp_ckD_ok (c := dp_c_X3_hasRoom) (cc := dp_bytes dp_m_X3_hasRoom) (by decide +kernel)
set_option maxRecDepth 100000 in
theorem dp_d_X3_wouldTake : dp_InsOk dp_m_X3_wouldTake := dp_ckD_ok (c := dp_c_X3_wouldTake) (cc := dp_bytes dp_m_X3_wouldTake) (by decide +kernel)
set_option maxRecDepth 100000 in
theorem dp_d_X3_sumOf : dp_InsOk dp_m_X3_sumOf := dp_ckD_ok (c := dp_c_X3_sumOf) (cc := dp_bytes dp_m_X3_sumOf) (by decide +kernel)
set_option maxRecDepth 100000 in
theorem dp_d_X3_wrongWith : dp_InsOk dp_m_X3_wrongWith := dp_ckD_ok (c := dp_c_X3_wrongWith) (cc := dp_bytes dp_m_X3_wrongWith) (by decide +kernel)
set_option maxRecDepth 100000 in
theorem dp_d_X3_voidIfWrong : dp_InsOk dp_m_X3_voidIfWrong := dp_ckD_ok (c := dp_c_X3_voidIfWrong) (cc := dp_bytes dp_m_X3_voidIfWrong) (by decide +kernel)
set_option maxRecDepth 100000 in
theorem dp_d_X3_greatestAccount : dp_InsOk dp_m_X3_greatestAccount := dp_ckD_ok (c := dp_c_X3_greatestAccount) (cc := dp_bytes dp_m_X3_greatestAccount) (by decide +kernel)
set_option maxRecDepth 100000 in
theorem dp_d_X3_failIfTold : dp_InsOk dp_m_X3_failIfTold := dp_ckD_ok (c := dp_c_X3_failIfTold) (cc := dp_bytes dp_m_X3_failIfTold) (by decide +kernel)
set_option maxRecDepth 100000 in
theorem dp_d_X3_enter : dp_InsOk dp_m_X3_enter := dp_ckD_ok (c := dp_c_X3_enter) (cc := dp_bytes dp_m_X3_enter) (by decide +kernel)
