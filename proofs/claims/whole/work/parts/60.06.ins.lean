set_option maxRecDepth 100000 in
theorem dp_d_X12_reckons : dp_InsOk dp_m_X12_reckons := dp_ckD_ok (c := dp_c_X12_reckons) (cc := dp_bytes dp_m_X12_reckons) (by decide +kernel)
set_option maxRecDepth 100000 in
theorem dp_d_X12_isAmount : dp_InsOk dp_m_X12_isAmount := dp_ckD_ok (c := dp_c_X12_isAmount) (cc := dp_bytes dp_m_X12_isAmount) (by decide +kernel)
set_option maxRecDepth 100000 in
theorem dp_d_X12_worth : dp_InsOk dp_m_X12_worth := dp_ckD_ok (c := dp_c_X12_worth) (cc := dp_bytes dp_m_X12_worth) (by decide +kernel)
set_option maxRecDepth 100000 in
theorem dp_d_X12_puts : dp_InsOk dp_m_X12_puts := dp_ckD_ok (c := dp_c_X12_puts) (cc := dp_bytes dp_m_X12_puts) (by decide +kernel)
set_option maxRecDepth 100000 in
theorem dp_d_X12_putsWhole : dp_InsOk dp_m_X12_putsWhole := dp_ckD_ok (c := dp_c_X12_putsWhole) (cc := dp_bytes dp_m_X12_putsWhole) (by decide +kernel)
set_option maxRecDepth 100000 in
theorem dp_d_X12_putsNumber : dp_InsOk dp_m_X12_putsNumber := dp_ckD_ok (c := dp_c_X12_putsNumber) (cc := dp_bytes dp_m_X12_putsNumber) (by decide +kernel)
set_option maxRecDepth 100000 in
theorem dp_d_X12_putsWord : dp_InsOk dp_m_X12_putsWord := dp_ckD_ok (c := dp_c_X12_putsWord) (cc := dp_bytes dp_m_X12_putsWord) (by decide +kernel)
set_option maxRecDepth 100000 in
theorem dp_d_X12_putsLeaf : dp_InsOk dp_m_X12_putsLeaf := dp_ckD_ok (c := dp_c_X12_putsLeaf) (cc := dp_bytes dp_m_X12_putsLeaf) (by decide +kernel)
set_option maxRecDepth 100000 in
theorem dp_d_X12_piles : dp_InsOk dp_m_X12_piles := dp_ckD_ok (c := dp_c_X12_piles) (cc := dp_bytes dp_m_X12_piles) (by decide +kernel)
set_option maxRecDepth 100000 in
theorem dp_d_X12_putsTwo : dp_InsOk dp_m_X12_putsTwo := dp_ckD_ok (c := dp_c_X12_putsTwo) (cc := dp_bytes dp_m_X12_putsTwo) (by decide +kernel)
set_option maxRecDepth 100000 in
theorem dp_d_X12_print : dp_InsOk dp_m_X12_print := dp_ckD_ok (c := dp_c_X12_print) (cc := dp_bytes dp_m_X12_print) (by decide +kernel)
set_option maxRecDepth 100000 in
theorem dp_d_X12_printed : dp_InsOk dp_m_X12_printed := dp_ckD_ok (c := dp_c_X12_printed) (cc := dp_bytes dp_m_X12_printed) (by decide +kernel)
set_option maxRecDepth 100000 in
theorem dp_d_X12_isSpanDay : dp_InsOk dp_m_X12_isSpanDay := dp_ckD_ok (c := dp_c_X12_isSpanDay) (cc := dp_bytes dp_m_X12_isSpanDay) (by decide +kernel)
set_option maxRecDepth 100000 in
theorem dp_d_X12_isOrder : dp_InsOk dp_m_X12_isOrder := dp_ckD_ok (c := dp_c_X12_isOrder) (cc := dp_bytes dp_m_X12_isOrder) (by decide +kernel)
set_option maxRecDepth 100000 in
theorem dp_d_X12_dayOfAsk : dp_InsOk dp_m_X12_dayOfAsk := dp_ckD_ok (c := dp_c_X12_dayOfAsk) (cc := dp_bytes dp_m_X12_dayOfAsk) (by decide +kernel)
set_option maxRecDepth 100000 in
theorem dp_d_X12_treats : dp_InsOk dp_m_X12_treats := dp_ckD_ok (c := dp_c_X12_treats) (cc := dp_bytes dp_m_X12_treats) (by decide +kernel)
set_option maxRecDepth 100000 in
theorem dp_d_X12_course : dp_InsOk dp_m_X12_course := dp_ckD_ok (c := dp_c_X12_course) (cc := dp_bytes dp_m_X12_course) (by decide +kernel)
set_option maxRecDepth 100000 in
theorem dp_d_X12_order : dp_InsOk dp_m_X12_order := dp_ckD_ok (c := dp_c_X12_order) (cc := dp_bytes dp_m_X12_order) (by decide +kernel)
set_option maxRecDepth 100000 in
theorem dp_d_X12_run : dp_InsOk dp_m_X12_run := dp_ckD_ok (c := dp_c_X12_run) (cc := dp_bytes dp_m_X12_run) (by decide +kernel)
set_option maxRecDepth 100000 in
theorem dp_d_X12_block : dp_InsOk dp_m_X12_block := dp_ckD_ok (c := dp_c_X12_block) (cc := dp_bytes dp_m_X12_block) (by decide +kernel)
set_option maxRecDepth 100000 in
theorem dp_d_X12_transfer : dp_InsOk dp_m_X12_transfer := dp_ckD_ok (c := dp_c_X12_transfer) (cc := dp_bytes dp_m_X12_transfer) (by decide +kernel)
set_option maxRecDepth 100000 in
theorem dp_d_X12_balance : dp_InsOk dp_m_X12_balance := dp_ckD_ok (c := dp_c_X12_balance) (cc := dp_bytes dp_m_X12_balance) (by decide +kernel)
set_option maxRecDepth 100000 in
theorem dp_d_X12_quota : dp_InsOk dp_m_X12_quota := dp_ckD_ok (c := dp_c_X12_quota) (cc := dp_bytes dp_m_X12_quota) (by decide +kernel)
set_option maxRecDepth 100000 in
theorem dp_d_X12_isGuarantee : dp_InsOk dp_m_X12_isGuarantee := dp_ckD_ok (c := dp_c_X12_isGuarantee) (cc := dp_bytes dp_m_X12_isGuarantee) (by decide +kernel)
set_option maxRecDepth 100000 in
theorem dp_d_X12_isHolder : dp_InsOk dp_m_X12_isHolder := dp_ckD_ok (c := dp_c_X12_isHolder) (cc := dp_bytes dp_m_X12_isHolder) (by decide +kernel)
set_option maxRecDepth 100000 in
theorem dp_d_X12_guarantee : dp_InsOk dp_m_X12_guarantee := dp_ckD_ok (c := dp_c_X12_guarantee) (cc := dp_bytes dp_m_X12_guarantee) (by decide +kernel)
set_option maxRecDepth 100000 in
theorem dp_d_X12_list : dp_InsOk dp_m_X12_list := dp_ckD_ok (c := dp_c_X12_list) (cc := dp_bytes dp_m_X12_list) (by decide +kernel)
set_option maxRecDepth 100000 in
theorem dp_d_X12_first : dp_InsOk dp_m_X12_first := dp_ckD_ok (c := dp_c_X12_first) (cc := dp_bytes dp_m_X12_first) (by decide +kernel)
set_option maxRecDepth 100000 in
theorem dp_d_X12_neededFor : dp_InsOk dp_m_X12_neededFor := dp_ckD_ok (c := dp_c_X12_neededFor) (cc := dp_bytes dp_m_X12_neededFor) (by decide +kernel)
set_option maxRecDepth 100000 in
theorem dp_d_X12_neededOf : dp_InsOk dp_m_X12_neededOf := dp_ckD_ok (c := dp_c_X12_neededOf) (cc := dp_bytes dp_m_X12_neededOf) (by decide +kernel)
set_option maxRecDepth 100000 in
theorem dp_d_X12_usesOf : dp_InsOk dp_m_X12_usesOf := dp_ckD_ok (c := dp_c_X12_usesOf) (cc := dp_bytes dp_m_X12_usesOf) (by decide +kernel)
set_option maxRecDepth 100000 in
theorem dp_d_X12_freeOf : dp_InsOk dp_m_X12_freeOf := dp_ckD_ok (c := dp_c_X12_freeOf) (cc := dp_bytes dp_m_X12_freeOf) (by decide +kernel)
set_option maxRecDepth 100000 in
theorem dp_d_X12_mayCover : dp_InsOk dp_m_X12_mayCover := dp_ckD_ok (c := dp_c_X12_mayCover) (cc := dp_bytes dp_m_X12_mayCover) (by decide +kernel)
set_option maxRecDepth 100000 in
theorem dp_d_X12_togetherOf : dp_InsOk dp_m_X12_togetherOf := dp_ckD_ok (c := dp_c_X12_togetherOf) (cc := dp_bytes dp_m_X12_togetherOf) (by decide +kernel)
set_option maxRecDepth 100000 in
theorem dp_d_X12_free : dp_InsOk dp_m_X12_free := dp_ckD_ok (c := dp_c_X12_free) (cc := dp_bytes dp_m_X12_free) (by decide +kernel)
set_option maxRecDepth 100000 in
theorem dp_d_X12_lays : dp_InsOk dp_m_X12_lays := dp_ckD_ok (c := dp_c_X12_lays) (cc := dp_bytes dp_m_X12_lays) (by decide +kernel)
set_option maxRecDepth 100000 in
theorem dp_d_X12_setsParts : dp_InsOk dp_m_X12_setsParts := dp_ckD_ok (c := dp_c_X12_setsParts) (cc := dp_bytes dp_m_X12_setsParts) (by decide +kernel)
set_option maxRecDepth 100000 in
theorem dp_d_X12_reservesAt : dp_InsOk dp_m_X12_reservesAt := dp_ckD_ok (c := dp_c_X12_reservesAt) (cc := dp_bytes dp_m_X12_reservesAt) (by decide +kernel)
set_option maxRecDepth 100000 in
theorem dp_d_X12_endsAs : dp_InsOk dp_m_X12_endsAs := dp_ckD_ok (c := dp_c_X12_endsAs) (cc := dp_bytes dp_m_X12_endsAs) (by decide +kernel)
set_option maxRecDepth 100000 in
theorem dp_d_X12_earnedNow : dp_InsOk dp_m_X12_earnedNow := dp_ckD_ok (c := dp_c_X12_earnedNow) (cc := dp_bytes dp_m_X12_earnedNow) (by decide +kernel)
set_option maxRecDepth 100000 in
theorem dp_d_X12_wouldTake : dp_InsOk dp_m_X12_wouldTake := dp_ckD_ok (c := dp_c_X12_wouldTake) (cc := dp_bytes dp_m_X12_wouldTake) (by decide +kernel)
set_option maxRecDepth 100000 in
theorem dp_d_X12_claimsAll : dp_InsOk dp_m_X12_claimsAll := dp_ckD_ok (c := dp_c_X12_claimsAll) (cc := dp_bytes dp_m_X12_claimsAll) (by decide +kernel)
set_option maxRecDepth 100000 in
theorem dp_d_X12_shut : dp_InsOk dp_m_X12_shut := dp_ckD_ok (c := dp_c_X12_shut) (cc := dp_bytes dp_m_X12_shut) (by decide +kernel)
set_option maxRecDepth 100000 in
theorem dp_d_X12_fails : dp_InsOk dp_m_X12_fails := dp_ckD_ok (c := dp_c_X12_fails) (cc := dp_bytes dp_m_X12_fails) (by decide +kernel)
set_option maxRecDepth 100000 in
theorem dp_d_X12_tick : dp_InsOk dp_m_X12_tick := dp_ckD_ok (c := dp_c_X12_tick) (cc := dp_bytes dp_m_X12_tick) (by decide +kernel)
set_option maxRecDepth 100000 in
theorem dp_d_X12_interest : dp_InsOk dp_m_X12_interest := dp_ckD_ok (c := dp_c_X12_interest) (cc := dp_bytes dp_m_X12_interest) (by decide +kernel)
set_option maxRecDepth 100000 in
theorem dp_d_X12_security : dp_InsOk dp_m_X12_security := dp_ckD_ok (c := dp_c_X12_security) (cc := dp_bytes dp_m_X12_security) (by decide +kernel)
set_option maxRecDepth 100000 in
theorem dp_d_X12_reservation : dp_InsOk dp_m_X12_reservation := dp_ckD_ok (c := dp_c_X12_reservation) (cc := dp_bytes dp_m_X12_reservation) (by decide +kernel)
set_option maxRecDepth 100000 in
theorem dp_d_X12_isLedgerDay : dp_InsOk dp_m_X12_isLedgerDay := dp_ckD_ok (c := dp_c_X12_isLedgerDay) (cc := dp_bytes dp_m_X12_isLedgerDay) (by decide +kernel)
set_option maxRecDepth 100000 in
theorem dp_d_X12_isAccount : dp_InsOk dp_m_X12_isAccount := dp_ckD_ok (c := dp_c_X12_isAccount) (cc := dp_bytes dp_m_X12_isAccount) (by decide +kernel)
set_option maxRecDepth 100000 in
theorem dp_d_X12_kindOfAccount : dp_InsOk dp_m_X12_kindOfAccount := dp_ckD_ok (c := dp_c_X12_kindOfAccount) (cc := dp_bytes dp_m_X12_kindOfAccount) (by decide +kernel)
set_option maxRecDepth 100000 in
theorem dp_d_X12_isOpenBatch : dp_InsOk dp_m_X12_isOpenBatch := dp_ckD_ok (c := dp_c_X12_isOpenBatch) (cc := dp_bytes dp_m_X12_isOpenBatch) (by decide +kernel)
set_option maxRecDepth 100000 in
theorem dp_d_X12_beginsBatch : dp_InsOk dp_m_X12_beginsBatch := dp_ckD_ok (c := dp_c_X12_beginsBatch) (cc := dp_bytes dp_m_X12_beginsBatch) (by decide +kernel)
set_option maxRecDepth 100000 in
theorem dp_d_X12_enters : dp_InsOk dp_m_X12_enters := dp_ckD_ok (c := dp_c_X12_enters) (cc := dp_bytes dp_m_X12_enters) (by decide +kernel)
set_option maxRecDepth 100000 in
theorem dp_d_X12_batch : dp_InsOk dp_m_X12_batch := dp_ckD_ok (c := dp_c_X12_batch) (cc := dp_bytes dp_m_X12_batch) (by decide +kernel)
set_option maxRecDepth 100000 in
theorem dp_d_X12_entry : dp_InsOk dp_m_X12_entry := dp_ckD_ok (c := dp_c_X12_entry) (cc := dp_bytes dp_m_X12_entry) (by decide +kernel)
set_option maxRecDepth 100000 in
theorem dp_d_X12_failing : dp_InsOk dp_m_X12_failing := dp_ckD_ok (c := dp_c_X12_failing) (cc := dp_bytes dp_m_X12_failing) (by decide +kernel)
set_option maxRecDepth 100000 in
theorem dp_d_X12_sumIn : dp_InsOk dp_m_X12_sumIn := dp_ckD_ok (c := dp_c_X12_sumIn) (cc := dp_bytes dp_m_X12_sumIn) (by decide +kernel)
set_option maxRecDepth 100000 in
theorem dp_d_X12_wrongWith : dp_InsOk dp_m_X12_wrongWith := dp_ckD_ok (c := dp_c_X12_wrongWith) (cc := dp_bytes dp_m_X12_wrongWith) (by decide +kernel)
set_option maxRecDepth 100000 in
theorem dp_d_X12_posts : dp_InsOk dp_m_X12_posts := dp_ckD_ok (c := dp_c_X12_posts) (cc := dp_bytes dp_m_X12_posts) (by decide +kernel)
set_option maxRecDepth 100000 in
theorem dp_d_X12_greatestIn : dp_InsOk dp_m_X12_greatestIn := dp_ckD_ok (c := dp_c_X12_greatestIn) (cc := dp_bytes dp_m_X12_greatestIn) (by decide +kernel)
set_option maxRecDepth 100000 in
theorem dp_d_X12_post : dp_InsOk dp_m_X12_post := dp_ckD_ok (c := dp_c_X12_post) (cc := dp_bytes dp_m_X12_post) (by decide +kernel)
set_option maxRecDepth 100000 in
theorem dp_d_X12_reverse : dp_InsOk dp_m_X12_reverse := dp_ckD_ok (c := dp_c_X12_reverse) (cc := dp_bytes dp_m_X12_reverse) (by decide +kernel)
