set_option maxRecDepth 100000 in
theorem dp_d_X11_least : dp_InsOk dp_m_X11_least := dp_ckD_ok (c := dp_c_X11_least) (cc := dp_bytes dp_m_X11_least) (by decide +kernel)
set_option maxRecDepth 100000 in
theorem dp_d_X11_swap : dp_InsOk dp_m_X11_swap := dp_ckD_ok (c := dp_c_X11_swap) (cc := dp_bytes dp_m_X11_swap) (by decide +kernel)
set_option maxRecDepth 100000 in
theorem dp_d_X11_aboard : dp_InsOk dp_m_X11_aboard := dp_ckD_ok (c := dp_c_X11_aboard) (cc := dp_bytes dp_m_X11_aboard) (by decide +kernel)
set_option maxRecDepth 100000 in
theorem dp_d_X11_ground : dp_InsOk dp_m_X11_ground := dp_ckD_ok (c := dp_c_X11_ground) (cc := dp_bytes dp_m_X11_ground) (by decide +kernel)
set_option maxRecDepth 100000 in
theorem dp_d_X11_reserve : dp_InsOk dp_m_X11_reserve := dp_ckD_ok (c := dp_c_X11_reserve) (cc := dp_bytes dp_m_X11_reserve) (by decide +kernel)
set_option maxRecDepth 100000 in
theorem dp_d_X11_put : dp_InsOk dp_m_X11_put := dp_ckD_ok (c := dp_c_X11_put) (cc := dp_bytes dp_m_X11_put) (by decide +kernel)
set_option maxRecDepth 100000 in
theorem dp_d_X11_take : dp_InsOk dp_m_X11_take := dp_ckD_ok (c := dp_c_X11_take) (cc := dp_bytes dp_m_X11_take) (by decide +kernel)
set_option maxRecDepth 100000 in
theorem dp_d_X11_shift : dp_InsOk dp_m_X11_shift := dp_ckD_ok (c := dp_c_X11_shift) (cc := dp_bytes dp_m_X11_shift) (by decide +kernel)
set_option maxRecDepth 100000 in
theorem dp_d_X11_choose : dp_InsOk dp_m_X11_choose := dp_ckD_ok (c := dp_c_X11_choose) (cc := dp_bytes dp_m_X11_choose) (by decide +kernel)
set_option maxRecDepth 100000 in
theorem dp_d_X11_night : dp_InsOk dp_m_X11_night := dp_ckD_ok (c := dp_c_X11_night) (cc := dp_bytes dp_m_X11_night) (by decide +kernel)
set_option maxRecDepth 100000 in
theorem dp_d_X11_undo : dp_InsOk dp_m_X11_undo := dp_ckD_ok (c := dp_c_X11_undo) (cc := dp_bytes dp_m_X11_undo) (by decide +kernel)
set_option maxRecDepth 100000 in
theorem dp_d_X11_where : dp_InsOk dp_m_X11_where := dp_ckD_ok (c := dp_c_X11_where) (cc := dp_bytes dp_m_X11_where) (by decide +kernel)
set_option maxRecDepth 100000 in
theorem dp_d_X11_at : dp_InsOk dp_m_X11_at := dp_ckD_ok (c := dp_c_X11_at) (cc := dp_bytes dp_m_X11_at) (by decide +kernel)
set_option maxRecDepth 100000 in
theorem dp_d_X11_goods : dp_InsOk dp_m_X11_goods := dp_ckD_ok (c := dp_c_X11_goods) (cc := dp_bytes dp_m_X11_goods) (by decide +kernel)
set_option maxRecDepth 100000 in
theorem dp_d_X11_isBar : dp_InsOk dp_m_X11_isBar := dp_ckD_ok (c := dp_c_X11_isBar) (cc := dp_bytes dp_m_X11_isBar) (by decide +kernel)
set_option maxRecDepth 100000 in
theorem dp_d_X11_bar : dp_InsOk dp_m_X11_bar := dp_ckD_ok (c := dp_c_X11_bar) (cc := dp_bytes dp_m_X11_bar) (by decide +kernel)
set_option maxRecDepth 100000 in
theorem dp_d_X11_lift : dp_InsOk dp_m_X11_lift := dp_ckD_ok (c := dp_c_X11_lift) (cc := dp_bytes dp_m_X11_lift) (by decide +kernel)
set_option maxRecDepth 100000 in
theorem dp_d_X11_join : dp_InsOk dp_m_X11_join := dp_ckD_ok (c := dp_c_X11_join) (cc := dp_bytes dp_m_X11_join) (by decide +kernel)
set_option maxRecDepth 100000 in
theorem dp_d_X11_rule : dp_InsOk dp_m_X11_rule := dp_ckD_ok (c := dp_c_X11_rule) (cc := dp_bytes dp_m_X11_rule) (by decide +kernel)
set_option maxRecDepth 100000 in
theorem dp_d_X11_release : dp_InsOk dp_m_X11_release := dp_ckD_ok (c := dp_c_X11_release) (cc := dp_bytes dp_m_X11_release) (by decide +kernel)
set_option maxRecDepth 100000 in
theorem dp_d_X11_bars : dp_InsOk dp_m_X11_bars := dp_ckD_ok (c := dp_c_X11_bars) (cc := dp_bytes dp_m_X11_bars) (by decide +kernel)
set_option maxRecDepth 100000 in
theorem dp_d_X11_part : dp_InsOk dp_m_X11_part := dp_ckD_ok (c := dp_c_X11_part) (cc := dp_bytes dp_m_X11_part) (by decide +kernel)
set_option maxRecDepth 100000 in
theorem dp_d_X11_withdraw : dp_InsOk dp_m_X11_withdraw := dp_ckD_ok (c := dp_c_X11_withdraw) (cc := dp_bytes dp_m_X11_withdraw) (by decide +kernel)
set_option maxRecDepth 100000 in
theorem dp_d_X11_gate : dp_InsOk dp_m_X11_gate := dp_ckD_ok (c := dp_c_X11_gate) (cc := dp_bytes dp_m_X11_gate) (by decide +kernel)
set_option maxRecDepth 100000 in
theorem dp_d_X11_away : dp_InsOk dp_m_X11_away := dp_ckD_ok (c := dp_c_X11_away) (cc := dp_bytes dp_m_X11_away) (by decide +kernel)
set_option maxRecDepth 100000 in
theorem dp_d_X11_notice : dp_InsOk dp_m_X11_notice := dp_ckD_ok (c := dp_c_X11_notice) (cc := dp_bytes dp_m_X11_notice) (by decide +kernel)
set_option maxRecDepth 100000 in
theorem dp_d_X11_look : dp_InsOk dp_m_X11_look := dp_ckD_ok (c := dp_c_X11_look) (cc := dp_bytes dp_m_X11_look) (by decide +kernel)
set_option maxRecDepth 100000 in
theorem dp_d_X11_isCode : dp_InsOk dp_m_X11_isCode := dp_ckD_ok (c := dp_c_X11_isCode) (cc := dp_bytes dp_m_X11_isCode) (by decide +kernel)
set_option maxRecDepth 100000 in
theorem dp_d_X11_isFullCode : dp_InsOk dp_m_X11_isFullCode := dp_ckD_ok (c := dp_c_X11_isFullCode) (cc := dp_bytes dp_m_X11_isFullCode) (by decide +kernel)
set_option maxRecDepth 100000 in
theorem dp_d_X11_isLand : dp_InsOk dp_m_X11_isLand := dp_ckD_ok (c := dp_c_X11_isLand) (cc := dp_bytes dp_m_X11_isLand) (by decide +kernel)
set_option maxRecDepth 100000 in
theorem dp_d_X11_member : dp_InsOk dp_m_X11_member := dp_ckD_ok (c := dp_c_X11_member) (cc := dp_bytes dp_m_X11_member) (by decide +kernel)
set_option maxRecDepth 100000 in
theorem dp_d_X11_row : dp_InsOk dp_m_X11_row := dp_ckD_ok (c := dp_c_X11_row) (cc := dp_bytes dp_m_X11_row) (by decide +kernel)
set_option maxRecDepth 100000 in
theorem dp_d_X11_exclude : dp_InsOk dp_m_X11_exclude := dp_ckD_ok (c := dp_c_X11_exclude) (cc := dp_bytes dp_m_X11_exclude) (by decide +kernel)
set_option maxRecDepth 100000 in
theorem dp_d_X11_condition : dp_InsOk dp_m_X11_condition := dp_ckD_ok (c := dp_c_X11_condition) (cc := dp_bytes dp_m_X11_condition) (by decide +kernel)
set_option maxRecDepth 100000 in
theorem dp_d_X11_end : dp_InsOk dp_m_X11_end := dp_ckD_ok (c := dp_c_X11_end) (cc := dp_bytes dp_m_X11_end) (by decide +kernel)
set_option maxRecDepth 100000 in
theorem dp_d_X11_papers : dp_InsOk dp_m_X11_papers := dp_ckD_ok (c := dp_c_X11_papers) (cc := dp_bytes dp_m_X11_papers) (by decide +kernel)
set_option maxRecDepth 100000 in
theorem dp_d_X11_apply : dp_InsOk dp_m_X11_apply := dp_ckD_ok (c := dp_c_X11_apply) (cc := dp_bytes dp_m_X11_apply) (by decide +kernel)
set_option maxRecDepth 100000 in
theorem dp_d_X11_listed : dp_InsOk dp_m_X11_listed := dp_ckD_ok (c := dp_c_X11_listed) (cc := dp_bytes dp_m_X11_listed) (by decide +kernel)
set_option maxRecDepth 100000 in
theorem dp_d_X11_type : dp_InsOk dp_m_X11_type := dp_ckD_ok (c := dp_c_X11_type) (cc := dp_bytes dp_m_X11_type) (by decide +kernel)
set_option maxRecDepth 100000 in
theorem dp_d_X11_rate : dp_InsOk dp_m_X11_rate := dp_ckD_ok (c := dp_c_X11_rate) (cc := dp_bytes dp_m_X11_rate) (by decide +kernel)
set_option maxRecDepth 100000 in
theorem dp_d_X11_rateOf : dp_InsOk dp_m_X11_rateOf := dp_ckD_ok (c := dp_c_X11_rateOf) (cc := dp_bytes dp_m_X11_rateOf) (by decide +kernel)
set_option maxRecDepth 100000 in
theorem dp_d_X11_node : dp_InsOk dp_m_X11_node := dp_ckD_ok (c := dp_c_X11_node) (cc := dp_bytes dp_m_X11_node) (by decide +kernel)
set_option maxRecDepth 100000 in
theorem dp_d_X11_print : dp_InsOk dp_m_X11_print := dp_ckD_ok (c := dp_c_X11_print) (cc := dp_bytes dp_m_X11_print) (by decide +kernel)
set_option maxRecDepth 100000 in
theorem dp_d_X11_printed : dp_InsOk dp_m_X11_printed := dp_ckD_ok (c := dp_c_X11_printed) (cc := dp_bytes dp_m_X11_printed) (by decide +kernel)
set_option maxRecDepth 100000 in
theorem dp_d_X11_worth : dp_InsOk dp_m_X11_worth := dp_ckD_ok (c := dp_c_X11_worth) (cc := dp_bytes dp_m_X11_worth) (by decide +kernel)
set_option maxRecDepth 100000 in
theorem dp_d_X11_order : dp_InsOk dp_m_X11_order := dp_ckD_ok (c := dp_c_X11_order) (cc := dp_bytes dp_m_X11_order) (by decide +kernel)
set_option maxRecDepth 100000 in
theorem dp_d_X11_run : dp_InsOk dp_m_X11_run := dp_ckD_ok (c := dp_c_X11_run) (cc := dp_bytes dp_m_X11_run) (by decide +kernel)
set_option maxRecDepth 100000 in
theorem dp_d_X11_block : dp_InsOk dp_m_X11_block := dp_ckD_ok (c := dp_c_X11_block) (cc := dp_bytes dp_m_X11_block) (by decide +kernel)
set_option maxRecDepth 100000 in
theorem dp_d_X11_transfer : dp_InsOk dp_m_X11_transfer := dp_ckD_ok (c := dp_c_X11_transfer) (cc := dp_bytes dp_m_X11_transfer) (by decide +kernel)
set_option maxRecDepth 100000 in
theorem dp_d_X11_balance : dp_InsOk dp_m_X11_balance := dp_ckD_ok (c := dp_c_X11_balance) (cc := dp_bytes dp_m_X11_balance) (by decide +kernel)
set_option maxRecDepth 100000 in
theorem dp_d_X11_quota : dp_InsOk dp_m_X11_quota := dp_ckD_ok (c := dp_c_X11_quota) (cc := dp_bytes dp_m_X11_quota) (by decide +kernel)
set_option maxRecDepth 100000 in
theorem dp_d_X11_guarantee : dp_InsOk dp_m_X11_guarantee := dp_ckD_ok (c := dp_c_X11_guarantee) (cc := dp_bytes dp_m_X11_guarantee) (by decide +kernel)
set_option maxRecDepth 100000 in
theorem dp_d_X11_isHolder : dp_InsOk dp_m_X11_isHolder := dp_ckD_ok (c := dp_c_X11_isHolder) (cc := dp_bytes dp_m_X11_isHolder) (by decide +kernel)
set_option maxRecDepth 100000 in
theorem dp_d_X11_isDesk : dp_InsOk dp_m_X11_isDesk := dp_ckD_ok (c := dp_c_X11_isDesk) (cc := dp_bytes dp_m_X11_isDesk) (by decide +kernel)
set_option maxRecDepth 100000 in
theorem dp_d_X11_first : dp_InsOk dp_m_X11_first := dp_ckD_ok (c := dp_c_X11_first) (cc := dp_bytes dp_m_X11_first) (by decide +kernel)
set_option maxRecDepth 100000 in
theorem dp_d_X11_shut : dp_InsOk dp_m_X11_shut := dp_ckD_ok (c := dp_c_X11_shut) (cc := dp_bytes dp_m_X11_shut) (by decide +kernel)
set_option maxRecDepth 100000 in
theorem dp_d_X11_fails : dp_InsOk dp_m_X11_fails := dp_ckD_ok (c := dp_c_X11_fails) (cc := dp_bytes dp_m_X11_fails) (by decide +kernel)
set_option maxRecDepth 100000 in
theorem dp_d_X11_tick : dp_InsOk dp_m_X11_tick := dp_ckD_ok (c := dp_c_X11_tick) (cc := dp_bytes dp_m_X11_tick) (by decide +kernel)
set_option maxRecDepth 100000 in
theorem dp_d_X11_interest : dp_InsOk dp_m_X11_interest := dp_ckD_ok (c := dp_c_X11_interest) (cc := dp_bytes dp_m_X11_interest) (by decide +kernel)
set_option maxRecDepth 100000 in
theorem dp_d_X11_free : dp_InsOk dp_m_X11_free := dp_ckD_ok (c := dp_c_X11_free) (cc := dp_bytes dp_m_X11_free) (by decide +kernel)
set_option maxRecDepth 100000 in
theorem dp_d_X11_list : dp_InsOk dp_m_X11_list := dp_ckD_ok (c := dp_c_X11_list) (cc := dp_bytes dp_m_X11_list) (by decide +kernel)
set_option maxRecDepth 100000 in
theorem dp_d_X11_security : dp_InsOk dp_m_X11_security := dp_ckD_ok (c := dp_c_X11_security) (cc := dp_bytes dp_m_X11_security) (by decide +kernel)
set_option maxRecDepth 100000 in
theorem dp_d_X11_reservation : dp_InsOk dp_m_X11_reservation := dp_ckD_ok (c := dp_c_X11_reservation) (cc := dp_bytes dp_m_X11_reservation) (by decide +kernel)
set_option maxRecDepth 100000 in
theorem dp_d_X11_batch : dp_InsOk dp_m_X11_batch := dp_ckD_ok (c := dp_c_X11_batch) (cc := dp_bytes dp_m_X11_batch) (by decide +kernel)
set_option maxRecDepth 100000 in
theorem dp_d_X11_isOpenBatch : dp_InsOk dp_m_X11_isOpenBatch := dp_ckD_ok (c := dp_c_X11_isOpenBatch) (cc := dp_bytes dp_m_X11_isOpenBatch) (by decide +kernel)
set_option maxRecDepth 100000 in
theorem dp_d_X11_isAccount : dp_InsOk dp_m_X11_isAccount := dp_ckD_ok (c := dp_c_X11_isAccount) (cc := dp_bytes dp_m_X11_isAccount) (by decide +kernel)
set_option maxRecDepth 100000 in
theorem dp_d_X11_entry : dp_InsOk dp_m_X11_entry := dp_ckD_ok (c := dp_c_X11_entry) (cc := dp_bytes dp_m_X11_entry) (by decide +kernel)
set_option maxRecDepth 100000 in
theorem dp_d_X11_failing : dp_InsOk dp_m_X11_failing := dp_ckD_ok (c := dp_c_X11_failing) (cc := dp_bytes dp_m_X11_failing) (by decide +kernel)
set_option maxRecDepth 100000 in
theorem dp_d_X11_post : dp_InsOk dp_m_X11_post := dp_ckD_ok (c := dp_c_X11_post) (cc := dp_bytes dp_m_X11_post) (by decide +kernel)
set_option maxRecDepth 100000 in
theorem dp_d_X11_reverse : dp_InsOk dp_m_X11_reverse := dp_ckD_ok (c := dp_c_X11_reverse) (cc := dp_bytes dp_m_X11_reverse) (by decide +kernel)
set_option maxRecDepth 100000 in
theorem dp_d_X11_close : dp_InsOk dp_m_X11_close := dp_ckD_ok (c := dp_c_X11_close) (cc := dp_bytes dp_m_X11_close) (by decide +kernel)
set_option maxRecDepth 100000 in
theorem dp_d_X11_account : dp_InsOk dp_m_X11_account := dp_ckD_ok (c := dp_c_X11_account) (cc := dp_bytes dp_m_X11_account) (by decide +kernel)
set_option maxRecDepth 100000 in
theorem dp_d_X11_statement : dp_InsOk dp_m_X11_statement := dp_ckD_ok (c := dp_c_X11_statement) (cc := dp_bytes dp_m_X11_statement) (by decide +kernel)
set_option maxRecDepth 100000 in
theorem dp_d_X11_isAccountKind : dp_InsOk dp_m_X11_isAccountKind := dp_ckD_ok (c := dp_c_X11_isAccountKind) (cc := dp_bytes dp_m_X11_isAccountKind) (by decide +kernel)
set_option maxRecDepth 100000 in
theorem dp_d_X11_share : dp_InsOk dp_m_X11_share := dp_ckD_ok (c := dp_c_X11_share) (cc := dp_bytes dp_m_X11_share) (by decide +kernel)
set_option maxRecDepth 100000 in
theorem dp_d_X11_cost : dp_InsOk dp_m_X11_cost := dp_ckD_ok (c := dp_c_X11_cost) (cc := dp_bytes dp_m_X11_cost) (by decide +kernel)
set_option maxRecDepth 100000 in
theorem dp_d_X11_passed : dp_InsOk dp_m_X11_passed := dp_ckD_ok (c := dp_c_X11_passed) (cc := dp_bytes dp_m_X11_passed) (by decide +kernel)
set_option maxRecDepth 100000 in
theorem dp_d_X11_read : dp_InsOk dp_m_X11_read := dp_ckD_ok (c := dp_c_X11_read) (cc := dp_bytes dp_m_X11_read) (by decide +kernel)
set_option maxRecDepth 100000 in
theorem dp_d_X11_batchOf : dp_InsOk dp_m_X11_batchOf := dp_ckD_ok (c := dp_c_X11_batchOf) (cc := dp_bytes dp_m_X11_batchOf) (by decide +kernel)
set_option maxRecDepth 100000 in
theorem dp_d_X11_declare : dp_InsOk dp_m_X11_declare := dp_ckD_ok (c := dp_c_X11_declare) (cc := dp_bytes dp_m_X11_declare) (by decide +kernel)
set_option maxRecDepth 100000 in
theorem dp_d_X11_amount : dp_InsOk dp_m_X11_amount := dp_ckD_ok (c := dp_c_X11_amount) (cc := dp_bytes dp_m_X11_amount) (by decide +kernel)
set_option maxRecDepth 100000 in
theorem dp_d_X11_ask : dp_InsOk dp_m_X11_ask := dp_ckD_ok (c := dp_c_X11_ask) (cc := dp_bytes dp_m_X11_ask) (by decide +kernel)
set_option maxRecDepth 100000 in
theorem dp_d_X11_again : dp_InsOk dp_m_X11_again := dp_ckD_ok (c := dp_c_X11_again) (cc := dp_bytes dp_m_X11_again) (by decide +kernel)
set_option maxRecDepth 100000 in
theorem dp_d_X11_duty : dp_InsOk dp_m_X11_duty := dp_ckD_ok (c := dp_c_X11_duty) (cc := dp_bytes dp_m_X11_duty) (by decide +kernel)
set_option maxRecDepth 100000 in
theorem dp_d_X11_assess : dp_InsOk dp_m_X11_assess := dp_ckD_ok (c := dp_c_X11_assess) (cc := dp_bytes dp_m_X11_assess) (by decide +kernel)
set_option maxRecDepth 100000 in
theorem dp_d_X11_pay : dp_InsOk dp_m_X11_pay := dp_ckD_ok (c := dp_c_X11_pay) (cc := dp_bytes dp_m_X11_pay) (by decide +kernel)
set_option maxRecDepth 100000 in
theorem dp_d_X11_claim : dp_InsOk dp_m_X11_claim := dp_ckD_ok (c := dp_c_X11_claim) (cc := dp_bytes dp_m_X11_claim) (by decide +kernel)
set_option maxRecDepth 100000 in
theorem dp_d_X11_correct : dp_InsOk dp_m_X11_correct := dp_ckD_ok (c := dp_c_X11_correct) (cc := dp_bytes dp_m_X11_correct) (by decide +kernel)
set_option maxRecDepth 100000 in
theorem dp_d_X11_cancel : dp_InsOk dp_m_X11_cancel := dp_ckD_ok (c := dp_c_X11_cancel) (cc := dp_bytes dp_m_X11_cancel) (by decide +kernel)
set_option maxRecDepth 100000 in
theorem dp_d_X11_declared : dp_InsOk dp_m_X11_declared := dp_ckD_ok (c := dp_c_X11_declared) (cc := dp_bytes dp_m_X11_declared) (by decide +kernel)
set_option maxRecDepth 100000 in
theorem dp_d_X11_count : dp_InsOk dp_m_X11_count := dp_ckD_ok (c := dp_c_X11_count) (cc := dp_bytes dp_m_X11_count) (by decide +kernel)
set_option maxRecDepth 100000 in
theorem dp_d_X11_countOfPort : dp_InsOk dp_m_X11_countOfPort := dp_ckD_ok (c := dp_c_X11_countOfPort) (cc := dp_bytes dp_m_X11_countOfPort) (by decide +kernel)
set_option maxRecDepth 100000 in
theorem dp_d_X11_countOfCustoms : dp_InsOk dp_m_X11_countOfCustoms := dp_ckD_ok (c := dp_c_X11_countOfCustoms) (cc := dp_bytes dp_m_X11_countOfCustoms) (by decide +kernel)
set_option maxRecDepth 100000 in
theorem dp_d_X11_countOfSecurities : dp_InsOk dp_m_X11_countOfSecurities := dp_ckD_ok (c := dp_c_X11_countOfSecurities) (cc := dp_bytes dp_m_X11_countOfSecurities) (by decide +kernel)
set_option maxRecDepth 100000 in
theorem dp_d_X11_countOfLedger : dp_InsOk dp_m_X11_countOfLedger := dp_ckD_ok (c := dp_c_X11_countOfLedger) (cc := dp_bytes dp_m_X11_countOfLedger) (by decide +kernel)
set_option maxRecDepth 100000 in
theorem dp_d_X11_countOfOne : dp_InsOk dp_m_X11_countOfOne := dp_ckD_ok (c := dp_c_X11_countOfOne) (cc := dp_bytes dp_m_X11_countOfOne) (by decide +kernel)
set_option maxRecDepth 100000 in
theorem dp_d_X12_thrown : dp_InsOk dp_m_X12_thrown := dp_ckD_ok (c := dp_c_X12_thrown) (cc := dp_bytes dp_m_X12_thrown) (by decide +kernel)
set_option maxRecDepth 100000 in
theorem dp_d_X12_refuse : dp_InsOk dp_m_X12_refuse := dp_ckD_ok (c := dp_c_X12_refuse) (cc := dp_bytes dp_m_X12_refuse) (by decide +kernel)
set_option maxRecDepth 100000 in
theorem dp_d_X12_in : dp_InsOk dp_m_X12_in := dp_ckD_ok (c := dp_c_X12_in) (cc := dp_bytes dp_m_X12_in) (by decide +kernel)
set_option maxRecDepth 100000 in
theorem dp_d_X12_held : dp_InsOk dp_m_X12_held := dp_ckD_ok (c := dp_c_X12_held) (cc := dp_bytes dp_m_X12_held) (by decide +kernel)
set_option maxRecDepth 100000 in
theorem dp_x12i_0 : (dp_c_X12_init.getD 0 []).all (dp_ckD (dp_bytes dp_m_X12_init)) = true := by decide +kernel
set_option maxRecDepth 100000 in
theorem dp_x12i_1 : (dp_c_X12_init.getD 1 []).all (dp_ckD (dp_bytes dp_m_X12_init)) = true := by decide +kernel
set_option maxRecDepth 100000 in
theorem dp_x12i_2 : (dp_c_X12_init.getD 2 []).all (dp_ckD (dp_bytes dp_m_X12_init)) = true := by decide +kernel
set_option maxRecDepth 100000 in
theorem dp_x12i_3 : (dp_c_X12_init.getD 3 []).all (dp_ckD (dp_bytes dp_m_X12_init)) = true := by decide +kernel
set_option maxRecDepth 100000 in
theorem dp_x12i_4 : (dp_c_X12_init.getD 4 []).all (dp_ckD (dp_bytes dp_m_X12_init)) = true := by decide +kernel
set_option maxRecDepth 100000 in
theorem dp_x12i_5 : (dp_c_X12_init.getD 5 []).all (dp_ckD (dp_bytes dp_m_X12_init)) = true := by decide +kernel
set_option maxRecDepth 100000 in
theorem dp_x12i_6 : (dp_c_X12_init.getD 6 []).all (dp_ckD (dp_bytes dp_m_X12_init)) = true := by decide +kernel
set_option maxRecDepth 100000 in
theorem dp_x12i_7 : (dp_c_X12_init.getD 7 []).all (dp_ckD (dp_bytes dp_m_X12_init)) = true := by decide +kernel
set_option maxRecDepth 100000 in
theorem dp_x12i_8 : (dp_c_X12_init.getD 8 []).all (dp_ckD (dp_bytes dp_m_X12_init)) = true := by decide +kernel
set_option maxRecDepth 100000 in
theorem dp_x12i_9 : (dp_c_X12_init.getD 9 []).all (dp_ckD (dp_bytes dp_m_X12_init)) = true := by decide +kernel
set_option maxRecDepth 100000 in
theorem dp_x12i_10 : (dp_c_X12_init.getD 10 []).all (dp_ckD (dp_bytes dp_m_X12_init)) = true := by decide +kernel
set_option maxRecDepth 100000 in
theorem dp_x12i_11 : (dp_c_X12_init.getD 11 []).all (dp_ckD (dp_bytes dp_m_X12_init)) = true := by decide +kernel
set_option maxRecDepth 100000 in
theorem dp_x12i_12 : (dp_c_X12_init.getD 12 []).all (dp_ckD (dp_bytes dp_m_X12_init)) = true := by decide +kernel
set_option maxRecDepth 100000 in
theorem dp_x12i_13 : (dp_c_X12_init.getD 13 []).all (dp_ckD (dp_bytes dp_m_X12_init)) = true := by decide +kernel
set_option maxRecDepth 100000 in
theorem dp_x12i_14 : (dp_c_X12_init.getD 14 []).all (dp_ckD (dp_bytes dp_m_X12_init)) = true := by decide +kernel
set_option maxRecDepth 100000 in
theorem dp_x12i_15 : (dp_c_X12_init.getD 15 []).all (dp_ckD (dp_bytes dp_m_X12_init)) = true := by decide +kernel
set_option maxRecDepth 100000 in
theorem dp_x12i_16 : (dp_c_X12_init.getD 16 []).all (dp_ckD (dp_bytes dp_m_X12_init)) = true := by decide +kernel
set_option maxRecDepth 100000 in
theorem dp_x12i_17 : (dp_c_X12_init.getD 17 []).all (dp_ckD (dp_bytes dp_m_X12_init)) = true := by decide +kernel
set_option maxRecDepth 100000 in
theorem dp_x12i_18 : (dp_c_X12_init.getD 18 []).all (dp_ckD (dp_bytes dp_m_X12_init)) = true := by decide +kernel
theorem dp_x12i : dp_c_X12_init.all (fun r => r.all (dp_ckD (dp_bytes dp_m_X12_init))) = true := List.all_eq_true.mpr (show ∀ r ∈ [dp_c_X12_init.getD 0 [], dp_c_X12_init.getD 1 [], dp_c_X12_init.getD 2 [], dp_c_X12_init.getD 3 [], dp_c_X12_init.getD 4 [], dp_c_X12_init.getD 5 [], dp_c_X12_init.getD 6 [], dp_c_X12_init.getD 7 [], dp_c_X12_init.getD 8 [], dp_c_X12_init.getD 9 [], dp_c_X12_init.getD 10 [], dp_c_X12_init.getD 11 [], dp_c_X12_init.getD 12 [], dp_c_X12_init.getD 13 [], dp_c_X12_init.getD 14 [], dp_c_X12_init.getD 15 [], dp_c_X12_init.getD 16 [], dp_c_X12_init.getD 17 [], dp_c_X12_init.getD 18 []], _ from List.forall_mem_cons.mpr ⟨dp_x12i_0, List.forall_mem_cons.mpr ⟨dp_x12i_1, List.forall_mem_cons.mpr ⟨dp_x12i_2, List.forall_mem_cons.mpr ⟨dp_x12i_3, List.forall_mem_cons.mpr ⟨dp_x12i_4, List.forall_mem_cons.mpr ⟨dp_x12i_5, List.forall_mem_cons.mpr ⟨dp_x12i_6, List.forall_mem_cons.mpr ⟨dp_x12i_7, List.forall_mem_cons.mpr ⟨dp_x12i_8, List.forall_mem_cons.mpr ⟨dp_x12i_9, List.forall_mem_cons.mpr ⟨dp_x12i_10, List.forall_mem_cons.mpr ⟨dp_x12i_11, List.forall_mem_cons.mpr ⟨dp_x12i_12, List.forall_mem_cons.mpr ⟨dp_x12i_13, List.forall_mem_cons.mpr ⟨dp_x12i_14, List.forall_mem_cons.mpr ⟨dp_x12i_15, List.forall_mem_cons.mpr ⟨dp_x12i_16, List.forall_mem_cons.mpr ⟨dp_x12i_17, List.forall_mem_cons.mpr ⟨dp_x12i_18, (fun _ h => absurd h List.not_mem_nil)⟩⟩⟩⟩⟩⟩⟩⟩⟩⟩⟩⟩⟩⟩⟩⟩⟩⟩⟩)
theorem dp_d_X12_init : dp_InsOk dp_m_X12_init := dp_ckD_ok (c := dp_c_X12_init) (cc := dp_bytes dp_m_X12_init) dp_x12i
