set_option maxRecDepth 100000 in
theorem dp_d_X12_close : dp_InsOk dp_m_X12_close := dp_ckD_ok (c := dp_c_X12_close) (cc := dp_bytes dp_m_X12_close) (by decide +kernel)
set_option maxRecDepth 100000 in
theorem dp_d_X12_sumOf : dp_InsOk dp_m_X12_sumOf := dp_ckD_ok (c := dp_c_X12_sumOf) (cc := dp_bytes dp_m_X12_sumOf) (by decide +kernel)
set_option maxRecDepth 100000 in
theorem dp_d_X12_account : dp_InsOk dp_m_X12_account := dp_ckD_ok (c := dp_c_X12_account) (cc := dp_bytes dp_m_X12_account) (by decide +kernel)
set_option maxRecDepth 100000 in
theorem dp_d_X12_statement : dp_InsOk dp_m_X12_statement := dp_ckD_ok (c := dp_c_X12_statement) (cc := dp_bytes dp_m_X12_statement) (by decide +kernel)
set_option maxRecDepth 100000 in
theorem dp_d_X12_isKind : dp_InsOk dp_m_X12_isKind := dp_ckD_ok (c := dp_c_X12_isKind) (cc := dp_bytes dp_m_X12_isKind) (by decide +kernel)
set_option maxRecDepth 100000 in
theorem dp_d_X12_share : dp_InsOk dp_m_X12_share := dp_ckD_ok (c := dp_c_X12_share) (cc := dp_bytes dp_m_X12_share) (by decide +kernel)
set_option maxRecDepth 100000 in
theorem dp_d_X12_cost : dp_InsOk dp_m_X12_cost := dp_ckD_ok (c := dp_c_X12_cost) (cc := dp_bytes dp_m_X12_cost) (by decide +kernel)
set_option maxRecDepth 100000 in
theorem dp_d_X12_shareOf : dp_InsOk dp_m_X12_shareOf := dp_ckD_ok (c := dp_c_X12_shareOf) (cc := dp_bytes dp_m_X12_shareOf) (by decide +kernel)
set_option maxRecDepth 100000 in
theorem dp_d_X12_passed : dp_InsOk dp_m_X12_passed := dp_ckD_ok (c := dp_c_X12_passed) (cc := dp_bytes dp_m_X12_passed) (by decide +kernel)
set_option maxRecDepth 100000 in
theorem dp_d_X12_read : dp_InsOk dp_m_X12_read := dp_ckD_ok (c := dp_c_X12_read) (cc := dp_bytes dp_m_X12_read) (by decide +kernel)
set_option maxRecDepth 100000 in
theorem dp_d_X12_batchOf : dp_InsOk dp_m_X12_batchOf := dp_ckD_ok (c := dp_c_X12_batchOf) (cc := dp_bytes dp_m_X12_batchOf) (by decide +kernel)
set_option maxRecDepth 100000 in
theorem dp_d_X12_isDeclaration : dp_InsOk dp_m_X12_isDeclaration := dp_ckD_ok (c := dp_c_X12_isDeclaration) (cc := dp_bytes dp_m_X12_isDeclaration) (by decide +kernel)
set_option maxRecDepth 100000 in
theorem dp_d_X12_isState : dp_InsOk dp_m_X12_isState := dp_ckD_ok (c := dp_c_X12_isState) (cc := dp_bytes dp_m_X12_isState) (by decide +kernel)
set_option maxRecDepth 100000 in
theorem dp_d_X12_declare : dp_InsOk dp_m_X12_declare := dp_ckD_ok (c := dp_c_X12_declare) (cc := dp_bytes dp_m_X12_declare) (by decide +kernel)
set_option maxRecDepth 100000 in
theorem dp_d_X12_amount : dp_InsOk dp_m_X12_amount := dp_ckD_ok (c := dp_c_X12_amount) (cc := dp_bytes dp_m_X12_amount) (by decide +kernel)
set_option maxRecDepth 100000 in
theorem dp_d_X12_askFor : dp_InsOk dp_m_X12_askFor := dp_ckD_ok (c := dp_c_X12_askFor) (cc := dp_bytes dp_m_X12_askFor) (by decide +kernel)
set_option maxRecDepth 100000 in
theorem dp_d_X12_isAsked : dp_InsOk dp_m_X12_isAsked := dp_ckD_ok (c := dp_c_X12_isAsked) (cc := dp_bytes dp_m_X12_isAsked) (by decide +kernel)
set_option maxRecDepth 100000 in
theorem dp_d_X12_ask : dp_InsOk dp_m_X12_ask := dp_ckD_ok (c := dp_c_X12_ask) (cc := dp_bytes dp_m_X12_ask) (by decide +kernel)
set_option maxRecDepth 100000 in
theorem dp_d_X12_again : dp_InsOk dp_m_X12_again := dp_ckD_ok (c := dp_c_X12_again) (cc := dp_bytes dp_m_X12_again) (by decide +kernel)
set_option maxRecDepth 100000 in
theorem dp_d_X12_partOfSum : dp_InsOk dp_m_X12_partOfSum := dp_ckD_ok (c := dp_c_X12_partOfSum) (cc := dp_bytes dp_m_X12_partOfSum) (by decide +kernel)
set_option maxRecDepth 100000 in
theorem dp_d_X12_reckonsDuty : dp_InsOk dp_m_X12_reckonsDuty := dp_ckD_ok (c := dp_c_X12_reckonsDuty) (cc := dp_bytes dp_m_X12_reckonsDuty) (by decide +kernel)
set_option maxRecDepth 100000 in
theorem dp_d_X12_duty : dp_InsOk dp_m_X12_duty := dp_ckD_ok (c := dp_c_X12_duty) (cc := dp_bytes dp_m_X12_duty) (by decide +kernel)
set_option maxRecDepth 100000 in
theorem dp_d_X12_assess : dp_InsOk dp_m_X12_assess := dp_ckD_ok (c := dp_c_X12_assess) (cc := dp_bytes dp_m_X12_assess) (by decide +kernel)
set_option maxRecDepth 100000 in
theorem dp_d_X12_beginsFor : dp_InsOk dp_m_X12_beginsFor := dp_ckD_ok (c := dp_c_X12_beginsFor) (cc := dp_bytes dp_m_X12_beginsFor) (by decide +kernel)
set_option maxRecDepth 100000 in
theorem dp_d_X12_postsFor : dp_InsOk dp_m_X12_postsFor := dp_ckD_ok (c := dp_c_X12_postsFor) (cc := dp_bytes dp_m_X12_postsFor) (by decide +kernel)
set_option maxRecDepth 100000 in
theorem dp_d_X12_pay : dp_InsOk dp_m_X12_pay := dp_ckD_ok (c := dp_c_X12_pay) (cc := dp_bytes dp_m_X12_pay) (by decide +kernel)
set_option maxRecDepth 100000 in
theorem dp_d_X12_claim : dp_InsOk dp_m_X12_claim := dp_ckD_ok (c := dp_c_X12_claim) (cc := dp_bytes dp_m_X12_claim) (by decide +kernel)
set_option maxRecDepth 100000 in
theorem dp_d_X12_correct : dp_InsOk dp_m_X12_correct := dp_ckD_ok (c := dp_c_X12_correct) (cc := dp_bytes dp_m_X12_correct) (by decide +kernel)
set_option maxRecDepth 100000 in
theorem dp_d_X12_cancel : dp_InsOk dp_m_X12_cancel := dp_ckD_ok (c := dp_c_X12_cancel) (cc := dp_bytes dp_m_X12_cancel) (by decide +kernel)
set_option maxRecDepth 100000 in
theorem dp_d_X12_declared : dp_InsOk dp_m_X12_declared := dp_ckD_ok (c := dp_c_X12_declared) (cc := dp_bytes dp_m_X12_declared) (by decide +kernel)
set_option maxRecDepth 100000 in
theorem dp_d_X12_manyBoxes : dp_InsOk dp_m_X12_manyBoxes := dp_ckD_ok (c := dp_c_X12_manyBoxes) (cc := dp_bytes dp_m_X12_manyBoxes) (by decide +kernel)
set_option maxRecDepth 100000 in
theorem dp_d_X12_liveOnes : dp_InsOk dp_m_X12_liveOnes := dp_ckD_ok (c := dp_c_X12_liveOnes) (cc := dp_bytes dp_m_X12_liveOnes) (by decide +kernel)
set_option maxRecDepth 100000 in
theorem dp_d_X12_ofState : dp_InsOk dp_m_X12_ofState := dp_ckD_ok (c := dp_c_X12_ofState) (cc := dp_bytes dp_m_X12_ofState) (by decide +kernel)
set_option maxRecDepth 100000 in
theorem dp_d_X12_countOfPlace : dp_InsOk dp_m_X12_countOfPlace := dp_ckD_ok (c := dp_c_X12_countOfPlace) (cc := dp_bytes dp_m_X12_countOfPlace) (by decide +kernel)
set_option maxRecDepth 100000 in
theorem dp_d_X12_countOfBooks : dp_InsOk dp_m_X12_countOfBooks := dp_ckD_ok (c := dp_c_X12_countOfBooks) (cc := dp_bytes dp_m_X12_countOfBooks) (by decide +kernel)
set_option maxRecDepth 100000 in
theorem dp_d_X12_count : dp_InsOk dp_m_X12_count := dp_ckD_ok (c := dp_c_X12_count) (cc := dp_bytes dp_m_X12_count) (by decide +kernel)
set_option maxRecDepth 100000 in
theorem dp_d_J6_bitCount_0f7a4 : dp_InsOk dp_m_J6_bitCount_0f7a4 := dp_ckD_ok (c := dp_c_J6_bitCount_0f7a4) (cc := dp_bytes dp_m_J6_bitCount_0f7a4) (by decide +kernel)
set_option maxRecDepth 100000 in
theorem dp_d_J7_fill_d0a16 : dp_InsOk dp_m_J7_fill_d0a16 := dp_ckD_ok (c := dp_c_J7_fill_d0a16) (cc := dp_bytes dp_m_J7_fill_d0a16) (by decide +kernel)
set_option maxRecDepth 100000 in
theorem dp_d_J7_fill_53178 : dp_InsOk dp_m_J7_fill_53178 := dp_ckD_ok (c := dp_c_J7_fill_53178) (cc := dp_bytes dp_m_J7_fill_53178) (by decide +kernel)
set_option maxRecDepth 100000 in
theorem dp_d_L_cell : dp_InsOk dp_m_L_cell := dp_ckD_ok (c := dp_c_L_cell) (cc := dp_bytes dp_m_L_cell) (by decide +kernel)
set_option maxRecDepth 100000 in
theorem dp_d_L_box : dp_InsOk dp_m_L_box := dp_ckD_ok (c := dp_c_L_box) (cc := dp_bytes dp_m_L_box) (by decide +kernel)
set_option maxRecDepth 100000 in
theorem dp_d_L_plan : dp_InsOk dp_m_L_plan := dp_ckD_ok (c := dp_c_L_plan) (cc := dp_bytes dp_m_L_plan) (by decide +kernel)
set_option maxRecDepth 100000 in
theorem dp_d_L_move : dp_InsOk dp_m_L_move := dp_ckD_ok (c := dp_c_L_move) (cc := dp_bytes dp_m_L_move) (by decide +kernel)
set_option maxRecDepth 100000 in
theorem dp_d_L_work : dp_InsOk dp_m_L_work := dp_ckD_ok (c := dp_c_L_work) (cc := dp_bytes dp_m_L_work) (by decide +kernel)
set_option maxRecDepth 100000 in
theorem dp_d_L_least : dp_InsOk dp_m_L_least := dp_ckD_ok (c := dp_c_L_least) (cc := dp_bytes dp_m_L_least) (by decide +kernel)
set_option maxRecDepth 100000 in
theorem dp_d_L_swap : dp_InsOk dp_m_L_swap := dp_ckD_ok (c := dp_c_L_swap) (cc := dp_bytes dp_m_L_swap) (by decide +kernel)
set_option maxRecDepth 100000 in
theorem dp_d_L_aboard : dp_InsOk dp_m_L_aboard := dp_ckD_ok (c := dp_c_L_aboard) (cc := dp_bytes dp_m_L_aboard) (by decide +kernel)
set_option maxRecDepth 100000 in
theorem dp_d_L_put : dp_InsOk dp_m_L_put := dp_ckD_ok (c := dp_c_L_put) (cc := dp_bytes dp_m_L_put) (by decide +kernel)
set_option maxRecDepth 100000 in
theorem dp_d_L_take : dp_InsOk dp_m_L_take := dp_ckD_ok (c := dp_c_L_take) (cc := dp_bytes dp_m_L_take) (by decide +kernel)
set_option maxRecDepth 100000 in
theorem dp_d_L_shift : dp_InsOk dp_m_L_shift := dp_ckD_ok (c := dp_c_L_shift) (cc := dp_bytes dp_m_L_shift) (by decide +kernel)
set_option maxRecDepth 100000 in
theorem dp_d_L_choose : dp_InsOk dp_m_L_choose := dp_ckD_ok (c := dp_c_L_choose) (cc := dp_bytes dp_m_L_choose) (by decide +kernel)
set_option maxRecDepth 100000 in
theorem dp_d_L_night : dp_InsOk dp_m_L_night := dp_ckD_ok (c := dp_c_L_night) (cc := dp_bytes dp_m_L_night) (by decide +kernel)
set_option maxRecDepth 100000 in
theorem dp_d_L_where : dp_InsOk dp_m_L_where := dp_ckD_ok (c := dp_c_L_where) (cc := dp_bytes dp_m_L_where) (by decide +kernel)
set_option maxRecDepth 100000 in
theorem dp_d_L_at : dp_InsOk dp_m_L_at := dp_ckD_ok (c := dp_c_L_at) (cc := dp_bytes dp_m_L_at) (by decide +kernel)
set_option maxRecDepth 100000 in
theorem dp_d_L_goods : dp_InsOk dp_m_L_goods := dp_ckD_ok (c := dp_c_L_goods) (cc := dp_bytes dp_m_L_goods) (by decide +kernel)
set_option maxRecDepth 100000 in
theorem dp_d_L_bar : dp_InsOk dp_m_L_bar := dp_ckD_ok (c := dp_c_L_bar) (cc := dp_bytes dp_m_L_bar) (by decide +kernel)
set_option maxRecDepth 100000 in
theorem dp_d_L_lift : dp_InsOk dp_m_L_lift := dp_ckD_ok (c := dp_c_L_lift) (cc := dp_bytes dp_m_L_lift) (by decide +kernel)
set_option maxRecDepth 100000 in
theorem dp_d_L_join : dp_InsOk dp_m_L_join := dp_ckD_ok (c := dp_c_L_join) (cc := dp_bytes dp_m_L_join) (by decide +kernel)
set_option maxRecDepth 100000 in
theorem dp_d_L_release : dp_InsOk dp_m_L_release := dp_ckD_ok (c := dp_c_L_release) (cc := dp_bytes dp_m_L_release) (by decide +kernel)
set_option maxRecDepth 100000 in
theorem dp_d_L_bars : dp_InsOk dp_m_L_bars := dp_ckD_ok (c := dp_c_L_bars) (cc := dp_bytes dp_m_L_bars) (by decide +kernel)
set_option maxRecDepth 100000 in
theorem dp_d_L_part : dp_InsOk dp_m_L_part := dp_ckD_ok (c := dp_c_L_part) (cc := dp_bytes dp_m_L_part) (by decide +kernel)
set_option maxRecDepth 100000 in
theorem dp_d_L_withdraw : dp_InsOk dp_m_L_withdraw := dp_ckD_ok (c := dp_c_L_withdraw) (cc := dp_bytes dp_m_L_withdraw) (by decide +kernel)
set_option maxRecDepth 100000 in
theorem dp_d_L_gate : dp_InsOk dp_m_L_gate := dp_ckD_ok (c := dp_c_L_gate) (cc := dp_bytes dp_m_L_gate) (by decide +kernel)
set_option maxRecDepth 100000 in
theorem dp_d_L_look : dp_InsOk dp_m_L_look := dp_ckD_ok (c := dp_c_L_look) (cc := dp_bytes dp_m_L_look) (by decide +kernel)
set_option maxRecDepth 100000 in
theorem dp_d_L_row : dp_InsOk dp_m_L_row := dp_ckD_ok (c := dp_c_L_row) (cc := dp_bytes dp_m_L_row) (by decide +kernel)
set_option maxRecDepth 100000 in
theorem dp_d_L_end : dp_InsOk dp_m_L_end := dp_ckD_ok (c := dp_c_L_end) (cc := dp_bytes dp_m_L_end) (by decide +kernel)
set_option maxRecDepth 100000 in
theorem dp_d_L_apply : dp_InsOk dp_m_L_apply := dp_ckD_ok (c := dp_c_L_apply) (cc := dp_bytes dp_m_L_apply) (by decide +kernel)
set_option maxRecDepth 100000 in
theorem dp_d_L_rate : dp_InsOk dp_m_L_rate := dp_ckD_ok (c := dp_c_L_rate) (cc := dp_bytes dp_m_L_rate) (by decide +kernel)
set_option maxRecDepth 100000 in
theorem dp_d_L_node : dp_InsOk dp_m_L_node := dp_ckD_ok (c := dp_c_L_node) (cc := dp_bytes dp_m_L_node) (by decide +kernel)
set_option maxRecDepth 100000 in
theorem dp_d_L_print : dp_InsOk dp_m_L_print := dp_ckD_ok (c := dp_c_L_print) (cc := dp_bytes dp_m_L_print) (by decide +kernel)
set_option maxRecDepth 100000 in
theorem dp_d_L_printed : dp_InsOk dp_m_L_printed := dp_ckD_ok (c := dp_c_L_printed) (cc := dp_bytes dp_m_L_printed) (by decide +kernel)
set_option maxRecDepth 100000 in
theorem dp_d_L_worth : dp_InsOk dp_m_L_worth := dp_ckD_ok (c := dp_c_L_worth) (cc := dp_bytes dp_m_L_worth) (by decide +kernel)
set_option maxRecDepth 100000 in
theorem dp_d_L_order : dp_InsOk dp_m_L_order := dp_ckD_ok (c := dp_c_L_order) (cc := dp_bytes dp_m_L_order) (by decide +kernel)
set_option maxRecDepth 100000 in
theorem dp_d_L_run : dp_InsOk dp_m_L_run := dp_ckD_ok (c := dp_c_L_run) (cc := dp_bytes dp_m_L_run) (by decide +kernel)
set_option maxRecDepth 100000 in
theorem dp_d_L_block : dp_InsOk dp_m_L_block := dp_ckD_ok (c := dp_c_L_block) (cc := dp_bytes dp_m_L_block) (by decide +kernel)
set_option maxRecDepth 100000 in
theorem dp_d_L_transfer : dp_InsOk dp_m_L_transfer := dp_ckD_ok (c := dp_c_L_transfer) (cc := dp_bytes dp_m_L_transfer) (by decide +kernel)
set_option maxRecDepth 100000 in
theorem dp_d_L_balance : dp_InsOk dp_m_L_balance := dp_ckD_ok (c := dp_c_L_balance) (cc := dp_bytes dp_m_L_balance) (by decide +kernel)
set_option maxRecDepth 100000 in
theorem dp_d_L_quota : dp_InsOk dp_m_L_quota := dp_ckD_ok (c := dp_c_L_quota) (cc := dp_bytes dp_m_L_quota) (by decide +kernel)
set_option maxRecDepth 100000 in
theorem dp_d_L_guarantee : dp_InsOk dp_m_L_guarantee := dp_ckD_ok (c := dp_c_L_guarantee) (cc := dp_bytes dp_m_L_guarantee) (by decide +kernel)
set_option maxRecDepth 100000 in
theorem dp_d_L_interest : dp_InsOk dp_m_L_interest := dp_ckD_ok (c := dp_c_L_interest) (cc := dp_bytes dp_m_L_interest) (by decide +kernel)
set_option maxRecDepth 100000 in
theorem dp_d_L_security : dp_InsOk dp_m_L_security := dp_ckD_ok (c := dp_c_L_security) (cc := dp_bytes dp_m_L_security) (by decide +kernel)
set_option maxRecDepth 100000 in
theorem dp_d_L_reservation : dp_InsOk dp_m_L_reservation := dp_ckD_ok (c := dp_c_L_reservation) (cc := dp_bytes dp_m_L_reservation) (by decide +kernel)
set_option maxRecDepth 100000 in
theorem dp_d_L_batch : dp_InsOk dp_m_L_batch := dp_ckD_ok (c := dp_c_L_batch) (cc := dp_bytes dp_m_L_batch) (by decide +kernel)
set_option maxRecDepth 100000 in
theorem dp_d_L_post : dp_InsOk dp_m_L_post := dp_ckD_ok (c := dp_c_L_post) (cc := dp_bytes dp_m_L_post) (by decide +kernel)
set_option maxRecDepth 100000 in
theorem dp_d_L_reverse : dp_InsOk dp_m_L_reverse := dp_ckD_ok (c := dp_c_L_reverse) (cc := dp_bytes dp_m_L_reverse) (by decide +kernel)
set_option maxRecDepth 100000 in
theorem dp_d_L_account : dp_InsOk dp_m_L_account := dp_ckD_ok (c := dp_c_L_account) (cc := dp_bytes dp_m_L_account) (by decide +kernel)
set_option maxRecDepth 100000 in
theorem dp_d_L_statement : dp_InsOk dp_m_L_statement := dp_ckD_ok (c := dp_c_L_statement) (cc := dp_bytes dp_m_L_statement) (by decide +kernel)
set_option maxRecDepth 100000 in
theorem dp_d_L_passed : dp_InsOk dp_m_L_passed := dp_ckD_ok (c := dp_c_L_passed) (cc := dp_bytes dp_m_L_passed) (by decide +kernel)
set_option maxRecDepth 100000 in
theorem dp_d_L_read : dp_InsOk dp_m_L_read := dp_ckD_ok (c := dp_c_L_read) (cc := dp_bytes dp_m_L_read) (by decide +kernel)
set_option maxRecDepth 100000 in
theorem dp_d_L_batchOf : dp_InsOk dp_m_L_batchOf := dp_ckD_ok (c := dp_c_L_batchOf) (cc := dp_bytes dp_m_L_batchOf) (by decide +kernel)
set_option maxRecDepth 100000 in
theorem dp_d_L_declare : dp_InsOk dp_m_L_declare := dp_ckD_ok (c := dp_c_L_declare) (cc := dp_bytes dp_m_L_declare) (by decide +kernel)
set_option maxRecDepth 100000 in
theorem dp_d_L_ask : dp_InsOk dp_m_L_ask := dp_ckD_ok (c := dp_c_L_ask) (cc := dp_bytes dp_m_L_ask) (by decide +kernel)
