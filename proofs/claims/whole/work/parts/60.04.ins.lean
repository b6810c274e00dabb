set_option maxRecDepth 100000 in
theorem dp_d_X12_isBay : dp_InsOk dp_m_X12_isBay := dp_ckD_ok (c := dp_c_X12_isBay) (cc := dp_bytes dp_m_X12_isBay) (by decide +kernel)
set_option maxRecDepth 100000 in
theorem dp_d_X12_isBox : dp_InsOk dp_m_X12_isBox := dp_ckD_ok (c := dp_c_X12_isBox) (cc := dp_bytes dp_m_X12_isBox) (by decide +kernel)
set_option maxRecDepth 100000 in
theorem dp_d_X12_deckHeight : dp_InsOk dp_m_X12_deckHeight := dp_ckD_ok (c := dp_c_X12_deckHeight) (cc := dp_bytes dp_m_X12_deckHeight) (by decide +kernel)
set_option maxRecDepth 100000 in
theorem dp_d_X12_lyingIn : dp_InsOk dp_m_X12_lyingIn := dp_ckD_ok (c := dp_c_X12_lyingIn) (cc := dp_bytes dp_m_X12_lyingIn) (by decide +kernel)
set_option maxRecDepth 100000 in
theorem dp_d_X12_box : dp_InsOk dp_m_X12_box := dp_ckD_ok (c := dp_c_X12_box) (cc := dp_bytes dp_m_X12_box) (by decide +kernel)
set_option maxRecDepth 100000 in
theorem dp_d_X12_leads : dp_InsOk dp_m_X12_leads := dp_ckD_ok (c := dp_c_X12_leads) (cc := dp_bytes dp_m_X12_leads) (by decide +kernel)
set_option maxRecDepth 100000 in
theorem dp_d_X12_before : dp_InsOk dp_m_X12_before := dp_ckD_ok (c := dp_c_X12_before) (cc := dp_bytes dp_m_X12_before) (by decide +kernel)
set_option maxRecDepth 100000 in
theorem dp_d_X12_cellAt : dp_InsOk dp_m_X12_cellAt := dp_ckD_ok (c := dp_c_X12_cellAt) (cc := dp_bytes dp_m_X12_cellAt) (by decide +kernel)
set_option maxRecDepth 100000 in
theorem dp_d_X12_topOf : dp_InsOk dp_m_X12_topOf := dp_ckD_ok (c := dp_c_X12_topOf) (cc := dp_bytes dp_m_X12_topOf) (by decide +kernel)
set_option maxRecDepth 100000 in
theorem dp_d_X12_isAside : dp_InsOk dp_m_X12_isAside := dp_ckD_ok (c := dp_c_X12_isAside) (cc := dp_bytes dp_m_X12_isAside) (by decide +kernel)
set_option maxRecDepth 100000 in
theorem dp_d_X12_ashoreIn : dp_InsOk dp_m_X12_ashoreIn := dp_ckD_ok (c := dp_c_X12_ashoreIn) (cc := dp_bytes dp_m_X12_ashoreIn) (by decide +kernel)
set_option maxRecDepth 100000 in
theorem dp_d_X12_begins : dp_InsOk dp_m_X12_begins := dp_ckD_ok (c := dp_c_X12_begins) (cc := dp_bytes dp_m_X12_begins) (by decide +kernel)
set_option maxRecDepth 100000 in
theorem dp_d_X12_taken : dp_InsOk dp_m_X12_taken := dp_ckD_ok (c := dp_c_X12_taken) (cc := dp_bytes dp_m_X12_taken) (by decide +kernel)
set_option maxRecDepth 100000 in
theorem dp_d_X12_moved : dp_InsOk dp_m_X12_moved := dp_ckD_ok (c := dp_c_X12_moved) (cc := dp_bytes dp_m_X12_moved) (by decide +kernel)
set_option maxRecDepth 100000 in
theorem dp_d_X12_isEnd : dp_InsOk dp_m_X12_isEnd := dp_ckD_ok (c := dp_c_X12_isEnd) (cc := dp_bytes dp_m_X12_isEnd) (by decide +kernel)
set_option maxRecDepth 100000 in
theorem dp_d_X12_comes : dp_InsOk dp_m_X12_comes := dp_ckD_ok (c := dp_c_X12_comes) (cc := dp_bytes dp_m_X12_comes) (by decide +kernel)
set_option maxRecDepth 100000 in
theorem dp_d_X12_search : dp_InsOk dp_m_X12_search := dp_ckD_ok (c := dp_c_X12_search) (cc := dp_bytes dp_m_X12_search) (by decide +kernel)
set_option maxRecDepth 100000 in
theorem dp_d_X12_plan : dp_InsOk dp_m_X12_plan := dp_ckD_ok (c := dp_c_X12_plan) (cc := dp_bytes dp_m_X12_plan) (by decide +kernel)
set_option maxRecDepth 100000 in
theorem dp_d_X12_move : dp_InsOk dp_m_X12_move := dp_ckD_ok (c := dp_c_X12_move) (cc := dp_bytes dp_m_X12_move) (by decide +kernel)
set_option maxRecDepth 100000 in
theorem dp_d_X12_work : dp_InsOk dp_m_X12_work := dp_ckD_ok (c := dp_c_X12_work) (cc := dp_bytes dp_m_X12_work) (by decide +kernel)
set_option maxRecDepth 100000 in
theorem dp_d_X12_isAboveLeaving : dp_InsOk dp_m_X12_isAboveLeaving := dp_ckD_ok (c := dp_c_X12_isAboveLeaving) (cc := dp_bytes dp_m_X12_isAboveLeaving) (by decide +kernel)
set_option maxRecDepth 100000 in
theorem dp_d_X12_least : dp_InsOk dp_m_X12_least := dp_ckD_ok (c := dp_c_X12_least) (cc := dp_bytes dp_m_X12_least) (by decide +kernel)
set_option maxRecDepth 100000 in
theorem dp_d_X12_hasNeeds : dp_InsOk dp_m_X12_hasNeeds := dp_ckD_ok (c := dp_c_X12_hasNeeds) (cc := dp_bytes dp_m_X12_hasNeeds) (by decide +kernel)
set_option maxRecDepth 100000 in
theorem dp_d_X12_swap : dp_InsOk dp_m_X12_swap := dp_ckD_ok (c := dp_c_X12_swap) (cc := dp_bytes dp_m_X12_swap) (by decide +kernel)
set_option maxRecDepth 100000 in
theorem dp_d_X12_aboard : dp_InsOk dp_m_X12_aboard := dp_ckD_ok (c := dp_c_X12_aboard) (cc := dp_bytes dp_m_X12_aboard) (by decide +kernel)
set_option maxRecDepth 100000 in
theorem dp_d_X12_isYardRow : dp_InsOk dp_m_X12_isYardRow := dp_ckD_ok (c := dp_c_X12_isYardRow) (cc := dp_bytes dp_m_X12_isYardRow) (by decide +kernel)
set_option maxRecDepth 100000 in
theorem dp_d_X12_heightOf : dp_InsOk dp_m_X12_heightOf := dp_ckD_ok (c := dp_c_X12_heightOf) (cc := dp_bytes dp_m_X12_heightOf) (by decide +kernel)
set_option maxRecDepth 100000 in
theorem dp_d_X12_weightOf : dp_InsOk dp_m_X12_weightOf := dp_ckD_ok (c := dp_c_X12_weightOf) (cc := dp_bytes dp_m_X12_weightOf) (by decide +kernel)
set_option maxRecDepth 100000 in
theorem dp_d_X12_boxAt : dp_InsOk dp_m_X12_boxAt := dp_ckD_ok (c := dp_c_X12_boxAt) (cc := dp_bytes dp_m_X12_boxAt) (by decide +kernel)
set_option maxRecDepth 100000 in
theorem dp_d_X12_isTop : dp_InsOk dp_m_X12_isTop := dp_ckD_ok (c := dp_c_X12_isTop) (cc := dp_bytes dp_m_X12_isTop) (by decide +kernel)
set_option maxRecDepth 100000 in
theorem dp_d_X12_hasOtherSize : dp_InsOk dp_m_X12_hasOtherSize := dp_ckD_ok (c := dp_c_X12_hasOtherSize) (cc := dp_bytes dp_m_X12_hasOtherSize) (by decide +kernel)
set_option maxRecDepth 100000 in
theorem dp_d_X12_sooner : dp_InsOk dp_m_X12_sooner := dp_ckD_ok (c := dp_c_X12_sooner) (cc := dp_bytes dp_m_X12_sooner) (by decide +kernel)
set_option maxRecDepth 100000 in
theorem dp_d_X12_isHere : dp_InsOk dp_m_X12_isHere := dp_ckD_ok (c := dp_c_X12_isHere) (cc := dp_bytes dp_m_X12_isHere) (by decide +kernel)
set_option maxRecDepth 100000 in
theorem dp_d_X12_broken : dp_InsOk dp_m_X12_broken := dp_ckD_ok (c := dp_c_X12_broken) (cc := dp_bytes dp_m_X12_broken) (by decide +kernel)
set_option maxRecDepth 100000 in
theorem dp_d_X12_scoreOf : dp_InsOk dp_m_X12_scoreOf := dp_ckD_ok (c := dp_c_X12_scoreOf) (cc := dp_bytes dp_m_X12_scoreOf) (by decide +kernel)
set_option maxRecDepth 100000 in
theorem dp_d_X12_bestRow : dp_InsOk dp_m_X12_bestRow := dp_ckD_ok (c := dp_c_X12_bestRow) (cc := dp_bytes dp_m_X12_bestRow) (by decide +kernel)
set_option maxRecDepth 100000 in
theorem dp_d_X12_ground : dp_InsOk dp_m_X12_ground := dp_ckD_ok (c := dp_c_X12_ground) (cc := dp_bytes dp_m_X12_ground) (by decide +kernel)
set_option maxRecDepth 100000 in
theorem dp_d_X12_reserve : dp_InsOk dp_m_X12_reserve := dp_ckD_ok (c := dp_c_X12_reserve) (cc := dp_bytes dp_m_X12_reserve) (by decide +kernel)
set_option maxRecDepth 100000 in
theorem dp_d_X12_stands : dp_InsOk dp_m_X12_stands := dp_ckD_ok (c := dp_c_X12_stands) (cc := dp_bytes dp_m_X12_stands) (by decide +kernel)
set_option maxRecDepth 100000 in
theorem dp_d_X12_goesTo : dp_InsOk dp_m_X12_goesTo := dp_ckD_ok (c := dp_c_X12_goesTo) (cc := dp_bytes dp_m_X12_goesTo) (by decide +kernel)
set_option maxRecDepth 100000 in
theorem dp_d_X12_put : dp_InsOk dp_m_X12_put := dp_ckD_ok (c := dp_c_X12_put) (cc := dp_bytes dp_m_X12_put) (by decide +kernel)
set_option maxRecDepth 100000 in
theorem dp_d_X12_take : dp_InsOk dp_m_X12_take := dp_ckD_ok (c := dp_c_X12_take) (cc := dp_bytes dp_m_X12_take) (by decide +kernel)
set_option maxRecDepth 100000 in
theorem dp_d_X12_shift : dp_InsOk dp_m_X12_shift := dp_ckD_ok (c := dp_c_X12_shift) (cc := dp_bytes dp_m_X12_shift) (by decide +kernel)
set_option maxRecDepth 100000 in
theorem dp_d_X12_choose : dp_InsOk dp_m_X12_choose := dp_ckD_ok (c := dp_c_X12_choose) (cc := dp_bytes dp_m_X12_choose) (by decide +kernel)
set_option maxRecDepth 100000 in
theorem dp_d_X12_asideRow : dp_InsOk dp_m_X12_asideRow := dp_ckD_ok (c := dp_c_X12_asideRow) (cc := dp_bytes dp_m_X12_asideRow) (by decide +kernel)
set_option maxRecDepth 100000 in
theorem dp_d_X12_worst : dp_InsOk dp_m_X12_worst := dp_ckD_ok (c := dp_c_X12_worst) (cc := dp_bytes dp_m_X12_worst) (by decide +kernel)
set_option maxRecDepth 100000 in
theorem dp_d_X12_night : dp_InsOk dp_m_X12_night := dp_ckD_ok (c := dp_c_X12_night) (cc := dp_bytes dp_m_X12_night) (by decide +kernel)
set_option maxRecDepth 100000 in
theorem dp_d_X12_undo : dp_InsOk dp_m_X12_undo := dp_ckD_ok (c := dp_c_X12_undo) (cc := dp_bytes dp_m_X12_undo) (by decide +kernel)
set_option maxRecDepth 100000 in
theorem dp_d_X12_isInTheWay : dp_InsOk dp_m_X12_isInTheWay := dp_ckD_ok (c := dp_c_X12_isInTheWay) (cc := dp_bytes dp_m_X12_isInTheWay) (by decide +kernel)
set_option maxRecDepth 100000 in
theorem dp_d_X12_where : dp_InsOk dp_m_X12_where := dp_ckD_ok (c := dp_c_X12_where) (cc := dp_bytes dp_m_X12_where) (by decide +kernel)
set_option maxRecDepth 100000 in
theorem dp_d_X12_at : dp_InsOk dp_m_X12_at := dp_ckD_ok (c := dp_c_X12_at) (cc := dp_bytes dp_m_X12_at) (by decide +kernel)
set_option maxRecDepth 100000 in
theorem dp_d_X12_kilograms : dp_InsOk dp_m_X12_kilograms := dp_ckD_ok (c := dp_c_X12_kilograms) (cc := dp_bytes dp_m_X12_kilograms) (by decide +kernel)
set_option maxRecDepth 100000 in
theorem dp_d_X12_tells : dp_InsOk dp_m_X12_tells := dp_ckD_ok (c := dp_c_X12_tells) (cc := dp_bytes dp_m_X12_tells) (by decide +kernel)
set_option maxRecDepth 100000 in
theorem dp_d_X12_weightIn : dp_InsOk dp_m_X12_weightIn := dp_ckD_ok (c := dp_c_X12_weightIn) (cc := dp_bytes dp_m_X12_weightIn) (by decide +kernel)
set_option maxRecDepth 100000 in
theorem dp_d_X12_goods : dp_InsOk dp_m_X12_goods := dp_ckD_ok (c := dp_c_X12_goods) (cc := dp_bytes dp_m_X12_goods) (by decide +kernel)
set_option maxRecDepth 100000 in
theorem dp_d_X12_manyIn : dp_InsOk dp_m_X12_manyIn := dp_ckD_ok (c := dp_c_X12_manyIn) (cc := dp_bytes dp_m_X12_manyIn) (by decide +kernel)
set_option maxRecDepth 100000 in
theorem dp_d_X12_isFree : dp_InsOk dp_m_X12_isFree := dp_ckD_ok (c := dp_c_X12_isFree) (cc := dp_bytes dp_m_X12_isFree) (by decide +kernel)
set_option maxRecDepth 100000 in
theorem dp_d_X12_ownBar : dp_InsOk dp_m_X12_ownBar := dp_ckD_ok (c := dp_c_X12_ownBar) (cc := dp_bytes dp_m_X12_ownBar) (by decide +kernel)
set_option maxRecDepth 100000 in
theorem dp_d_X12_bar : dp_InsOk dp_m_X12_bar := dp_ckD_ok (c := dp_c_X12_bar) (cc := dp_bytes dp_m_X12_bar) (by decide +kernel)
set_option maxRecDepth 100000 in
theorem dp_d_X12_lift : dp_InsOk dp_m_X12_lift := dp_ckD_ok (c := dp_c_X12_lift) (cc := dp_bytes dp_m_X12_lift) (by decide +kernel)
set_option maxRecDepth 100000 in
theorem dp_d_X12_join : dp_InsOk dp_m_X12_join := dp_ckD_ok (c := dp_c_X12_join) (cc := dp_bytes dp_m_X12_join) (by decide +kernel)
