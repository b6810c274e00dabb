set_option maxRecDepth 100000 in
theorem dp_d_X7_printRate : dp_InsOk dp_m_X7_printRate := dp_ckD_ok (c := dp_c_X7_printRate) (cc := dp_bytes dp_m_X7_printRate) (by decide +kernel)
set_option maxRecDepth 100000 in
theorem dp_d_X7_addSign : dp_InsOk dp_m_X7_addSign := dp_ckD_ok (c := dp_c_X7_addSign) (cc := dp_bytes dp_m_X7_addSign) (by decide +kernel)
set_option maxRecDepth 100000 in
theorem dp_d_X7_addWord : dp_InsOk dp_m_X7_addWord := dp_ckD_ok (c := dp_c_X7_addWord) (cc := dp_bytes dp_m_X7_addWord) (by decide +kernel)
set_option maxRecDepth 100000 in
theorem dp_d_X7_printNode : dp_InsOk dp_m_X7_printNode := dp_ckD_ok (c := dp_c_X7_printNode) (cc := dp_bytes dp_m_X7_printNode) (by decide +kernel)
set_option maxRecDepth 100000 in
theorem dp_d_X7_stackJoined : dp_InsOk dp_m_X7_stackJoined := dp_ckD_ok (c := dp_c_X7_stackJoined) (cc := dp_bytes dp_m_X7_stackJoined) (by decide +kernel)
set_option maxRecDepth 100000 in
theorem dp_d_X7_stackPair : dp_InsOk dp_m_X7_stackPair := dp_ckD_ok (c := dp_c_X7_stackPair) (cc := dp_bytes dp_m_X7_stackPair) (by decide +kernel)
set_option maxRecDepth 100000 in
theorem dp_d_X7_printSteps : dp_InsOk dp_m_X7_printSteps := dp_ckD_ok (c := dp_c_X7_printSteps) (cc := dp_bytes dp_m_X7_printSteps) (by decide +kernel)
set_option maxRecDepth 100000 in
theorem dp_d_X7_printNumber : dp_InsOk dp_m_X7_printNumber := dp_ckD_ok (c := dp_c_X7_printNumber) (cc := dp_bytes dp_m_X7_printNumber) (by decide +kernel)
set_option maxRecDepth 100000 in
theorem dp_d_X7_printWhole : dp_InsOk dp_m_X7_printWhole := dp_ckD_ok (c := dp_c_X7_printWhole) (cc := dp_bytes dp_m_X7_printWhole) (by decide +kernel)
set_option maxRecDepth 100000 in
theorem dp_d_X8_init : dp_InsOk dp_m_X8_init := dp_ckD_ok (c := dp_c_X8_init) (cc := dp_bytes dp_m_X8_init) (by decide +kernel)
set_option maxRecDepth 100000 in
theorem dp_d_X8_get : dp_InsOk dp_m_X8_get := dp_ckD_ok (c := dp_c_X8_get) (cc := dp_bytes dp_m_X8_get) (by decide +kernel)
set_option maxRecDepth 100000 in
theorem dp_d_X8_set : dp_InsOk dp_m_X8_set := dp_ckD_ok (c := dp_c_X8_set) (cc := dp_bytes dp_m_X8_set) (by decide +kernel)
set_option maxRecDepth 100000 in
theorem dp_d_X8_addGuarantee : dp_InsOk dp_m_X8_addGuarantee := dp_ckD_ok (c := dp_c_X8_addGuarantee) (cc := dp_bytes dp_m_X8_addGuarantee) (by decide +kernel)
set_option maxRecDepth 100000 in
theorem dp_d_X8_inTurn : dp_InsOk dp_m_X8_inTurn := dp_ckD_ok (c := dp_c_X8_inTurn) (cc := dp_bytes dp_m_X8_inTurn) (by decide +kernel)
set_option maxRecDepth 100000 in
theorem dp_d_X8_moveToFront : dp_InsOk dp_m_X8_moveToFront := dp_ckD_ok (c := dp_c_X8_moveToFront) (cc := dp_bytes dp_m_X8_moveToFront) (by decide +kernel)
set_option maxRecDepth 100000 in
theorem dp_d_X8_closeOne : dp_InsOk dp_m_X8_closeOne := dp_ckD_ok (c := dp_c_X8_closeOne) (cc := dp_bytes dp_m_X8_closeOne) (by decide +kernel)
set_option maxRecDepth 100000 in
theorem dp_d_X8_latestRow : dp_InsOk dp_m_X8_latestRow := dp_ckD_ok (c := dp_c_X8_latestRow) (cc := dp_bytes dp_m_X8_latestRow) (by decide +kernel)
set_option maxRecDepth 100000 in
theorem dp_d_X8_interestOf : dp_InsOk dp_m_X8_interestOf := dp_ckD_ok (c := dp_c_X8_interestOf) (cc := dp_bytes dp_m_X8_interestOf) (by decide +kernel)
set_option maxRecDepth 100000 in
theorem dp_d_X8_lessen : dp_InsOk dp_m_X8_lessen := dp_ckD_ok (c := dp_c_X8_lessen) (cc := dp_bytes dp_m_X8_lessen) (by decide +kernel)
set_option maxRecDepth 100000 in
theorem dp_d_X8_neededFor : dp_InsOk dp_m_X8_neededFor := dp_ckD_ok (c := dp_c_X8_neededFor) (cc := dp_bytes dp_m_X8_neededFor) (by decide +kernel)
set_option maxRecDepth 100000 in
theorem dp_d_X8_freeIn : dp_InsOk dp_m_X8_freeIn := dp_ckD_ok (c := dp_c_X8_freeIn) (cc := dp_bytes dp_m_X8_freeIn) (by decide +kernel)
set_option maxRecDepth 100000 in
theorem dp_d_X8_mayCover : dp_InsOk dp_m_X8_mayCover := dp_ckD_ok (c := dp_c_X8_mayCover) (cc := dp_bytes dp_m_X8_mayCover) (by decide +kernel)
set_option maxRecDepth 100000 in
theorem dp_d_X8_freeOf : dp_InsOk dp_m_X8_freeOf := dp_ckD_ok (c := dp_c_X8_freeOf) (cc := dp_bytes dp_m_X8_freeOf) (by decide +kernel)
set_option maxRecDepth 100000 in
theorem dp_d_X8_fact : dp_InsOk dp_m_X8_fact := dp_ckD_ok (c := dp_c_X8_fact) (cc := dp_bytes dp_m_X8_fact) (by decide +kernel)
set_option maxRecDepth 100000 in
theorem dp_d_X8_hasFact : dp_InsOk dp_m_X8_hasFact := dp_ckD_ok (c := dp_c_X8_hasFact) (cc := dp_bytes dp_m_X8_hasFact) (by decide +kernel)
set_option maxRecDepth 100000 in
theorem dp_d_X8_factOfReservation : dp_InsOk dp_m_X8_factOfReservation := dp_ckD_ok (c := dp_c_X8_factOfReservation) (cc := dp_bytes dp_m_X8_factOfReservation) (by decide +kernel)
set_option maxRecDepth 100000 in
theorem dp_d_X8_partsOf : dp_InsOk dp_m_X8_partsOf := dp_ckD_ok (c := dp_c_X8_partsOf) (cc := dp_bytes dp_m_X8_partsOf) (by decide +kernel)
set_option maxRecDepth 100000 in
theorem dp_d_X8_cover : dp_InsOk dp_m_X8_cover := dp_ckD_ok (c := dp_c_X8_cover) (cc := dp_bytes dp_m_X8_cover) (by decide +kernel)
set_option maxRecDepth 100000 in
theorem dp_d_X8_spread : dp_InsOk dp_m_X8_spread := dp_ckD_ok (c := dp_c_X8_spread) (cc := dp_bytes dp_m_X8_spread) (by decide +kernel)
set_option maxRecDepth 100000 in
theorem dp_d_X8_guaranteeOf : dp_InsOk dp_m_X8_guaranteeOf := dp_ckD_ok (c := dp_c_X8_guaranteeOf) (cc := dp_bytes dp_m_X8_guaranteeOf) (by decide +kernel)
set_option maxRecDepth 100000 in
theorem dp_d_X8_coveredBy : dp_InsOk dp_m_X8_coveredBy := dp_ckD_ok (c := dp_c_X8_coveredBy) (cc := dp_bytes dp_m_X8_coveredBy) (by decide +kernel)
set_option maxRecDepth 100000 in
theorem dp_d_X8_use : dp_InsOk dp_m_X8_use := dp_ckD_ok (c := dp_c_X8_use) (cc := dp_bytes dp_m_X8_use) (by decide +kernel)
set_option maxRecDepth 100000 in
theorem dp_d_X8_claimableBy : dp_InsOk dp_m_X8_claimableBy := dp_ckD_ok (c := dp_c_X8_claimableBy) (cc := dp_bytes dp_m_X8_claimableBy) (by decide +kernel)
set_option maxRecDepth 100000 in
theorem dp_d_X8_claimable : dp_InsOk dp_m_X8_claimable := dp_ckD_ok (c := dp_c_X8_claimable) (cc := dp_bytes dp_m_X8_claimable) (by decide +kernel)
set_option maxRecDepth 100000 in
theorem dp_d_X8_finish : dp_InsOk dp_m_X8_finish := dp_ckD_ok (c := dp_c_X8_finish) (cc := dp_bytes dp_m_X8_finish) (by decide +kernel)
set_option maxRecDepth 100000 in
theorem dp_d_X9_init : dp_InsOk dp_m_X9_init := dp_ckD_ok (c := dp_c_X9_init) (cc := dp_bytes dp_m_X9_init) (by decide +kernel)
set_option maxRecDepth 100000 in
theorem dp_d_X9_addMember : dp_InsOk dp_m_X9_addMember := dp_ckD_ok (c := dp_c_X9_addMember) (cc := dp_bytes dp_m_X9_addMember) (by decide +kernel)
set_option maxRecDepth 100000 in
theorem dp_d_X9_reachOf : dp_InsOk dp_m_X9_reachOf := dp_ckD_ok (c := dp_c_X9_reachOf) (cc := dp_bytes dp_m_X9_reachOf) (by decide +kernel)
set_option maxRecDepth 100000 in
theorem dp_d_X9_landsIn : dp_InsOk dp_m_X9_landsIn := dp_ckD_ok (c := dp_c_X9_landsIn) (cc := dp_bytes dp_m_X9_landsIn) (by decide +kernel)
set_option maxRecDepth 100000 in
theorem dp_d_X9_isIn : dp_InsOk dp_m_X9_isIn := dp_ckD_ok (c := dp_c_X9_isIn) (cc := dp_bytes dp_m_X9_isIn) (by decide +kernel)
set_option maxRecDepth 100000 in
theorem dp_d_X9_addRow : dp_InsOk dp_m_X9_addRow := dp_ckD_ok (c := dp_c_X9_addRow) (cc := dp_bytes dp_m_X9_addRow) (by decide +kernel)
set_option maxRecDepth 100000 in
theorem dp_d_X9_clash : dp_InsOk dp_m_X9_clash := dp_ckD_ok (c := dp_c_X9_clash) (cc := dp_bytes dp_m_X9_clash) (by decide +kernel)
set_option maxRecDepth 100000 in
theorem dp_d_X9_addEnd : dp_InsOk dp_m_X9_addEnd := dp_ckD_ok (c := dp_c_X9_addEnd) (cc := dp_bytes dp_m_X9_addEnd) (by decide +kernel)
set_option maxRecDepth 100000 in
theorem dp_d_X9_addOneOfFour : dp_InsOk dp_m_X9_addOneOfFour := dp_ckD_ok (c := dp_c_X9_addOneOfFour) (cc := dp_bytes dp_m_X9_addOneOfFour) (by decide +kernel)
set_option maxRecDepth 100000 in
theorem dp_d_X9_lastDay : dp_InsOk dp_m_X9_lastDay := dp_ckD_ok (c := dp_c_X9_lastDay) (cc := dp_bytes dp_m_X9_lastDay) (by decide +kernel)
set_option maxRecDepth 100000 in
theorem dp_d_X9_lengthOf : dp_InsOk dp_m_X9_lengthOf := dp_ckD_ok (c := dp_c_X9_lengthOf) (cc := dp_bytes dp_m_X9_lengthOf) (by decide +kernel)
set_option maxRecDepth 100000 in
theorem dp_d_X9_isUnder : dp_InsOk dp_m_X9_isUnder := dp_ckD_ok (c := dp_c_X9_isUnder) (cc := dp_bytes dp_m_X9_isUnder) (by decide +kernel)
set_option maxRecDepth 100000 in
theorem dp_d_X9_isOf : dp_InsOk dp_m_X9_isOf := dp_ckD_ok (c := dp_c_X9_isOf) (cc := dp_bytes dp_m_X9_isOf) (by decide +kernel)
set_option maxRecDepth 100000 in
theorem dp_d_X9_hasPapers : dp_InsOk dp_m_X9_hasPapers := dp_ckD_ok (c := dp_c_X9_hasPapers) (cc := dp_bytes dp_m_X9_hasPapers) (by decide +kernel)
set_option maxRecDepth 100000 in
theorem dp_d_X9_strengthOf : dp_InsOk dp_m_X9_strengthOf := dp_ckD_ok (c := dp_c_X9_strengthOf) (cc := dp_bytes dp_m_X9_strengthOf) (by decide +kernel)
set_option maxRecDepth 100000 in
theorem dp_d_X9_find : dp_InsOk dp_m_X9_find := dp_ckD_ok (c := dp_c_X9_find) (cc := dp_bytes dp_m_X9_find) (by decide +kernel)
set_option maxRecDepth 100000 in
theorem dp_d_X9_keepList : dp_InsOk dp_m_X9_keepList := dp_ckD_ok (c := dp_c_X9_keepList) (cc := dp_bytes dp_m_X9_keepList) (by decide +kernel)
set_option maxRecDepth 100000 in
theorem dp_d_X10_init : dp_InsOk dp_m_X10_init := dp_ckD_ok (c := dp_c_X10_init) (cc := dp_bytes dp_m_X10_init) (by decide +kernel)
set_option maxRecDepth 100000 in
theorem dp_d_X10_boxAt : dp_InsOk dp_m_X10_boxAt := dp_ckD_ok (c := dp_c_X10_boxAt) (cc := dp_bytes dp_m_X10_boxAt) (by decide +kernel)
set_option maxRecDepth 100000 in
theorem dp_d_X10_topOf : dp_InsOk dp_m_X10_topOf := dp_ckD_ok (c := dp_c_X10_topOf) (cc := dp_bytes dp_m_X10_topOf) (by decide +kernel)
set_option maxRecDepth 100000 in
theorem dp_d_X10_isOnTop : dp_InsOk dp_m_X10_isOnTop := dp_ckD_ok (c := dp_c_X10_isOnTop) (cc := dp_bytes dp_m_X10_isOnTop) (by decide +kernel)
set_option maxRecDepth 100000 in
theorem dp_d_X10_above : dp_InsOk dp_m_X10_above := dp_ckD_ok (c := dp_c_X10_above) (cc := dp_bytes dp_m_X10_above) (by decide +kernel)
set_option maxRecDepth 100000 in
theorem dp_d_X10_weightOf : dp_InsOk dp_m_X10_weightOf := dp_ckD_ok (c := dp_c_X10_weightOf) (cc := dp_bytes dp_m_X10_weightOf) (by decide +kernel)
set_option maxRecDepth 100000 in
theorem dp_d_X10_hasOtherShip : dp_InsOk dp_m_X10_hasOtherShip := dp_ckD_ok (c := dp_c_X10_hasOtherShip) (cc := dp_bytes dp_m_X10_hasOtherShip) (by decide +kernel)
set_option maxRecDepth 100000 in
theorem dp_d_X10_hasOtherSize : dp_InsOk dp_m_X10_hasOtherSize := dp_ckD_ok (c := dp_c_X10_hasOtherSize) (cc := dp_bytes dp_m_X10_hasOtherSize) (by decide +kernel)
set_option maxRecDepth 100000 in
theorem dp_d_X10_sooner : dp_InsOk dp_m_X10_sooner := dp_ckD_ok (c := dp_c_X10_sooner) (cc := dp_bytes dp_m_X10_sooner) (by decide +kernel)
set_option maxRecDepth 100000 in
theorem dp_d_X10_soonerBelow : dp_InsOk dp_m_X10_soonerBelow := dp_ckD_ok (c := dp_c_X10_soonerBelow) (cc := dp_bytes dp_m_X10_soonerBelow) (by decide +kernel)
set_option maxRecDepth 100000 in
theorem dp_d_X10_isInTheWay : dp_InsOk dp_m_X10_isInTheWay := dp_ckD_ok (c := dp_c_X10_isInTheWay) (cc := dp_bytes dp_m_X10_isInTheWay) (by decide +kernel)
set_option maxRecDepth 100000 in
theorem dp_d_X10_inTheWay : dp_InsOk dp_m_X10_inTheWay := dp_ckD_ok (c := dp_c_X10_inTheWay) (cc := dp_bytes dp_m_X10_inTheWay) (by decide +kernel)
set_option maxRecDepth 100000 in
theorem dp_d_X10_standing : dp_InsOk dp_m_X10_standing := dp_ckD_ok (c := dp_c_X10_standing) (cc := dp_bytes dp_m_X10_standing) (by decide +kernel)
set_option maxRecDepth 100000 in
theorem dp_d_X10_brokenByPut : dp_InsOk dp_m_X10_brokenByPut := dp_ckD_ok (c := dp_c_X10_brokenByPut) (cc := dp_bytes dp_m_X10_brokenByPut) (by decide +kernel)
set_option maxRecDepth 100000 in
theorem dp_d_X10_brokenByShift : dp_InsOk dp_m_X10_brokenByShift := dp_ckD_ok (c := dp_c_X10_brokenByShift) (cc := dp_bytes dp_m_X10_brokenByShift) (by decide +kernel)
set_option maxRecDepth 100000 in
theorem dp_d_X10_brokenOnRow : dp_InsOk dp_m_X10_brokenOnRow := dp_ckD_ok (c := dp_c_X10_brokenOnRow) (cc := dp_bytes dp_m_X10_brokenOnRow) (by decide +kernel)
set_option maxRecDepth 100000 in
theorem dp_d_X10_score : dp_InsOk dp_m_X10_score := dp_ckD_ok (c := dp_c_X10_score) (cc := dp_bytes dp_m_X10_score) (by decide +kernel)
set_option maxRecDepth 100000 in
theorem dp_d_X10_bestRow : dp_InsOk dp_m_X10_bestRow := dp_ckD_ok (c := dp_c_X10_bestRow) (cc := dp_bytes dp_m_X10_bestRow) (by decide +kernel)
set_option maxRecDepth 100000 in
theorem dp_d_X10_bestClearRow : dp_InsOk dp_m_X10_bestClearRow := dp_ckD_ok (c := dp_c_X10_bestClearRow) (cc := dp_bytes dp_m_X10_bestClearRow) (by decide +kernel)
set_option maxRecDepth 100000 in
theorem dp_d_X10_tidy : dp_InsOk dp_m_X10_tidy := dp_ckD_ok (c := dp_c_X10_tidy) (cc := dp_bytes dp_m_X10_tidy) (by decide +kernel)
set_option maxRecDepth 100000 in
theorem dp_d_X10_boxToTidy : dp_InsOk dp_m_X10_boxToTidy := dp_ckD_ok (c := dp_c_X10_boxToTidy) (cc := dp_bytes dp_m_X10_boxToTidy) (by decide +kernel)
set_option maxRecDepth 100000 in
theorem dp_d_X10_bring : dp_InsOk dp_m_X10_bring := dp_ckD_ok (c := dp_c_X10_bring) (cc := dp_bytes dp_m_X10_bring) (by decide +kernel)
set_option maxRecDepth 100000 in
theorem dp_d_X10_takeBack : dp_InsOk dp_m_X10_takeBack := dp_ckD_ok (c := dp_c_X10_takeBack) (cc := dp_bytes dp_m_X10_takeBack) (by decide +kernel)
set_option maxRecDepth 100000 in
theorem dp_d_X10_place : dp_InsOk dp_m_X10_place := dp_ckD_ok (c := dp_c_X10_place) (cc := dp_bytes dp_m_X10_place) (by decide +kernel)
set_option maxRecDepth 100000 in
theorem dp_d_X11_init : dp_InsOk dp_m_X11_init := dp_ckD_ok (c := dp_c_X11_init) (cc := dp_bytes dp_m_X11_init) (by decide +kernel)
set_option maxRecDepth 100000 in
theorem dp_d_X11_heldTo : dp_InsOk dp_m_X11_heldTo := dp_ckD_ok (c := dp_c_X11_heldTo) (cc := dp_bytes dp_m_X11_heldTo) (by decide +kernel)
set_option maxRecDepth 100000 in
theorem dp_d_X11_within : dp_InsOk dp_m_X11_within := dp_ckD_ok (c := dp_c_X11_within) (cc := dp_bytes dp_m_X11_within) (by decide +kernel)
set_option maxRecDepth 100000 in
theorem dp_d_X11_isBay : dp_InsOk dp_m_X11_isBay := dp_ckD_ok (c := dp_c_X11_isBay) (cc := dp_bytes dp_m_X11_isBay) (by decide +kernel)
set_option maxRecDepth 100000 in
theorem dp_d_X11_isBox : dp_InsOk dp_m_X11_isBox := dp_ckD_ok (c := dp_c_X11_isBox) (cc := dp_bytes dp_m_X11_isBox) (by decide +kernel)
set_option maxRecDepth 100000 in
theorem dp_d_X11_isYardRow : dp_InsOk dp_m_X11_isYardRow := dp_ckD_ok (c := dp_c_X11_isYardRow) (cc := dp_bytes dp_m_X11_isYardRow) (by decide +kernel)
set_option maxRecDepth 100000 in
theorem dp_d_X11_isMeasure : dp_InsOk dp_m_X11_isMeasure := dp_ckD_ok (c := dp_c_X11_isMeasure) (cc := dp_bytes dp_m_X11_isMeasure) (by decide +kernel)
set_option maxRecDepth 100000 in
theorem dp_d_X11_isOrder : dp_InsOk dp_m_X11_isOrder := dp_ckD_ok (c := dp_c_X11_isOrder) (cc := dp_bytes dp_m_X11_isOrder) (by decide +kernel)
set_option maxRecDepth 100000 in
theorem dp_d_X11_isGuarantee : dp_InsOk dp_m_X11_isGuarantee := dp_ckD_ok (c := dp_c_X11_isGuarantee) (cc := dp_bytes dp_m_X11_isGuarantee) (by decide +kernel)
set_option maxRecDepth 100000 in
theorem dp_d_X11_isBatch : dp_InsOk dp_m_X11_isBatch := dp_ckD_ok (c := dp_c_X11_isBatch) (cc := dp_bytes dp_m_X11_isBatch) (by decide +kernel)
set_option maxRecDepth 100000 in
theorem dp_d_X11_isDeclaration : dp_InsOk dp_m_X11_isDeclaration := dp_ckD_ok (c := dp_c_X11_isDeclaration) (cc := dp_bytes dp_m_X11_isDeclaration) (by decide +kernel)
set_option maxRecDepth 100000 in
theorem dp_d_X11_isDeclarationIn : dp_InsOk dp_m_X11_isDeclarationIn := dp_ckD_ok (c := dp_c_X11_isDeclarationIn) (cc := dp_bytes dp_m_X11_isDeclarationIn) (by decide +kernel)
set_option maxRecDepth 100000 in
theorem dp_d_X11_isDay : dp_InsOk dp_m_X11_isDay := dp_ckD_ok (c := dp_c_X11_isDay) (cc := dp_bytes dp_m_X11_isDay) (by decide +kernel)
set_option maxRecDepth 100000 in
theorem dp_d_X11_isLastDay : dp_InsOk dp_m_X11_isLastDay := dp_ckD_ok (c := dp_c_X11_isLastDay) (cc := dp_bytes dp_m_X11_isLastDay) (by decide +kernel)
set_option maxRecDepth 100000 in
theorem dp_d_X11_isBookDay : dp_InsOk dp_m_X11_isBookDay := dp_ckD_ok (c := dp_c_X11_isBookDay) (cc := dp_bytes dp_m_X11_isBookDay) (by decide +kernel)
set_option maxRecDepth 100000 in
theorem dp_d_X11_box : dp_InsOk dp_m_X11_box := dp_ckD_ok (c := dp_c_X11_box) (cc := dp_bytes dp_m_X11_box) (by decide +kernel)
set_option maxRecDepth 100000 in
theorem dp_d_X11_before : dp_InsOk dp_m_X11_before := dp_ckD_ok (c := dp_c_X11_before) (cc := dp_bytes dp_m_X11_before) (by decide +kernel)
set_option maxRecDepth 100000 in
theorem dp_d_X11_plan : dp_InsOk dp_m_X11_plan := dp_ckD_ok (c := dp_c_X11_plan) (cc := dp_bytes dp_m_X11_plan) (by decide +kernel)
set_option maxRecDepth 100000 in
theorem dp_d_X11_move : dp_InsOk dp_m_X11_move := dp_ckD_ok (c := dp_c_X11_move) (cc := dp_bytes dp_m_X11_move) (by decide +kernel)
set_option maxRecDepth 100000 in
theorem dp_d_X11_work : dp_InsOk dp_m_X11_work := dp_ckD_ok (c := dp_c_X11_work) (cc := dp_bytes dp_m_X11_work) (by decide +kernel)
