set_option maxRecDepth 100000 in
theorem dp_d_X3_mayBeReversed : dp_InsOk dp_m_X3_mayBeReversed := dp_ckD_ok (c := dp_c_X3_mayBeReversed) (cc := dp_bytes dp_m_X3_mayBeReversed) (by decide +kernel)
set_option maxRecDepth 100000 in
theorem dp_d_X3_turn : dp_InsOk dp_m_X3_turn := dp_ckD_ok (c := dp_c_X3_turn) (cc := dp_bytes dp_m_X3_turn) (by decide +kernel)
set_option maxRecDepth 100000 in
theorem dp_d_X3_factOfEntry : dp_InsOk dp_m_X3_factOfEntry := dp_ckD_ok (c := dp_c_X3_factOfEntry) (cc := dp_bytes dp_m_X3_factOfEntry) (by decide +kernel)
set_option maxRecDepth 100000 in
theorem dp_d_X3_sum : dp_InsOk dp_m_X3_sum := dp_ckD_ok (c := dp_c_X3_sum) (cc := dp_bytes dp_m_X3_sum) (by decide +kernel)
set_option maxRecDepth 100000 in
theorem dp_d_X3_kindOf : dp_InsOk dp_m_X3_kindOf := dp_ckD_ok (c := dp_c_X3_kindOf) (cc := dp_bytes dp_m_X3_kindOf) (by decide +kernel)
set_option maxRecDepth 100000 in
theorem dp_d_X3_sumOfKind : dp_InsOk dp_m_X3_sumOfKind := dp_ckD_ok (c := dp_c_X3_sumOfKind) (cc := dp_bytes dp_m_X3_sumOfKind) (by decide +kernel)
set_option maxRecDepth 100000 in
theorem dp_d_X3_passedOn : dp_InsOk dp_m_X3_passedOn := dp_ckD_ok (c := dp_c_X3_passedOn) (cc := dp_bytes dp_m_X3_passedOn) (by decide +kernel)
set_option maxRecDepth 100000 in
theorem dp_d_X3_deal : dp_InsOk dp_m_X3_deal := dp_ckD_ok (c := dp_c_X3_deal) (cc := dp_bytes dp_m_X3_deal) (by decide +kernel)
set_option maxRecDepth 100000 in
theorem dp_d_X3_giveOneMore : dp_InsOk dp_m_X3_giveOneMore := dp_ckD_ok (c := dp_c_X3_giveOneMore) (cc := dp_bytes dp_m_X3_giveOneMore) (by decide +kernel)
set_option maxRecDepth 100000 in
theorem dp_d_X4_init : dp_InsOk dp_m_X4_init := dp_ckD_ok (c := dp_c_X4_init) (cc := dp_bytes dp_m_X4_init) (by decide +kernel)
set_option maxRecDepth 100000 in
theorem dp_d_X4_placeOf : dp_InsOk dp_m_X4_placeOf := dp_ckD_ok (c := dp_c_X4_placeOf) (cc := dp_bytes dp_m_X4_placeOf) (by decide +kernel)
set_option maxRecDepth 100000 in
theorem dp_d_X4_set : dp_InsOk dp_m_X4_set := dp_ckD_ok (c := dp_c_X4_set) (cc := dp_bytes dp_m_X4_set) (by decide +kernel)
set_option maxRecDepth 100000 in
theorem dp_d_X4_search : dp_InsOk dp_m_X4_search := dp_ckD_ok (c := dp_c_X4_search) (cc := dp_bytes dp_m_X4_search) (by decide +kernel)
set_option maxRecDepth 100000 in
theorem dp_d_X4_reach : dp_InsOk dp_m_X4_reach := dp_ckD_ok (c := dp_c_X4_reach) (cc := dp_bytes dp_m_X4_reach) (by decide +kernel)
set_option maxRecDepth 100000 in
theorem dp_d_X4_isEnd : dp_InsOk dp_m_X4_isEnd := dp_ckD_ok (c := dp_c_X4_isEnd) (cc := dp_bytes dp_m_X4_isEnd) (by decide +kernel)
set_option maxRecDepth 100000 in
theorem dp_d_X4_goOnFrom : dp_InsOk dp_m_X4_goOnFrom := dp_ckD_ok (c := dp_c_X4_goOnFrom) (cc := dp_bytes dp_m_X4_goOnFrom) (by decide +kernel)
set_option maxRecDepth 100000 in
theorem dp_d_X4_readState : dp_InsOk dp_m_X4_readState := dp_ckD_ok (c := dp_c_X4_readState) (cc := dp_bytes dp_m_X4_readState) (by decide +kernel)
set_option maxRecDepth 100000 in
theorem dp_d_X4_noteHeight : dp_InsOk dp_m_X4_noteHeight := dp_ckD_ok (c := dp_c_X4_noteHeight) (cc := dp_bytes dp_m_X4_noteHeight) (by decide +kernel)
set_option maxRecDepth 100000 in
theorem dp_d_X4_goFromStack : dp_InsOk dp_m_X4_goFromStack := dp_ckD_ok (c := dp_c_X4_goFromStack) (cc := dp_bytes dp_m_X4_goFromStack) (by decide +kernel)
set_option maxRecDepth 100000 in
theorem dp_d_X4_goToStacks : dp_InsOk dp_m_X4_goToStacks := dp_ckD_ok (c := dp_c_X4_goToStacks) (cc := dp_bytes dp_m_X4_goToStacks) (by decide +kernel)
set_option maxRecDepth 100000 in
theorem dp_d_X4_trace : dp_InsOk dp_m_X4_trace := dp_ckD_ok (c := dp_c_X4_trace) (cc := dp_bytes dp_m_X4_trace) (by decide +kernel)
set_option maxRecDepth 100000 in
theorem dp_d_X5_init : dp_InsOk dp_m_X5_init := dp_ckD_ok (c := dp_c_X5_init) (cc := dp_bytes dp_m_X5_init) (by decide +kernel)
set_option maxRecDepth 100000 in
theorem dp_d_X5_addOrder : dp_InsOk dp_m_X5_addOrder := dp_ckD_ok (c := dp_c_X5_addOrder) (cc := dp_bytes dp_m_X5_addOrder) (by decide +kernel)
set_option maxRecDepth 100000 in
theorem dp_d_X5_isInSpan : dp_InsOk dp_m_X5_isInSpan := dp_ckD_ok (c := dp_c_X5_isInSpan) (cc := dp_bytes dp_m_X5_isInSpan) (by decide +kernel)
set_option maxRecDepth 100000 in
theorem dp_d_X5_orderOf : dp_InsOk dp_m_X5_orderOf := dp_ckD_ok (c := dp_c_X5_orderOf) (cc := dp_bytes dp_m_X5_orderOf) (by decide +kernel)
set_option maxRecDepth 100000 in
theorem dp_d_X5_addAsk : dp_InsOk dp_m_X5_addAsk := dp_ckD_ok (c := dp_c_X5_addAsk) (cc := dp_bytes dp_m_X5_addAsk) (by decide +kernel)
set_option maxRecDepth 100000 in
theorem dp_d_X5_changeAsk : dp_InsOk dp_m_X5_changeAsk := dp_ckD_ok (c := dp_c_X5_changeAsk) (cc := dp_bytes dp_m_X5_changeAsk) (by decide +kernel)
set_option maxRecDepth 100000 in
theorem dp_d_X5_runTo : dp_InsOk dp_m_X5_runTo := dp_ckD_ok (c := dp_c_X5_runTo) (cc := dp_bytes dp_m_X5_runTo) (by decide +kernel)
set_option maxRecDepth 100000 in
theorem dp_d_X5_setBlocked : dp_InsOk dp_m_X5_setBlocked := dp_ckD_ok (c := dp_c_X5_setBlocked) (cc := dp_bytes dp_m_X5_setBlocked) (by decide +kernel)
set_option maxRecDepth 100000 in
theorem dp_d_X5_wasRun : dp_InsOk dp_m_X5_wasRun := dp_ckD_ok (c := dp_c_X5_wasRun) (cc := dp_bytes dp_m_X5_wasRun) (by decide +kernel)
set_option maxRecDepth 100000 in
theorem dp_d_X5_carryOver : dp_InsOk dp_m_X5_carryOver := dp_ckD_ok (c := dp_c_X5_carryOver) (cc := dp_bytes dp_m_X5_carryOver) (by decide +kernel)
set_option maxRecDepth 100000 in
theorem dp_d_X5_balanceAt : dp_InsOk dp_m_X5_balanceAt := dp_ckD_ok (c := dp_c_X5_balanceAt) (cc := dp_bytes dp_m_X5_balanceAt) (by decide +kernel)
set_option maxRecDepth 100000 in
theorem dp_d_X5_isCritical : dp_InsOk dp_m_X5_isCritical := dp_ckD_ok (c := dp_c_X5_isCritical) (cc := dp_bytes dp_m_X5_isCritical) (by decide +kernel)
set_option maxRecDepth 100000 in
theorem dp_d_X5_blockedDays : dp_InsOk dp_m_X5_blockedDays := dp_ckD_ok (c := dp_c_X5_blockedDays) (cc := dp_bytes dp_m_X5_blockedDays) (by decide +kernel)
set_option maxRecDepth 100000 in
theorem dp_d_X5_waiting : dp_InsOk dp_m_X5_waiting := dp_ckD_ok (c := dp_c_X5_waiting) (cc := dp_bytes dp_m_X5_waiting) (by decide +kernel)
set_option maxRecDepth 100000 in
theorem dp_d_X5_follow : dp_InsOk dp_m_X5_follow := dp_ckD_ok (c := dp_c_X5_follow) (cc := dp_bytes dp_m_X5_follow) (by decide +kernel)
set_option maxRecDepth 100000 in
theorem dp_d_X5_gather : dp_InsOk dp_m_X5_gather := dp_ckD_ok (c := dp_c_X5_gather) (cc := dp_bytes dp_m_X5_gather) (by decide +kernel)
set_option maxRecDepth 100000 in
theorem dp_d_X5_isDue : dp_InsOk dp_m_X5_isDue := dp_ckD_ok (c := dp_c_X5_isDue) (cc := dp_bytes dp_m_X5_isDue) (by decide +kernel)
set_option maxRecDepth 100000 in
theorem dp_d_X5_treat : dp_InsOk dp_m_X5_treat := dp_ckD_ok (c := dp_c_X5_treat) (cc := dp_bytes dp_m_X5_treat) (by decide +kernel)
set_option maxRecDepth 100000 in
theorem dp_d_X5_handOut : dp_InsOk dp_m_X5_handOut := dp_ckD_ok (c := dp_c_X5_handOut) (cc := dp_bytes dp_m_X5_handOut) (by decide +kernel)
set_option maxRecDepth 100000 in
theorem dp_d_X6_init : dp_InsOk dp_m_X6_init := dp_ckD_ok (c := dp_c_X6_init) (cc := dp_bytes dp_m_X6_init) (by decide +kernel)
set_option maxRecDepth 100000 in
theorem dp_d_X6_fact : dp_InsOk dp_m_X6_fact := dp_ckD_ok (c := dp_c_X6_fact) (cc := dp_bytes dp_m_X6_fact) (by decide +kernel)
set_option maxRecDepth 100000 in
theorem dp_d_X6_kindOf : dp_InsOk dp_m_X6_kindOf := dp_ckD_ok (c := dp_c_X6_kindOf) (cc := dp_bytes dp_m_X6_kindOf) (by decide +kernel)
set_option maxRecDepth 100000 in
theorem dp_d_X6_stepFact : dp_InsOk dp_m_X6_stepFact := dp_ckD_ok (c := dp_c_X6_stepFact) (cc := dp_bytes dp_m_X6_stepFact) (by decide +kernel)
set_option maxRecDepth 100000 in
theorem dp_d_X6_valueAt : dp_InsOk dp_m_X6_valueAt := dp_ckD_ok (c := dp_c_X6_valueAt) (cc := dp_bytes dp_m_X6_valueAt) (by decide +kernel)
set_option maxRecDepth 100000 in
theorem dp_d_X6_joined : dp_InsOk dp_m_X6_joined := dp_ckD_ok (c := dp_c_X6_joined) (cc := dp_bytes dp_m_X6_joined) (by decide +kernel)
set_option maxRecDepth 100000 in
theorem dp_d_X6_single : dp_InsOk dp_m_X6_single := dp_ckD_ok (c := dp_c_X6_single) (cc := dp_bytes dp_m_X6_single) (by decide +kernel)
set_option maxRecDepth 100000 in
theorem dp_d_X6_stepCents : dp_InsOk dp_m_X6_stepCents := dp_ckD_ok (c := dp_c_X6_stepCents) (cc := dp_bytes dp_m_X6_stepCents) (by decide +kernel)
set_option maxRecDepth 100000 in
theorem dp_d_X7_init : dp_InsOk dp_m_X7_init := dp_ckD_ok (c := dp_c_X7_init) (cc := dp_bytes dp_m_X7_init) (by decide +kernel)
set_option maxRecDepth 100000 in
theorem dp_d_X7_addSigns : dp_InsOk dp_m_X7_addSigns := dp_ckD_ok (c := dp_c_X7_addSigns) (cc := dp_bytes dp_m_X7_addSigns) (by decide +kernel)
set_option maxRecDepth 100000 in
theorem dp_d_X7_emptyTape : dp_InsOk dp_m_X7_emptyTape := dp_ckD_ok (c := dp_c_X7_emptyTape) (cc := dp_bytes dp_m_X7_emptyTape) (by decide +kernel)
set_option maxRecDepth 100000 in
theorem dp_d_X7_readTape : dp_InsOk dp_m_X7_readTape := dp_ckD_ok (c := dp_c_X7_readTape) (cc := dp_bytes dp_m_X7_readTape) (by decide +kernel)
set_option maxRecDepth 100000 in
theorem dp_d_X7_refuse : dp_InsOk dp_m_X7_refuse := dp_ckD_ok (c := dp_c_X7_refuse) (cc := dp_bytes dp_m_X7_refuse) (by decide +kernel)
set_option maxRecDepth 100000 in
theorem dp_d_X7_signAt : dp_InsOk dp_m_X7_signAt := dp_ckD_ok (c := dp_c_X7_signAt) (cc := dp_bytes dp_m_X7_signAt) (by decide +kernel)
set_option maxRecDepth 100000 in
theorem dp_d_X7_next : dp_InsOk dp_m_X7_next := dp_ckD_ok (c := dp_c_X7_next) (cc := dp_bytes dp_m_X7_next) (by decide +kernel)
set_option maxRecDepth 100000 in
theorem dp_d_X7_pass : dp_InsOk dp_m_X7_pass := dp_ckD_ok (c := dp_c_X7_pass) (cc := dp_bytes dp_m_X7_pass) (by decide +kernel)
set_option maxRecDepth 100000 in
theorem dp_d_X7_addNode : dp_InsOk dp_m_X7_addNode := dp_ckD_ok (c := dp_c_X7_addNode) (cc := dp_bytes dp_m_X7_addNode) (by decide +kernel)
set_option maxRecDepth 100000 in
theorem dp_d_X7_setFact : dp_InsOk dp_m_X7_setFact := dp_ckD_ok (c := dp_c_X7_setFact) (cc := dp_bytes dp_m_X7_setFact) (by decide +kernel)
set_option maxRecDepth 100000 in
theorem dp_d_X7_setBelow : dp_InsOk dp_m_X7_setBelow := dp_ckD_ok (c := dp_c_X7_setBelow) (cc := dp_bytes dp_m_X7_setBelow) (by decide +kernel)
set_option maxRecDepth 100000 in
theorem dp_d_X7_readRate : dp_InsOk dp_m_X7_readRate := dp_ckD_ok (c := dp_c_X7_readRate) (cc := dp_bytes dp_m_X7_readRate) (by decide +kernel)
set_option maxRecDepth 100000 in
theorem dp_d_X7_readPart : dp_InsOk dp_m_X7_readPart := dp_ckD_ok (c := dp_c_X7_readPart) (cc := dp_bytes dp_m_X7_readPart) (by decide +kernel)
set_option maxRecDepth 100000 in
theorem dp_d_X7_readBracket : dp_InsOk dp_m_X7_readBracket := dp_ckD_ok (c := dp_c_X7_readBracket) (cc := dp_bytes dp_m_X7_readBracket) (by decide +kernel)
set_option maxRecDepth 100000 in
theorem dp_d_X7_readPair : dp_InsOk dp_m_X7_readPair := dp_ckD_ok (c := dp_c_X7_readPair) (cc := dp_bytes dp_m_X7_readPair) (by decide +kernel)
set_option maxRecDepth 100000 in
theorem dp_d_X7_isDigit : dp_InsOk dp_m_X7_isDigit := dp_ckD_ok (c := dp_c_X7_isDigit) (cc := dp_bytes dp_m_X7_isDigit) (by decide +kernel)
set_option maxRecDepth 100000 in
theorem dp_d_X7_runOfDigits : dp_InsOk dp_m_X7_runOfDigits := dp_ckD_ok (c := dp_c_X7_runOfDigits) (cc := dp_bytes dp_m_X7_runOfDigits) (by decide +kernel)
set_option maxRecDepth 100000 in
theorem dp_d_X7_runOfLetters : dp_InsOk dp_m_X7_runOfLetters := dp_ckD_ok (c := dp_c_X7_runOfLetters) (cc := dp_bytes dp_m_X7_runOfLetters) (by decide +kernel)
set_option maxRecDepth 100000 in
theorem dp_d_X7_isWord : dp_InsOk dp_m_X7_isWord := dp_ckD_ok (c := dp_c_X7_isWord) (cc := dp_bytes dp_m_X7_isWord) (by decide +kernel)
set_option maxRecDepth 100000 in
theorem dp_d_X7_digits : dp_InsOk dp_m_X7_digits := dp_ckD_ok (c := dp_c_X7_digits) (cc := dp_bytes dp_m_X7_digits) (by decide +kernel)
set_option maxRecDepth 100000 in
theorem dp_d_X7_readNumberPart : dp_InsOk dp_m_X7_readNumberPart := dp_ckD_ok (c := dp_c_X7_readNumberPart) (cc := dp_bytes dp_m_X7_readNumberPart) (by decide +kernel)
set_option maxRecDepth 100000 in
theorem dp_d_X7_readUnit : dp_InsOk dp_m_X7_readUnit := dp_ckD_ok (c := dp_c_X7_readUnit) (cc := dp_bytes dp_m_X7_readUnit) (by decide +kernel)
set_option maxRecDepth 100000 in
theorem dp_d_X7_readNumber : dp_InsOk dp_m_X7_readNumber := dp_ckD_ok (c := dp_c_X7_readNumber) (cc := dp_bytes dp_m_X7_readNumber) (by decide +kernel)
set_option maxRecDepth 100000 in
theorem dp_d_X7_readWhole : dp_InsOk dp_m_X7_readWhole := dp_ckD_ok (c := dp_c_X7_readWhole) (cc := dp_bytes dp_m_X7_readWhole) (by decide +kernel)
set_option maxRecDepth 100000 in
theorem dp_d_X7_readSteps : dp_InsOk dp_m_X7_readSteps := dp_ckD_ok (c := dp_c_X7_readSteps) (cc := dp_bytes dp_m_X7_readSteps) (by decide +kernel)
set_option maxRecDepth 100000 in
theorem dp_d_X7_readStepRows : dp_InsOk dp_m_X7_readStepRows := dp_ckD_ok (c := dp_c_X7_readStepRows) (cc := dp_bytes dp_m_X7_readStepRows) (by decide +kernel)
set_option maxRecDepth 100000 in
theorem dp_d_X7_builtFrom : dp_InsOk dp_m_X7_builtFrom := dp_ckD_ok (c := dp_c_X7_builtFrom) (cc := dp_bytes dp_m_X7_builtFrom) (by decide +kernel)
set_option maxRecDepth 100000 in
theorem dp_d_X7_numberOf : dp_InsOk dp_m_X7_numberOf := dp_ckD_ok (c := dp_c_X7_numberOf) (cc := dp_bytes dp_m_X7_numberOf) (by decide +kernel)
set_option maxRecDepth 100000 in
theorem dp_d_X7_numberFrom : dp_InsOk dp_m_X7_numberFrom := dp_ckD_ok (c := dp_c_X7_numberFrom) (cc := dp_bytes dp_m_X7_numberFrom) (by decide +kernel)
set_option maxRecDepth 100000 in
theorem dp_d_X7_push : dp_InsOk dp_m_X7_push := dp_ckD_ok (c := dp_c_X7_push) (cc := dp_bytes dp_m_X7_push) (by decide +kernel)
set_option maxRecDepth 100000 in
theorem dp_d_X7_pop : dp_InsOk dp_m_X7_pop := dp_ckD_ok (c := dp_c_X7_pop) (cc := dp_bytes dp_m_X7_pop) (by decide +kernel)
