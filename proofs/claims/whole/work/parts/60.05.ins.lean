set_option maxRecDepth 100000 in
theorem dp_d_X12_rule : dp_InsOk dp_m_X12_rule := dp_ckD_ok (c := dp_c_X12_rule) (cc := dp_bytes dp_m_X12_rule) (by decide +kernel)
set_option maxRecDepth 100000 in
theorem dp_d_X12_ruled : dp_InsOk dp_m_X12_ruled := dp_ckD_ok (c := dp_c_X12_ruled) (cc := dp_bytes dp_m_X12_ruled) (by decide +kernel)
set_option maxRecDepth 100000 in
theorem dp_d_X12_barAt : dp_InsOk dp_m_X12_barAt := dp_ckD_ok (c := dp_c_X12_barAt) (cc := dp_bytes dp_m_X12_barAt) (by decide +kernel)
set_option maxRecDepth 100000 in
theorem dp_d_X12_isReleased : dp_InsOk dp_m_X12_isReleased := dp_ckD_ok (c := dp_c_X12_isReleased) (cc := dp_bytes dp_m_X12_isReleased) (by decide +kernel)
set_option maxRecDepth 100000 in
theorem dp_d_X12_release : dp_InsOk dp_m_X12_release := dp_ckD_ok (c := dp_c_X12_release) (cc := dp_bytes dp_m_X12_release) (by decide +kernel)
set_option maxRecDepth 100000 in
theorem dp_d_X12_bars : dp_InsOk dp_m_X12_bars := dp_ckD_ok (c := dp_c_X12_bars) (cc := dp_bytes dp_m_X12_bars) (by decide +kernel)
set_option maxRecDepth 100000 in
theorem dp_d_X12_part : dp_InsOk dp_m_X12_part := dp_ckD_ok (c := dp_c_X12_part) (cc := dp_bytes dp_m_X12_part) (by decide +kernel)
set_option maxRecDepth 100000 in
theorem dp_d_X12_withdraw : dp_InsOk dp_m_X12_withdraw := dp_ckD_ok (c := dp_c_X12_withdraw) (cc := dp_bytes dp_m_X12_withdraw) (by decide +kernel)
set_option maxRecDepth 100000 in
theorem dp_d_X12_gate : dp_InsOk dp_m_X12_gate := dp_ckD_ok (c := dp_c_X12_gate) (cc := dp_bytes dp_m_X12_gate) (by decide +kernel)
set_option maxRecDepth 100000 in
theorem dp_d_X12_away : dp_InsOk dp_m_X12_away := dp_ckD_ok (c := dp_c_X12_away) (cc := dp_bytes dp_m_X12_away) (by decide +kernel)
set_option maxRecDepth 100000 in
theorem dp_d_X12_notice : dp_InsOk dp_m_X12_notice := dp_ckD_ok (c := dp_c_X12_notice) (cc := dp_bytes dp_m_X12_notice) (by decide +kernel)
set_option maxRecDepth 100000 in
theorem dp_d_X12_look : dp_InsOk dp_m_X12_look := dp_ckD_ok (c := dp_c_X12_look) (cc := dp_bytes dp_m_X12_look) (by decide +kernel)
set_option maxRecDepth 100000 in
theorem dp_d_X12_isGroup : dp_InsOk dp_m_X12_isGroup := dp_ckD_ok (c := dp_c_X12_isGroup) (cc := dp_bytes dp_m_X12_isGroup) (by decide +kernel)
set_option maxRecDepth 100000 in
theorem dp_d_X12_isLand : dp_InsOk dp_m_X12_isLand := dp_ckD_ok (c := dp_c_X12_isLand) (cc := dp_bytes dp_m_X12_isLand) (by decide +kernel)
set_option maxRecDepth 100000 in
theorem dp_d_X12_isDay : dp_InsOk dp_m_X12_isDay := dp_ckD_ok (c := dp_c_X12_isDay) (cc := dp_bytes dp_m_X12_isDay) (by decide +kernel)
set_option maxRecDepth 100000 in
theorem dp_d_X12_digitsOf : dp_InsOk dp_m_X12_digitsOf := dp_ckD_ok (c := dp_c_X12_digitsOf) (cc := dp_bytes dp_m_X12_digitsOf) (by decide +kernel)
set_option maxRecDepth 100000 in
theorem dp_d_X12_bits : dp_InsOk dp_m_X12_bits := dp_ckD_ok (c := dp_c_X12_bits) (cc := dp_bytes dp_m_X12_bits) (by decide +kernel)
set_option maxRecDepth 100000 in
theorem dp_d_X12_allIn : dp_InsOk dp_m_X12_allIn := dp_ckD_ok (c := dp_c_X12_allIn) (cc := dp_bytes dp_m_X12_allIn) (by decide +kernel)
set_option maxRecDepth 100000 in
theorem dp_d_X12_isIn : dp_InsOk dp_m_X12_isIn := dp_ckD_ok (c := dp_c_X12_isIn) (cc := dp_bytes dp_m_X12_isIn) (by decide +kernel)
set_option maxRecDepth 100000 in
theorem dp_d_X12_member : dp_InsOk dp_m_X12_member := dp_ckD_ok (c := dp_c_X12_member) (cc := dp_bytes dp_m_X12_member) (by decide +kernel)
set_option maxRecDepth 100000 in
theorem dp_d_X12_isMeasure : dp_InsOk dp_m_X12_isMeasure := dp_ckD_ok (c := dp_c_X12_isMeasure) (cc := dp_bytes dp_m_X12_isMeasure) (by decide +kernel)
set_option maxRecDepth 100000 in
theorem dp_d_X12_lastOf : dp_InsOk dp_m_X12_lastOf := dp_ckD_ok (c := dp_c_X12_lastOf) (cc := dp_bytes dp_m_X12_lastOf) (by decide +kernel)
set_option maxRecDepth 100000 in
theorem dp_d_X12_row : dp_InsOk dp_m_X12_row := dp_ckD_ok (c := dp_c_X12_row) (cc := dp_bytes dp_m_X12_row) (by decide +kernel)
set_option maxRecDepth 100000 in
theorem dp_d_X12_exclude : dp_InsOk dp_m_X12_exclude := dp_ckD_ok (c := dp_c_X12_exclude) (cc := dp_bytes dp_m_X12_exclude) (by decide +kernel)
set_option maxRecDepth 100000 in
theorem dp_d_X12_condition : dp_InsOk dp_m_X12_condition := dp_ckD_ok (c := dp_c_X12_condition) (cc := dp_bytes dp_m_X12_condition) (by decide +kernel)
set_option maxRecDepth 100000 in
theorem dp_d_X12_end : dp_InsOk dp_m_X12_end := dp_ckD_ok (c := dp_c_X12_end) (cc := dp_bytes dp_m_X12_end) (by decide +kernel)
set_option maxRecDepth 100000 in
theorem dp_d_X12_papers : dp_InsOk dp_m_X12_papers := dp_ckD_ok (c := dp_c_X12_papers) (cc := dp_bytes dp_m_X12_papers) (by decide +kernel)
set_option maxRecDepth 100000 in
theorem dp_d_X12_isUnder : dp_InsOk dp_m_X12_isUnder := dp_ckD_ok (c := dp_c_X12_isUnder) (cc := dp_bytes dp_m_X12_isUnder) (by decide +kernel)
set_option maxRecDepth 100000 in
theorem dp_d_X12_isOf : dp_InsOk dp_m_X12_isOf := dp_ckD_ok (c := dp_c_X12_isOf) (cc := dp_bytes dp_m_X12_isOf) (by decide +kernel)
set_option maxRecDepth 100000 in
theorem dp_d_X12_beats : dp_InsOk dp_m_X12_beats := dp_ckD_ok (c := dp_c_X12_beats) (cc := dp_bytes dp_m_X12_beats) (by decide +kernel)
set_option maxRecDepth 100000 in
theorem dp_d_X12_finds : dp_InsOk dp_m_X12_finds := dp_ckD_ok (c := dp_c_X12_finds) (cc := dp_bytes dp_m_X12_finds) (by decide +kernel)
set_option maxRecDepth 100000 in
theorem dp_d_X12_isSix : dp_InsOk dp_m_X12_isSix := dp_ckD_ok (c := dp_c_X12_isSix) (cc := dp_bytes dp_m_X12_isSix) (by decide +kernel)
set_option maxRecDepth 100000 in
theorem dp_d_X12_apply : dp_InsOk dp_m_X12_apply := dp_ckD_ok (c := dp_c_X12_apply) (cc := dp_bytes dp_m_X12_apply) (by decide +kernel)
set_option maxRecDepth 100000 in
theorem dp_d_X12_listed : dp_InsOk dp_m_X12_listed := dp_ckD_ok (c := dp_c_X12_listed) (cc := dp_bytes dp_m_X12_listed) (by decide +kernel)
set_option maxRecDepth 100000 in
theorem dp_d_X12_type : dp_InsOk dp_m_X12_type := dp_ckD_ok (c := dp_c_X12_type) (cc := dp_bytes dp_m_X12_type) (by decide +kernel)
set_option maxRecDepth 100000 in
theorem dp_d_X12_nextSign : dp_InsOk dp_m_X12_nextSign := dp_ckD_ok (c := dp_c_X12_nextSign) (cc := dp_bytes dp_m_X12_nextSign) (by decide +kernel)
set_option maxRecDepth 100000 in
theorem dp_d_X12_stops : dp_InsOk dp_m_X12_stops := dp_ckD_ok (c := dp_c_X12_stops) (cc := dp_bytes dp_m_X12_stops) (by decide +kernel)
set_option maxRecDepth 100000 in
theorem dp_d_X12_takes : dp_InsOk dp_m_X12_takes := dp_ckD_ok (c := dp_c_X12_takes) (cc := dp_bytes dp_m_X12_takes) (by decide +kernel)
set_option maxRecDepth 100000 in
theorem dp_d_X12_isDigit : dp_InsOk dp_m_X12_isDigit := dp_ckD_ok (c := dp_c_X12_isDigit) (cc := dp_bytes dp_m_X12_isDigit) (by decide +kernel)
set_option maxRecDepth 100000 in
theorem dp_d_X12_isSmall : dp_InsOk dp_m_X12_isSmall := dp_ckD_ok (c := dp_c_X12_isSmall) (cc := dp_bytes dp_m_X12_isSmall) (by decide +kernel)
set_option maxRecDepth 100000 in
theorem dp_d_X12_digitsFrom : dp_InsOk dp_m_X12_digitsFrom := dp_ckD_ok (c := dp_c_X12_digitsFrom) (cc := dp_bytes dp_m_X12_digitsFrom) (by decide +kernel)
set_option maxRecDepth 100000 in
theorem dp_d_X12_valueOf : dp_InsOk dp_m_X12_valueOf := dp_ckD_ok (c := dp_c_X12_valueOf) (cc := dp_bytes dp_m_X12_valueOf) (by decide +kernel)
set_option maxRecDepth 100000 in
theorem dp_d_X12_takesWhole : dp_InsOk dp_m_X12_takesWhole := dp_ckD_ok (c := dp_c_X12_takesWhole) (cc := dp_bytes dp_m_X12_takesWhole) (by decide +kernel)
set_option maxRecDepth 100000 in
theorem dp_d_X12_takesNumber : dp_InsOk dp_m_X12_takesNumber := dp_ckD_ok (c := dp_c_X12_takesNumber) (cc := dp_bytes dp_m_X12_takesNumber) (by decide +kernel)
set_option maxRecDepth 100000 in
theorem dp_d_X12_counts : dp_InsOk dp_m_X12_counts := dp_ckD_ok (c := dp_c_X12_counts) (cc := dp_bytes dp_m_X12_counts) (by decide +kernel)
set_option maxRecDepth 100000 in
theorem dp_d_X12_makes : dp_InsOk dp_m_X12_makes := dp_ckD_ok (c := dp_c_X12_makes) (cc := dp_bytes dp_m_X12_makes) (by decide +kernel)
set_option maxRecDepth 100000 in
theorem dp_d_X12_takesShare : dp_InsOk dp_m_X12_takesShare := dp_ckD_ok (c := dp_c_X12_takesShare) (cc := dp_bytes dp_m_X12_takesShare) (by decide +kernel)
set_option maxRecDepth 100000 in
theorem dp_d_X12_takesStep : dp_InsOk dp_m_X12_takesStep := dp_ckD_ok (c := dp_c_X12_takesStep) (cc := dp_bytes dp_m_X12_takesStep) (by decide +kernel)
set_option maxRecDepth 100000 in
theorem dp_d_X12_takesSteps : dp_InsOk dp_m_X12_takesSteps := dp_ckD_ok (c := dp_c_X12_takesSteps) (cc := dp_bytes dp_m_X12_takesSteps) (by decide +kernel)
set_option maxRecDepth 100000 in
theorem dp_d_X12_opens : dp_InsOk dp_m_X12_opens := dp_ckD_ok (c := dp_c_X12_opens) (cc := dp_bytes dp_m_X12_opens) (by decide +kernel)
set_option maxRecDepth 100000 in
theorem dp_d_X12_isWord : dp_InsOk dp_m_X12_isWord := dp_ckD_ok (c := dp_c_X12_isWord) (cc := dp_bytes dp_m_X12_isWord) (by decide +kernel)
set_option maxRecDepth 100000 in
theorem dp_d_X12_takesWord : dp_InsOk dp_m_X12_takesWord := dp_ckD_ok (c := dp_c_X12_takesWord) (cc := dp_bytes dp_m_X12_takesWord) (by decide +kernel)
set_option maxRecDepth 100000 in
theorem dp_d_X12_takesPart : dp_InsOk dp_m_X12_takesPart := dp_ckD_ok (c := dp_c_X12_takesPart) (cc := dp_bytes dp_m_X12_takesPart) (by decide +kernel)
set_option maxRecDepth 100000 in
theorem dp_d_X12_joins : dp_InsOk dp_m_X12_joins := dp_ckD_ok (c := dp_c_X12_joins) (cc := dp_bytes dp_m_X12_joins) (by decide +kernel)
set_option maxRecDepth 100000 in
theorem dp_d_X12_takesBehind : dp_InsOk dp_m_X12_takesBehind := dp_ckD_ok (c := dp_c_X12_takesBehind) (cc := dp_bytes dp_m_X12_takesBehind) (by decide +kernel)
set_option maxRecDepth 100000 in
theorem dp_d_X12_numbers : dp_InsOk dp_m_X12_numbers := dp_ckD_ok (c := dp_c_X12_numbers) (cc := dp_bytes dp_m_X12_numbers) (by decide +kernel)
set_option maxRecDepth 100000 in
theorem dp_d_X12_readsText : dp_InsOk dp_m_X12_readsText := dp_ckD_ok (c := dp_c_X12_readsText) (cc := dp_bytes dp_m_X12_readsText) (by decide +kernel)
set_option maxRecDepth 100000 in
theorem dp_d_X12_rate : dp_InsOk dp_m_X12_rate := dp_ckD_ok (c := dp_c_X12_rate) (cc := dp_bytes dp_m_X12_rate) (by decide +kernel)
set_option maxRecDepth 100000 in
theorem dp_d_X12_readsRate : dp_InsOk dp_m_X12_readsRate := dp_ckD_ok (c := dp_c_X12_readsRate) (cc := dp_bytes dp_m_X12_readsRate) (by decide +kernel)
set_option maxRecDepth 100000 in
theorem dp_d_X12_node : dp_InsOk dp_m_X12_node := dp_ckD_ok (c := dp_c_X12_node) (cc := dp_bytes dp_m_X12_node) (by decide +kernel)
set_option maxRecDepth 100000 in
theorem dp_d_X12_stepOf : dp_InsOk dp_m_X12_stepOf := dp_ckD_ok (c := dp_c_X12_stepOf) (cc := dp_bytes dp_m_X12_stepOf) (by decide +kernel)
