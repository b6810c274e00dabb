theorem dp_cm_X0_init : dp_cw dp_m_X0_init ∈ dp_T := dp_in_ok (q := 937) rfl rfl
theorem dp_cm_X0_get : dp_cw dp_m_X0_get ∈ dp_T := dp_in_ok (q := 1370) rfl rfl
theorem dp_cm_X0_small : dp_cw dp_m_X0_small ∈ dp_T := dp_in_ok (q := 1366) rfl rfl
theorem dp_cm_X0_set : dp_cw dp_m_X0_set ∈ dp_T := dp_in_ok (q := 1379) rfl rfl
theorem dp_cm_X0_add : dp_cw dp_m_X0_add ∈ dp_T := dp_in_ok (q := 2889) rfl rfl
theorem dp_cm_X0_stateOf : dp_cw dp_m_X0_stateOf ∈ dp_T := dp_in_ok (q := 1362) rfl rfl
theorem dp_cm_X0_dutyOf : dp_cw dp_m_X0_dutyOf ∈ dp_T := dp_in_ok (q := 3008) rfl rfl
theorem dp_cm_X0_inState : dp_cw dp_m_X0_inState ∈ dp_T := dp_in_ok (q := 1439) rfl rfl
theorem dp_cm_X0_fact : dp_cw dp_m_X0_fact ∈ dp_T := dp_in_ok (q := 3112) rfl rfl
theorem dp_cm_X0_factOfAsk : dp_cw dp_m_X0_factOfAsk ∈ dp_T := dp_in_ok (q := 3116) rfl rfl
theorem dp_cm_X0_setAmount : dp_cw dp_m_X0_setAmount ∈ dp_T := dp_in_ok (q := 1375) rfl rfl
theorem dp_cm_X0_addAsk : dp_cw dp_m_X0_addAsk ∈ dp_T := dp_in_ok (q := 2904) rfl rfl
theorem dp_cm_X0_valueWithOne : dp_cw dp_m_X0_valueWithOne ∈ dp_T := dp_in_ok (q := 2481) rfl rfl
theorem dp_cm_X0_reckon : dp_cw dp_m_X0_reckon ∈ dp_T := dp_in_ok (q := 2934) rfl rfl
theorem dp_cm_X0_baseOf : dp_cw dp_m_X0_baseOf ∈ dp_T := dp_in_ok (q := 2939) rfl rfl
theorem dp_cm_X0_lacksAmount : dp_cw dp_m_X0_lacksAmount ∈ dp_T := dp_in_ok (q := 2943) rfl rfl
theorem dp_cm_X0_centsOf : dp_cw dp_m_X0_centsOf ∈ dp_T := dp_in_ok (q := 2947) rfl rfl
theorem dp_cm_X0_onBase : dp_cw dp_m_X0_onBase ∈ dp_T := dp_in_ok (q := 2952) rfl rfl
theorem dp_cm_X0_secure : dp_cw dp_m_X0_secure ∈ dp_T := dp_in_ok (q := 2967) rfl rfl
theorem dp_cm_X0_book : dp_cw dp_m_X0_book ∈ dp_T := dp_in_ok (q := 3032) rfl rfl
theorem dp_cm_X0_settle : dp_cw dp_m_X0_settle ∈ dp_T := dp_in_ok (q := 3013) rfl rfl
theorem dp_cm_X0_claimEntries : dp_cw dp_m_X0_claimEntries ∈ dp_T := dp_in_ok (q := 3046) rfl rfl
theorem dp_cm_X0_callIn : dp_cw dp_m_X0_callIn ∈ dp_T := dp_in_ok (q := 3054) rfl rfl
theorem dp_cm_X0_setRight : dp_cw dp_m_X0_setRight ∈ dp_T := dp_in_ok (q := 3082) rfl rfl
theorem dp_cm_X0_giveUp : dp_cw dp_m_X0_giveUp ∈ dp_T := dp_in_ok (q := 3094) rfl rfl
theorem dp_cm_X1_init : dp_cw dp_m_X1_init ∈ dp_T := dp_in_ok (q := 540) rfl rfl
theorem dp_cm_X1_kilograms : dp_cw dp_m_X1_kilograms ∈ dp_T := dp_in_ok (q := 1881) rfl rfl
theorem dp_cm_X1_roomIn : dp_cw dp_m_X1_roomIn ∈ dp_T := dp_in_ok (q := 1877) rfl rfl
theorem dp_cm_X1_addGoods : dp_cw dp_m_X1_addGoods ∈ dp_T := dp_in_ok (q := 1887) rfl rfl
theorem dp_cm_X1_setFree : dp_cw dp_m_X1_setFree ∈ dp_T := dp_in_ok (q := 2997) rfl rfl
theorem dp_cm_X1_isBehind : dp_cw dp_m_X1_isBehind ∈ dp_T := dp_in_ok (q := 3098) rfl rfl
theorem dp_cm_X1_cell : dp_cw dp_m_X1_cell ∈ dp_T := dp_in_ok (q := 1906) rfl rfl
theorem dp_cg0 : ∀ mi ∈ dp_g0, dp_cw mi ∈ dp_T := List.forall_mem_cons.mpr ⟨dp_cm_X0_init, List.forall_mem_cons.mpr ⟨dp_cm_X0_get, List.forall_mem_cons.mpr ⟨dp_cm_X0_small, List.forall_mem_cons.mpr ⟨dp_cm_X0_set, List.forall_mem_cons.mpr ⟨dp_cm_X0_add, List.forall_mem_cons.mpr ⟨dp_cm_X0_stateOf, List.forall_mem_cons.mpr ⟨dp_cm_X0_dutyOf, List.forall_mem_cons.mpr ⟨dp_cm_X0_inState, List.forall_mem_cons.mpr ⟨dp_cm_X0_fact, List.forall_mem_cons.mpr ⟨dp_cm_X0_factOfAsk, List.forall_mem_cons.mpr ⟨dp_cm_X0_setAmount, List.forall_mem_cons.mpr ⟨dp_cm_X0_addAsk, List.forall_mem_cons.mpr ⟨dp_cm_X0_valueWithOne, List.forall_mem_cons.mpr ⟨dp_cm_X0_reckon, List.forall_mem_cons.mpr ⟨dp_cm_X0_baseOf, List.forall_mem_cons.mpr ⟨dp_cm_X0_lacksAmount, List.forall_mem_cons.mpr ⟨dp_cm_X0_centsOf, List.forall_mem_cons.mpr ⟨dp_cm_X0_onBase, List.forall_mem_cons.mpr ⟨dp_cm_X0_secure, List.forall_mem_cons.mpr ⟨dp_cm_X0_book, List.forall_mem_cons.mpr ⟨dp_cm_X0_settle, List.forall_mem_cons.mpr ⟨dp_cm_X0_claimEntries, List.forall_mem_cons.mpr ⟨dp_cm_X0_callIn, List.forall_mem_cons.mpr ⟨dp_cm_X0_setRight, List.forall_mem_cons.mpr ⟨dp_cm_X0_giveUp, List.forall_mem_cons.mpr ⟨dp_cm_X1_init, List.forall_mem_cons.mpr ⟨dp_cm_X1_kilograms, List.forall_mem_cons.mpr ⟨dp_cm_X1_roomIn, List.forall_mem_cons.mpr ⟨dp_cm_X1_addGoods, List.forall_mem_cons.mpr ⟨dp_cm_X1_setFree, List.forall_mem_cons.mpr ⟨dp_cm_X1_isBehind, List.forall_mem_cons.mpr ⟨dp_cm_X1_cell, fun _ h => absurd h List.not_mem_nil⟩⟩⟩⟩⟩⟩⟩⟩⟩⟩⟩⟩⟩⟩⟩⟩⟩⟩⟩⟩⟩⟩⟩⟩⟩⟩⟩⟩⟩⟩⟩⟩
def dp_q0 : List (Nat × Nat × Nat × Nat) := [(937, 269, 936, 0), (1370, 269, 1369, 23), (1366, 269, 1365, 22), (1379, 269, 1378, 24), (2889, 269, 2887, 2888), (1362, 269, 1360, 1361), (3008, 269, 3006, 3007), (1439, 269, 1437, 1438), (3112, 269, 3110, 3111), (3116, 269, 3115, 134), (1375, 269, 1373, 1374), (2904, 269, 2902, 2903), (2481, 269, 2479, 2480), (2934, 269, 2932, 2933), (2939, 269, 2938, 122), (2943, 269, 2942, 123), (2947, 269, 2946, 124), (2952, 269, 2951, 125), (2967, 269, 2965, 2966), (3032, 269, 3031, 133), (3013, 269, 3011, 3012), (3046, 269, 3044, 3045), (3054, 269, 3052, 3053), (3082, 269, 3080, 3081), (3094, 269, 3092, 3093), (540, 263, 539, 0), (1881, 263, 1880, 52), (1877, 263, 1875, 1876), (1887, 263, 1885, 1886), (2997, 263, 2995, 2996), (3098, 263, 3096, 3097), (1906, 263, 1905, 0)]
set_option maxRecDepth 100000 in
theorem dp_kg0 : (dp_g0.zip dp_q0).all (fun q => dp_ckM q.1 q.2) = true := by decide +kernel
theorem dp_cm_X1_addBar : dp_cw dp_m_X1_addBar ∈ dp_T := dp_in_ok (q := 1903) rfl rfl
theorem dp_cm_X1_takeBar : dp_cw dp_m_X1_takeBar ∈ dp_T := dp_in_ok (q := 1922) rfl rfl
theorem dp_cm_X1_ownBars : dp_cw dp_m_X1_ownBars ∈ dp_T := dp_in_ok (q := 1962) rfl rfl
theorem dp_cm_X1_unite : dp_cw dp_m_X1_unite ∈ dp_T := dp_in_ok (q := 1934) rfl rfl
theorem dp_cm_X1_groupSize : dp_cw dp_m_X1_groupSize ∈ dp_T := dp_in_ok (q := 2048) rfl rfl
theorem dp_cm_X1_ownBar : dp_cw dp_m_X1_ownBar ∈ dp_T := dp_in_ok (q := 1958) rfl rfl
theorem dp_cm_X1_verdict : dp_cw dp_m_X1_verdict ∈ dp_T := dp_in_ok (q := 1954) rfl rfl
theorem dp_cm_X1_askRelease : dp_cw dp_m_X1_askRelease ∈ dp_T := dp_in_ok (q := 1946) rfl rfl
theorem dp_cm_X1_askRules : dp_cw dp_m_X1_askRules ∈ dp_T := dp_in_ok (q := 1950) rfl rfl
theorem dp_cm_X1_barOfGroup : dp_cw dp_m_X1_barOfGroup ∈ dp_T := dp_in_ok (q := 1973) rfl rfl
theorem dp_cm_X1_barsOf : dp_cw dp_m_X1_barsOf ∈ dp_T := dp_in_ok (q := 1977) rfl rfl
theorem dp_cm_X1_barOf : dp_cw dp_m_X1_barOf ∈ dp_T := dp_in_ok (q := 1981) rfl rfl
theorem dp_cm_X1_barIn : dp_cw dp_m_X1_barIn ∈ dp_T := dp_in_ok (q := 1985) rfl rfl
theorem dp_cm_X1_releasePart : dp_cw dp_m_X1_releasePart ∈ dp_T := dp_in_ok (q := 1997) rfl rfl
theorem dp_cm_X1_takeBackRelease : dp_cw dp_m_X1_takeBackRelease ∈ dp_T := dp_in_ok (q := 2009) rfl rfl
theorem dp_cm_X1_mayLeave : dp_cw dp_m_X1_mayLeave ∈ dp_T := dp_in_ok (q := 1111) rfl rfl
theorem dp_cm_X1_letOut : dp_cw dp_m_X1_letOut ∈ dp_T := dp_in_ok (q := 2020) rfl rfl
theorem dp_cm_X1_bond : dp_cw dp_m_X1_bond ∈ dp_T := dp_in_ok (q := 1107) rfl rfl
theorem dp_cm_X1_tell : dp_cw dp_m_X1_tell ∈ dp_T := dp_in_ok (q := 1910) rfl rfl
theorem dp_cm_X1_keptNotice : dp_cw dp_m_X1_keptNotice ∈ dp_T := dp_in_ok (q := 1123) rfl rfl
theorem dp_cm_X2_init : dp_cw dp_m_X2_init ∈ dp_T := dp_in_ok (q := 306) rfl rfl
theorem dp_cm_X2_isHere : dp_cw dp_m_X2_isHere ∈ dp_T := dp_in_ok (q := 1115) rfl rfl
theorem dp_cm_X2_isLeaving : dp_cw dp_m_X2_isLeaving ∈ dp_T := dp_in_ok (q := 1038) rfl rfl
theorem dp_cm_X2_countIn : dp_cw dp_m_X2_countIn ∈ dp_T := dp_in_ok (q := 1392) rfl rfl
theorem dp_cm_X2_countStaying : dp_cw dp_m_X2_countStaying ∈ dp_T := dp_in_ok (q := 1416) rfl rfl
theorem dp_cm_X2_lyingIn : dp_cw dp_m_X2_lyingIn ∈ dp_T := dp_in_ok (q := 1565) rfl rfl
theorem dp_cm_X2_heightOf : dp_cw dp_m_X2_heightOf ∈ dp_T := dp_in_ok (q := 1569) rfl rfl
theorem dp_cm_X2_add : dp_cw dp_m_X2_add ∈ dp_T := dp_in_ok (q := 1589) rfl rfl
theorem dp_cm_X2_isNeeded : dp_cw dp_m_X2_isNeeded ∈ dp_T := dp_in_ok (q := 1042) rfl rfl
theorem dp_cm_X2_addNeed : dp_cw dp_m_X2_addNeed ∈ dp_T := dp_in_ok (q := 1034) rfl rfl
theorem dp_cm_X2_isAheadOf : dp_cw dp_m_X2_isAheadOf ∈ dp_T := dp_in_ok (q := 1046) rfl rfl
theorem dp_cm_X2_behind : dp_cw dp_m_X2_behind ∈ dp_T := dp_in_ok (q := 1058) rfl rfl
theorem dp_cg1 : ∀ mi ∈ dp_g1, dp_cw mi ∈ dp_T := List.forall_mem_cons.mpr ⟨dp_cm_X1_addBar, List.forall_mem_cons.mpr ⟨dp_cm_X1_takeBar, List.forall_mem_cons.mpr ⟨dp_cm_X1_ownBars, List.forall_mem_cons.mpr ⟨dp_cm_X1_unite, List.forall_mem_cons.mpr ⟨dp_cm_X1_groupSize, List.forall_mem_cons.mpr ⟨dp_cm_X1_ownBar, List.forall_mem_cons.mpr ⟨dp_cm_X1_verdict, List.forall_mem_cons.mpr ⟨dp_cm_X1_askRelease, List.forall_mem_cons.mpr ⟨dp_cm_X1_askRules, List.forall_mem_cons.mpr ⟨dp_cm_X1_barOfGroup, List.forall_mem_cons.mpr ⟨dp_cm_X1_barsOf, List.forall_mem_cons.mpr ⟨dp_cm_X1_barOf, List.forall_mem_cons.mpr ⟨dp_cm_X1_barIn, List.forall_mem_cons.mpr ⟨dp_cm_X1_releasePart, List.forall_mem_cons.mpr ⟨dp_cm_X1_takeBackRelease, List.forall_mem_cons.mpr ⟨dp_cm_X1_mayLeave, List.forall_mem_cons.mpr ⟨dp_cm_X1_letOut, List.forall_mem_cons.mpr ⟨dp_cm_X1_bond, List.forall_mem_cons.mpr ⟨dp_cm_X1_tell, List.forall_mem_cons.mpr ⟨dp_cm_X1_keptNotice, List.forall_mem_cons.mpr ⟨dp_cm_X2_init, List.forall_mem_cons.mpr ⟨dp_cm_X2_isHere, List.forall_mem_cons.mpr ⟨dp_cm_X2_isLeaving, List.forall_mem_cons.mpr ⟨dp_cm_X2_countIn, List.forall_mem_cons.mpr ⟨dp_cm_X2_countStaying, List.forall_mem_cons.mpr ⟨dp_cm_X2_lyingIn, List.forall_mem_cons.mpr ⟨dp_cm_X2_heightOf, List.forall_mem_cons.mpr ⟨dp_cm_X2_add, List.forall_mem_cons.mpr ⟨dp_cm_X2_isNeeded, List.forall_mem_cons.mpr ⟨dp_cm_X2_addNeed, List.forall_mem_cons.mpr ⟨dp_cm_X2_isAheadOf, List.forall_mem_cons.mpr ⟨dp_cm_X2_behind, fun _ h => absurd h List.not_mem_nil⟩⟩⟩⟩⟩⟩⟩⟩⟩⟩⟩⟩⟩⟩⟩⟩⟩⟩⟩⟩⟩⟩⟩⟩⟩⟩⟩⟩⟩⟩⟩⟩
def dp_q1 : List (Nat × Nat × Nat × Nat) := [(1903, 263, 1901, 1902), (1922, 263, 1920, 1921), (1962, 263, 1960, 1961), (1934, 263, 1932, 1933), (2048, 263, 2030, 2031), (1958, 263, 1957, 57), (1954, 263, 1953, 56), (1946, 263, 1944, 1945), (1950, 263, 1949, 55), (1973, 263, 1971, 1972), (1977, 263, 1976, 58), (1981, 263, 1980, 59), (1985, 263, 1984, 60), (1997, 263, 1995, 1996), (2009, 263, 2007, 2008), (1111, 263, 1110, 9), (2020, 263, 2018, 2019), (1107, 263, 1105, 1106), (1910, 263, 1909, 54), (1123, 263, 1121, 1122), (306, 258, 305, 0), (1115, 258, 1113, 1114), (1038, 258, 1037, 1), (1392, 258, 1390, 1391), (1416, 258, 1414, 1415), (1565, 258, 1563, 1564), (1569, 258, 1567, 1568), (1589, 258, 1587, 1588), (1042, 258, 1041, 2), (1034, 258, 1032, 1033), (1046, 258, 1045, 3), (1058, 258, 1057, 6)]
set_option maxRecDepth 100000 in
theorem dp_kg1 : (dp_g1.zip dp_q1).all (fun q => dp_ckM q.1 q.2) = true := by decide +kernel
theorem dp_cm_X2_ahead : dp_cw dp_m_X2_ahead ∈ dp_T := dp_in_ok (q := 1609) rfl rfl
theorem dp_cm_X2_gather : dp_cw dp_m_X2_gather ∈ dp_T := dp_in_ok (q := 1050) rfl rfl
theorem dp_cm_X2_indexOf : dp_cw dp_m_X2_indexOf ∈ dp_T := dp_in_ok (q := 1054) rfl rfl
theorem dp_cm_X2_makePlan : dp_cw dp_m_X2_makePlan ∈ dp_T := dp_in_ok (q := 1602) rfl rfl
theorem dp_cm_X2_plannedMove : dp_cw dp_m_X2_plannedMove ∈ dp_T := dp_in_ok (q := 1679) rfl rfl
theorem dp_cm_X2_movesLeft : dp_cw dp_m_X2_movesLeft ∈ dp_T := dp_in_ok (q := 1452) rfl rfl
theorem dp_cm_X2_workNext : dp_cw dp_m_X2_workNext ∈ dp_T := dp_in_ok (q := 1714) rfl rfl
theorem dp_cm_X2_boundOf : dp_cw dp_m_X2_boundOf ∈ dp_T := dp_in_ok (q := 1730) rfl rfl
theorem dp_cm_X2_liesAboveLeaving : dp_cw dp_m_X2_liesAboveLeaving ∈ dp_T := dp_in_ok (q := 1734) rfl rfl
theorem dp_cm_X2_hasNeeds : dp_cw dp_m_X2_hasNeeds ∈ dp_T := dp_in_ok (q := 1753) rfl rfl
theorem dp_cm_X2_isInStack : dp_cw dp_m_X2_isInStack ∈ dp_T := dp_in_ok (q := 1749) rfl rfl
theorem dp_cm_X2_exchange : dp_cw dp_m_X2_exchange ∈ dp_T := dp_in_ok (q := 1745) rfl rfl
theorem dp_cm_X2_change : dp_cw dp_m_X2_change ∈ dp_T := dp_in_ok (q := 1756) rfl rfl
theorem dp_cm_X3_init : dp_cw dp_m_X3_init ∈ dp_T := dp_in_ok (q := 870) rfl rfl
theorem dp_cm_X3_fact : dp_cw dp_m_X3_fact ∈ dp_T := dp_in_ok (q := 1301) rfl rfl
theorem dp_cm_X3_set : dp_cw dp_m_X3_set ∈ dp_T := dp_in_ok (q := 1319) rfl rfl
theorem dp_cm_X3_stateOf : dp_cw dp_m_X3_stateOf ∈ dp_T := dp_in_ok (q := 1297) rfl rfl
theorem dp_cm_X3_entriesOf : dp_cw dp_m_X3_entriesOf ∈ dp_T := dp_in_ok (q := 1315) rfl rfl
theorem dp_cm_X3_begin : dp_cw dp_m_X3_begin ∈ dp_T := dp_in_ok (q := 2711) rfl rfl
theorem dp_cm_X3_addEntry : dp_cw dp_m_X3_addEntry ∈ dp_T := dp_in_ok (q := 1311) rfl rfl
theorem dp_cm_X3_setFailing : dp_cw dp_m_X3_setFailing ∈ dp_T := dp_in_ok (q := 1327) rfl rfl
theorem dp_cm_X3_isTooEarly : dp_cw dp_m_X3_isTooEarly ∈ dp_T := dp_in_ok (q := 2735) rfl rfl
theorem dp_cm_X3_hasRoom : dp_cw dp_m_X3_hasRoom ∈ dp_T := dp_in_ok (q := 2739) rfl rfl
theorem dp_cm_X3_wouldTake : dp_cw dp_m_X3_wouldTake ∈ dp_T := dp_in_ok (q := 2776) rfl rfl
theorem dp_cm_X3_sumOf : dp_cw dp_m_X3_sumOf ∈ dp_T := dp_in_ok (q := 2731) rfl rfl
theorem dp_cm_X3_wrongWith : dp_cw dp_m_X3_wrongWith ∈ dp_T := dp_in_ok (q := 2727) rfl rfl
theorem dp_cm_X3_voidIfWrong : dp_cw dp_m_X3_voidIfWrong ∈ dp_T := dp_in_ok (q := 2723) rfl rfl
theorem dp_cm_X3_greatestAccount : dp_cw dp_m_X3_greatestAccount ∈ dp_T := dp_in_ok (q := 2743) rfl rfl
theorem dp_cm_X3_failIfTold : dp_cw dp_m_X3_failIfTold ∈ dp_T := dp_in_ok (q := 2754) rfl rfl
theorem dp_cm_X3_enter : dp_cw dp_m_X3_enter ∈ dp_T := dp_in_ok (q := 2759) rfl rfl
theorem dp_cm_X3_mayBeReversed : dp_cw dp_m_X3_mayBeReversed ∈ dp_T := dp_in_ok (q := 2771) rfl rfl
theorem dp_cm_X3_turn : dp_cw dp_m_X3_turn ∈ dp_T := dp_in_ok (q := 2781) rfl rfl
theorem dp_cg2 : ∀ mi ∈ dp_g2, dp_cw mi ∈ dp_T := List.forall_mem_cons.mpr ⟨dp_cm_X2_ahead, List.forall_mem_cons.mpr ⟨dp_cm_X2_gather, List.forall_mem_cons.mpr ⟨dp_cm_X2_indexOf, List.forall_mem_cons.mpr ⟨dp_cm_X2_makePlan, List.forall_mem_cons.mpr ⟨dp_cm_X2_plannedMove, List.forall_mem_cons.mpr ⟨dp_cm_X2_movesLeft, List.forall_mem_cons.mpr ⟨dp_cm_X2_workNext, List.forall_mem_cons.mpr ⟨dp_cm_X2_boundOf, List.forall_mem_cons.mpr ⟨dp_cm_X2_liesAboveLeaving, List.forall_mem_cons.mpr ⟨dp_cm_X2_hasNeeds, List.forall_mem_cons.mpr ⟨dp_cm_X2_isInStack, List.forall_mem_cons.mpr ⟨dp_cm_X2_exchange, List.forall_mem_cons.mpr ⟨dp_cm_X2_change, List.forall_mem_cons.mpr ⟨dp_cm_X3_init, List.forall_mem_cons.mpr ⟨dp_cm_X3_fact, List.forall_mem_cons.mpr ⟨dp_cm_X3_set, List.forall_mem_cons.mpr ⟨dp_cm_X3_stateOf, List.forall_mem_cons.mpr ⟨dp_cm_X3_entriesOf, List.forall_mem_cons.mpr ⟨dp_cm_X3_begin, List.forall_mem_cons.mpr ⟨dp_cm_X3_addEntry, List.forall_mem_cons.mpr ⟨dp_cm_X3_setFailing, List.forall_mem_cons.mpr ⟨dp_cm_X3_isTooEarly, List.forall_mem_cons.mpr ⟨dp_cm_X3_hasRoom, List.forall_mem_cons.mpr ⟨dp_cm_X3_wouldTake, List.forall_mem_cons.mpr ⟨dp_cm_X3_sumOf, List.forall_mem_cons.mpr ⟨dp_cm_X3_wrongWith, List.forall_mem_cons.mpr ⟨dp_cm_X3_voidIfWrong, List.forall_mem_cons.mpr ⟨dp_cm_X3_greatestAccount, List.forall_mem_cons.mpr ⟨dp_cm_X3_failIfTold, List.forall_mem_cons.mpr ⟨dp_cm_X3_enter, List.forall_mem_cons.mpr ⟨dp_cm_X3_mayBeReversed, List.forall_mem_cons.mpr ⟨dp_cm_X3_turn, fun _ h => absurd h List.not_mem_nil⟩⟩⟩⟩⟩⟩⟩⟩⟩⟩⟩⟩⟩⟩⟩⟩⟩⟩⟩⟩⟩⟩⟩⟩⟩⟩⟩⟩⟩⟩⟩⟩
def dp_q2 : List (Nat × Nat × Nat × Nat) := [(1609, 258, 1608, 34), (1050, 258, 1049, 4), (1054, 258, 1053, 5), (1602, 258, 1600, 1601), (1679, 258, 1677, 1678), (1452, 258, 1450, 1451), (1714, 258, 1712, 1713), (1730, 258, 1728, 1729), (1734, 258, 1733, 47), (1753, 258, 1752, 49), (1749, 258, 1748, 48), (1745, 258, 1743, 1744), (1756, 258, 1755, 0), (870, 268, 869, 0), (1301, 268, 1299, 1300), (1319, 268, 1318, 19), (1297, 268, 1295, 1296), (1315, 268, 1313, 1314), (2711, 268, 2709, 2710), (1311, 268, 1309, 1310), (1327, 268, 1325, 1326), (2735, 268, 2734, 116), (2739, 268, 2738, 117), (2776, 268, 2774, 2775), (2731, 268, 2730, 115), (2727, 268, 2726, 114), (2723, 268, 2721, 2722), (2743, 268, 2742, 118), (2754, 268, 2752, 2753), (2759, 268, 2757, 2758), (2771, 268, 2769, 2770), (2781, 268, 2779, 2780)]
set_option maxRecDepth 100000 in
theorem dp_kg2 : (dp_g2.zip dp_q2).all (fun q => dp_ckM q.1 q.2) = true := by decide +kernel
theorem dp_cm_X3_factOfEntry : dp_cw dp_m_X3_factOfEntry ∈ dp_T := dp_in_ok (q := 2867) rfl rfl
theorem dp_cm_X3_sum : dp_cw dp_m_X3_sum ∈ dp_T := dp_in_ok (q := 2796) rfl rfl
theorem dp_cm_X3_kindOf : dp_cw dp_m_X3_kindOf ∈ dp_T := dp_in_ok (q := 2841) rfl rfl
theorem dp_cm_X3_sumOfKind : dp_cw dp_m_X3_sumOfKind ∈ dp_T := dp_in_ok (q := 2838) rfl rfl
theorem dp_cm_X3_passedOn : dp_cw dp_m_X3_passedOn ∈ dp_T := dp_in_ok (q := 2834) rfl rfl
theorem dp_cm_X3_deal : dp_cw dp_m_X3_deal ∈ dp_T := dp_in_ok (q := 2850) rfl rfl
theorem dp_cm_X3_giveOneMore : dp_cw dp_m_X3_giveOneMore ∈ dp_T := dp_in_ok (q := 2854) rfl rfl
theorem dp_cm_X4_init : dp_cw dp_m_X4_init ∈ dp_T := dp_in_ok (q := 312) rfl rfl
theorem dp_cm_X4_placeOf : dp_cw dp_m_X4_placeOf ∈ dp_T := dp_in_ok (q := 1605) rfl rfl
theorem dp_cm_X4_set : dp_cw dp_m_X4_set ∈ dp_T := dp_in_ok (q := 1613) rfl rfl
theorem dp_cm_X4_search : dp_cw dp_m_X4_search ∈ dp_T := dp_in_ok (q := 1617) rfl rfl
theorem dp_cm_X4_reach : dp_cw dp_m_X4_reach ∈ dp_T := dp_in_ok (q := 1647) rfl rfl
theorem dp_cm_X4_isEnd : dp_cw dp_m_X4_isEnd ∈ dp_T := dp_in_ok (q := 1621) rfl rfl
theorem dp_cm_X4_goOnFrom : dp_cw dp_m_X4_goOnFrom ∈ dp_T := dp_in_ok (q := 1625) rfl rfl
theorem dp_cm_X4_readState : dp_cw dp_m_X4_readState ∈ dp_T := dp_in_ok (q := 1629) rfl rfl
theorem dp_cm_X4_noteHeight : dp_cw dp_m_X4_noteHeight ∈ dp_T := dp_in_ok (q := 1634) rfl rfl
theorem dp_cm_X4_goFromStack : dp_cw dp_m_X4_goFromStack ∈ dp_T := dp_in_ok (q := 1638) rfl rfl
theorem dp_cm_X4_goToStacks : dp_cw dp_m_X4_goToStacks ∈ dp_T := dp_in_ok (q := 1642) rfl rfl
theorem dp_cm_X4_trace : dp_cw dp_m_X4_trace ∈ dp_T := dp_in_ok (q := 1651) rfl rfl
theorem dp_cm_X5_init : dp_cw dp_m_X5_init ∈ dp_T := dp_in_ok (q := 741) rfl rfl
theorem dp_cm_X5_addOrder : dp_cw dp_m_X5_addOrder ∈ dp_T := dp_in_ok (q := 2518) rfl rfl
theorem dp_cm_X5_isInSpan : dp_cw dp_m_X5_isInSpan ∈ dp_T := dp_in_ok (q := 2583) rfl rfl
theorem dp_cm_X5_orderOf : dp_cw dp_m_X5_orderOf ∈ dp_T := dp_in_ok (q := 3120) rfl rfl
theorem dp_cm_X5_addAsk : dp_cw dp_m_X5_addAsk ∈ dp_T := dp_in_ok (q := 2909) rfl rfl
theorem dp_cm_X5_changeAsk : dp_cw dp_m_X5_changeAsk ∈ dp_T := dp_in_ok (q := 2921) rfl rfl
theorem dp_cm_X5_runTo : dp_cw dp_m_X5_runTo ∈ dp_T := dp_in_ok (q := 2535) rfl rfl
theorem dp_cm_X5_setBlocked : dp_cw dp_m_X5_setBlocked ∈ dp_T := dp_in_ok (q := 2587) rfl rfl
theorem dp_cm_X5_wasRun : dp_cw dp_m_X5_wasRun ∈ dp_T := dp_in_ok (q := 2602) rfl rfl
theorem dp_cm_X5_carryOver : dp_cw dp_m_X5_carryOver ∈ dp_T := dp_in_ok (q := 2598) rfl rfl
theorem dp_cm_X5_balanceAt : dp_cw dp_m_X5_balanceAt ∈ dp_T := dp_in_ok (q := 2615) rfl rfl
theorem dp_cm_X5_isCritical : dp_cw dp_m_X5_isCritical ∈ dp_T := dp_in_ok (q := 2634) rfl rfl
theorem dp_cm_X5_blockedDays : dp_cw dp_m_X5_blockedDays ∈ dp_T := dp_in_ok (q := 2626) rfl rfl
theorem dp_cg3 : ∀ mi ∈ dp_g3, dp_cw mi ∈ dp_T := List.forall_mem_cons.mpr ⟨dp_cm_X3_factOfEntry, List.forall_mem_cons.mpr ⟨dp_cm_X3_sum, List.forall_mem_cons.mpr ⟨dp_cm_X3_kindOf, List.forall_mem_cons.mpr ⟨dp_cm_X3_sumOfKind, List.forall_mem_cons.mpr ⟨dp_cm_X3_passedOn, List.forall_mem_cons.mpr ⟨dp_cm_X3_deal, List.forall_mem_cons.mpr ⟨dp_cm_X3_giveOneMore, List.forall_mem_cons.mpr ⟨dp_cm_X4_init, List.forall_mem_cons.mpr ⟨dp_cm_X4_placeOf, List.forall_mem_cons.mpr ⟨dp_cm_X4_set, List.forall_mem_cons.mpr ⟨dp_cm_X4_search, List.forall_mem_cons.mpr ⟨dp_cm_X4_reach, List.forall_mem_cons.mpr ⟨dp_cm_X4_isEnd, List.forall_mem_cons.mpr ⟨dp_cm_X4_goOnFrom, List.forall_mem_cons.mpr ⟨dp_cm_X4_readState, List.forall_mem_cons.mpr ⟨dp_cm_X4_noteHeight, List.forall_mem_cons.mpr ⟨dp_cm_X4_goFromStack, List.forall_mem_cons.mpr ⟨dp_cm_X4_goToStacks, List.forall_mem_cons.mpr ⟨dp_cm_X4_trace, List.forall_mem_cons.mpr ⟨dp_cm_X5_init, List.forall_mem_cons.mpr ⟨dp_cm_X5_addOrder, List.forall_mem_cons.mpr ⟨dp_cm_X5_isInSpan, List.forall_mem_cons.mpr ⟨dp_cm_X5_orderOf, List.forall_mem_cons.mpr ⟨dp_cm_X5_addAsk, List.forall_mem_cons.mpr ⟨dp_cm_X5_changeAsk, List.forall_mem_cons.mpr ⟨dp_cm_X5_runTo, List.forall_mem_cons.mpr ⟨dp_cm_X5_setBlocked, List.forall_mem_cons.mpr ⟨dp_cm_X5_wasRun, List.forall_mem_cons.mpr ⟨dp_cm_X5_carryOver, List.forall_mem_cons.mpr ⟨dp_cm_X5_balanceAt, List.forall_mem_cons.mpr ⟨dp_cm_X5_isCritical, List.forall_mem_cons.mpr ⟨dp_cm_X5_blockedDays, fun _ h => absurd h List.not_mem_nil⟩⟩⟩⟩⟩⟩⟩⟩⟩⟩⟩⟩⟩⟩⟩⟩⟩⟩⟩⟩⟩⟩⟩⟩⟩⟩⟩⟩⟩⟩⟩⟩
def dp_q3 : List (Nat × Nat × Nat × Nat) := [(2867, 268, 2865, 2866), (2796, 268, 2794, 2795), (2841, 268, 2840, 0), (2838, 268, 2837, 119), (2834, 268, 2832, 2833), (2850, 268, 2849, 120), (2854, 268, 2853, 121), (312, 260, 311, 0), (1605, 260, 1604, 0), (1613, 260, 1611, 1612), (1617, 260, 1615, 1616), (1647, 260, 1646, 41), (1621, 260, 1620, 35), (1625, 260, 1624, 36), (1629, 260, 1628, 37), (1634, 260, 1633, 38), (1638, 260, 1637, 39), (1642, 260, 1641, 40), (1651, 260, 1650, 42), (741, 266, 740, 0), (2518, 266, 2516, 2517), (2583, 266, 2581, 2582), (3120, 266, 3118, 3119), (2909, 266, 2907, 2908), (2921, 266, 2919, 2920), (2535, 266, 2533, 2534), (2587, 266, 2585, 2586), (2602, 266, 2601, 111), (2598, 266, 2596, 2597), (2615, 266, 2613, 2614), (2634, 266, 2632, 2633), (2626, 266, 2624, 2625)]
set_option maxRecDepth 100000 in
theorem dp_kg3 : (dp_g3.zip dp_q3).all (fun q => dp_ckM q.1 q.2) = true := by decide +kernel
theorem dp_cm_X5_waiting : dp_cw dp_m_X5_waiting ∈ dp_T := dp_in_ok (q := 2630) rfl rfl
theorem dp_cm_X5_follow : dp_cw dp_m_X5_follow ∈ dp_T := dp_in_ok (q := 2539) rfl rfl
theorem dp_cm_X5_gather : dp_cw dp_m_X5_gather ∈ dp_T := dp_in_ok (q := 2543) rfl rfl
theorem dp_cm_X5_isDue : dp_cw dp_m_X5_isDue ∈ dp_T := dp_in_ok (q := 2568) rfl rfl
theorem dp_cm_X5_treat : dp_cw dp_m_X5_treat ∈ dp_T := dp_in_ok (q := 2564) rfl rfl
theorem dp_cm_X5_handOut : dp_cw dp_m_X5_handOut ∈ dp_T := dp_in_ok (q := 2572) rfl rfl
theorem dp_cm_X6_init : dp_cw dp_m_X6_init ∈ dp_T := dp_in_ok (q := 2352) rfl rfl
theorem dp_cm_X6_fact : dp_cw dp_m_X6_fact ∈ dp_T := dp_in_ok (q := 2385) rfl rfl
theorem dp_cm_X6_kindOf : dp_cw dp_m_X6_kindOf ∈ dp_T := dp_in_ok (q := 2409) rfl rfl
theorem dp_cm_X6_stepFact : dp_cw dp_m_X6_stepFact ∈ dp_T := dp_in_ok (q := 2438) rfl rfl
theorem dp_cm_X6_valueAt : dp_cw dp_m_X6_valueAt ∈ dp_T := dp_in_ok (q := 2485) rfl rfl
theorem dp_cm_X6_joined : dp_cw dp_m_X6_joined ∈ dp_T := dp_in_ok (q := 2490) rfl rfl
theorem dp_cm_X6_single : dp_cw dp_m_X6_single ∈ dp_T := dp_in_ok (q := 2496) rfl rfl
theorem dp_cm_X6_stepCents : dp_cw dp_m_X6_stepCents ∈ dp_T := dp_in_ok (q := 2501) rfl rfl
theorem dp_cm_X7_init : dp_cw dp_m_X7_init ∈ dp_T := dp_in_ok (q := 687) rfl rfl
theorem dp_cm_X7_addSigns : dp_cw dp_m_X7_addSigns ∈ dp_T := dp_in_ok (q := 1184) rfl rfl
theorem dp_cm_X7_emptyTape : dp_cw dp_m_X7_emptyTape ∈ dp_T := dp_in_ok (q := 2155) rfl rfl
theorem dp_cm_X7_readTape : dp_cw dp_m_X7_readTape ∈ dp_T := dp_in_ok (q := 2159) rfl rfl
theorem dp_cm_X7_refuse : dp_cw dp_m_X7_refuse ∈ dp_T := dp_in_ok (q := 2179) rfl rfl
theorem dp_cm_X7_signAt : dp_cw dp_m_X7_signAt ∈ dp_T := dp_in_ok (q := 2210) rfl rfl
theorem dp_cm_X7_next : dp_cw dp_m_X7_next ∈ dp_T := dp_in_ok (q := 2171) rfl rfl
theorem dp_cm_X7_pass : dp_cw dp_m_X7_pass ∈ dp_T := dp_in_ok (q := 2183) rfl rfl
theorem dp_cm_X7_addNode : dp_cw dp_m_X7_addNode ∈ dp_T := dp_in_ok (q := 2194) rfl rfl
theorem dp_cm_X7_setFact : dp_cw dp_m_X7_setFact ∈ dp_T := dp_in_ok (q := 2214) rfl rfl
theorem dp_cm_X7_setBelow : dp_cw dp_m_X7_setBelow ∈ dp_T := dp_in_ok (q := 2284) rfl rfl
theorem dp_cm_X7_readRate : dp_cw dp_m_X7_readRate ∈ dp_T := dp_in_ok (q := 2163) rfl rfl
theorem dp_cm_X7_readPart : dp_cw dp_m_X7_readPart ∈ dp_T := dp_in_ok (q := 2167) rfl rfl
theorem dp_cm_X7_readBracket : dp_cw dp_m_X7_readBracket ∈ dp_T := dp_in_ok (q := 2175) rfl rfl
theorem dp_cm_X7_readPair : dp_cw dp_m_X7_readPair ∈ dp_T := dp_in_ok (q := 2280) rfl rfl
theorem dp_cm_X7_isDigit : dp_cw dp_m_X7_isDigit ∈ dp_T := dp_in_ok (q := 2186) rfl rfl
theorem dp_cm_X7_runOfDigits : dp_cw dp_m_X7_runOfDigits ∈ dp_T := dp_in_ok (q := 2202) rfl rfl
theorem dp_cm_X7_runOfLetters : dp_cw dp_m_X7_runOfLetters ∈ dp_T := dp_in_ok (q := 2222) rfl rfl
theorem dp_cg4 : ∀ mi ∈ dp_g4, dp_cw mi ∈ dp_T := List.forall_mem_cons.mpr ⟨dp_cm_X5_waiting, List.forall_mem_cons.mpr ⟨dp_cm_X5_follow, List.forall_mem_cons.mpr ⟨dp_cm_X5_gather, List.forall_mem_cons.mpr ⟨dp_cm_X5_isDue, List.forall_mem_cons.mpr ⟨dp_cm_X5_treat, List.forall_mem_cons.mpr ⟨dp_cm_X5_handOut, List.forall_mem_cons.mpr ⟨dp_cm_X6_init, List.forall_mem_cons.mpr ⟨dp_cm_X6_fact, List.forall_mem_cons.mpr ⟨dp_cm_X6_kindOf, List.forall_mem_cons.mpr ⟨dp_cm_X6_stepFact, List.forall_mem_cons.mpr ⟨dp_cm_X6_valueAt, List.forall_mem_cons.mpr ⟨dp_cm_X6_joined, List.forall_mem_cons.mpr ⟨dp_cm_X6_single, List.forall_mem_cons.mpr ⟨dp_cm_X6_stepCents, List.forall_mem_cons.mpr ⟨dp_cm_X7_init, List.forall_mem_cons.mpr ⟨dp_cm_X7_addSigns, List.forall_mem_cons.mpr ⟨dp_cm_X7_emptyTape, List.forall_mem_cons.mpr ⟨dp_cm_X7_readTape, List.forall_mem_cons.mpr ⟨dp_cm_X7_refuse, List.forall_mem_cons.mpr ⟨dp_cm_X7_signAt, List.forall_mem_cons.mpr ⟨dp_cm_X7_next, List.forall_mem_cons.mpr ⟨dp_cm_X7_pass, List.forall_mem_cons.mpr ⟨dp_cm_X7_addNode, List.forall_mem_cons.mpr ⟨dp_cm_X7_setFact, List.forall_mem_cons.mpr ⟨dp_cm_X7_setBelow, List.forall_mem_cons.mpr ⟨dp_cm_X7_readRate, List.forall_mem_cons.mpr ⟨dp_cm_X7_readPart, List.forall_mem_cons.mpr ⟨dp_cm_X7_readBracket, List.forall_mem_cons.mpr ⟨dp_cm_X7_readPair, List.forall_mem_cons.mpr ⟨dp_cm_X7_isDigit, List.forall_mem_cons.mpr ⟨dp_cm_X7_runOfDigits, List.forall_mem_cons.mpr ⟨dp_cm_X7_runOfLetters, fun _ h => absurd h List.not_mem_nil⟩⟩⟩⟩⟩⟩⟩⟩⟩⟩⟩⟩⟩⟩⟩⟩⟩⟩⟩⟩⟩⟩⟩⟩⟩⟩⟩⟩⟩⟩⟩⟩
def dp_q4 : List (Nat × Nat × Nat × Nat) := [(2630, 266, 2628, 2629), (2539, 266, 2538, 106), (2543, 266, 2542, 107), (2568, 266, 2567, 109), (2564, 266, 2563, 108), (2572, 266, 2571, 110), (2352, 283, 2351, 0), (2385, 283, 2383, 2384), (2409, 283, 2407, 2408), (2438, 283, 2436, 2437), (2485, 283, 2483, 2484), (2490, 283, 2489, 102), (2496, 283, 2495, 103), (2501, 283, 2500, 104), (687, 265, 686, 0), (1184, 265, 1182, 1183), (2155, 265, 2153, 2154), (2159, 265, 2157, 2158), (2179, 265, 2178, 71), (2210, 265, 2209, 78), (2171, 265, 2170, 69), (2183, 265, 2182, 72), (2194, 265, 2193, 74), (2214, 265, 2213, 79), (2284, 265, 2283, 84), (2163, 265, 2162, 67), (2167, 265, 2166, 68), (2175, 265, 2174, 70), (2280, 265, 2279, 83), (2186, 265, 2185, 0), (2202, 265, 2201, 76), (2222, 265, 2221, 81)]
set_option maxRecDepth 100000 in
theorem dp_kg4 : (dp_g4.zip dp_q4).all (fun q => dp_ckM q.1 q.2) = true := by decide +kernel
theorem dp_cm_X7_isWord : dp_cw dp_m_X7_isWord ∈ dp_T := dp_in_ok (q := 2227) rfl rfl
theorem dp_cm_X7_digits : dp_cw dp_m_X7_digits ∈ dp_T := dp_in_ok (q := 2206) rfl rfl
theorem dp_cm_X7_readNumberPart : dp_cw dp_m_X7_readNumberPart ∈ dp_T := dp_in_ok (q := 2190) rfl rfl
theorem dp_cm_X7_readUnit : dp_cw dp_m_X7_readUnit ∈ dp_T := dp_in_ok (q := 2218) rfl rfl
theorem dp_cm_X7_readNumber : dp_cw dp_m_X7_readNumber ∈ dp_T := dp_in_ok (q := 2198) rfl rfl
theorem dp_cm_X7_readWhole : dp_cw dp_m_X7_readWhole ∈ dp_T := dp_in_ok (q := 2310) rfl rfl
theorem dp_cm_X7_readSteps : dp_cw dp_m_X7_readSteps ∈ dp_T := dp_in_ok (q := 2306) rfl rfl
theorem dp_cm_X7_readStepRows : dp_cw dp_m_X7_readStepRows ∈ dp_T := dp_in_ok (q := 2314) rfl rfl
theorem dp_cm_X7_builtFrom : dp_cw dp_m_X7_builtFrom ∈ dp_T := dp_in_ok (q := 2318) rfl rfl
theorem dp_cm_X7_numberOf : dp_cw dp_m_X7_numberOf ∈ dp_T := dp_in_ok (q := 2335) rfl rfl
theorem dp_cm_X7_numberFrom : dp_cw dp_m_X7_numberFrom ∈ dp_T := dp_in_ok (q := 2322) rfl rfl
theorem dp_cm_X7_push : dp_cw dp_m_X7_push ∈ dp_T := dp_in_ok (q := 2326) rfl rfl
theorem dp_cm_X7_pop : dp_cw dp_m_X7_pop ∈ dp_T := dp_in_ok (q := 2330) rfl rfl
theorem dp_cm_X7_printRate : dp_cw dp_m_X7_printRate ∈ dp_T := dp_in_ok (q := 2397) rfl rfl
theorem dp_cm_X7_addSign : dp_cw dp_m_X7_addSign ∈ dp_T := dp_in_ok (q := 2401) rfl rfl
theorem dp_cm_X7_addWord : dp_cw dp_m_X7_addWord ∈ dp_T := dp_in_ok (q := 2414) rfl rfl
theorem dp_cm_X7_printNode : dp_cw dp_m_X7_printNode ∈ dp_T := dp_in_ok (q := 2405) rfl rfl
theorem dp_cm_X7_stackJoined : dp_cw dp_m_X7_stackJoined ∈ dp_T := dp_in_ok (q := 2427) rfl rfl
theorem dp_cm_X7_stackPair : dp_cw dp_m_X7_stackPair ∈ dp_T := dp_in_ok (q := 2442) rfl rfl
theorem dp_cm_X7_printSteps : dp_cw dp_m_X7_printSteps ∈ dp_T := dp_in_ok (q := 2431) rfl rfl
theorem dp_cm_X7_printNumber : dp_cw dp_m_X7_printNumber ∈ dp_T := dp_in_ok (q := 2419) rfl rfl
theorem dp_cm_X7_printWhole : dp_cw dp_m_X7_printWhole ∈ dp_T := dp_in_ok (q := 2423) rfl rfl
theorem dp_cm_X8_init : dp_cw dp_m_X8_init ∈ dp_T := dp_in_ok (q := 826) rfl rfl
theorem dp_cm_X8_get : dp_cw dp_m_X8_get ∈ dp_T := dp_in_ok (q := 1203) rfl rfl
theorem dp_cm_X8_set : dp_cw dp_m_X8_set ∈ dp_T := dp_in_ok (q := 1215) rfl rfl
theorem dp_cm_X8_addGuarantee : dp_cw dp_m_X8_addGuarantee ∈ dp_T := dp_in_ok (q := 2651) rfl rfl
theorem dp_cm_X8_inTurn : dp_cw dp_m_X8_inTurn ∈ dp_T := dp_in_ok (q := 1243) rfl rfl
theorem dp_cm_X8_moveToFront : dp_cw dp_m_X8_moveToFront ∈ dp_T := dp_in_ok (q := 1199) rfl rfl
theorem dp_cm_X8_closeOne : dp_cw dp_m_X8_closeOne ∈ dp_T := dp_in_ok (q := 1211) rfl rfl
theorem dp_cm_X8_latestRow : dp_cw dp_m_X8_latestRow ∈ dp_T := dp_in_ok (q := 2667) rfl rfl
theorem dp_cm_X8_interestOf : dp_cw dp_m_X8_interestOf ∈ dp_T := dp_in_ok (q := 2663) rfl rfl
theorem dp_cm_X8_lessen : dp_cw dp_m_X8_lessen ∈ dp_T := dp_in_ok (q := 3027) rfl rfl
theorem dp_cg5 : ∀ mi ∈ dp_g5, dp_cw mi ∈ dp_T := List.forall_mem_cons.mpr ⟨dp_cm_X7_isWord, List.forall_mem_cons.mpr ⟨dp_cm_X7_digits, List.forall_mem_cons.mpr ⟨dp_cm_X7_readNumberPart, List.forall_mem_cons.mpr ⟨dp_cm_X7_readUnit, List.forall_mem_cons.mpr ⟨dp_cm_X7_readNumber, List.forall_mem_cons.mpr ⟨dp_cm_X7_readWhole, List.forall_mem_cons.mpr ⟨dp_cm_X7_readSteps, List.forall_mem_cons.mpr ⟨dp_cm_X7_readStepRows, List.forall_mem_cons.mpr ⟨dp_cm_X7_builtFrom, List.forall_mem_cons.mpr ⟨dp_cm_X7_numberOf, List.forall_mem_cons.mpr ⟨dp_cm_X7_numberFrom, List.forall_mem_cons.mpr ⟨dp_cm_X7_push, List.forall_mem_cons.mpr ⟨dp_cm_X7_pop, List.forall_mem_cons.mpr ⟨dp_cm_X7_printRate, List.forall_mem_cons.mpr ⟨dp_cm_X7_addSign, List.forall_mem_cons.mpr ⟨dp_cm_X7_addWord, List.forall_mem_cons.mpr ⟨dp_cm_X7_printNode, List.forall_mem_cons.mpr ⟨dp_cm_X7_stackJoined, List.forall_mem_cons.mpr ⟨dp_cm_X7_stackPair, List.forall_mem_cons.mpr ⟨dp_cm_X7_printSteps, List.forall_mem_cons.mpr ⟨dp_cm_X7_printNumber, List.forall_mem_cons.mpr ⟨dp_cm_X7_printWhole, List.forall_mem_cons.mpr ⟨dp_cm_X8_init, List.forall_mem_cons.mpr ⟨dp_cm_X8_get, List.forall_mem_cons.mpr ⟨dp_cm_X8_set, List.forall_mem_cons.mpr ⟨dp_cm_X8_addGuarantee, List.forall_mem_cons.mpr ⟨dp_cm_X8_inTurn, List.forall_mem_cons.mpr ⟨dp_cm_X8_moveToFront, List.forall_mem_cons.mpr ⟨dp_cm_X8_closeOne, List.forall_mem_cons.mpr ⟨dp_cm_X8_latestRow, List.forall_mem_cons.mpr ⟨dp_cm_X8_interestOf, List.forall_mem_cons.mpr ⟨dp_cm_X8_lessen, fun _ h => absurd h List.not_mem_nil⟩⟩⟩⟩⟩⟩⟩⟩⟩⟩⟩⟩⟩⟩⟩⟩⟩⟩⟩⟩⟩⟩⟩⟩⟩⟩⟩⟩⟩⟩⟩⟩
def dp_q5 : List (Nat × Nat × Nat × Nat) := [(2227, 265, 2226, 82), (2206, 265, 2205, 77), (2190, 265, 2189, 73), (2218, 265, 2217, 80), (2198, 265, 2197, 75), (2310, 265, 2309, 86), (2306, 265, 2305, 85), (2314, 265, 2313, 87), (2318, 265, 2317, 88), (2335, 265, 2334, 92), (2322, 265, 2321, 89), (2326, 265, 2325, 90), (2330, 265, 2329, 91), (2397, 265, 2395, 2396), (2401, 265, 2400, 94), (2414, 265, 2413, 96), (2405, 265, 2404, 95), (2427, 265, 2426, 99), (2442, 265, 2441, 101), (2431, 265, 2430, 100), (2419, 265, 2418, 97), (2423, 265, 2422, 98), (826, 267, 825, 0), (1203, 267, 1202, 13), (1215, 267, 1214, 14), (2651, 267, 2649, 2650), (1243, 267, 1241, 1242), (1199, 267, 1197, 1198), (1211, 267, 1209, 1210), (2667, 267, 2666, 112), (2663, 267, 2661, 2662), (3027, 267, 3026, 132)]
set_option maxRecDepth 100000 in
theorem dp_kg5 : (dp_g5.zip dp_q5).all (fun q => dp_ckM q.1 q.2) = true := by decide +kernel
theorem dp_cm_X8_neededFor : dp_cw dp_m_X8_neededFor ∈ dp_T := dp_in_ok (q := 2991) rfl rfl
theorem dp_cm_X8_freeIn : dp_cw dp_m_X8_freeIn ∈ dp_T := dp_in_ok (q := 1252) rfl rfl
theorem dp_cm_X8_mayCover : dp_cw dp_m_X8_mayCover ∈ dp_T := dp_in_ok (q := 1247) rfl rfl
theorem dp_cm_X8_freeOf : dp_cw dp_m_X8_freeOf ∈ dp_T := dp_in_ok (q := 1239) rfl rfl
theorem dp_cm_X8_fact : dp_cw dp_m_X8_fact ∈ dp_T := dp_in_ok (q := 2679) rfl rfl
theorem dp_cm_X8_hasFact : dp_cw dp_m_X8_hasFact ∈ dp_T := dp_in_ok (q := 2690) rfl rfl
theorem dp_cm_X8_factOfReservation : dp_cw dp_m_X8_factOfReservation ∈ dp_T := dp_in_ok (q := 2699) rfl rfl
theorem dp_cm_X8_partsOf : dp_cw dp_m_X8_partsOf ∈ dp_T := dp_in_ok (q := 2694) rfl rfl
theorem dp_cm_X8_cover : dp_cw dp_m_X8_cover ∈ dp_T := dp_in_ok (q := 2971) rfl rfl
theorem dp_cm_X8_spread : dp_cw dp_m_X8_spread ∈ dp_T := dp_in_ok (q := 2975) rfl rfl
theorem dp_cm_X8_guaranteeOf : dp_cw dp_m_X8_guaranteeOf ∈ dp_T := dp_in_ok (q := 2983) rfl rfl
theorem dp_cm_X8_coveredBy : dp_cw dp_m_X8_coveredBy ∈ dp_T := dp_in_ok (q := 2987) rfl rfl
theorem dp_cm_X8_use : dp_cw dp_m_X8_use ∈ dp_T := dp_in_ok (q := 2979) rfl rfl
theorem dp_cm_X8_claimableBy : dp_cw dp_m_X8_claimableBy ∈ dp_T := dp_in_ok (q := 3023) rfl rfl
theorem dp_cm_X8_claimable : dp_cw dp_m_X8_claimable ∈ dp_T := dp_in_ok (q := 3050) rfl rfl
theorem dp_cm_X8_finish : dp_cw dp_m_X8_finish ∈ dp_T := dp_in_ok (q := 3019) rfl rfl
theorem dp_cm_X9_init : dp_cw dp_m_X9_init ∈ dp_T := dp_in_ok (q := 606) rfl rfl
theorem dp_cm_X9_addMember : dp_cw dp_m_X9_addMember ∈ dp_T := dp_in_ok (q := 1137) rfl rfl
theorem dp_cm_X9_reachOf : dp_cw dp_m_X9_reachOf ∈ dp_T := dp_in_ok (q := 1141) rfl rfl
theorem dp_cm_X9_landsIn : dp_cw dp_m_X9_landsIn ∈ dp_T := dp_in_ok (q := 1456) rfl rfl
theorem dp_cm_X9_isIn : dp_cw dp_m_X9_isIn ∈ dp_T := dp_in_ok (q := 2125) rfl rfl
theorem dp_cm_X9_addRow : dp_cw dp_m_X9_addRow ∈ dp_T := dp_in_ok (q := 2079) rfl rfl
theorem dp_cm_X9_clash : dp_cw dp_m_X9_clash ∈ dp_T := dp_in_ok (q := 2087) rfl rfl
theorem dp_cm_X9_addEnd : dp_cw dp_m_X9_addEnd ∈ dp_T := dp_in_ok (q := 2083) rfl rfl
theorem dp_cm_X9_addOneOfFour : dp_cw dp_m_X9_addOneOfFour ∈ dp_T := dp_in_ok (q := 1156) rfl rfl
theorem dp_cm_X9_lastDay : dp_cw dp_m_X9_lastDay ∈ dp_T := dp_in_ok (q := 2091) rfl rfl
theorem dp_cm_X9_lengthOf : dp_cw dp_m_X9_lengthOf ∈ dp_T := dp_in_ok (q := 2136) rfl rfl
theorem dp_cm_X9_isUnder : dp_cw dp_m_X9_isUnder ∈ dp_T := dp_in_ok (q := 2121) rfl rfl
theorem dp_cm_X9_isOf : dp_cw dp_m_X9_isOf ∈ dp_T := dp_in_ok (q := 2118) rfl rfl
theorem dp_cm_X9_hasPapers : dp_cw dp_m_X9_hasPapers ∈ dp_T := dp_in_ok (q := 2129) rfl rfl
theorem dp_cm_X9_strengthOf : dp_cw dp_m_X9_strengthOf ∈ dp_T := dp_in_ok (q := 2133) rfl rfl
theorem dp_cm_X9_find : dp_cw dp_m_X9_find ∈ dp_T := dp_in_ok (q := 2113) rfl rfl
theorem dp_cg6 : ∀ mi ∈ dp_g6, dp_cw mi ∈ dp_T := List.forall_mem_cons.mpr ⟨dp_cm_X8_neededFor, List.forall_mem_cons.mpr ⟨dp_cm_X8_freeIn, List.forall_mem_cons.mpr ⟨dp_cm_X8_mayCover, List.forall_mem_cons.mpr ⟨dp_cm_X8_freeOf, List.forall_mem_cons.mpr ⟨dp_cm_X8_fact, List.forall_mem_cons.mpr ⟨dp_cm_X8_hasFact, List.forall_mem_cons.mpr ⟨dp_cm_X8_factOfReservation, List.forall_mem_cons.mpr ⟨dp_cm_X8_partsOf, List.forall_mem_cons.mpr ⟨dp_cm_X8_cover, List.forall_mem_cons.mpr ⟨dp_cm_X8_spread, List.forall_mem_cons.mpr ⟨dp_cm_X8_guaranteeOf, List.forall_mem_cons.mpr ⟨dp_cm_X8_coveredBy, List.forall_mem_cons.mpr ⟨dp_cm_X8_use, List.forall_mem_cons.mpr ⟨dp_cm_X8_claimableBy, List.forall_mem_cons.mpr ⟨dp_cm_X8_claimable, List.forall_mem_cons.mpr ⟨dp_cm_X8_finish, List.forall_mem_cons.mpr ⟨dp_cm_X9_init, List.forall_mem_cons.mpr ⟨dp_cm_X9_addMember, List.forall_mem_cons.mpr ⟨dp_cm_X9_reachOf, List.forall_mem_cons.mpr ⟨dp_cm_X9_landsIn, List.forall_mem_cons.mpr ⟨dp_cm_X9_isIn, List.forall_mem_cons.mpr ⟨dp_cm_X9_addRow, List.forall_mem_cons.mpr ⟨dp_cm_X9_clash, List.forall_mem_cons.mpr ⟨dp_cm_X9_addEnd, List.forall_mem_cons.mpr ⟨dp_cm_X9_addOneOfFour, List.forall_mem_cons.mpr ⟨dp_cm_X9_lastDay, List.forall_mem_cons.mpr ⟨dp_cm_X9_lengthOf, List.forall_mem_cons.mpr ⟨dp_cm_X9_isUnder, List.forall_mem_cons.mpr ⟨dp_cm_X9_isOf, List.forall_mem_cons.mpr ⟨dp_cm_X9_hasPapers, List.forall_mem_cons.mpr ⟨dp_cm_X9_strengthOf, List.forall_mem_cons.mpr ⟨dp_cm_X9_find, fun _ h => absurd h List.not_mem_nil⟩⟩⟩⟩⟩⟩⟩⟩⟩⟩⟩⟩⟩⟩⟩⟩⟩⟩⟩⟩⟩⟩⟩⟩⟩⟩⟩⟩⟩⟩⟩⟩
def dp_q6 : List (Nat × Nat × Nat × Nat) := [(2991, 267, 2990, 130), (1252, 267, 1251, 16), (1247, 267, 1246, 15), (1239, 267, 1237, 1238), (2679, 267, 2677, 2678), (2690, 267, 2688, 2689), (2699, 267, 2697, 2698), (2694, 267, 2693, 113), (2971, 267, 2969, 2970), (2975, 267, 2974, 126), (2983, 267, 2982, 128), (2987, 267, 2986, 129), (2979, 267, 2978, 127), (3023, 267, 3022, 131), (3050, 267, 3048, 3049), (3019, 267, 3017, 3018), (606, 264, 605, 0), (1137, 264, 1135, 1136), (1141, 264, 1140, 10), (1456, 264, 1454, 1455), (2125, 264, 2124, 64), (2079, 264, 2077, 2078), (2087, 264, 2086, 61), (2083, 264, 2081, 2082), (1156, 264, 1155, 0), (2091, 264, 2090, 62), (2136, 264, 2135, 0), (2121, 264, 2120, 0), (2118, 264, 2117, 63), (2129, 264, 2128, 65), (2133, 264, 2132, 66), (2113, 264, 2111, 2112)]
set_option maxRecDepth 100000 in
theorem dp_kg6 : (dp_g6.zip dp_q6).all (fun q => dp_ckM q.1 q.2) = true := by decide +kernel
