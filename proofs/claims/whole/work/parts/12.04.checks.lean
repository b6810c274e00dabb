theorem dp_cm_X9_keepList : dp_cw dp_m_X9_keepList ∈ dp_T := dp_in_ok (q := 2141) rfl rfl
theorem dp_cm_X10_init : dp_cw dp_m_X10_init ∈ dp_T := dp_in_ok (q := 461) rfl rfl
theorem dp_cm_X10_boxAt : dp_cw dp_m_X10_boxAt ∈ dp_T := dp_in_ok (q := 1080) rfl rfl
theorem dp_cm_X10_topOf : dp_cw dp_m_X10_topOf ∈ dp_T := dp_in_ok (q := 1704) rfl rfl
theorem dp_cm_X10_isOnTop : dp_cw dp_m_X10_isOnTop ∈ dp_T := dp_in_ok (q := 1803) rfl rfl
theorem dp_cm_X10_above : dp_cw dp_m_X10_above ∈ dp_T := dp_in_ok (q := 1856) rfl rfl
theorem dp_cm_X10_weightOf : dp_cw dp_m_X10_weightOf ∈ dp_T := dp_in_ok (q := 1462) rfl rfl
theorem dp_cm_X10_hasOtherShip : dp_cw dp_m_X10_hasOtherShip ∈ dp_T := dp_in_ok (q := 1076) rfl rfl
theorem dp_cm_X10_hasOtherSize : dp_cw dp_m_X10_hasOtherSize ∈ dp_T := dp_in_ok (q := 1700) rfl rfl
theorem dp_cm_X10_sooner : dp_cw dp_m_X10_sooner ∈ dp_T := dp_in_ok (q := 1412) rfl rfl
theorem dp_cm_X10_soonerBelow : dp_cw dp_m_X10_soonerBelow ∈ dp_T := dp_in_ok (q := 1408) rfl rfl
theorem dp_cm_X10_isInTheWay : dp_cw dp_m_X10_isInTheWay ∈ dp_T := dp_in_ok (q := 1404) rfl rfl
theorem dp_cm_X10_inTheWay : dp_cw dp_m_X10_inTheWay ∈ dp_T := dp_in_ok (q := 1400) rfl rfl
theorem dp_cm_X10_standing : dp_cw dp_m_X10_standing ∈ dp_T := dp_in_ok (q := 1396) rfl rfl
theorem dp_cm_X10_brokenByPut : dp_cw dp_m_X10_brokenByPut ∈ dp_T := dp_in_ok (q := 1775) rfl rfl
theorem dp_cm_X10_brokenByShift : dp_cw dp_m_X10_brokenByShift ∈ dp_T := dp_in_ok (q := 1814) rfl rfl
theorem dp_cm_X10_brokenOnRow : dp_cw dp_m_X10_brokenOnRow ∈ dp_T := dp_in_ok (q := 1695) rfl rfl
theorem dp_cm_X10_score : dp_cw dp_m_X10_score ∈ dp_T := dp_in_ok (q := 1708) rfl rfl
theorem dp_cm_X10_bestRow : dp_cw dp_m_X10_bestRow ∈ dp_T := dp_in_ok (q := 1691) rfl rfl
theorem dp_cm_X10_bestClearRow : dp_cw dp_m_X10_bestClearRow ∈ dp_T := dp_in_ok (q := 1843) rfl rfl
theorem dp_cm_X10_tidy : dp_cw dp_m_X10_tidy ∈ dp_T := dp_in_ok (q := 1835) rfl rfl
theorem dp_cm_X10_boxToTidy : dp_cw dp_m_X10_boxToTidy ∈ dp_T := dp_in_ok (q := 1839) rfl rfl
theorem dp_cm_X10_bring : dp_cw dp_m_X10_bring ∈ dp_T := dp_in_ok (q := 1719) rfl rfl
theorem dp_cm_X10_takeBack : dp_cw dp_m_X10_takeBack ∈ dp_T := dp_in_ok (q := 1088) rfl rfl
theorem dp_cm_X10_place : dp_cw dp_m_X10_place ∈ dp_T := dp_in_ok (q := 1092) rfl rfl
theorem dp_cm_X11_init : dp_cw dp_m_X11_init ∈ dp_T := dp_in_ok (q := 289) rfl rfl
theorem dp_cm_X11_heldTo : dp_cw dp_m_X11_heldTo ∈ dp_T := dp_in_ok (q := 297) rfl rfl
theorem dp_cm_X11_within : dp_cw dp_m_X11_within ∈ dp_T := dp_in_ok (q := 1030) rfl rfl
theorem dp_cm_X11_isBay : dp_cw dp_m_X11_isBay ∈ dp_T := dp_in_ok (q := 1448) rfl rfl
theorem dp_cm_X11_isBox : dp_cw dp_m_X11_isBox ∈ dp_T := dp_in_ok (q := 1027) rfl rfl
theorem dp_cm_X11_isYardRow : dp_cw dp_m_X11_isYardRow ∈ dp_T := dp_in_ok (q := 1066) rfl rfl
theorem dp_cm_X11_isMeasure : dp_cw dp_m_X11_isMeasure ∈ dp_T := dp_in_ok (q := 1149) rfl rfl
theorem dp_cg7 : ∀ mi ∈ dp_g7, dp_cw mi ∈ dp_T := List.forall_mem_cons.mpr ⟨dp_cm_X9_keepList, List.forall_mem_cons.mpr ⟨dp_cm_X10_init, List.forall_mem_cons.mpr ⟨dp_cm_X10_boxAt, List.forall_mem_cons.mpr ⟨dp_cm_X10_topOf, List.forall_mem_cons.mpr ⟨dp_cm_X10_isOnTop, List.forall_mem_cons.mpr ⟨dp_cm_X10_above, List.forall_mem_cons.mpr ⟨dp_cm_X10_weightOf, List.forall_mem_cons.mpr ⟨dp_cm_X10_hasOtherShip, List.forall_mem_cons.mpr ⟨dp_cm_X10_hasOtherSize, List.forall_mem_cons.mpr ⟨dp_cm_X10_sooner, List.forall_mem_cons.mpr ⟨dp_cm_X10_soonerBelow, List.forall_mem_cons.mpr ⟨dp_cm_X10_isInTheWay, List.forall_mem_cons.mpr ⟨dp_cm_X10_inTheWay, List.forall_mem_cons.mpr ⟨dp_cm_X10_standing, List.forall_mem_cons.mpr ⟨dp_cm_X10_brokenByPut, List.forall_mem_cons.mpr ⟨dp_cm_X10_brokenByShift, List.forall_mem_cons.mpr ⟨dp_cm_X10_brokenOnRow, List.forall_mem_cons.mpr ⟨dp_cm_X10_score, List.forall_mem_cons.mpr ⟨dp_cm_X10_bestRow, List.forall_mem_cons.mpr ⟨dp_cm_X10_bestClearRow, List.forall_mem_cons.mpr ⟨dp_cm_X10_tidy, List.forall_mem_cons.mpr ⟨dp_cm_X10_boxToTidy, List.forall_mem_cons.mpr ⟨dp_cm_X10_bring, List.forall_mem_cons.mpr ⟨dp_cm_X10_takeBack, List.forall_mem_cons.mpr ⟨dp_cm_X10_place, List.forall_mem_cons.mpr ⟨dp_cm_X11_init, List.forall_mem_cons.mpr ⟨dp_cm_X11_heldTo, List.forall_mem_cons.mpr ⟨dp_cm_X11_within, List.forall_mem_cons.mpr ⟨dp_cm_X11_isBay, List.forall_mem_cons.mpr ⟨dp_cm_X11_isBox, List.forall_mem_cons.mpr ⟨dp_cm_X11_isYardRow, List.forall_mem_cons.mpr ⟨dp_cm_X11_isMeasure, fun _ h => absurd h List.not_mem_nil⟩⟩⟩⟩⟩⟩⟩⟩⟩⟩⟩⟩⟩⟩⟩⟩⟩⟩⟩⟩⟩⟩⟩⟩⟩⟩⟩⟩⟩⟩⟩⟩
def dp_q7 : List (Nat × Nat × Nat × Nat) := [(2141, 264, 2139, 2140), (461, 262, 460, 0), (1080, 262, 1078, 1079), (1704, 262, 1703, 45), (1803, 262, 1801, 1802), (1856, 262, 1854, 1855), (1462, 262, 1460, 1461), (1076, 262, 1074, 1075), (1700, 262, 1699, 44), (1412, 262, 1411, 27), (1408, 262, 1407, 26), (1404, 262, 1402, 1403), (1400, 262, 1398, 1399), (1396, 262, 1394, 1395), (1775, 262, 1773, 1774), (1814, 262, 1812, 1813), (1695, 262, 1694, 43), (1708, 262, 1707, 46), (1691, 262, 1689, 1690), (1843, 262, 1842, 51), (1835, 262, 1833, 1834), (1839, 262, 1838, 50), (1719, 262, 1717, 1718), (1088, 262, 1086, 1087), (1092, 262, 1091, 8), (289, 257, 288, 0), (297, 257, 296, 0), (1030, 257, 1029, 0), (1448, 257, 1447, 32), (1027, 257, 1026, 0), (1066, 257, 1065, 7), (1149, 257, 1148, 11)]
set_option maxRecDepth 100000 in
theorem dp_kg7 : (dp_g7.zip dp_q7).all (fun q => dp_ckM q.1 q.2) = true := by decide +kernel
theorem dp_cm_X11_isOrder : dp_cw dp_m_X11_isOrder ∈ dp_T := dp_in_ok (q := 2529) rfl rfl
theorem dp_cm_X11_isGuarantee : dp_cw dp_m_X11_isGuarantee ∈ dp_T := dp_in_ok (q := 1195) rfl rfl
theorem dp_cm_X11_isBatch : dp_cw dp_m_X11_isBatch ∈ dp_T := dp_in_ok (q := 1293) rfl rfl
theorem dp_cm_X11_isDeclaration : dp_cw dp_m_X11_isDeclaration ∈ dp_T := dp_in_ok (q := 1358) rfl rfl
theorem dp_cm_X11_isDeclarationIn : dp_cw dp_m_X11_isDeclarationIn ∈ dp_T := dp_in_ok (q := 1354) rfl rfl
theorem dp_cm_X11_isDay : dp_cw dp_m_X11_isDay ∈ dp_T := dp_in_ok (q := 2068) rfl rfl
theorem dp_cm_X11_isLastDay : dp_cw dp_m_X11_isLastDay ∈ dp_T := dp_in_ok (q := 2072) rfl rfl
theorem dp_cm_X11_isBookDay : dp_cw dp_m_X11_isBookDay ∈ dp_T := dp_in_ok (q := 1334) rfl rfl
theorem dp_cm_X11_box : dp_cw dp_m_X11_box ∈ dp_T := dp_in_ok (q := 1474) rfl rfl
theorem dp_cm_X11_before : dp_cw dp_m_X11_before ∈ dp_T := dp_in_ok (q := 1007) rfl rfl
theorem dp_cm_X11_plan : dp_cw dp_m_X11_plan ∈ dp_T := dp_in_ok (q := 1597) rfl rfl
theorem dp_cm_X11_move : dp_cw dp_m_X11_move ∈ dp_T := dp_in_ok (q := 1659) rfl rfl
theorem dp_cm_X11_work : dp_cw dp_m_X11_work ∈ dp_T := dp_in_ok (q := 1686) rfl rfl
theorem dp_cm_X11_least : dp_cw dp_m_X11_least ∈ dp_T := dp_in_ok (q := 1726) rfl rfl
theorem dp_cm_X11_swap : dp_cw dp_m_X11_swap ∈ dp_T := dp_in_ok (q := 1741) rfl rfl
theorem dp_cm_X11_aboard : dp_cw dp_m_X11_aboard ∈ dp_T := dp_in_ok (q := 1763) rfl rfl
theorem dp_cm_X11_ground : dp_cw dp_m_X11_ground ∈ dp_T := dp_in_ok (q := 1062) rfl rfl
theorem dp_cm_X11_reserve : dp_cw dp_m_X11_reserve ∈ dp_T := dp_in_ok (q := 1071) rfl rfl
theorem dp_cm_X11_put : dp_cw dp_m_X11_put ∈ dp_T := dp_in_ok (q := 1770) rfl rfl
theorem dp_cm_X11_take : dp_cw dp_m_X11_take ∈ dp_T := dp_in_ok (q := 1799) rfl rfl
theorem dp_cm_X11_shift : dp_cw dp_m_X11_shift ∈ dp_T := dp_in_ok (q := 1810) rfl rfl
theorem dp_cm_X11_choose : dp_cw dp_m_X11_choose ∈ dp_T := dp_in_ok (q := 1821) rfl rfl
theorem dp_cm_X11_night : dp_cw dp_m_X11_night ∈ dp_T := dp_in_ok (q := 1829) rfl rfl
theorem dp_cm_X11_undo : dp_cw dp_m_X11_undo ∈ dp_T := dp_in_ok (q := 1084) rfl rfl
theorem dp_cm_X11_where : dp_cw dp_m_X11_where ∈ dp_T := dp_in_ok (q := 1852) rfl rfl
theorem dp_cm_X11_at : dp_cw dp_m_X11_at ∈ dp_T := dp_in_ok (q := 1864) rfl rfl
theorem dp_cm_X11_goods : dp_cw dp_m_X11_goods ∈ dp_T := dp_in_ok (q := 1873) rfl rfl
theorem dp_cm_X11_isBar : dp_cw dp_m_X11_isBar ∈ dp_T := dp_in_ok (q := 1898) rfl rfl
theorem dp_cm_X11_bar : dp_cw dp_m_X11_bar ∈ dp_T := dp_in_ok (q := 1894) rfl rfl
theorem dp_cm_X11_lift : dp_cw dp_m_X11_lift ∈ dp_T := dp_in_ok (q := 1917) rfl rfl
theorem dp_cm_X11_join : dp_cw dp_m_X11_join ∈ dp_T := dp_in_ok (q := 1929) rfl rfl
theorem dp_cm_X11_rule : dp_cw dp_m_X11_rule ∈ dp_T := dp_in_ok (q := 1096) rfl rfl
theorem dp_cg8 : ∀ mi ∈ dp_g8, dp_cw mi ∈ dp_T := List.forall_mem_cons.mpr ⟨dp_cm_X11_isOrder, List.forall_mem_cons.mpr ⟨dp_cm_X11_isGuarantee, List.forall_mem_cons.mpr ⟨dp_cm_X11_isBatch, List.forall_mem_cons.mpr ⟨dp_cm_X11_isDeclaration, List.forall_mem_cons.mpr ⟨dp_cm_X11_isDeclarationIn, List.forall_mem_cons.mpr ⟨dp_cm_X11_isDay, List.forall_mem_cons.mpr ⟨dp_cm_X11_isLastDay, List.forall_mem_cons.mpr ⟨dp_cm_X11_isBookDay, List.forall_mem_cons.mpr ⟨dp_cm_X11_box, List.forall_mem_cons.mpr ⟨dp_cm_X11_before, List.forall_mem_cons.mpr ⟨dp_cm_X11_plan, List.forall_mem_cons.mpr ⟨dp_cm_X11_move, List.forall_mem_cons.mpr ⟨dp_cm_X11_work, List.forall_mem_cons.mpr ⟨dp_cm_X11_least, List.forall_mem_cons.mpr ⟨dp_cm_X11_swap, List.forall_mem_cons.mpr ⟨dp_cm_X11_aboard, List.forall_mem_cons.mpr ⟨dp_cm_X11_ground, List.forall_mem_cons.mpr ⟨dp_cm_X11_reserve, List.forall_mem_cons.mpr ⟨dp_cm_X11_put, List.forall_mem_cons.mpr ⟨dp_cm_X11_take, List.forall_mem_cons.mpr ⟨dp_cm_X11_shift, List.forall_mem_cons.mpr ⟨dp_cm_X11_choose, List.forall_mem_cons.mpr ⟨dp_cm_X11_night, List.forall_mem_cons.mpr ⟨dp_cm_X11_undo, List.forall_mem_cons.mpr ⟨dp_cm_X11_where, List.forall_mem_cons.mpr ⟨dp_cm_X11_at, List.forall_mem_cons.mpr ⟨dp_cm_X11_goods, List.forall_mem_cons.mpr ⟨dp_cm_X11_isBar, List.forall_mem_cons.mpr ⟨dp_cm_X11_bar, List.forall_mem_cons.mpr ⟨dp_cm_X11_lift, List.forall_mem_cons.mpr ⟨dp_cm_X11_join, List.forall_mem_cons.mpr ⟨dp_cm_X11_rule, fun _ h => absurd h List.not_mem_nil⟩⟩⟩⟩⟩⟩⟩⟩⟩⟩⟩⟩⟩⟩⟩⟩⟩⟩⟩⟩⟩⟩⟩⟩⟩⟩⟩⟩⟩⟩⟩⟩
def dp_q8 : List (Nat × Nat × Nat × Nat) := [(2529, 257, 2528, 105), (1195, 257, 1194, 12), (1293, 257, 1292, 18), (1358, 257, 1357, 21), (1354, 257, 1353, 20), (2068, 257, 2067, 0), (2072, 257, 2071, 0), (1334, 257, 1333, 0), (1474, 257, 1472, 1473), (1007, 257, 1005, 1006), (1597, 257, 1595, 1596), (1659, 257, 1657, 1658), (1686, 257, 1684, 1685), (1726, 257, 1724, 1725), (1741, 257, 1739, 1740), (1763, 257, 1761, 1762), (1062, 257, 1060, 1061), (1071, 257, 1069, 1070), (1770, 257, 1768, 1769), (1799, 257, 1797, 1798), (1810, 257, 1808, 1809), (1821, 257, 1819, 1820), (1829, 257, 1827, 1828), (1084, 257, 1082, 1083), (1852, 257, 1850, 1851), (1864, 257, 1862, 1863), (1873, 257, 1871, 1872), (1898, 257, 1897, 53), (1894, 257, 1892, 1893), (1917, 257, 1915, 1916), (1929, 257, 1927, 1928), (1096, 257, 1094, 1095)]
set_option maxRecDepth 100000 in
theorem dp_kg8 : (dp_g8.zip dp_q8).all (fun q => dp_ckM q.1 q.2) = true := by decide +kernel
theorem dp_cm_X11_release : dp_cw dp_m_X11_release ∈ dp_T := dp_in_ok (q := 1942) rfl rfl
theorem dp_cm_X11_bars : dp_cw dp_m_X11_bars ∈ dp_T := dp_in_ok (q := 1969) rfl rfl
theorem dp_cm_X11_part : dp_cw dp_m_X11_part ∈ dp_T := dp_in_ok (q := 1992) rfl rfl
theorem dp_cm_X11_withdraw : dp_cw dp_m_X11_withdraw ∈ dp_T := dp_in_ok (q := 2005) rfl rfl
theorem dp_cm_X11_gate : dp_cw dp_m_X11_gate ∈ dp_T := dp_in_ok (q := 2016) rfl rfl
theorem dp_cm_X11_away : dp_cw dp_m_X11_away ∈ dp_T := dp_in_ok (q := 1103) rfl rfl
theorem dp_cm_X11_notice : dp_cw dp_m_X11_notice ∈ dp_T := dp_in_ok (q := 1119) rfl rfl
theorem dp_cm_X11_look : dp_cw dp_m_X11_look ∈ dp_T := dp_in_ok (q := 2027) rfl rfl
theorem dp_cm_X11_isCode : dp_cw dp_m_X11_isCode ∈ dp_T := dp_in_ok (q := 2058) rfl rfl
theorem dp_cm_X11_isFullCode : dp_cw dp_m_X11_isFullCode ∈ dp_T := dp_in_ok (q := 2063) rfl rfl
theorem dp_cm_X11_isLand : dp_cw dp_m_X11_isLand ∈ dp_T := dp_in_ok (q := 1152) rfl rfl
theorem dp_cm_X11_member : dp_cw dp_m_X11_member ∈ dp_T := dp_in_ok (q := 1131) rfl rfl
theorem dp_cm_X11_row : dp_cw dp_m_X11_row ∈ dp_T := dp_in_ok (q := 2055) rfl rfl
theorem dp_cm_X11_exclude : dp_cw dp_m_X11_exclude ∈ dp_T := dp_in_ok (q := 1145) rfl rfl
theorem dp_cm_X11_condition : dp_cw dp_m_X11_condition ∈ dp_T := dp_in_ok (q := 1166) rfl rfl
theorem dp_cm_X11_end : dp_cw dp_m_X11_end ∈ dp_T := dp_in_ok (q := 2098) rfl rfl
theorem dp_cm_X11_papers : dp_cw dp_m_X11_papers ∈ dp_T := dp_in_ok (q := 1170) rfl rfl
theorem dp_cm_X11_apply : dp_cw dp_m_X11_apply ∈ dp_T := dp_in_ok (q := 2108) rfl rfl
theorem dp_cm_X11_listed : dp_cw dp_m_X11_listed ∈ dp_T := dp_in_ok (q := 1175) rfl rfl
theorem dp_cm_X11_type : dp_cw dp_m_X11_type ∈ dp_T := dp_in_ok (q := 1179) rfl rfl
theorem dp_cm_X11_rate : dp_cw dp_m_X11_rate ∈ dp_T := dp_in_ok (q := 2151) rfl rfl
theorem dp_cm_X11_rateOf : dp_cw dp_m_X11_rateOf ∈ dp_T := dp_in_ok (q := 2380) rfl rfl
theorem dp_cm_X11_node : dp_cw dp_m_X11_node ∈ dp_T := dp_in_ok (q := 2376) rfl rfl
theorem dp_cm_X11_print : dp_cw dp_m_X11_print ∈ dp_T := dp_in_ok (q := 2392) rfl rfl
theorem dp_cm_X11_printed : dp_cw dp_m_X11_printed ∈ dp_T := dp_in_ok (q := 2451) rfl rfl
theorem dp_cm_X11_worth : dp_cw dp_m_X11_worth ∈ dp_T := dp_in_ok (q := 2460) rfl rfl
theorem dp_cm_X11_order : dp_cw dp_m_X11_order ∈ dp_T := dp_in_ok (q := 2511) rfl rfl
theorem dp_cm_X11_run : dp_cw dp_m_X11_run ∈ dp_T := dp_in_ok (q := 2525) rfl rfl
theorem dp_cm_X11_block : dp_cw dp_m_X11_block ∈ dp_T := dp_in_ok (q := 2579) rfl rfl
theorem dp_cm_X11_transfer : dp_cw dp_m_X11_transfer ∈ dp_T := dp_in_ok (q := 2594) rfl rfl
theorem dp_cm_X11_balance : dp_cw dp_m_X11_balance ∈ dp_T := dp_in_ok (q := 2610) rfl rfl
theorem dp_cm_X11_quota : dp_cw dp_m_X11_quota ∈ dp_T := dp_in_ok (q := 2622) rfl rfl
theorem dp_cg9 : ∀ mi ∈ dp_g9, dp_cw mi ∈ dp_T := List.forall_mem_cons.mpr ⟨dp_cm_X11_release, List.forall_mem_cons.mpr ⟨dp_cm_X11_bars, List.forall_mem_cons.mpr ⟨dp_cm_X11_part, List.forall_mem_cons.mpr ⟨dp_cm_X11_withdraw, List.forall_mem_cons.mpr ⟨dp_cm_X11_gate, List.forall_mem_cons.mpr ⟨dp_cm_X11_away, List.forall_mem_cons.mpr ⟨dp_cm_X11_notice, List.forall_mem_cons.mpr ⟨dp_cm_X11_look, List.forall_mem_cons.mpr ⟨dp_cm_X11_isCode, List.forall_mem_cons.mpr ⟨dp_cm_X11_isFullCode, List.forall_mem_cons.mpr ⟨dp_cm_X11_isLand, List.forall_mem_cons.mpr ⟨dp_cm_X11_member, List.forall_mem_cons.mpr ⟨dp_cm_X11_row, List.forall_mem_cons.mpr ⟨dp_cm_X11_exclude, List.forall_mem_cons.mpr ⟨dp_cm_X11_condition, List.forall_mem_cons.mpr ⟨dp_cm_X11_end, List.forall_mem_cons.mpr ⟨dp_cm_X11_papers, List.forall_mem_cons.mpr ⟨dp_cm_X11_apply, List.forall_mem_cons.mpr ⟨dp_cm_X11_listed, List.forall_mem_cons.mpr ⟨dp_cm_X11_type, List.forall_mem_cons.mpr ⟨dp_cm_X11_rate, List.forall_mem_cons.mpr ⟨dp_cm_X11_rateOf, List.forall_mem_cons.mpr ⟨dp_cm_X11_node, List.forall_mem_cons.mpr ⟨dp_cm_X11_print, List.forall_mem_cons.mpr ⟨dp_cm_X11_printed, List.forall_mem_cons.mpr ⟨dp_cm_X11_worth, List.forall_mem_cons.mpr ⟨dp_cm_X11_order, List.forall_mem_cons.mpr ⟨dp_cm_X11_run, List.forall_mem_cons.mpr ⟨dp_cm_X11_block, List.forall_mem_cons.mpr ⟨dp_cm_X11_transfer, List.forall_mem_cons.mpr ⟨dp_cm_X11_balance, List.forall_mem_cons.mpr ⟨dp_cm_X11_quota, fun _ h => absurd h List.not_mem_nil⟩⟩⟩⟩⟩⟩⟩⟩⟩⟩⟩⟩⟩⟩⟩⟩⟩⟩⟩⟩⟩⟩⟩⟩⟩⟩⟩⟩⟩⟩⟩⟩
def dp_q9 : List (Nat × Nat × Nat × Nat) := [(1942, 257, 1940, 1941), (1969, 257, 1967, 1968), (1992, 257, 1990, 1991), (2005, 257, 2003, 2004), (2016, 257, 2014, 2015), (1103, 257, 1101, 1102), (1119, 257, 1117, 1118), (2027, 257, 2025, 2026), (2058, 257, 2057, 0), (2063, 257, 2062, 0), (1152, 257, 1151, 0), (1131, 257, 1129, 1130), (2055, 257, 2053, 2054), (1145, 257, 1143, 1144), (1166, 257, 1164, 1165), (2098, 257, 2096, 2097), (1170, 257, 1168, 1169), (2108, 257, 2106, 2107), (1175, 257, 1173, 1174), (1179, 257, 1177, 1178), (2151, 257, 2149, 2150), (2380, 257, 2379, 93), (2376, 257, 2374, 2375), (2392, 257, 2390, 2391), (2451, 257, 2449, 2450), (2460, 257, 2458, 2459), (2511, 257, 2509, 2510), (2525, 257, 2523, 2524), (2579, 257, 2577, 2578), (2594, 257, 2592, 2593), (2610, 257, 2608, 2609), (2622, 257, 2620, 2621)]
set_option maxRecDepth 100000 in
theorem dp_kg9 : (dp_g9.zip dp_q9).all (fun q => dp_ckM q.1 q.2) = true := by decide +kernel
theorem dp_cm_X11_guarantee : dp_cw dp_m_X11_guarantee ∈ dp_T := dp_in_ok (q := 2643) rfl rfl
theorem dp_cm_X11_isHolder : dp_cw dp_m_X11_isHolder ∈ dp_T := dp_in_ok (q := 1234) rfl rfl
theorem dp_cm_X11_isDesk : dp_cw dp_m_X11_isDesk ∈ dp_T := dp_in_ok (q := 1222) rfl rfl
theorem dp_cm_X11_first : dp_cw dp_m_X11_first ∈ dp_T := dp_in_ok (q := 1191) rfl rfl
theorem dp_cm_X11_shut : dp_cw dp_m_X11_shut ∈ dp_T := dp_in_ok (q := 1207) rfl rfl
theorem dp_cm_X11_fails : dp_cw dp_m_X11_fails ∈ dp_T := dp_in_ok (q := 1219) rfl rfl
theorem dp_cm_X11_tick : dp_cw dp_m_X11_tick ∈ dp_T := dp_in_ok (q := 1226) rfl rfl
theorem dp_cm_X11_interest : dp_cw dp_m_X11_interest ∈ dp_T := dp_in_ok (q := 2658) rfl rfl
theorem dp_cm_X11_free : dp_cw dp_m_X11_free ∈ dp_T := dp_in_ok (q := 1231) rfl rfl
theorem dp_cm_X11_list : dp_cw dp_m_X11_list ∈ dp_T := dp_in_ok (q := 1280) rfl rfl
theorem dp_cm_X11_security : dp_cw dp_m_X11_security ∈ dp_T := dp_in_ok (q := 2675) rfl rfl
theorem dp_cm_X11_reservation : dp_cw dp_m_X11_reservation ∈ dp_T := dp_in_ok (q := 2686) rfl rfl
theorem dp_cm_X11_batch : dp_cw dp_m_X11_batch ∈ dp_T := dp_in_ok (q := 2706) rfl rfl
theorem dp_cm_X11_isOpenBatch : dp_cw dp_m_X11_isOpenBatch ∈ dp_T := dp_in_ok (q := 1289) rfl rfl
theorem dp_cm_X11_isAccount : dp_cw dp_m_X11_isAccount ∈ dp_T := dp_in_ok (q := 1304) rfl rfl
theorem dp_cm_X11_entry : dp_cw dp_m_X11_entry ∈ dp_T := dp_in_ok (q := 1285) rfl rfl
theorem dp_cm_X11_failing : dp_cw dp_m_X11_failing ∈ dp_T := dp_in_ok (q := 1323) rfl rfl
theorem dp_cm_X11_post : dp_cw dp_m_X11_post ∈ dp_T := dp_in_ok (q := 2718) rfl rfl
theorem dp_cm_X11_reverse : dp_cw dp_m_X11_reverse ∈ dp_T := dp_in_ok (q := 2766) rfl rfl
theorem dp_cm_X11_close : dp_cw dp_m_X11_close ∈ dp_T := dp_in_ok (q := 1331) rfl rfl
theorem dp_cm_X11_account : dp_cw dp_m_X11_account ∈ dp_T := dp_in_ok (q := 2791) rfl rfl
theorem dp_cm_X11_statement : dp_cw dp_m_X11_statement ∈ dp_T := dp_in_ok (q := 2819) rfl rfl
theorem dp_cm_X11_isAccountKind : dp_cw dp_m_X11_isAccountKind ∈ dp_T := dp_in_ok (q := 1341) rfl rfl
theorem dp_cm_X11_share : dp_cw dp_m_X11_share ∈ dp_T := dp_in_ok (q := 1338) rfl rfl
theorem dp_cm_X11_cost : dp_cw dp_m_X11_cost ∈ dp_T := dp_in_ok (q := 1346) rfl rfl
theorem dp_cm_X11_passed : dp_cw dp_m_X11_passed ∈ dp_T := dp_in_ok (q := 2828) rfl rfl
theorem dp_cm_X11_read : dp_cw dp_m_X11_read ∈ dp_T := dp_in_ok (q := 2862) rfl rfl
theorem dp_cm_X11_batchOf : dp_cw dp_m_X11_batchOf ∈ dp_T := dp_in_ok (q := 2874) rfl rfl
theorem dp_cm_X11_declare : dp_cw dp_m_X11_declare ∈ dp_T := dp_in_ok (q := 2882) rfl rfl
theorem dp_cm_X11_amount : dp_cw dp_m_X11_amount ∈ dp_T := dp_in_ok (q := 1350) rfl rfl
theorem dp_cm_X11_ask : dp_cw dp_m_X11_ask ∈ dp_T := dp_in_ok (q := 2897) rfl rfl
theorem dp_cm_X11_again : dp_cw dp_m_X11_again ∈ dp_T := dp_in_ok (q := 2916) rfl rfl
theorem dp_cg10 : ∀ mi ∈ dp_g10, dp_cw mi ∈ dp_T := List.forall_mem_cons.mpr ⟨dp_cm_X11_guarantee, List.forall_mem_cons.mpr ⟨dp_cm_X11_isHolder, List.forall_mem_cons.mpr ⟨dp_cm_X11_isDesk, List.forall_mem_cons.mpr ⟨dp_cm_X11_first, List.forall_mem_cons.mpr ⟨dp_cm_X11_shut, List.forall_mem_cons.mpr ⟨dp_cm_X11_fails, List.forall_mem_cons.mpr ⟨dp_cm_X11_tick, List.forall_mem_cons.mpr ⟨dp_cm_X11_interest, List.forall_mem_cons.mpr ⟨dp_cm_X11_free, List.forall_mem_cons.mpr ⟨dp_cm_X11_list, List.forall_mem_cons.mpr ⟨dp_cm_X11_security, List.forall_mem_cons.mpr ⟨dp_cm_X11_reservation, List.forall_mem_cons.mpr ⟨dp_cm_X11_batch, List.forall_mem_cons.mpr ⟨dp_cm_X11_isOpenBatch, List.forall_mem_cons.mpr ⟨dp_cm_X11_isAccount, List.forall_mem_cons.mpr ⟨dp_cm_X11_entry, List.forall_mem_cons.mpr ⟨dp_cm_X11_failing, List.forall_mem_cons.mpr ⟨dp_cm_X11_post, List.forall_mem_cons.mpr ⟨dp_cm_X11_reverse, List.forall_mem_cons.mpr ⟨dp_cm_X11_close, List.forall_mem_cons.mpr ⟨dp_cm_X11_account, List.forall_mem_cons.mpr ⟨dp_cm_X11_statement, List.forall_mem_cons.mpr ⟨dp_cm_X11_isAccountKind, List.forall_mem_cons.mpr ⟨dp_cm_X11_share, List.forall_mem_cons.mpr ⟨dp_cm_X11_cost, List.forall_mem_cons.mpr ⟨dp_cm_X11_passed, List.forall_mem_cons.mpr ⟨dp_cm_X11_read, List.forall_mem_cons.mpr ⟨dp_cm_X11_batchOf, List.forall_mem_cons.mpr ⟨dp_cm_X11_declare, List.forall_mem_cons.mpr ⟨dp_cm_X11_amount, List.forall_mem_cons.mpr ⟨dp_cm_X11_ask, List.forall_mem_cons.mpr ⟨dp_cm_X11_again, fun _ h => absurd h List.not_mem_nil⟩⟩⟩⟩⟩⟩⟩⟩⟩⟩⟩⟩⟩⟩⟩⟩⟩⟩⟩⟩⟩⟩⟩⟩⟩⟩⟩⟩⟩⟩⟩⟩
def dp_q10 : List (Nat × Nat × Nat × Nat) := [(2643, 257, 2641, 2642), (1234, 257, 1233, 0), (1222, 257, 1221, 0), (1191, 257, 1189, 1190), (1207, 257, 1205, 1206), (1219, 257, 1217, 1218), (1226, 257, 1224, 1225), (2658, 257, 2656, 2657), (1231, 257, 1229, 1230), (1280, 257, 1262, 1263), (2675, 257, 2673, 2674), (2686, 257, 2684, 2685), (2706, 257, 2704, 2705), (1289, 257, 1288, 17), (1304, 257, 1303, 0), (1285, 257, 1283, 1284), (1323, 257, 1321, 1322), (2718, 257, 2716, 2717), (2766, 257, 2764, 2765), (1331, 257, 1329, 1330), (2791, 257, 2789, 2790), (2819, 257, 2817, 2818), (1341, 257, 1340, 0), (1338, 257, 1336, 1337), (1346, 257, 1344, 1345), (2828, 257, 2826, 2827), (2862, 257, 2860, 2861), (2874, 257, 2872, 2873), (2882, 257, 2880, 2881), (1350, 257, 1348, 1349), (2897, 257, 2895, 2896), (2916, 257, 2914, 2915)]
set_option maxRecDepth 100000 in
theorem dp_kg10 : (dp_g10.zip dp_q10).all (fun q => dp_ckM q.1 q.2) = true := by decide +kernel
theorem dp_cm_X11_duty : dp_cw dp_m_X11_duty ∈ dp_T := dp_in_ok (q := 2929) rfl rfl
theorem dp_cm_X11_assess : dp_cw dp_m_X11_assess ∈ dp_T := dp_in_ok (q := 2963) rfl rfl
theorem dp_cm_X11_pay : dp_cw dp_m_X11_pay ∈ dp_T := dp_in_ok (q := 3004) rfl rfl
theorem dp_cm_X11_claim : dp_cw dp_m_X11_claim ∈ dp_T := dp_in_ok (q := 3042) rfl rfl
theorem dp_cm_X11_correct : dp_cw dp_m_X11_correct ∈ dp_T := dp_in_ok (q := 3078) rfl rfl
theorem dp_cm_X11_cancel : dp_cw dp_m_X11_cancel ∈ dp_T := dp_in_ok (q := 3089) rfl rfl
theorem dp_cm_X11_declared : dp_cw dp_m_X11_declared ∈ dp_T := dp_in_ok (q := 3107) rfl rfl
theorem dp_cm_X11_count : dp_cw dp_m_X11_count ∈ dp_T := dp_in_ok (q := 1383) rfl rfl
theorem dp_cm_X11_countOfPort : dp_cw dp_m_X11_countOfPort ∈ dp_T := dp_in_ok (q := 1388) rfl rfl
theorem dp_cm_X11_countOfCustoms : dp_cw dp_m_X11_countOfCustoms ∈ dp_T := dp_in_ok (q := 1421) rfl rfl
theorem dp_cm_X11_countOfSecurities : dp_cw dp_m_X11_countOfSecurities ∈ dp_T := dp_in_ok (q := 1427) rfl rfl
theorem dp_cm_X11_countOfLedger : dp_cw dp_m_X11_countOfLedger ∈ dp_T := dp_in_ok (q := 1433) rfl rfl
theorem dp_cm_X11_countOfOne : dp_cw dp_m_X11_countOfOne ∈ dp_T := dp_in_ok (q := 1444) rfl rfl
theorem dp_cm_X12_thrown : dp_cw dp_m_X12_thrown ∈ dp_T := dp_in_ok (q := 3124) rfl rfl
theorem dp_cm_X12_refuse : dp_cw dp_m_X12_refuse ∈ dp_T := dp_in_ok (q := 3708) rfl rfl
theorem dp_cm_X12_in : dp_cw dp_m_X12_in ∈ dp_T := dp_in_ok (q := 3699) rfl rfl
theorem dp_cm_X12_held : dp_cw dp_m_X12_held ∈ dp_T := dp_in_ok (q := 3134) rfl rfl
theorem dp_cm_X12_init : dp_cw dp_m_X12_init ∈ dp_T := dp_in_ok (q := 3129) rfl rfl
theorem dp_cm_X12_isBay : dp_cw dp_m_X12_isBay ∈ dp_T := dp_in_ok (q := 3695) rfl rfl
theorem dp_cm_X12_isBox : dp_cw dp_m_X12_isBox ∈ dp_T := dp_in_ok (q := 3724) rfl rfl
theorem dp_cm_X12_deckHeight : dp_cw dp_m_X12_deckHeight ∈ dp_T := dp_in_ok (q := 3716) rfl rfl
theorem dp_cm_X12_lyingIn : dp_cw dp_m_X12_lyingIn ∈ dp_T := dp_in_ok (q := 3712) rfl rfl
theorem dp_cm_X12_box : dp_cw dp_m_X12_box ∈ dp_T := dp_in_ok (q := 3691) rfl rfl
theorem dp_cm_X12_leads : dp_cw dp_m_X12_leads ∈ dp_T := dp_in_ok (q := 3728) rfl rfl
theorem dp_cm_X12_before : dp_cw dp_m_X12_before ∈ dp_T := dp_in_ok (q := 3720) rfl rfl
theorem dp_cm_X12_cellAt : dp_cw dp_m_X12_cellAt ∈ dp_T := dp_in_ok (q := 3773) rfl rfl
theorem dp_cm_X12_topOf : dp_cw dp_m_X12_topOf ∈ dp_T := dp_in_ok (q := 3769) rfl rfl
theorem dp_cm_X12_isAside : dp_cw dp_m_X12_isAside ∈ dp_T := dp_in_ok (q := 3753) rfl rfl
theorem dp_cm_X12_ashoreIn : dp_cw dp_m_X12_ashoreIn ∈ dp_T := dp_in_ok (q := 3756) rfl rfl
theorem dp_cm_X12_begins : dp_cw dp_m_X12_begins ∈ dp_T := dp_in_ok (q := 3740) rfl rfl
theorem dp_cm_X12_taken : dp_cw dp_m_X12_taken ∈ dp_T := dp_in_ok (q := 3765) rfl rfl
theorem dp_cm_X12_moved : dp_cw dp_m_X12_moved ∈ dp_T := dp_in_ok (q := 3761) rfl rfl
theorem dp_cg11 : ∀ mi ∈ dp_g11, dp_cw mi ∈ dp_T := List.forall_mem_cons.mpr ⟨dp_cm_X11_duty, List.forall_mem_cons.mpr ⟨dp_cm_X11_assess, List.forall_mem_cons.mpr ⟨dp_cm_X11_pay, List.forall_mem_cons.mpr ⟨dp_cm_X11_claim, List.forall_mem_cons.mpr ⟨dp_cm_X11_correct, List.forall_mem_cons.mpr ⟨dp_cm_X11_cancel, List.forall_mem_cons.mpr ⟨dp_cm_X11_declared, List.forall_mem_cons.mpr ⟨dp_cm_X11_count, List.forall_mem_cons.mpr ⟨dp_cm_X11_countOfPort, List.forall_mem_cons.mpr ⟨dp_cm_X11_countOfCustoms, List.forall_mem_cons.mpr ⟨dp_cm_X11_countOfSecurities, List.forall_mem_cons.mpr ⟨dp_cm_X11_countOfLedger, List.forall_mem_cons.mpr ⟨dp_cm_X11_countOfOne, List.forall_mem_cons.mpr ⟨dp_cm_X12_thrown, List.forall_mem_cons.mpr ⟨dp_cm_X12_refuse, List.forall_mem_cons.mpr ⟨dp_cm_X12_in, List.forall_mem_cons.mpr ⟨dp_cm_X12_held, List.forall_mem_cons.mpr ⟨dp_cm_X12_init, List.forall_mem_cons.mpr ⟨dp_cm_X12_isBay, List.forall_mem_cons.mpr ⟨dp_cm_X12_isBox, List.forall_mem_cons.mpr ⟨dp_cm_X12_deckHeight, List.forall_mem_cons.mpr ⟨dp_cm_X12_lyingIn, List.forall_mem_cons.mpr ⟨dp_cm_X12_box, List.forall_mem_cons.mpr ⟨dp_cm_X12_leads, List.forall_mem_cons.mpr ⟨dp_cm_X12_before, List.forall_mem_cons.mpr ⟨dp_cm_X12_cellAt, List.forall_mem_cons.mpr ⟨dp_cm_X12_topOf, List.forall_mem_cons.mpr ⟨dp_cm_X12_isAside, List.forall_mem_cons.mpr ⟨dp_cm_X12_ashoreIn, List.forall_mem_cons.mpr ⟨dp_cm_X12_begins, List.forall_mem_cons.mpr ⟨dp_cm_X12_taken, List.forall_mem_cons.mpr ⟨dp_cm_X12_moved, fun _ h => absurd h List.not_mem_nil⟩⟩⟩⟩⟩⟩⟩⟩⟩⟩⟩⟩⟩⟩⟩⟩⟩⟩⟩⟩⟩⟩⟩⟩⟩⟩⟩⟩⟩⟩⟩⟩
def dp_q11 : List (Nat × Nat × Nat × Nat) := [(2929, 257, 2927, 2928), (2963, 257, 2961, 2962), (3004, 257, 3002, 3003), (3042, 257, 3040, 3041), (3078, 257, 3076, 3077), (3089, 257, 3087, 3088), (3107, 257, 3105, 3106), (1383, 257, 1381, 1382), (1388, 257, 1387, 25), (1421, 257, 1420, 28), (1427, 257, 1426, 29), (1433, 257, 1432, 30), (1444, 257, 1443, 31), (3124, 270, 3122, 3123), (3708, 270, 3707, 136), (3699, 270, 3698, 0), (3134, 270, 3133, 0), (3129, 270, 3128, 0), (3695, 270, 3694, 135), (3724, 270, 3723, 139), (3716, 270, 3715, 138), (3712, 270, 3711, 137), (3691, 270, 3689, 3690), (3728, 270, 3727, 140), (3720, 270, 3718, 3719), (3773, 270, 3772, 148), (3769, 270, 3768, 147), (3753, 270, 3752, 0), (3756, 270, 3755, 0), (3740, 270, 3739, 142), (3765, 270, 3764, 146), (3761, 270, 3760, 145)]
set_option maxRecDepth 100000 in
theorem dp_kg11 : (dp_g11.zip dp_q11).all (fun q => dp_ckM q.1 q.2) = true := by decide +kernel
theorem dp_cm_X12_isEnd : dp_cw dp_m_X12_isEnd ∈ dp_T := dp_in_ok (q := 3750) rfl rfl
theorem dp_cm_X12_comes : dp_cw dp_m_X12_comes ∈ dp_T := dp_in_ok (q := 3744) rfl rfl
theorem dp_cm_X12_search : dp_cw dp_m_X12_search ∈ dp_T := dp_in_ok (q := 3736) rfl rfl
theorem dp_cm_X12_plan : dp_cw dp_m_X12_plan ∈ dp_T := dp_in_ok (q := 3732) rfl rfl
theorem dp_cm_X12_move : dp_cw dp_m_X12_move ∈ dp_T := dp_in_ok (q := 3778) rfl rfl
theorem dp_cm_X12_work : dp_cw dp_m_X12_work ∈ dp_T := dp_in_ok (q := 3783) rfl rfl
theorem dp_cm_X12_isAboveLeaving : dp_cw dp_m_X12_isAboveLeaving ∈ dp_T := dp_in_ok (q := 3847) rfl rfl
theorem dp_cm_X12_least : dp_cw dp_m_X12_least ∈ dp_T := dp_in_ok (q := 3843) rfl rfl
theorem dp_cm_X12_hasNeeds : dp_cw dp_m_X12_hasNeeds ∈ dp_T := dp_in_ok (q := 3855) rfl rfl
theorem dp_cm_X12_swap : dp_cw dp_m_X12_swap ∈ dp_T := dp_in_ok (q := 3851) rfl rfl
theorem dp_cm_X12_aboard : dp_cw dp_m_X12_aboard ∈ dp_T := dp_in_ok (q := 3859) rfl rfl
theorem dp_cm_X12_isYardRow : dp_cw dp_m_X12_isYardRow ∈ dp_T := dp_in_ok (q := 3867) rfl rfl
theorem dp_cm_X12_heightOf : dp_cw dp_m_X12_heightOf ∈ dp_T := dp_in_ok (q := 3795) rfl rfl
theorem dp_cm_X12_weightOf : dp_cw dp_m_X12_weightOf ∈ dp_T := dp_in_ok (q := 3803) rfl rfl
theorem dp_cm_X12_boxAt : dp_cw dp_m_X12_boxAt ∈ dp_T := dp_in_ok (q := 3799) rfl rfl
theorem dp_cm_X12_isTop : dp_cw dp_m_X12_isTop ∈ dp_T := dp_in_ok (q := 3887) rfl rfl
theorem dp_cm_X12_hasOtherSize : dp_cw dp_m_X12_hasOtherSize ∈ dp_T := dp_in_ok (q := 3807) rfl rfl
theorem dp_cm_X12_sooner : dp_cw dp_m_X12_sooner ∈ dp_T := dp_in_ok (q := 3815) rfl rfl
theorem dp_cm_X12_isHere : dp_cw dp_m_X12_isHere ∈ dp_T := dp_in_ok (q := 3879) rfl rfl
theorem dp_cm_X12_broken : dp_cw dp_m_X12_broken ∈ dp_T := dp_in_ok (q := 3791) rfl rfl
theorem dp_cm_X12_scoreOf : dp_cw dp_m_X12_scoreOf ∈ dp_T := dp_in_ok (q := 3811) rfl rfl
theorem dp_cm_X12_bestRow : dp_cw dp_m_X12_bestRow ∈ dp_T := dp_in_ok (q := 3787) rfl rfl
theorem dp_cm_X12_ground : dp_cw dp_m_X12_ground ∈ dp_T := dp_in_ok (q := 3863) rfl rfl
theorem dp_cm_X12_reserve : dp_cw dp_m_X12_reserve ∈ dp_T := dp_in_ok (q := 3871) rfl rfl
theorem dp_cm_X12_stands : dp_cw dp_m_X12_stands ∈ dp_T := dp_in_ok (q := 3823) rfl rfl
theorem dp_cm_X12_goesTo : dp_cw dp_m_X12_goesTo ∈ dp_T := dp_in_ok (q := 3819) rfl rfl
theorem dp_cm_X12_put : dp_cw dp_m_X12_put ∈ dp_T := dp_in_ok (q := 3875) rfl rfl
theorem dp_cm_X12_take : dp_cw dp_m_X12_take ∈ dp_T := dp_in_ok (q := 3883) rfl rfl
theorem dp_cm_X12_shift : dp_cw dp_m_X12_shift ∈ dp_T := dp_in_ok (q := 3891) rfl rfl
theorem dp_cm_X12_choose : dp_cw dp_m_X12_choose ∈ dp_T := dp_in_ok (q := 3895) rfl rfl
theorem dp_cm_X12_asideRow : dp_cw dp_m_X12_asideRow ∈ dp_T := dp_in_ok (q := 3908) rfl rfl
theorem dp_cm_X12_worst : dp_cw dp_m_X12_worst ∈ dp_T := dp_in_ok (q := 3904) rfl rfl
theorem dp_cg12 : ∀ mi ∈ dp_g12, dp_cw mi ∈ dp_T := List.forall_mem_cons.mpr ⟨dp_cm_X12_isEnd, List.forall_mem_cons.mpr ⟨dp_cm_X12_comes, List.forall_mem_cons.mpr ⟨dp_cm_X12_search, List.forall_mem_cons.mpr ⟨dp_cm_X12_plan, List.forall_mem_cons.mpr ⟨dp_cm_X12_move, List.forall_mem_cons.mpr ⟨dp_cm_X12_work, List.forall_mem_cons.mpr ⟨dp_cm_X12_isAboveLeaving, List.forall_mem_cons.mpr ⟨dp_cm_X12_least, List.forall_mem_cons.mpr ⟨dp_cm_X12_hasNeeds, List.forall_mem_cons.mpr ⟨dp_cm_X12_swap, List.forall_mem_cons.mpr ⟨dp_cm_X12_aboard, List.forall_mem_cons.mpr ⟨dp_cm_X12_isYardRow, List.forall_mem_cons.mpr ⟨dp_cm_X12_heightOf, List.forall_mem_cons.mpr ⟨dp_cm_X12_weightOf, List.forall_mem_cons.mpr ⟨dp_cm_X12_boxAt, List.forall_mem_cons.mpr ⟨dp_cm_X12_isTop, List.forall_mem_cons.mpr ⟨dp_cm_X12_hasOtherSize, List.forall_mem_cons.mpr ⟨dp_cm_X12_sooner, List.forall_mem_cons.mpr ⟨dp_cm_X12_isHere, List.forall_mem_cons.mpr ⟨dp_cm_X12_broken, List.forall_mem_cons.mpr ⟨dp_cm_X12_scoreOf, List.forall_mem_cons.mpr ⟨dp_cm_X12_bestRow, List.forall_mem_cons.mpr ⟨dp_cm_X12_ground, List.forall_mem_cons.mpr ⟨dp_cm_X12_reserve, List.forall_mem_cons.mpr ⟨dp_cm_X12_stands, List.forall_mem_cons.mpr ⟨dp_cm_X12_goesTo, List.forall_mem_cons.mpr ⟨dp_cm_X12_put, List.forall_mem_cons.mpr ⟨dp_cm_X12_take, List.forall_mem_cons.mpr ⟨dp_cm_X12_shift, List.forall_mem_cons.mpr ⟨dp_cm_X12_choose, List.forall_mem_cons.mpr ⟨dp_cm_X12_asideRow, List.forall_mem_cons.mpr ⟨dp_cm_X12_worst, fun _ h => absurd h List.not_mem_nil⟩⟩⟩⟩⟩⟩⟩⟩⟩⟩⟩⟩⟩⟩⟩⟩⟩⟩⟩⟩⟩⟩⟩⟩⟩⟩⟩⟩⟩⟩⟩⟩
def dp_q12 : List (Nat × Nat × Nat × Nat) := [(3750, 270, 3749, 144), (3744, 270, 3743, 143), (3736, 270, 3735, 141), (3732, 270, 3730, 3731), (3778, 270, 3776, 3777), (3783, 270, 3781, 3782), (3847, 270, 3846, 159), (3843, 270, 3841, 3842), (3855, 270, 3854, 160), (3851, 270, 3849, 3850), (3859, 270, 3857, 3858), (3867, 270, 3866, 161), (3795, 270, 3794, 151), (3803, 270, 3802, 153), (3799, 270, 3798, 152), (3887, 270, 3886, 163), (3807, 270, 3806, 154), (3815, 270, 3814, 156), (3879, 270, 3878, 162), (3791, 270, 3790, 150), (3811, 270, 3810, 155), (3787, 270, 3786, 149), (3863, 270, 3861, 3862), (3871, 270, 3869, 3870), (3823, 270, 3822, 158), (3819, 270, 3818, 157), (3875, 270, 3873, 3874), (3883, 270, 3881, 3882), (3891, 270, 3889, 3890), (3895, 270, 3893, 3894), (3908, 270, 3907, 165), (3904, 270, 3903, 164)]
set_option maxRecDepth 100000 in
theorem dp_kg12 : (dp_g12.zip dp_q12).all (fun q => dp_ckM q.1 q.2) = true := by decide +kernel
theorem dp_cm_X12_night : dp_cw dp_m_X12_night ∈ dp_T := dp_in_ok (q := 3899) rfl rfl
theorem dp_cm_X12_undo : dp_cw dp_m_X12_undo ∈ dp_T := dp_in_ok (q := 3912) rfl rfl
theorem dp_cm_X12_isInTheWay : dp_cw dp_m_X12_isInTheWay ∈ dp_T := dp_in_ok (q := 3920) rfl rfl
theorem dp_cm_X12_where : dp_cw dp_m_X12_where ∈ dp_T := dp_in_ok (q := 3916) rfl rfl
theorem dp_cm_X12_at : dp_cw dp_m_X12_at ∈ dp_T := dp_in_ok (q := 3924) rfl rfl
theorem dp_cm_X12_kilograms : dp_cw dp_m_X12_kilograms ∈ dp_T := dp_in_ok (q := 3932) rfl rfl
theorem dp_cm_X12_tells : dp_cw dp_m_X12_tells ∈ dp_T := dp_in_ok (q := 3944) rfl rfl
theorem dp_cm_X12_weightIn : dp_cw dp_m_X12_weightIn ∈ dp_T := dp_in_ok (q := 3936) rfl rfl
theorem dp_cm_X12_goods : dp_cw dp_m_X12_goods ∈ dp_T := dp_in_ok (q := 3928) rfl rfl
theorem dp_cm_X12_manyIn : dp_cw dp_m_X12_manyIn ∈ dp_T := dp_in_ok (q := 3975) rfl rfl
theorem dp_cm_X12_isFree : dp_cw dp_m_X12_isFree ∈ dp_T := dp_in_ok (q := 3987) rfl rfl
theorem dp_cm_X12_ownBar : dp_cw dp_m_X12_ownBar ∈ dp_T := dp_in_ok (q := 3983) rfl rfl
theorem dp_cm_X12_bar : dp_cw dp_m_X12_bar ∈ dp_T := dp_in_ok (q := 3940) rfl rfl
theorem dp_cm_X12_lift : dp_cw dp_m_X12_lift ∈ dp_T := dp_in_ok (q := 3948) rfl rfl
theorem dp_cm_X12_join : dp_cw dp_m_X12_join ∈ dp_T := dp_in_ok (q := 3953) rfl rfl
theorem dp_cm_X12_rule : dp_cw dp_m_X12_rule ∈ dp_T := dp_in_ok (q := 3957) rfl rfl
theorem dp_cm_X12_ruled : dp_cw dp_m_X12_ruled ∈ dp_T := dp_in_ok (q := 3971) rfl rfl
theorem dp_cm_X12_barAt : dp_cw dp_m_X12_barAt ∈ dp_T := dp_in_ok (q := 3979) rfl rfl
theorem dp_cm_X12_isReleased : dp_cw dp_m_X12_isReleased ∈ dp_T := dp_in_ok (q := 3967) rfl rfl
theorem dp_cm_X12_release : dp_cw dp_m_X12_release ∈ dp_T := dp_in_ok (q := 3963) rfl rfl
theorem dp_cm_X12_bars : dp_cw dp_m_X12_bars ∈ dp_T := dp_in_ok (q := 3991) rfl rfl
theorem dp_cm_X12_part : dp_cw dp_m_X12_part ∈ dp_T := dp_in_ok (q := 3995) rfl rfl
theorem dp_cm_X12_withdraw : dp_cw dp_m_X12_withdraw ∈ dp_T := dp_in_ok (q := 3999) rfl rfl
theorem dp_cm_X12_gate : dp_cw dp_m_X12_gate ∈ dp_T := dp_in_ok (q := 4003) rfl rfl
theorem dp_cm_X12_away : dp_cw dp_m_X12_away ∈ dp_T := dp_in_ok (q := 4007) rfl rfl
theorem dp_cm_X12_notice : dp_cw dp_m_X12_notice ∈ dp_T := dp_in_ok (q := 4011) rfl rfl
theorem dp_cm_X12_look : dp_cw dp_m_X12_look ∈ dp_T := dp_in_ok (q := 4015) rfl rfl
theorem dp_cm_X12_isGroup : dp_cw dp_m_X12_isGroup ∈ dp_T := dp_in_ok (q := 4022) rfl rfl
theorem dp_cm_X12_isLand : dp_cw dp_m_X12_isLand ∈ dp_T := dp_in_ok (q := 4027) rfl rfl
theorem dp_cm_X12_isDay : dp_cw dp_m_X12_isDay ∈ dp_T := dp_in_ok (q := 4046) rfl rfl
theorem dp_cm_X12_digitsOf : dp_cw dp_m_X12_digitsOf ∈ dp_T := dp_in_ok (q := 4038) rfl rfl
theorem dp_cm_X12_bits : dp_cw dp_m_X12_bits ∈ dp_T := dp_in_ok (q := 4062) rfl rfl
theorem dp_cg13 : ∀ mi ∈ dp_g13, dp_cw mi ∈ dp_T := List.forall_mem_cons.mpr ⟨dp_cm_X12_night, List.forall_mem_cons.mpr ⟨dp_cm_X12_undo, List.forall_mem_cons.mpr ⟨dp_cm_X12_isInTheWay, List.forall_mem_cons.mpr ⟨dp_cm_X12_where, List.forall_mem_cons.mpr ⟨dp_cm_X12_at, List.forall_mem_cons.mpr ⟨dp_cm_X12_kilograms, List.forall_mem_cons.mpr ⟨dp_cm_X12_tells, List.forall_mem_cons.mpr ⟨dp_cm_X12_weightIn, List.forall_mem_cons.mpr ⟨dp_cm_X12_goods, List.forall_mem_cons.mpr ⟨dp_cm_X12_manyIn, List.forall_mem_cons.mpr ⟨dp_cm_X12_isFree, List.forall_mem_cons.mpr ⟨dp_cm_X12_ownBar, List.forall_mem_cons.mpr ⟨dp_cm_X12_bar, List.forall_mem_cons.mpr ⟨dp_cm_X12_lift, List.forall_mem_cons.mpr ⟨dp_cm_X12_join, List.forall_mem_cons.mpr ⟨dp_cm_X12_rule, List.forall_mem_cons.mpr ⟨dp_cm_X12_ruled, List.forall_mem_cons.mpr ⟨dp_cm_X12_barAt, List.forall_mem_cons.mpr ⟨dp_cm_X12_isReleased, List.forall_mem_cons.mpr ⟨dp_cm_X12_release, List.forall_mem_cons.mpr ⟨dp_cm_X12_bars, List.forall_mem_cons.mpr ⟨dp_cm_X12_part, List.forall_mem_cons.mpr ⟨dp_cm_X12_withdraw, List.forall_mem_cons.mpr ⟨dp_cm_X12_gate, List.forall_mem_cons.mpr ⟨dp_cm_X12_away, List.forall_mem_cons.mpr ⟨dp_cm_X12_notice, List.forall_mem_cons.mpr ⟨dp_cm_X12_look, List.forall_mem_cons.mpr ⟨dp_cm_X12_isGroup, List.forall_mem_cons.mpr ⟨dp_cm_X12_isLand, List.forall_mem_cons.mpr ⟨dp_cm_X12_isDay, List.forall_mem_cons.mpr ⟨dp_cm_X12_digitsOf, List.forall_mem_cons.mpr ⟨dp_cm_X12_bits, fun _ h => absurd h List.not_mem_nil⟩⟩⟩⟩⟩⟩⟩⟩⟩⟩⟩⟩⟩⟩⟩⟩⟩⟩⟩⟩⟩⟩⟩⟩⟩⟩⟩⟩⟩⟩⟩⟩
def dp_q13 : List (Nat × Nat × Nat × Nat) := [(3899, 270, 3897, 3898), (3912, 270, 3910, 3911), (3920, 270, 3919, 166), (3916, 270, 3914, 3915), (3924, 270, 3922, 3923), (3932, 270, 3931, 167), (3944, 270, 3943, 169), (3936, 270, 3935, 168), (3928, 270, 3926, 3927), (3975, 270, 3974, 172), (3987, 270, 3986, 175), (3983, 270, 3982, 174), (3940, 270, 3938, 3939), (3948, 270, 3946, 3947), (3953, 270, 3951, 3952), (3957, 270, 3955, 3956), (3971, 270, 3970, 171), (3979, 270, 3978, 173), (3967, 270, 3966, 170), (3963, 270, 3961, 3962), (3991, 270, 3989, 3990), (3995, 270, 3993, 3994), (3999, 270, 3997, 3998), (4003, 270, 4001, 4002), (4007, 270, 4005, 4006), (4011, 270, 4009, 4010), (4015, 270, 4013, 4014), (4022, 270, 4021, 0), (4027, 270, 4026, 0), (4046, 270, 4045, 0), (4038, 270, 4037, 0), (4062, 270, 4061, 0)]
set_option maxRecDepth 100000 in
theorem dp_kg13 : (dp_g13.zip dp_q13).all (fun q => dp_ckM q.1 q.2) = true := by decide +kernel
