/-! the words of the law -/
theorem wq_445 : Cond.methodLink RL 114 yL_append ∈ po_TB := List.mem_filter.mpr ⟨List.mem_of_getElem? (i := 445) (by decide +kernel), by decide +kernel⟩
theorem wq_447 : Cond.codeWith yL_append cL_append 4 (some .int) [(0, 9, 12, 13), (0, 9, 15, 15)] ∈ po_TB := List.mem_filter.mpr ⟨List.mem_of_getElem? (i := 447) (by decide +kernel), by decide +kernel⟩
theorem wq_446 : Cond.static yL_append ∈ po_TB := List.mem_filter.mpr ⟨List.mem_of_getElem? (i := 446) (by decide +kernel), by decide +kernel⟩
theorem wq_89 : Cond.initialized RL ∈ po_TB := List.mem_filter.mpr ⟨List.mem_of_getElem? (i := 89) (by decide +kernel), by decide +kernel⟩
theorem mw_L_append : po_MW yL_append cL_append 4 [(0, 9, 12, 13), (0, 9, 15, 15)] 3 := ⟨wq_447, wq_446, wq_89, by decide +kernel⟩
theorem wq_1278 : Cond.methodLink RL 119 yX8_append ∈ po_TB := List.mem_filter.mpr ⟨List.mem_of_getElem? (i := 1278) (by decide +kernel), by decide +kernel⟩
theorem wq_1281 : Cond.code yX8_append cX8_append 5 (some .int) ∈ po_TB := List.mem_filter.mpr ⟨List.mem_of_getElem? (i := 1281) (by decide +kernel), by decide +kernel⟩
theorem wq_1279 : Cond.instanceMethod yX8_append ∈ po_TB := List.mem_filter.mpr ⟨List.mem_of_getElem? (i := 1279) (by decide +kernel), by decide +kernel⟩
theorem mv_X8_append : po_MV yX8_append cX8_append 5 (some .int) 1 := ⟨wq_1281, wq_1279, wq_98, by decide +kernel⟩
theorem wq_1280 : Cond.selects RX8 yX8_append yX8_append ∈ po_TB := List.mem_filter.mpr ⟨List.mem_of_getElem? (i := 1280) (by decide +kernel), by decide +kernel⟩
theorem ws_X8_append : Cond.selects yX8_append.cls yX8_append yX8_append ∈ po_TB := wq_1280
theorem wq_1209 : Cond.methodLink RL 120 yX8_thrown ∈ po_TB := List.mem_filter.mpr ⟨List.mem_of_getElem? (i := 1209) (by decide +kernel), by decide +kernel⟩
theorem wq_1212 : Cond.code yX8_thrown cX8_thrown 1 (some .int) ∈ po_TB := List.mem_filter.mpr ⟨List.mem_of_getElem? (i := 1212) (by decide +kernel), by decide +kernel⟩
theorem wq_1210 : Cond.instanceMethod yX8_thrown ∈ po_TB := List.mem_filter.mpr ⟨List.mem_of_getElem? (i := 1210) (by decide +kernel), by decide +kernel⟩
theorem mv_X8_thrown : po_MV yX8_thrown cX8_thrown 1 (some .int) 0 := ⟨wq_1212, wq_1210, wq_98, by decide +kernel⟩
theorem wq_1211 : Cond.selects RX8 yX8_thrown yX8_thrown ∈ po_TB := List.mem_filter.mpr ⟨List.mem_of_getElem? (i := 1211) (by decide +kernel), by decide +kernel⟩
theorem ws_X8_thrown : Cond.selects yX8_thrown.cls yX8_thrown yX8_thrown ∈ po_TB := wq_1211
theorem wq_545 : Cond.methodLink RL 123 yL_execute ∈ po_TB := List.mem_filter.mpr ⟨List.mem_of_getElem? (i := 545) (by decide +kernel), by decide +kernel⟩
theorem wq_547 : Cond.codeWith yL_execute cL_execute 3 (some .int) [(0, 8, 11, 13)] ∈ po_TB := List.mem_filter.mpr ⟨List.mem_of_getElem? (i := 547) (by decide +kernel), by decide +kernel⟩
theorem wq_546 : Cond.static yL_execute ∈ po_TB := List.mem_filter.mpr ⟨List.mem_of_getElem? (i := 546) (by decide +kernel), by decide +kernel⟩
theorem mw_L_execute : po_MW yL_execute cL_execute 3 [(0, 8, 11, 13)] 2 := ⟨wq_547, wq_546, wq_89, by decide +kernel⟩
theorem wq_1289 : Cond.methodLink RL 126 yX8_execute ∈ po_TB := List.mem_filter.mpr ⟨List.mem_of_getElem? (i := 1289) (by decide +kernel), by decide +kernel⟩
theorem wq_1292 : Cond.code yX8_execute cX8_execute 2 (some .int) ∈ po_TB := List.mem_filter.mpr ⟨List.mem_of_getElem? (i := 1292) (by decide +kernel), by decide +kernel⟩
theorem wq_1290 : Cond.instanceMethod yX8_execute ∈ po_TB := List.mem_filter.mpr ⟨List.mem_of_getElem? (i := 1290) (by decide +kernel), by decide +kernel⟩
theorem mv_X8_execute : po_MV yX8_execute cX8_execute 2 (some .int) 0 := ⟨wq_1292, wq_1290, wq_98, by decide +kernel⟩
theorem wq_1291 : Cond.selects RX8 yX8_execute yX8_execute ∈ po_TB := List.mem_filter.mpr ⟨List.mem_of_getElem? (i := 1291) (by decide +kernel), by decide +kernel⟩
theorem ws_X8_execute : Cond.selects yX8_execute.cls yX8_execute yX8_execute ∈ po_TB := wq_1291
theorem wq_411 : Cond.methodLink RL 127 yX7_errorPosition ∈ po_TB := List.mem_filter.mpr ⟨List.mem_of_getElem? (i := 411) (by decide +kernel), by decide +kernel⟩
theorem wq_414 : Cond.code yX7_errorPosition cX7_errorPosition 1 (some .int) ∈ po_TB := List.mem_filter.mpr ⟨List.mem_of_getElem? (i := 414) (by decide +kernel), by decide +kernel⟩
theorem wq_412 : Cond.instanceMethod yX7_errorPosition ∈ po_TB := List.mem_filter.mpr ⟨List.mem_of_getElem? (i := 412) (by decide +kernel), by decide +kernel⟩
theorem mv_X7_errorPosition : po_MV yX7_errorPosition cX7_errorPosition 1 (some .int) 0 := ⟨wq_414, wq_412, wq_90, by decide +kernel⟩
theorem wq_413 : Cond.selects RX7 yX7_errorPosition yX7_errorPosition ∈ po_TB := List.mem_filter.mpr ⟨List.mem_of_getElem? (i := 413) (by decide +kernel), by decide +kernel⟩
theorem ws_X7_errorPosition : Cond.selects yX7_errorPosition.cls yX7_errorPosition yX7_errorPosition ∈ po_TB := wq_413
theorem wq_1418 : Cond.methodLink RL 130 yX8_errorPosition ∈ po_TB := List.mem_filter.mpr ⟨List.mem_of_getElem? (i := 1418) (by decide +kernel), by decide +kernel⟩
theorem wq_1421 : Cond.code yX8_errorPosition cX8_errorPosition 1 (some .int) ∈ po_TB := List.mem_filter.mpr ⟨List.mem_of_getElem? (i := 1421) (by decide +kernel), by decide +kernel⟩
theorem wq_1419 : Cond.instanceMethod yX8_errorPosition ∈ po_TB := List.mem_filter.mpr ⟨List.mem_of_getElem? (i := 1419) (by decide +kernel), by decide +kernel⟩
theorem mv_X8_errorPosition : po_MV yX8_errorPosition cX8_errorPosition 1 (some .int) 0 := ⟨wq_1421, wq_1419, wq_98, by decide +kernel⟩
theorem wq_1420 : Cond.selects RX8 yX8_errorPosition yX8_errorPosition ∈ po_TB := List.mem_filter.mpr ⟨List.mem_of_getElem? (i := 1420) (by decide +kernel), by decide +kernel⟩
theorem ws_X8_errorPosition : Cond.selects yX8_errorPosition.cls yX8_errorPosition yX8_errorPosition ∈ po_TB := wq_1420
theorem wq_669 : Cond.methodLink RL 131 yL_rule ∈ po_TB := List.mem_filter.mpr ⟨List.mem_of_getElem? (i := 669) (by decide +kernel), by decide +kernel⟩
theorem wq_671 : Cond.codeWith yL_rule cL_rule 5 (some .int) [(0, 10, 13, 25), (0, 10, 17, 13)] ∈ po_TB := List.mem_filter.mpr ⟨List.mem_of_getElem? (i := 671) (by decide +kernel), by decide +kernel⟩
theorem wq_670 : Cond.static yL_rule ∈ po_TB := List.mem_filter.mpr ⟨List.mem_of_getElem? (i := 670) (by decide +kernel), by decide +kernel⟩
theorem mw_L_rule : po_MW yL_rule cL_rule 5 [(0, 10, 13, 25), (0, 10, 17, 13)] 4 := ⟨wq_671, wq_670, wq_89, by decide +kernel⟩
theorem wq_1422 : Cond.methodLink RL 134 yX8_rule ∈ po_TB := List.mem_filter.mpr ⟨List.mem_of_getElem? (i := 1422) (by decide +kernel), by decide +kernel⟩
theorem wq_1425 : Cond.code yX8_rule cX8_rule 3 (some .int) ∈ po_TB := List.mem_filter.mpr ⟨List.mem_of_getElem? (i := 1425) (by decide +kernel), by decide +kernel⟩
theorem wq_1423 : Cond.instanceMethod yX8_rule ∈ po_TB := List.mem_filter.mpr ⟨List.mem_of_getElem? (i := 1423) (by decide +kernel), by decide +kernel⟩
theorem mv_X8_rule : po_MV yX8_rule cX8_rule 3 (some .int) 2 := ⟨wq_1425, wq_1423, wq_98, by decide +kernel⟩
theorem wq_1424 : Cond.selects RX8 yX8_rule yX8_rule ∈ po_TB := List.mem_filter.mpr ⟨List.mem_of_getElem? (i := 1424) (by decide +kernel), by decide +kernel⟩
theorem ws_X8_rule : Cond.selects yX8_rule.cls yX8_rule yX8_rule ∈ po_TB := wq_1424
theorem wq_718 : Cond.methodLink RL 135 yL_lot ∈ po_TB := List.mem_filter.mpr ⟨List.mem_of_getElem? (i := 718) (by decide +kernel), by decide +kernel⟩
theorem wq_720 : Cond.codeWith yL_lot cL_lot 5 (some .int) [(0, 10, 13, 25), (0, 10, 17, 13)] ∈ po_TB := List.mem_filter.mpr ⟨List.mem_of_getElem? (i := 720) (by decide +kernel), by decide +kernel⟩
theorem wq_719 : Cond.static yL_lot ∈ po_TB := List.mem_filter.mpr ⟨List.mem_of_getElem? (i := 719) (by decide +kernel), by decide +kernel⟩
theorem mw_L_lot : po_MW yL_lot cL_lot 5 [(0, 10, 13, 25), (0, 10, 17, 13)] 4 := ⟨wq_720, wq_719, wq_89, by decide +kernel⟩
theorem wq_1426 : Cond.methodLink RL 137 yX8_lot ∈ po_TB := List.mem_filter.mpr ⟨List.mem_of_getElem? (i := 1426) (by decide +kernel), by decide +kernel⟩
theorem wq_1429 : Cond.code yX8_lot cX8_lot 3 (some .int) ∈ po_TB := List.mem_filter.mpr ⟨List.mem_of_getElem? (i := 1429) (by decide +kernel), by decide +kernel⟩
theorem wq_1427 : Cond.instanceMethod yX8_lot ∈ po_TB := List.mem_filter.mpr ⟨List.mem_of_getElem? (i := 1427) (by decide +kernel), by decide +kernel⟩
theorem mv_X8_lot : po_MV yX8_lot cX8_lot 3 (some .int) 2 := ⟨wq_1429, wq_1427, wq_98, by decide +kernel⟩
theorem wq_1428 : Cond.selects RX8 yX8_lot yX8_lot ∈ po_TB := List.mem_filter.mpr ⟨List.mem_of_getElem? (i := 1428) (by decide +kernel), by decide +kernel⟩
theorem ws_X8_lot : Cond.selects yX8_lot.cls yX8_lot yX8_lot ∈ po_TB := wq_1428
theorem wq_769 : Cond.methodLink RL 138 yL_rezone ∈ po_TB := List.mem_filter.mpr ⟨List.mem_of_getElem? (i := 769) (by decide +kernel), by decide +kernel⟩
theorem wq_771 : Cond.codeWith yL_rezone cL_rezone 5 (some .int) [(0, 10, 13, 25), (0, 10, 17, 13)] ∈ po_TB := List.mem_filter.mpr ⟨List.mem_of_getElem? (i := 771) (by decide +kernel), by decide +kernel⟩
theorem wq_770 : Cond.static yL_rezone ∈ po_TB := List.mem_filter.mpr ⟨List.mem_of_getElem? (i := 770) (by decide +kernel), by decide +kernel⟩
theorem mw_L_rezone : po_MW yL_rezone cL_rezone 5 [(0, 10, 13, 25), (0, 10, 17, 13)] 4 := ⟨wq_771, wq_770, wq_89, by decide +kernel⟩
theorem wq_1472 : Cond.methodLink RL 140 yX8_rezone ∈ po_TB := List.mem_filter.mpr ⟨List.mem_of_getElem? (i := 1472) (by decide +kernel), by decide +kernel⟩
theorem wq_1475 : Cond.code yX8_rezone cX8_rezone 4 (some .int) ∈ po_TB := List.mem_filter.mpr ⟨List.mem_of_getElem? (i := 1475) (by decide +kernel), by decide +kernel⟩
theorem wq_1473 : Cond.instanceMethod yX8_rezone ∈ po_TB := List.mem_filter.mpr ⟨List.mem_of_getElem? (i := 1473) (by decide +kernel), by decide +kernel⟩
theorem mv_X8_rezone : po_MV yX8_rezone cX8_rezone 4 (some .int) 2 := ⟨wq_1475, wq_1473, wq_98, by decide +kernel⟩
theorem wq_1474 : Cond.selects RX8 yX8_rezone yX8_rezone ∈ po_TB := List.mem_filter.mpr ⟨List.mem_of_getElem? (i := 1474) (by decide +kernel), by decide +kernel⟩
theorem ws_X8_rezone : Cond.selects yX8_rezone.cls yX8_rezone yX8_rezone ∈ po_TB := wq_1474
theorem wq_776 : Cond.methodLink RL 141 yL_cell ∈ po_TB := List.mem_filter.mpr ⟨List.mem_of_getElem? (i := 776) (by decide +kernel), by decide +kernel⟩
theorem wq_778 : Cond.codeWith yL_cell cL_cell 6 (some .int) [(0, 12, 15, 25), (0, 12, 19, 13)] ∈ po_TB := List.mem_filter.mpr ⟨List.mem_of_getElem? (i := 778) (by decide +kernel), by decide +kernel⟩
theorem wq_777 : Cond.static yL_cell ∈ po_TB := List.mem_filter.mpr ⟨List.mem_of_getElem? (i := 777) (by decide +kernel), by decide +kernel⟩
theorem mw_L_cell : po_MW yL_cell cL_cell 6 [(0, 12, 15, 25), (0, 12, 19, 13)] 5 := ⟨wq_778, wq_777, wq_89, by decide +kernel⟩
theorem wq_1480 : Cond.methodLink RL 144 yX8_cell ∈ po_TB := List.mem_filter.mpr ⟨List.mem_of_getElem? (i := 1480) (by decide +kernel), by decide +kernel⟩
theorem wq_1483 : Cond.code yX8_cell cX8_cell 5 (some .int) ∈ po_TB := List.mem_filter.mpr ⟨List.mem_of_getElem? (i := 1483) (by decide +kernel), by decide +kernel⟩
theorem wq_1481 : Cond.instanceMethod yX8_cell ∈ po_TB := List.mem_filter.mpr ⟨List.mem_of_getElem? (i := 1481) (by decide +kernel), by decide +kernel⟩
theorem mv_X8_cell : po_MV yX8_cell cX8_cell 5 (some .int) 3 := ⟨wq_1483, wq_1481, wq_98, by decide +kernel⟩
theorem wq_1482 : Cond.selects RX8 yX8_cell yX8_cell ∈ po_TB := List.mem_filter.mpr ⟨List.mem_of_getElem? (i := 1482) (by decide +kernel), by decide +kernel⟩
theorem ws_X8_cell : Cond.selects yX8_cell.cls yX8_cell yX8_cell ∈ po_TB := wq_1482
theorem wq_817 : Cond.methodLink RL 145 yL_largest ∈ po_TB := List.mem_filter.mpr ⟨List.mem_of_getElem? (i := 817) (by decide +kernel), by decide +kernel⟩
theorem wq_819 : Cond.codeWith yL_largest cL_largest 4 (some .int) [(0, 9, 12, 25)] ∈ po_TB := List.mem_filter.mpr ⟨List.mem_of_getElem? (i := 819) (by decide +kernel), by decide +kernel⟩
theorem wq_818 : Cond.static yL_largest ∈ po_TB := List.mem_filter.mpr ⟨List.mem_of_getElem? (i := 818) (by decide +kernel), by decide +kernel⟩
theorem mw_L_largest : po_MW yL_largest cL_largest 4 [(0, 9, 12, 25)] 3 := ⟨wq_819, wq_818, wq_89, by decide +kernel⟩
theorem wq_1493 : Cond.methodLink RL 147 yX8_largest ∈ po_TB := List.mem_filter.mpr ⟨List.mem_of_getElem? (i := 1493) (by decide +kernel), by decide +kernel⟩
theorem wq_1496 : Cond.code yX8_largest cX8_largest 7 (some .int) ∈ po_TB := List.mem_filter.mpr ⟨List.mem_of_getElem? (i := 1496) (by decide +kernel), by decide +kernel⟩
theorem wq_1494 : Cond.instanceMethod yX8_largest ∈ po_TB := List.mem_filter.mpr ⟨List.mem_of_getElem? (i := 1494) (by decide +kernel), by decide +kernel⟩
theorem mv_X8_largest : po_MV yX8_largest cX8_largest 7 (some .int) 1 := ⟨wq_1496, wq_1494, wq_98, by decide +kernel⟩
theorem wq_1495 : Cond.selects RX8 yX8_largest yX8_largest ∈ po_TB := List.mem_filter.mpr ⟨List.mem_of_getElem? (i := 1495) (by decide +kernel), by decide +kernel⟩
theorem ws_X8_largest : Cond.selects yX8_largest.cls yX8_largest yX8_largest ∈ po_TB := wq_1495
theorem wq_852 : Cond.methodLink RL 148 yL_permit ∈ po_TB := List.mem_filter.mpr ⟨List.mem_of_getElem? (i := 852) (by decide +kernel), by decide +kernel⟩
theorem wq_854 : Cond.codeWith yL_permit cL_permit 5 (some .int) [(0, 10, 13, 25), (0, 10, 17, 13)] ∈ po_TB := List.mem_filter.mpr ⟨List.mem_of_getElem? (i := 854) (by decide +kernel), by decide +kernel⟩
theorem wq_853 : Cond.static yL_permit ∈ po_TB := List.mem_filter.mpr ⟨List.mem_of_getElem? (i := 853) (by decide +kernel), by decide +kernel⟩
theorem mw_L_permit : po_MW yL_permit cL_permit 5 [(0, 10, 13, 25), (0, 10, 17, 13)] 4 := ⟨wq_854, wq_853, wq_89, by decide +kernel⟩
theorem wq_1509 : Cond.methodLink RL 150 yX8_permit ∈ po_TB := List.mem_filter.mpr ⟨List.mem_of_getElem? (i := 1509) (by decide +kernel), by decide +kernel⟩
theorem wq_1512 : Cond.code yX8_permit cX8_permit 3 (some .int) ∈ po_TB := List.mem_filter.mpr ⟨List.mem_of_getElem? (i := 1512) (by decide +kernel), by decide +kernel⟩
theorem wq_1510 : Cond.instanceMethod yX8_permit ∈ po_TB := List.mem_filter.mpr ⟨List.mem_of_getElem? (i := 1510) (by decide +kernel), by decide +kernel⟩
theorem mv_X8_permit : po_MV yX8_permit cX8_permit 3 (some .int) 2 := ⟨wq_1512, wq_1510, wq_98, by decide +kernel⟩
theorem wq_1511 : Cond.selects RX8 yX8_permit yX8_permit ∈ po_TB := List.mem_filter.mpr ⟨List.mem_of_getElem? (i := 1511) (by decide +kernel), by decide +kernel⟩
theorem ws_X8_permit : Cond.selects yX8_permit.cls yX8_permit yX8_permit ∈ po_TB := wq_1511
theorem wq_871 : Cond.methodLink RL 151 yL_findings ∈ po_TB := List.mem_filter.mpr ⟨List.mem_of_getElem? (i := 871) (by decide +kernel), by decide +kernel⟩
theorem wq_873 : Cond.codeWith yL_findings cL_findings 5 (some .int) [(0, 10, 13, 25)] ∈ po_TB := List.mem_filter.mpr ⟨List.mem_of_getElem? (i := 873) (by decide +kernel), by decide +kernel⟩
theorem wq_872 : Cond.static yL_findings ∈ po_TB := List.mem_filter.mpr ⟨List.mem_of_getElem? (i := 872) (by decide +kernel), by decide +kernel⟩
theorem mw_L_findings : po_MW yL_findings cL_findings 5 [(0, 10, 13, 25)] 4 := ⟨wq_873, wq_872, wq_89, by decide +kernel⟩
theorem wq_1525 : Cond.methodLink RL 154 yX8_findings ∈ po_TB := List.mem_filter.mpr ⟨List.mem_of_getElem? (i := 1525) (by decide +kernel), by decide +kernel⟩
theorem wq_1528 : Cond.code yX8_findings cX8_findings 3 (some .int) ∈ po_TB := List.mem_filter.mpr ⟨List.mem_of_getElem? (i := 1528) (by decide +kernel), by decide +kernel⟩
theorem wq_1526 : Cond.instanceMethod yX8_findings ∈ po_TB := List.mem_filter.mpr ⟨List.mem_of_getElem? (i := 1526) (by decide +kernel), by decide +kernel⟩
theorem mv_X8_findings : po_MV yX8_findings cX8_findings 3 (some .int) 2 := ⟨wq_1528, wq_1526, wq_98, by decide +kernel⟩
theorem wq_1527 : Cond.selects RX8 yX8_findings yX8_findings ∈ po_TB := List.mem_filter.mpr ⟨List.mem_of_getElem? (i := 1527) (by decide +kernel), by decide +kernel⟩
theorem ws_X8_findings : Cond.selects yX8_findings.cls yX8_findings yX8_findings ∈ po_TB := wq_1527
theorem wq_939 : Cond.methodLink RL 155 yL_finding ∈ po_TB := List.mem_filter.mpr ⟨List.mem_of_getElem? (i := 939) (by decide +kernel), by decide +kernel⟩
theorem wq_941 : Cond.codeWith yL_finding cL_finding 6 (some .int) [(0, 12, 15, 25), (0, 12, 19, 13)] ∈ po_TB := List.mem_filter.mpr ⟨List.mem_of_getElem? (i := 941) (by decide +kernel), by decide +kernel⟩
theorem wq_940 : Cond.static yL_finding ∈ po_TB := List.mem_filter.mpr ⟨List.mem_of_getElem? (i := 940) (by decide +kernel), by decide +kernel⟩
theorem mw_L_finding : po_MW yL_finding cL_finding 6 [(0, 12, 15, 25), (0, 12, 19, 13)] 5 := ⟨wq_941, wq_940, wq_89, by decide +kernel⟩
theorem wq_1570 : Cond.methodLink RL 157 yX8_finding ∈ po_TB := List.mem_filter.mpr ⟨List.mem_of_getElem? (i := 1570) (by decide +kernel), by decide +kernel⟩
theorem wq_1573 : Cond.code yX8_finding cX8_finding 6 (some .int) ∈ po_TB := List.mem_filter.mpr ⟨List.mem_of_getElem? (i := 1573) (by decide +kernel), by decide +kernel⟩
theorem wq_1571 : Cond.instanceMethod yX8_finding ∈ po_TB := List.mem_filter.mpr ⟨List.mem_of_getElem? (i := 1571) (by decide +kernel), by decide +kernel⟩
theorem mv_X8_finding : po_MV yX8_finding cX8_finding 6 (some .int) 3 := ⟨wq_1573, wq_1571, wq_98, by decide +kernel⟩
theorem wq_1572 : Cond.selects RX8 yX8_finding yX8_finding ∈ po_TB := List.mem_filter.mpr ⟨List.mem_of_getElem? (i := 1572) (by decide +kernel), by decide +kernel⟩
theorem ws_X8_finding : Cond.selects yX8_finding.cls yX8_finding yX8_finding ∈ po_TB := wq_1572
theorem wq_951 : Cond.methodLink RL 158 yL_worst ∈ po_TB := List.mem_filter.mpr ⟨List.mem_of_getElem? (i := 951) (by decide +kernel), by decide +kernel⟩
theorem wq_953 : Cond.codeWith yL_worst cL_worst 3 (some .int) [(0, 8, 11, 53)] ∈ po_TB := List.mem_filter.mpr ⟨List.mem_of_getElem? (i := 953) (by decide +kernel), by decide +kernel⟩
theorem wq_952 : Cond.static yL_worst ∈ po_TB := List.mem_filter.mpr ⟨List.mem_of_getElem? (i := 952) (by decide +kernel), by decide +kernel⟩
theorem mw_L_worst : po_MW yL_worst cL_worst 3 [(0, 8, 11, 53)] 2 := ⟨wq_953, wq_952, wq_89, by decide +kernel⟩
theorem wq_1574 : Cond.methodLink RL 160 yX8_worst ∈ po_TB := List.mem_filter.mpr ⟨List.mem_of_getElem? (i := 1574) (by decide +kernel), by decide +kernel⟩
theorem wq_1577 : Cond.code yX8_worst cX8_worst 5 (some .int) ∈ po_TB := List.mem_filter.mpr ⟨List.mem_of_getElem? (i := 1577) (by decide +kernel), by decide +kernel⟩
theorem wq_1575 : Cond.instanceMethod yX8_worst ∈ po_TB := List.mem_filter.mpr ⟨List.mem_of_getElem? (i := 1575) (by decide +kernel), by decide +kernel⟩
theorem mv_X8_worst : po_MV yX8_worst cX8_worst 5 (some .int) 0 := ⟨wq_1577, wq_1575, wq_98, by decide +kernel⟩
theorem wq_1576 : Cond.selects RX8 yX8_worst yX8_worst ∈ po_TB := List.mem_filter.mpr ⟨List.mem_of_getElem? (i := 1576) (by decide +kernel), by decide +kernel⟩
theorem ws_X8_worst : Cond.selects yX8_worst.cls yX8_worst yX8_worst ∈ po_TB := wq_1576
theorem wq_982 : Cond.methodLink RL 161 yL_decide ∈ po_TB := List.mem_filter.mpr ⟨List.mem_of_getElem? (i := 982) (by decide +kernel), by decide +kernel⟩
theorem wq_984 : Cond.codeWith yL_decide cL_decide 4 (some .int) [(0, 9, 12, 25), (0, 9, 15, 15)] ∈ po_TB := List.mem_filter.mpr ⟨List.mem_of_getElem? (i := 984) (by decide +kernel), by decide +kernel⟩
theorem wq_983 : Cond.static yL_decide ∈ po_TB := List.mem_filter.mpr ⟨List.mem_of_getElem? (i := 983) (by decide +kernel), by decide +kernel⟩
theorem mw_L_decide : po_MW yL_decide cL_decide 4 [(0, 9, 12, 25), (0, 9, 15, 15)] 3 := ⟨wq_984, wq_983, wq_89, by decide +kernel⟩
theorem wq_1581 : Cond.methodLink RL 163 yX8_decide ∈ po_TB := List.mem_filter.mpr ⟨List.mem_of_getElem? (i := 1581) (by decide +kernel), by decide +kernel⟩
theorem wq_1584 : Cond.code yX8_decide cX8_decide 3 (some .int) ∈ po_TB := List.mem_filter.mpr ⟨List.mem_of_getElem? (i := 1584) (by decide +kernel), by decide +kernel⟩
theorem wq_1582 : Cond.instanceMethod yX8_decide ∈ po_TB := List.mem_filter.mpr ⟨List.mem_of_getElem? (i := 1582) (by decide +kernel), by decide +kernel⟩
theorem mv_X8_decide : po_MV yX8_decide cX8_decide 3 (some .int) 1 := ⟨wq_1584, wq_1582, wq_98, by decide +kernel⟩
theorem wq_1583 : Cond.selects RX8 yX8_decide yX8_decide ∈ po_TB := List.mem_filter.mpr ⟨List.mem_of_getElem? (i := 1583) (by decide +kernel), by decide +kernel⟩
theorem ws_X8_decide : Cond.selects yX8_decide.cls yX8_decide yX8_decide ∈ po_TB := wq_1583
theorem wq_1006 : Cond.methodLink RL 164 yL_reason ∈ po_TB := List.mem_filter.mpr ⟨List.mem_of_getElem? (i := 1006) (by decide +kernel), by decide +kernel⟩
theorem wq_1008 : Cond.codeWith yL_reason cL_reason 4 (some .int) [(0, 9, 12, 25), (0, 9, 15, 53)] ∈ po_TB := List.mem_filter.mpr ⟨List.mem_of_getElem? (i := 1008) (by decide +kernel), by decide +kernel⟩
theorem wq_1007 : Cond.static yL_reason ∈ po_TB := List.mem_filter.mpr ⟨List.mem_of_getElem? (i := 1007) (by decide +kernel), by decide +kernel⟩
theorem mw_L_reason : po_MW yL_reason cL_reason 4 [(0, 9, 12, 25), (0, 9, 15, 53)] 3 := ⟨wq_1008, wq_1007, wq_89, by decide +kernel⟩
theorem wq_1596 : Cond.methodLink RL 166 yX8_reason ∈ po_TB := List.mem_filter.mpr ⟨List.mem_of_getElem? (i := 1596) (by decide +kernel), by decide +kernel⟩
theorem wq_1599 : Cond.code yX8_reason cX8_reason 2 (some .int) ∈ po_TB := List.mem_filter.mpr ⟨List.mem_of_getElem? (i := 1599) (by decide +kernel), by decide +kernel⟩
theorem wq_1597 : Cond.instanceMethod yX8_reason ∈ po_TB := List.mem_filter.mpr ⟨List.mem_of_getElem? (i := 1597) (by decide +kernel), by decide +kernel⟩
theorem mv_X8_reason : po_MV yX8_reason cX8_reason 2 (some .int) 1 := ⟨wq_1599, wq_1597, wq_98, by decide +kernel⟩
theorem wq_1598 : Cond.selects RX8 yX8_reason yX8_reason ∈ po_TB := List.mem_filter.mpr ⟨List.mem_of_getElem? (i := 1598) (by decide +kernel), by decide +kernel⟩
theorem ws_X8_reason : Cond.selects yX8_reason.cls yX8_reason yX8_reason ∈ po_TB := wq_1598
theorem wq_1014 : Cond.methodLink RL 167 yL_revoke ∈ po_TB := List.mem_filter.mpr ⟨List.mem_of_getElem? (i := 1014) (by decide +kernel), by decide +kernel⟩
theorem wq_1016 : Cond.codeWith yL_revoke cL_revoke 4 (some .int) [(0, 9, 12, 25), (0, 9, 15, 15)] ∈ po_TB := List.mem_filter.mpr ⟨List.mem_of_getElem? (i := 1016) (by decide +kernel), by decide +kernel⟩
theorem wq_1015 : Cond.static yL_revoke ∈ po_TB := List.mem_filter.mpr ⟨List.mem_of_getElem? (i := 1015) (by decide +kernel), by decide +kernel⟩
theorem mw_L_revoke : po_MW yL_revoke cL_revoke 4 [(0, 9, 12, 25), (0, 9, 15, 15)] 3 := ⟨wq_1016, wq_1015, wq_89, by decide +kernel⟩
theorem wq_1600 : Cond.methodLink RL 169 yX8_revoke ∈ po_TB := List.mem_filter.mpr ⟨List.mem_of_getElem? (i := 1600) (by decide +kernel), by decide +kernel⟩
theorem wq_1603 : Cond.code yX8_revoke cX8_revoke 3 (some .int) ∈ po_TB := List.mem_filter.mpr ⟨List.mem_of_getElem? (i := 1603) (by decide +kernel), by decide +kernel⟩
theorem wq_1601 : Cond.instanceMethod yX8_revoke ∈ po_TB := List.mem_filter.mpr ⟨List.mem_of_getElem? (i := 1601) (by decide +kernel), by decide +kernel⟩
theorem mv_X8_revoke : po_MV yX8_revoke cX8_revoke 3 (some .int) 1 := ⟨wq_1603, wq_1601, wq_98, by decide +kernel⟩
theorem wq_1602 : Cond.selects RX8 yX8_revoke yX8_revoke ∈ po_TB := List.mem_filter.mpr ⟨List.mem_of_getElem? (i := 1602) (by decide +kernel), by decide +kernel⟩
theorem ws_X8_revoke : Cond.selects yX8_revoke.cls yX8_revoke yX8_revoke ∈ po_TB := wq_1602
theorem wq_1022 : Cond.methodLink RL 170 yL_urgent ∈ po_TB := List.mem_filter.mpr ⟨List.mem_of_getElem? (i := 1022) (by decide +kernel), by decide +kernel⟩
theorem wq_1024 : Cond.codeWith yL_urgent cL_urgent 4 (some .int) [(0, 9, 12, 53)] ∈ po_TB := List.mem_filter.mpr ⟨List.mem_of_getElem? (i := 1024) (by decide +kernel), by decide +kernel⟩
theorem wq_1023 : Cond.static yL_urgent ∈ po_TB := List.mem_filter.mpr ⟨List.mem_of_getElem? (i := 1023) (by decide +kernel), by decide +kernel⟩
theorem mw_L_urgent : po_MW yL_urgent cL_urgent 4 [(0, 9, 12, 53)] 3 := ⟨wq_1024, wq_1023, wq_89, by decide +kernel⟩
theorem wq_1604 : Cond.methodLink RL 172 yX8_urgent ∈ po_TB := List.mem_filter.mpr ⟨List.mem_of_getElem? (i := 1604) (by decide +kernel), by decide +kernel⟩
theorem wq_1607 : Cond.code yX8_urgent cX8_urgent 5 (some .int) ∈ po_TB := List.mem_filter.mpr ⟨List.mem_of_getElem? (i := 1607) (by decide +kernel), by decide +kernel⟩
theorem wq_1605 : Cond.instanceMethod yX8_urgent ∈ po_TB := List.mem_filter.mpr ⟨List.mem_of_getElem? (i := 1605) (by decide +kernel), by decide +kernel⟩
theorem mv_X8_urgent : po_MV yX8_urgent cX8_urgent 5 (some .int) 1 := ⟨wq_1607, wq_1605, wq_98, by decide +kernel⟩
theorem wq_1606 : Cond.selects RX8 yX8_urgent yX8_urgent ∈ po_TB := List.mem_filter.mpr ⟨List.mem_of_getElem? (i := 1606) (by decide +kernel), by decide +kernel⟩
theorem ws_X8_urgent : Cond.selects yX8_urgent.cls yX8_urgent yX8_urgent ∈ po_TB := wq_1606
theorem wq_1046 : Cond.methodLink RL 173 yL_variance ∈ po_TB := List.mem_filter.mpr ⟨List.mem_of_getElem? (i := 1046) (by decide +kernel), by decide +kernel⟩
theorem wq_1048 : Cond.codeWith yL_variance cL_variance 5 (some .int) [(0, 10, 13, 25), (0, 10, 17, 13)] ∈ po_TB := List.mem_filter.mpr ⟨List.mem_of_getElem? (i := 1048) (by decide +kernel), by decide +kernel⟩
theorem wq_1047 : Cond.static yL_variance ∈ po_TB := List.mem_filter.mpr ⟨List.mem_of_getElem? (i := 1047) (by decide +kernel), by decide +kernel⟩
theorem mw_L_variance : po_MW yL_variance cL_variance 5 [(0, 10, 13, 25), (0, 10, 17, 13)] 4 := ⟨wq_1048, wq_1047, wq_89, by decide +kernel⟩
theorem wq_1616 : Cond.methodLink RL 175 yX8_variance ∈ po_TB := List.mem_filter.mpr ⟨List.mem_of_getElem? (i := 1616) (by decide +kernel), by decide +kernel⟩
theorem wq_1619 : Cond.code yX8_variance cX8_variance 3 (some .int) ∈ po_TB := List.mem_filter.mpr ⟨List.mem_of_getElem? (i := 1619) (by decide +kernel), by decide +kernel⟩
theorem wq_1617 : Cond.instanceMethod yX8_variance ∈ po_TB := List.mem_filter.mpr ⟨List.mem_of_getElem? (i := 1617) (by decide +kernel), by decide +kernel⟩
theorem mv_X8_variance : po_MV yX8_variance cX8_variance 3 (some .int) 2 := ⟨wq_1619, wq_1617, wq_98, by decide +kernel⟩
theorem wq_1618 : Cond.selects RX8 yX8_variance yX8_variance ∈ po_TB := List.mem_filter.mpr ⟨List.mem_of_getElem? (i := 1618) (by decide +kernel), by decide +kernel⟩
theorem ws_X8_variance : Cond.selects yX8_variance.cls yX8_variance yX8_variance ∈ po_TB := wq_1618
theorem wq_1060 : Cond.methodLink RL 176 yL_needed ∈ po_TB := List.mem_filter.mpr ⟨List.mem_of_getElem? (i := 1060) (by decide +kernel), by decide +kernel⟩
theorem wq_1062 : Cond.codeWith yL_needed cL_needed 5 (some .int) [(0, 10, 13, 25), (0, 10, 17, 13)] ∈ po_TB := List.mem_filter.mpr ⟨List.mem_of_getElem? (i := 1062) (by decide +kernel), by decide +kernel⟩
theorem wq_1061 : Cond.static yL_needed ∈ po_TB := List.mem_filter.mpr ⟨List.mem_of_getElem? (i := 1061) (by decide +kernel), by decide +kernel⟩
theorem mw_L_needed : po_MW yL_needed cL_needed 5 [(0, 10, 13, 25), (0, 10, 17, 13)] 4 := ⟨wq_1062, wq_1061, wq_89, by decide +kernel⟩
theorem wq_1624 : Cond.methodLink RL 178 yX8_needed ∈ po_TB := List.mem_filter.mpr ⟨List.mem_of_getElem? (i := 1624) (by decide +kernel), by decide +kernel⟩
theorem wq_1627 : Cond.code yX8_needed cX8_needed 6 (some .int) ∈ po_TB := List.mem_filter.mpr ⟨List.mem_of_getElem? (i := 1627) (by decide +kernel), by decide +kernel⟩
theorem wq_1625 : Cond.instanceMethod yX8_needed ∈ po_TB := List.mem_filter.mpr ⟨List.mem_of_getElem? (i := 1625) (by decide +kernel), by decide +kernel⟩
theorem mv_X8_needed : po_MV yX8_needed cX8_needed 6 (some .int) 2 := ⟨wq_1627, wq_1625, wq_98, by decide +kernel⟩
theorem wq_1626 : Cond.selects RX8 yX8_needed yX8_needed ∈ po_TB := List.mem_filter.mpr ⟨List.mem_of_getElem? (i := 1626) (by decide +kernel), by decide +kernel⟩
theorem ws_X8_needed : Cond.selects yX8_needed.cls yX8_needed yX8_needed ∈ po_TB := wq_1626
theorem wq_1075 : Cond.methodLink RL 179 yL_condition ∈ po_TB := List.mem_filter.mpr ⟨List.mem_of_getElem? (i := 1075) (by decide +kernel), by decide +kernel⟩
theorem wq_1077 : Cond.codeWith yL_condition cL_condition 6 (some .int) [(0, 12, 15, 25), (0, 12, 19, 13)] ∈ po_TB := List.mem_filter.mpr ⟨List.mem_of_getElem? (i := 1077) (by decide +kernel), by decide +kernel⟩
theorem wq_1076 : Cond.static yL_condition ∈ po_TB := List.mem_filter.mpr ⟨List.mem_of_getElem? (i := 1076) (by decide +kernel), by decide +kernel⟩
theorem mw_L_condition : po_MW yL_condition cL_condition 6 [(0, 12, 15, 25), (0, 12, 19, 13)] 5 := ⟨wq_1077, wq_1076, wq_89, by decide +kernel⟩
theorem wq_1628 : Cond.methodLink RL 181 yX8_condition ∈ po_TB := List.mem_filter.mpr ⟨List.mem_of_getElem? (i := 1628) (by decide +kernel), by decide +kernel⟩
theorem wq_1631 : Cond.code yX8_condition cX8_condition 4 (some .int) ∈ po_TB := List.mem_filter.mpr ⟨List.mem_of_getElem? (i := 1631) (by decide +kernel), by decide +kernel⟩
theorem wq_1629 : Cond.instanceMethod yX8_condition ∈ po_TB := List.mem_filter.mpr ⟨List.mem_of_getElem? (i := 1629) (by decide +kernel), by decide +kernel⟩
theorem mv_X8_condition : po_MV yX8_condition cX8_condition 4 (some .int) 3 := ⟨wq_1631, wq_1629, wq_98, by decide +kernel⟩
theorem wq_1630 : Cond.selects RX8 yX8_condition yX8_condition ∈ po_TB := List.mem_filter.mpr ⟨List.mem_of_getElem? (i := 1630) (by decide +kernel), by decide +kernel⟩
theorem ws_X8_condition : Cond.selects yX8_condition.cls yX8_condition yX8_condition ∈ po_TB := wq_1630
theorem wq_1088 : Cond.methodLink RL 182 yL_fulfil ∈ po_TB := List.mem_filter.mpr ⟨List.mem_of_getElem? (i := 1088) (by decide +kernel), by decide +kernel⟩
theorem wq_1090 : Cond.codeWith yL_fulfil cL_fulfil 5 (some .int) [(0, 10, 13, 25), (0, 10, 17, 53)] ∈ po_TB := List.mem_filter.mpr ⟨List.mem_of_getElem? (i := 1090) (by decide +kernel), by decide +kernel⟩
theorem wq_1089 : Cond.static yL_fulfil ∈ po_TB := List.mem_filter.mpr ⟨List.mem_of_getElem? (i := 1089) (by decide +kernel), by decide +kernel⟩
theorem mw_L_fulfil : po_MW yL_fulfil cL_fulfil 5 [(0, 10, 13, 25), (0, 10, 17, 53)] 4 := ⟨wq_1090, wq_1089, wq_89, by decide +kernel⟩
theorem wq_1632 : Cond.methodLink RL 184 yX8_fulfil ∈ po_TB := List.mem_filter.mpr ⟨List.mem_of_getElem? (i := 1632) (by decide +kernel), by decide +kernel⟩
theorem wq_1635 : Cond.code yX8_fulfil cX8_fulfil 4 (some .int) ∈ po_TB := List.mem_filter.mpr ⟨List.mem_of_getElem? (i := 1635) (by decide +kernel), by decide +kernel⟩
theorem wq_1633 : Cond.instanceMethod yX8_fulfil ∈ po_TB := List.mem_filter.mpr ⟨List.mem_of_getElem? (i := 1633) (by decide +kernel), by decide +kernel⟩
theorem mv_X8_fulfil : po_MV yX8_fulfil cX8_fulfil 4 (some .int) 2 := ⟨wq_1635, wq_1633, wq_98, by decide +kernel⟩
theorem wq_1634 : Cond.selects RX8 yX8_fulfil yX8_fulfil ∈ po_TB := List.mem_filter.mpr ⟨List.mem_of_getElem? (i := 1634) (by decide +kernel), by decide +kernel⟩
theorem ws_X8_fulfil : Cond.selects yX8_fulfil.cls yX8_fulfil yX8_fulfil ∈ po_TB := wq_1634
theorem wq_1101 : Cond.methodLink RL 185 yL_inspect ∈ po_TB := List.mem_filter.mpr ⟨List.mem_of_getElem? (i := 1101) (by decide +kernel), by decide +kernel⟩
theorem wq_1103 : Cond.codeWith yL_inspect cL_inspect 4 (some .int) [(0, 16, 19, 25), (0, 16, 22, 15)] ∈ po_TB := List.mem_filter.mpr ⟨List.mem_of_getElem? (i := 1103) (by decide +kernel), by decide +kernel⟩
theorem wq_1102 : Cond.static yL_inspect ∈ po_TB := List.mem_filter.mpr ⟨List.mem_of_getElem? (i := 1102) (by decide +kernel), by decide +kernel⟩
theorem mw_L_inspect : po_MW yL_inspect cL_inspect 4 [(0, 16, 19, 25), (0, 16, 22, 15)] 3 := ⟨wq_1103, wq_1102, wq_89, by decide +kernel⟩
theorem wq_1640 : Cond.methodLink RL 187 yX8_inspect ∈ po_TB := List.mem_filter.mpr ⟨List.mem_of_getElem? (i := 1640) (by decide +kernel), by decide +kernel⟩
theorem wq_1643 : Cond.code yX8_inspect cX8_inspect 2 (some .boolean) ∈ po_TB := List.mem_filter.mpr ⟨List.mem_of_getElem? (i := 1643) (by decide +kernel), by decide +kernel⟩
theorem wq_1641 : Cond.instanceMethod yX8_inspect ∈ po_TB := List.mem_filter.mpr ⟨List.mem_of_getElem? (i := 1641) (by decide +kernel), by decide +kernel⟩
theorem mv_X8_inspect : po_MV yX8_inspect cX8_inspect 2 (some .boolean) 1 := ⟨wq_1643, wq_1641, wq_98, by decide +kernel⟩
theorem wq_1642 : Cond.selects RX8 yX8_inspect yX8_inspect ∈ po_TB := List.mem_filter.mpr ⟨List.mem_of_getElem? (i := 1642) (by decide +kernel), by decide +kernel⟩
theorem ws_X8_inspect : Cond.selects yX8_inspect.cls yX8_inspect yX8_inspect ∈ po_TB := wq_1642
theorem wq_1121 : Cond.methodLink RL 188 yL_reinstate ∈ po_TB := List.mem_filter.mpr ⟨List.mem_of_getElem? (i := 1121) (by decide +kernel), by decide +kernel⟩
theorem wq_1123 : Cond.codeWith yL_reinstate cL_reinstate 4 (some .int) [(0, 9, 12, 25), (0, 9, 15, 15)] ∈ po_TB := List.mem_filter.mpr ⟨List.mem_of_getElem? (i := 1123) (by decide +kernel), by decide +kernel⟩
theorem wq_1122 : Cond.static yL_reinstate ∈ po_TB := List.mem_filter.mpr ⟨List.mem_of_getElem? (i := 1122) (by decide +kernel), by decide +kernel⟩
theorem mw_L_reinstate : po_MW yL_reinstate cL_reinstate 4 [(0, 9, 12, 25), (0, 9, 15, 15)] 3 := ⟨wq_1123, wq_1122, wq_89, by decide +kernel⟩
theorem wq_1644 : Cond.methodLink RL 190 yX8_reinstate ∈ po_TB := List.mem_filter.mpr ⟨List.mem_of_getElem? (i := 1644) (by decide +kernel), by decide +kernel⟩
theorem wq_1647 : Cond.code yX8_reinstate cX8_reinstate 2 (some .int) ∈ po_TB := List.mem_filter.mpr ⟨List.mem_of_getElem? (i := 1647) (by decide +kernel), by decide +kernel⟩
theorem wq_1645 : Cond.instanceMethod yX8_reinstate ∈ po_TB := List.mem_filter.mpr ⟨List.mem_of_getElem? (i := 1645) (by decide +kernel), by decide +kernel⟩
theorem mv_X8_reinstate : po_MV yX8_reinstate cX8_reinstate 2 (some .int) 1 := ⟨wq_1647, wq_1645, wq_98, by decide +kernel⟩
theorem wq_1646 : Cond.selects RX8 yX8_reinstate yX8_reinstate ∈ po_TB := List.mem_filter.mpr ⟨List.mem_of_getElem? (i := 1646) (by decide +kernel), by decide +kernel⟩
theorem ws_X8_reinstate : Cond.selects yX8_reinstate.cls yX8_reinstate yX8_reinstate ∈ po_TB := wq_1646
theorem wq_1129 : Cond.methodLink RL 191 yL_extend ∈ po_TB := List.mem_filter.mpr ⟨List.mem_of_getElem? (i := 1129) (by decide +kernel), by decide +kernel⟩
theorem wq_1131 : Cond.codeWith yL_extend cL_extend 4 (some .int) [(0, 9, 12, 25), (0, 9, 15, 15)] ∈ po_TB := List.mem_filter.mpr ⟨List.mem_of_getElem? (i := 1131) (by decide +kernel), by decide +kernel⟩
theorem wq_1130 : Cond.static yL_extend ∈ po_TB := List.mem_filter.mpr ⟨List.mem_of_getElem? (i := 1130) (by decide +kernel), by decide +kernel⟩
theorem mw_L_extend : po_MW yL_extend cL_extend 4 [(0, 9, 12, 25), (0, 9, 15, 15)] 3 := ⟨wq_1131, wq_1130, wq_89, by decide +kernel⟩
theorem wq_1648 : Cond.methodLink RL 193 yX8_extend ∈ po_TB := List.mem_filter.mpr ⟨List.mem_of_getElem? (i := 1648) (by decide +kernel), by decide +kernel⟩
theorem wq_1651 : Cond.code yX8_extend cX8_extend 2 (some .int) ∈ po_TB := List.mem_filter.mpr ⟨List.mem_of_getElem? (i := 1651) (by decide +kernel), by decide +kernel⟩
theorem wq_1649 : Cond.instanceMethod yX8_extend ∈ po_TB := List.mem_filter.mpr ⟨List.mem_of_getElem? (i := 1649) (by decide +kernel), by decide +kernel⟩
theorem mv_X8_extend : po_MV yX8_extend cX8_extend 2 (some .int) 1 := ⟨wq_1651, wq_1649, wq_98, by decide +kernel⟩
theorem wq_1650 : Cond.selects RX8 yX8_extend yX8_extend ∈ po_TB := List.mem_filter.mpr ⟨List.mem_of_getElem? (i := 1650) (by decide +kernel), by decide +kernel⟩
theorem ws_X8_extend : Cond.selects yX8_extend.cls yX8_extend yX8_extend ∈ po_TB := wq_1650
theorem wq_1137 : Cond.methodLink RL 194 yL_pass ∈ po_TB := List.mem_filter.mpr ⟨List.mem_of_getElem? (i := 1137) (by decide +kernel), by decide +kernel⟩
theorem wq_1139 : Cond.codeWith yL_pass cL_pass 4 (some .int) [(0, 9, 12, 13)] ∈ po_TB := List.mem_filter.mpr ⟨List.mem_of_getElem? (i := 1139) (by decide +kernel), by decide +kernel⟩
theorem wq_1138 : Cond.static yL_pass ∈ po_TB := List.mem_filter.mpr ⟨List.mem_of_getElem? (i := 1138) (by decide +kernel), by decide +kernel⟩
theorem mw_L_pass : po_MW yL_pass cL_pass 4 [(0, 9, 12, 13)] 3 := ⟨wq_1139, wq_1138, wq_89, by decide +kernel⟩
theorem wq_1652 : Cond.methodLink RL 196 yX8_pass ∈ po_TB := List.mem_filter.mpr ⟨List.mem_of_getElem? (i := 1652) (by decide +kernel), by decide +kernel⟩
theorem wq_1655 : Cond.code yX8_pass cX8_pass 4 (some .int) ∈ po_TB := List.mem_filter.mpr ⟨List.mem_of_getElem? (i := 1655) (by decide +kernel), by decide +kernel⟩
theorem wq_1653 : Cond.instanceMethod yX8_pass ∈ po_TB := List.mem_filter.mpr ⟨List.mem_of_getElem? (i := 1653) (by decide +kernel), by decide +kernel⟩
theorem mv_X8_pass : po_MV yX8_pass cX8_pass 4 (some .int) 1 := ⟨wq_1655, wq_1653, wq_98, by decide +kernel⟩
theorem wq_1654 : Cond.selects RX8 yX8_pass yX8_pass ∈ po_TB := List.mem_filter.mpr ⟨List.mem_of_getElem? (i := 1654) (by decide +kernel), by decide +kernel⟩
theorem ws_X8_pass : Cond.selects yX8_pass.cls yX8_pass yX8_pass ∈ po_TB := wq_1654
theorem wq_1145 : Cond.methodLink RL 197 yL_account ∈ po_TB := List.mem_filter.mpr ⟨List.mem_of_getElem? (i := 1145) (by decide +kernel), by decide +kernel⟩
theorem wq_1147 : Cond.codeWith yL_account cL_account 5 (some .int) [(0, 10, 13, 25), (0, 10, 17, 13)] ∈ po_TB := List.mem_filter.mpr ⟨List.mem_of_getElem? (i := 1147) (by decide +kernel), by decide +kernel⟩
theorem wq_1146 : Cond.static yL_account ∈ po_TB := List.mem_filter.mpr ⟨List.mem_of_getElem? (i := 1146) (by decide +kernel), by decide +kernel⟩
theorem mw_L_account : po_MW yL_account cL_account 5 [(0, 10, 13, 25), (0, 10, 17, 13)] 4 := ⟨wq_1147, wq_1146, wq_89, by decide +kernel⟩
theorem wq_1656 : Cond.methodLink RL 199 yX8_account ∈ po_TB := List.mem_filter.mpr ⟨List.mem_of_getElem? (i := 1656) (by decide +kernel), by decide +kernel⟩
theorem wq_1659 : Cond.code yX8_account cX8_account 5 (some .int) ∈ po_TB := List.mem_filter.mpr ⟨List.mem_of_getElem? (i := 1659) (by decide +kernel), by decide +kernel⟩
theorem wq_1657 : Cond.instanceMethod yX8_account ∈ po_TB := List.mem_filter.mpr ⟨List.mem_of_getElem? (i := 1657) (by decide +kernel), by decide +kernel⟩
theorem mv_X8_account : po_MV yX8_account cX8_account 5 (some .int) 2 := ⟨wq_1659, wq_1657, wq_98, by decide +kernel⟩
theorem wq_1658 : Cond.selects RX8 yX8_account yX8_account ∈ po_TB := List.mem_filter.mpr ⟨List.mem_of_getElem? (i := 1658) (by decide +kernel), by decide +kernel⟩
theorem ws_X8_account : Cond.selects yX8_account.cls yX8_account yX8_account ∈ po_TB := wq_1658
theorem wq_1153 : Cond.methodLink RL 200 yL_meanFloorArea ∈ po_TB := List.mem_filter.mpr ⟨List.mem_of_getElem? (i := 1153) (by decide +kernel), by decide +kernel⟩
theorem wq_1155 : Cond.codeWith yL_meanFloorArea cL_meanFloorArea 3 (some .int) [(0, 8, 11, 99)] ∈ po_TB := List.mem_filter.mpr ⟨List.mem_of_getElem? (i := 1155) (by decide +kernel), by decide +kernel⟩
theorem wq_1154 : Cond.static yL_meanFloorArea ∈ po_TB := List.mem_filter.mpr ⟨List.mem_of_getElem? (i := 1154) (by decide +kernel), by decide +kernel⟩
theorem mw_L_meanFloorArea : po_MW yL_meanFloorArea cL_meanFloorArea 3 [(0, 8, 11, 99)] 2 := ⟨wq_1155, wq_1154, wq_89, by decide +kernel⟩
theorem wq_1664 : Cond.methodLink RL 203 yX8_meanFloorArea ∈ po_TB := List.mem_filter.mpr ⟨List.mem_of_getElem? (i := 1664) (by decide +kernel), by decide +kernel⟩
theorem wq_1667 : Cond.code yX8_meanFloorArea cX8_meanFloorArea 4 (some .float) ∈ po_TB := List.mem_filter.mpr ⟨List.mem_of_getElem? (i := 1667) (by decide +kernel), by decide +kernel⟩
theorem wq_1665 : Cond.instanceMethod yX8_meanFloorArea ∈ po_TB := List.mem_filter.mpr ⟨List.mem_of_getElem? (i := 1665) (by decide +kernel), by decide +kernel⟩
theorem mv_X8_meanFloorArea : po_MV yX8_meanFloorArea cX8_meanFloorArea 4 (some .float) 0 := ⟨wq_1667, wq_1665, wq_98, by decide +kernel⟩
theorem wq_1666 : Cond.selects RX8 yX8_meanFloorArea yX8_meanFloorArea ∈ po_TB := List.mem_filter.mpr ⟨List.mem_of_getElem? (i := 1666) (by decide +kernel), by decide +kernel⟩
theorem ws_X8_meanFloorArea : Cond.selects yX8_meanFloorArea.cls yX8_meanFloorArea yX8_meanFloorArea ∈ po_TB := wq_1666
theorem wq_1177 : Cond.methodLink RL 204 yL_count ∈ po_TB := List.mem_filter.mpr ⟨List.mem_of_getElem? (i := 1177) (by decide +kernel), by decide +kernel⟩
theorem wq_1179 : Cond.codeWith yL_count cL_count 4 (some .int) [(0, 9, 12, 13)] ∈ po_TB := List.mem_filter.mpr ⟨List.mem_of_getElem? (i := 1179) (by decide +kernel), by decide +kernel⟩
theorem wq_1178 : Cond.static yL_count ∈ po_TB := List.mem_filter.mpr ⟨List.mem_of_getElem? (i := 1178) (by decide +kernel), by decide +kernel⟩
theorem mw_L_count : po_MW yL_count cL_count 4 [(0, 9, 12, 13)] 3 := ⟨wq_1179, wq_1178, wq_89, by decide +kernel⟩
theorem wq_1672 : Cond.methodLink RL 206 yX8_count ∈ po_TB := List.mem_filter.mpr ⟨List.mem_of_getElem? (i := 1672) (by decide +kernel), by decide +kernel⟩
theorem wq_1675 : Cond.code yX8_count cX8_count 2 (some .int) ∈ po_TB := List.mem_filter.mpr ⟨List.mem_of_getElem? (i := 1675) (by decide +kernel), by decide +kernel⟩
theorem wq_1673 : Cond.instanceMethod yX8_count ∈ po_TB := List.mem_filter.mpr ⟨List.mem_of_getElem? (i := 1673) (by decide +kernel), by decide +kernel⟩
theorem mv_X8_count : po_MV yX8_count cX8_count 2 (some .int) 1 := ⟨wq_1675, wq_1673, wq_98, by decide +kernel⟩
theorem wq_1674 : Cond.selects RX8 yX8_count yX8_count ∈ po_TB := List.mem_filter.mpr ⟨List.mem_of_getElem? (i := 1674) (by decide +kernel), by decide +kernel⟩
theorem ws_X8_count : Cond.selects yX8_count.cls yX8_count yX8_count ∈ po_TB := wq_1674
theorem wq_1193 : Cond.methodLink RL 207 yL_undo ∈ po_TB := List.mem_filter.mpr ⟨List.mem_of_getElem? (i := 1193) (by decide +kernel), by decide +kernel⟩
theorem wq_1195 : Cond.codeWith yL_undo cL_undo 3 (some .int) [(0, 8, 11, 15)] ∈ po_TB := List.mem_filter.mpr ⟨List.mem_of_getElem? (i := 1195) (by decide +kernel), by decide +kernel⟩
theorem wq_1194 : Cond.static yL_undo ∈ po_TB := List.mem_filter.mpr ⟨List.mem_of_getElem? (i := 1194) (by decide +kernel), by decide +kernel⟩
theorem mw_L_undo : po_MW yL_undo cL_undo 3 [(0, 8, 11, 15)] 2 := ⟨wq_1195, wq_1194, wq_89, by decide +kernel⟩
theorem wq_1680 : Cond.methodLink RL 209 yX8_undo ∈ po_TB := List.mem_filter.mpr ⟨List.mem_of_getElem? (i := 1680) (by decide +kernel), by decide +kernel⟩
theorem wq_1683 : Cond.code yX8_undo cX8_undo 2 (some .int) ∈ po_TB := List.mem_filter.mpr ⟨List.mem_of_getElem? (i := 1683) (by decide +kernel), by decide +kernel⟩
theorem wq_1681 : Cond.instanceMethod yX8_undo ∈ po_TB := List.mem_filter.mpr ⟨List.mem_of_getElem? (i := 1681) (by decide +kernel), by decide +kernel⟩
theorem mv_X8_undo : po_MV yX8_undo cX8_undo 2 (some .int) 0 := ⟨wq_1683, wq_1681, wq_98, by decide +kernel⟩
theorem wq_1682 : Cond.selects RX8 yX8_undo yX8_undo ∈ po_TB := List.mem_filter.mpr ⟨List.mem_of_getElem? (i := 1682) (by decide +kernel), by decide +kernel⟩
theorem ws_X8_undo : Cond.selects yX8_undo.cls yX8_undo yX8_undo ∈ po_TB := wq_1682
theorem wq_415 : Cond.methodLink RL 210 yX7_save ∈ po_TB := List.mem_filter.mpr ⟨List.mem_of_getElem? (i := 415) (by decide +kernel), by decide +kernel⟩
theorem wq_418 : Cond.code yX7_save cX7_save 1 (some .int) ∈ po_TB := List.mem_filter.mpr ⟨List.mem_of_getElem? (i := 418) (by decide +kernel), by decide +kernel⟩
theorem wq_416 : Cond.instanceMethod yX7_save ∈ po_TB := List.mem_filter.mpr ⟨List.mem_of_getElem? (i := 416) (by decide +kernel), by decide +kernel⟩
theorem mv_X7_save : po_MV yX7_save cX7_save 1 (some .int) 0 := ⟨wq_418, wq_416, wq_90, by decide +kernel⟩
theorem wq_417 : Cond.selects RX7 yX7_save yX7_save ∈ po_TB := List.mem_filter.mpr ⟨List.mem_of_getElem? (i := 417) (by decide +kernel), by decide +kernel⟩
theorem ws_X7_save : Cond.selects yX7_save.cls yX7_save yX7_save ∈ po_TB := wq_417
theorem wq_1684 : Cond.methodLink RL 213 yX8_save ∈ po_TB := List.mem_filter.mpr ⟨List.mem_of_getElem? (i := 1684) (by decide +kernel), by decide +kernel⟩
theorem wq_1687 : Cond.code yX8_save cX8_save 1 (some .int) ∈ po_TB := List.mem_filter.mpr ⟨List.mem_of_getElem? (i := 1687) (by decide +kernel), by decide +kernel⟩
theorem wq_1685 : Cond.instanceMethod yX8_save ∈ po_TB := List.mem_filter.mpr ⟨List.mem_of_getElem? (i := 1685) (by decide +kernel), by decide +kernel⟩
theorem mv_X8_save : po_MV yX8_save cX8_save 1 (some .int) 0 := ⟨wq_1687, wq_1685, wq_98, by decide +kernel⟩
theorem wq_1686 : Cond.selects RX8 yX8_save yX8_save ∈ po_TB := List.mem_filter.mpr ⟨List.mem_of_getElem? (i := 1686) (by decide +kernel), by decide +kernel⟩
theorem ws_X8_save : Cond.selects yX8_save.cls yX8_save yX8_save ∈ po_TB := wq_1686
theorem wq_1201 : Cond.methodLink RL 214 yL_restore ∈ po_TB := List.mem_filter.mpr ⟨List.mem_of_getElem? (i := 1201) (by decide +kernel), by decide +kernel⟩
theorem wq_1203 : Cond.codeWith yL_restore cL_restore 3 (some .int) [(0, 8, 11, 15)] ∈ po_TB := List.mem_filter.mpr ⟨List.mem_of_getElem? (i := 1203) (by decide +kernel), by decide +kernel⟩
theorem wq_1202 : Cond.static yL_restore ∈ po_TB := List.mem_filter.mpr ⟨List.mem_of_getElem? (i := 1202) (by decide +kernel), by decide +kernel⟩
theorem mw_L_restore : po_MW yL_restore cL_restore 3 [(0, 8, 11, 15)] 2 := ⟨wq_1203, wq_1202, wq_89, by decide +kernel⟩
theorem wq_1688 : Cond.methodLink RL 216 yX8_restore ∈ po_TB := List.mem_filter.mpr ⟨List.mem_of_getElem? (i := 1688) (by decide +kernel), by decide +kernel⟩
theorem wq_1691 : Cond.code yX8_restore cX8_restore 1 (some .int) ∈ po_TB := List.mem_filter.mpr ⟨List.mem_of_getElem? (i := 1691) (by decide +kernel), by decide +kernel⟩
theorem wq_1689 : Cond.instanceMethod yX8_restore ∈ po_TB := List.mem_filter.mpr ⟨List.mem_of_getElem? (i := 1689) (by decide +kernel), by decide +kernel⟩
theorem mv_X8_restore : po_MV yX8_restore cX8_restore 1 (some .int) 0 := ⟨wq_1691, wq_1689, wq_98, by decide +kernel⟩
theorem wq_1690 : Cond.selects RX8 yX8_restore yX8_restore ∈ po_TB := List.mem_filter.mpr ⟨List.mem_of_getElem? (i := 1690) (by decide +kernel), by decide +kernel⟩
theorem ws_X8_restore : Cond.selects yX8_restore.cls yX8_restore yX8_restore ∈ po_TB := wq_1690
