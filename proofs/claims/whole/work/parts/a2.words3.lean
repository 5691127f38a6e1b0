/-! the words of the law's methods -/
theorem wq_450 : Cond.methodLink RL 7 yX7_append ∈ po_TB := List.mem_filter.mpr ⟨List.mem_of_getElem? (i := 450) (by decide +kernel), by decide +kernel⟩
theorem wq_453 : Cond.code yX7_append cX7_append 5 (some .int) ∈ po_TB := List.mem_filter.mpr ⟨List.mem_of_getElem? (i := 453) (by decide +kernel), by decide +kernel⟩
theorem wq_451 : Cond.instanceMethod yX7_append ∈ po_TB := List.mem_filter.mpr ⟨List.mem_of_getElem? (i := 451) (by decide +kernel), by decide +kernel⟩
theorem mv_X7_append : po_MV yX7_append cX7_append 5 (some .int) 1 := ⟨wq_453, wq_451, wq_90, by decide +kernel⟩
theorem wq_452 : Cond.selects RX7 yX7_append yX7_append ∈ po_TB := List.mem_filter.mpr ⟨List.mem_of_getElem? (i := 452) (by decide +kernel), by decide +kernel⟩
theorem ws_X7_append : Cond.selects yX7_append.cls yX7_append yX7_append ∈ po_TB := wq_452
theorem wq_448 : Cond.classLink RL 13 "java/lang/IllegalArgumentException" ∈ po_TB := List.mem_filter.mpr ⟨List.mem_of_getElem? (i := 448) (by decide +kernel), by decide +kernel⟩
theorem wn_367 : Cond.castable "java/lang/IllegalArgumentException" "java/lang/IllegalArgumentException" ∈ po_NW := List.mem_filter.mpr ⟨List.mem_of_getElem? (i := 367) (by decide +kernel), by decide +kernel⟩
theorem wq_449 : Cond.classLink RL 15 "java/lang/IllegalStateException" ∈ po_TB := List.mem_filter.mpr ⟨List.mem_of_getElem? (i := 449) (by decide +kernel), by decide +kernel⟩
theorem wn_438 : Cond.castable "java/lang/IllegalStateException" "java/lang/IllegalStateException" ∈ po_NW := List.mem_filter.mpr ⟨List.mem_of_getElem? (i := 438) (by decide +kernel), by decide +kernel⟩
theorem wq_548 : Cond.methodLink RL 17 yX7_execute ∈ po_TB := List.mem_filter.mpr ⟨List.mem_of_getElem? (i := 548) (by decide +kernel), by decide +kernel⟩
theorem wq_551 : Cond.code yX7_execute cX7_execute 2 (some .int) ∈ po_TB := List.mem_filter.mpr ⟨List.mem_of_getElem? (i := 551) (by decide +kernel), by decide +kernel⟩
theorem wq_549 : Cond.instanceMethod yX7_execute ∈ po_TB := List.mem_filter.mpr ⟨List.mem_of_getElem? (i := 549) (by decide +kernel), by decide +kernel⟩
theorem mv_X7_execute : po_MV yX7_execute cX7_execute 2 (some .int) 0 := ⟨wq_551, wq_549, wq_90, by decide +kernel⟩
theorem wq_550 : Cond.selects RX7 yX7_execute yX7_execute ∈ po_TB := List.mem_filter.mpr ⟨List.mem_of_getElem? (i := 550) (by decide +kernel), by decide +kernel⟩
theorem ws_X7_execute : Cond.selects yX7_execute.cls yX7_execute yX7_execute ∈ po_TB := wq_550
theorem wq_696 : Cond.methodLink RL 21 yX7_rule ∈ po_TB := List.mem_filter.mpr ⟨List.mem_of_getElem? (i := 696) (by decide +kernel), by decide +kernel⟩
theorem wq_699 : Cond.code yX7_rule cX7_rule 3 (some .int) ∈ po_TB := List.mem_filter.mpr ⟨List.mem_of_getElem? (i := 699) (by decide +kernel), by decide +kernel⟩
theorem wq_697 : Cond.instanceMethod yX7_rule ∈ po_TB := List.mem_filter.mpr ⟨List.mem_of_getElem? (i := 697) (by decide +kernel), by decide +kernel⟩
theorem mv_X7_rule : po_MV yX7_rule cX7_rule 3 (some .int) 2 := ⟨wq_699, wq_697, wq_90, by decide +kernel⟩
theorem wq_698 : Cond.selects RX7 yX7_rule yX7_rule ∈ po_TB := List.mem_filter.mpr ⟨List.mem_of_getElem? (i := 698) (by decide +kernel), by decide +kernel⟩
theorem ws_X7_rule : Cond.selects yX7_rule.cls yX7_rule yX7_rule ∈ po_TB := wq_698
theorem wq_672 : Cond.classLink RL 25 "java/lang/IndexOutOfBoundsException" ∈ po_TB := List.mem_filter.mpr ⟨List.mem_of_getElem? (i := 672) (by decide +kernel), by decide +kernel⟩
theorem wn_613 : Cond.castable "java/lang/IndexOutOfBoundsException" "java/lang/IndexOutOfBoundsException" ∈ po_NW := List.mem_filter.mpr ⟨List.mem_of_getElem? (i := 613) (by decide +kernel), by decide +kernel⟩
theorem wq_721 : Cond.methodLink RL 27 yX7_lot ∈ po_TB := List.mem_filter.mpr ⟨List.mem_of_getElem? (i := 721) (by decide +kernel), by decide +kernel⟩
theorem wq_724 : Cond.code yX7_lot cX7_lot 4 (some .int) ∈ po_TB := List.mem_filter.mpr ⟨List.mem_of_getElem? (i := 724) (by decide +kernel), by decide +kernel⟩
theorem wq_722 : Cond.instanceMethod yX7_lot ∈ po_TB := List.mem_filter.mpr ⟨List.mem_of_getElem? (i := 722) (by decide +kernel), by decide +kernel⟩
theorem mv_X7_lot : po_MV yX7_lot cX7_lot 4 (some .int) 2 := ⟨wq_724, wq_722, wq_90, by decide +kernel⟩
theorem wq_723 : Cond.selects RX7 yX7_lot yX7_lot ∈ po_TB := List.mem_filter.mpr ⟨List.mem_of_getElem? (i := 723) (by decide +kernel), by decide +kernel⟩
theorem ws_X7_lot : Cond.selects yX7_lot.cls yX7_lot yX7_lot ∈ po_TB := wq_723
theorem wq_772 : Cond.methodLink RL 30 yX7_rezone ∈ po_TB := List.mem_filter.mpr ⟨List.mem_of_getElem? (i := 772) (by decide +kernel), by decide +kernel⟩
theorem wq_775 : Cond.code yX7_rezone cX7_rezone 5 (some .int) ∈ po_TB := List.mem_filter.mpr ⟨List.mem_of_getElem? (i := 775) (by decide +kernel), by decide +kernel⟩
theorem wq_773 : Cond.instanceMethod yX7_rezone ∈ po_TB := List.mem_filter.mpr ⟨List.mem_of_getElem? (i := 773) (by decide +kernel), by decide +kernel⟩
theorem mv_X7_rezone : po_MV yX7_rezone cX7_rezone 5 (some .int) 2 := ⟨wq_775, wq_773, wq_90, by decide +kernel⟩
theorem wq_774 : Cond.selects RX7 yX7_rezone yX7_rezone ∈ po_TB := List.mem_filter.mpr ⟨List.mem_of_getElem? (i := 774) (by decide +kernel), by decide +kernel⟩
theorem ws_X7_rezone : Cond.selects yX7_rezone.cls yX7_rezone yX7_rezone ∈ po_TB := wq_774
theorem wq_779 : Cond.methodLink RL 33 yX7_cell ∈ po_TB := List.mem_filter.mpr ⟨List.mem_of_getElem? (i := 779) (by decide +kernel), by decide +kernel⟩
theorem wq_782 : Cond.code yX7_cell cX7_cell 4 (some .int) ∈ po_TB := List.mem_filter.mpr ⟨List.mem_of_getElem? (i := 782) (by decide +kernel), by decide +kernel⟩
theorem wq_780 : Cond.instanceMethod yX7_cell ∈ po_TB := List.mem_filter.mpr ⟨List.mem_of_getElem? (i := 780) (by decide +kernel), by decide +kernel⟩
theorem mv_X7_cell : po_MV yX7_cell cX7_cell 4 (some .int) 3 := ⟨wq_782, wq_780, wq_90, by decide +kernel⟩
theorem wq_781 : Cond.selects RX7 yX7_cell yX7_cell ∈ po_TB := List.mem_filter.mpr ⟨List.mem_of_getElem? (i := 781) (by decide +kernel), by decide +kernel⟩
theorem ws_X7_cell : Cond.selects yX7_cell.cls yX7_cell yX7_cell ∈ po_TB := wq_781
theorem wq_820 : Cond.methodLink RL 37 yX7_largest ∈ po_TB := List.mem_filter.mpr ⟨List.mem_of_getElem? (i := 820) (by decide +kernel), by decide +kernel⟩
theorem wq_823 : Cond.code yX7_largest cX7_largest 2 (some .int) ∈ po_TB := List.mem_filter.mpr ⟨List.mem_of_getElem? (i := 823) (by decide +kernel), by decide +kernel⟩
theorem wq_821 : Cond.instanceMethod yX7_largest ∈ po_TB := List.mem_filter.mpr ⟨List.mem_of_getElem? (i := 821) (by decide +kernel), by decide +kernel⟩
theorem mv_X7_largest : po_MV yX7_largest cX7_largest 2 (some .int) 1 := ⟨wq_823, wq_821, wq_90, by decide +kernel⟩
theorem wq_822 : Cond.selects RX7 yX7_largest yX7_largest ∈ po_TB := List.mem_filter.mpr ⟨List.mem_of_getElem? (i := 822) (by decide +kernel), by decide +kernel⟩
theorem ws_X7_largest : Cond.selects yX7_largest.cls yX7_largest yX7_largest ∈ po_TB := wq_822
theorem wq_855 : Cond.methodLink RL 40 yX7_permit ∈ po_TB := List.mem_filter.mpr ⟨List.mem_of_getElem? (i := 855) (by decide +kernel), by decide +kernel⟩
theorem wq_858 : Cond.code yX7_permit cX7_permit 4 (some .int) ∈ po_TB := List.mem_filter.mpr ⟨List.mem_of_getElem? (i := 858) (by decide +kernel), by decide +kernel⟩
theorem wq_856 : Cond.instanceMethod yX7_permit ∈ po_TB := List.mem_filter.mpr ⟨List.mem_of_getElem? (i := 856) (by decide +kernel), by decide +kernel⟩
theorem mv_X7_permit : po_MV yX7_permit cX7_permit 4 (some .int) 2 := ⟨wq_858, wq_856, wq_90, by decide +kernel⟩
theorem wq_857 : Cond.selects RX7 yX7_permit yX7_permit ∈ po_TB := List.mem_filter.mpr ⟨List.mem_of_getElem? (i := 857) (by decide +kernel), by decide +kernel⟩
theorem ws_X7_permit : Cond.selects yX7_permit.cls yX7_permit yX7_permit ∈ po_TB := wq_857
theorem wq_874 : Cond.methodLink RL 43 yX7_findings ∈ po_TB := List.mem_filter.mpr ⟨List.mem_of_getElem? (i := 874) (by decide +kernel), by decide +kernel⟩
theorem wq_877 : Cond.code yX7_findings cX7_findings 4 (some .int) ∈ po_TB := List.mem_filter.mpr ⟨List.mem_of_getElem? (i := 877) (by decide +kernel), by decide +kernel⟩
theorem wq_875 : Cond.instanceMethod yX7_findings ∈ po_TB := List.mem_filter.mpr ⟨List.mem_of_getElem? (i := 875) (by decide +kernel), by decide +kernel⟩
theorem mv_X7_findings : po_MV yX7_findings cX7_findings 4 (some .int) 2 := ⟨wq_877, wq_875, wq_90, by decide +kernel⟩
theorem wq_876 : Cond.selects RX7 yX7_findings yX7_findings ∈ po_TB := List.mem_filter.mpr ⟨List.mem_of_getElem? (i := 876) (by decide +kernel), by decide +kernel⟩
theorem ws_X7_findings : Cond.selects yX7_findings.cls yX7_findings yX7_findings ∈ po_TB := wq_876
theorem wq_942 : Cond.methodLink RL 47 yX7_finding ∈ po_TB := List.mem_filter.mpr ⟨List.mem_of_getElem? (i := 942) (by decide +kernel), by decide +kernel⟩
theorem wq_945 : Cond.code yX7_finding cX7_finding 5 (some .int) ∈ po_TB := List.mem_filter.mpr ⟨List.mem_of_getElem? (i := 945) (by decide +kernel), by decide +kernel⟩
theorem wq_943 : Cond.instanceMethod yX7_finding ∈ po_TB := List.mem_filter.mpr ⟨List.mem_of_getElem? (i := 943) (by decide +kernel), by decide +kernel⟩
theorem mv_X7_finding : po_MV yX7_finding cX7_finding 5 (some .int) 3 := ⟨wq_945, wq_943, wq_90, by decide +kernel⟩
theorem wq_944 : Cond.selects RX7 yX7_finding yX7_finding ∈ po_TB := List.mem_filter.mpr ⟨List.mem_of_getElem? (i := 944) (by decide +kernel), by decide +kernel⟩
theorem ws_X7_finding : Cond.selects yX7_finding.cls yX7_finding yX7_finding ∈ po_TB := wq_944
theorem wq_955 : Cond.methodLink RL 50 yX7_worst ∈ po_TB := List.mem_filter.mpr ⟨List.mem_of_getElem? (i := 955) (by decide +kernel), by decide +kernel⟩
theorem wq_958 : Cond.code yX7_worst cX7_worst 6 (some .int) ∈ po_TB := List.mem_filter.mpr ⟨List.mem_of_getElem? (i := 958) (by decide +kernel), by decide +kernel⟩
theorem wq_956 : Cond.instanceMethod yX7_worst ∈ po_TB := List.mem_filter.mpr ⟨List.mem_of_getElem? (i := 956) (by decide +kernel), by decide +kernel⟩
theorem mv_X7_worst : po_MV yX7_worst cX7_worst 6 (some .int) 0 := ⟨wq_958, wq_956, wq_90, by decide +kernel⟩
theorem wq_957 : Cond.selects RX7 yX7_worst yX7_worst ∈ po_TB := List.mem_filter.mpr ⟨List.mem_of_getElem? (i := 957) (by decide +kernel), by decide +kernel⟩
theorem ws_X7_worst : Cond.selects yX7_worst.cls yX7_worst yX7_worst ∈ po_TB := wq_957
theorem wq_954 : Cond.classLink RL 53 "java/util/NoSuchElementException" ∈ po_TB := List.mem_filter.mpr ⟨List.mem_of_getElem? (i := 954) (by decide +kernel), by decide +kernel⟩
theorem wn_879 : Cond.castable "java/util/NoSuchElementException" "java/util/NoSuchElementException" ∈ po_NW := List.mem_filter.mpr ⟨List.mem_of_getElem? (i := 879) (by decide +kernel), by decide +kernel⟩
theorem wq_985 : Cond.methodLink RL 55 yX7_decide ∈ po_TB := List.mem_filter.mpr ⟨List.mem_of_getElem? (i := 985) (by decide +kernel), by decide +kernel⟩
theorem wq_988 : Cond.code yX7_decide cX7_decide 4 (some .int) ∈ po_TB := List.mem_filter.mpr ⟨List.mem_of_getElem? (i := 988) (by decide +kernel), by decide +kernel⟩
theorem wq_986 : Cond.instanceMethod yX7_decide ∈ po_TB := List.mem_filter.mpr ⟨List.mem_of_getElem? (i := 986) (by decide +kernel), by decide +kernel⟩
theorem mv_X7_decide : po_MV yX7_decide cX7_decide 4 (some .int) 1 := ⟨wq_988, wq_986, wq_90, by decide +kernel⟩
theorem wq_987 : Cond.selects RX7 yX7_decide yX7_decide ∈ po_TB := List.mem_filter.mpr ⟨List.mem_of_getElem? (i := 987) (by decide +kernel), by decide +kernel⟩
theorem ws_X7_decide : Cond.selects yX7_decide.cls yX7_decide yX7_decide ∈ po_TB := wq_987
theorem wq_1009 : Cond.methodLink RL 58 yX7_reason ∈ po_TB := List.mem_filter.mpr ⟨List.mem_of_getElem? (i := 1009) (by decide +kernel), by decide +kernel⟩
theorem wq_1012 : Cond.code yX7_reason cX7_reason 3 (some .int) ∈ po_TB := List.mem_filter.mpr ⟨List.mem_of_getElem? (i := 1012) (by decide +kernel), by decide +kernel⟩
theorem wq_1010 : Cond.instanceMethod yX7_reason ∈ po_TB := List.mem_filter.mpr ⟨List.mem_of_getElem? (i := 1010) (by decide +kernel), by decide +kernel⟩
theorem mv_X7_reason : po_MV yX7_reason cX7_reason 3 (some .int) 1 := ⟨wq_1012, wq_1010, wq_90, by decide +kernel⟩
theorem wq_1011 : Cond.selects RX7 yX7_reason yX7_reason ∈ po_TB := List.mem_filter.mpr ⟨List.mem_of_getElem? (i := 1011) (by decide +kernel), by decide +kernel⟩
theorem ws_X7_reason : Cond.selects yX7_reason.cls yX7_reason yX7_reason ∈ po_TB := wq_1011
theorem wq_1017 : Cond.methodLink RL 61 yX7_revoke ∈ po_TB := List.mem_filter.mpr ⟨List.mem_of_getElem? (i := 1017) (by decide +kernel), by decide +kernel⟩
theorem wq_1020 : Cond.code yX7_revoke cX7_revoke 4 (some .int) ∈ po_TB := List.mem_filter.mpr ⟨List.mem_of_getElem? (i := 1020) (by decide +kernel), by decide +kernel⟩
theorem wq_1018 : Cond.instanceMethod yX7_revoke ∈ po_TB := List.mem_filter.mpr ⟨List.mem_of_getElem? (i := 1018) (by decide +kernel), by decide +kernel⟩
theorem mv_X7_revoke : po_MV yX7_revoke cX7_revoke 4 (some .int) 1 := ⟨wq_1020, wq_1018, wq_90, by decide +kernel⟩
theorem wq_1019 : Cond.selects RX7 yX7_revoke yX7_revoke ∈ po_TB := List.mem_filter.mpr ⟨List.mem_of_getElem? (i := 1019) (by decide +kernel), by decide +kernel⟩
theorem ws_X7_revoke : Cond.selects yX7_revoke.cls yX7_revoke yX7_revoke ∈ po_TB := wq_1019
theorem wq_1025 : Cond.methodLink RL 64 yX7_urgent ∈ po_TB := List.mem_filter.mpr ⟨List.mem_of_getElem? (i := 1025) (by decide +kernel), by decide +kernel⟩
theorem wq_1028 : Cond.code yX7_urgent cX7_urgent 3 (some .int) ∈ po_TB := List.mem_filter.mpr ⟨List.mem_of_getElem? (i := 1028) (by decide +kernel), by decide +kernel⟩
theorem wq_1026 : Cond.instanceMethod yX7_urgent ∈ po_TB := List.mem_filter.mpr ⟨List.mem_of_getElem? (i := 1026) (by decide +kernel), by decide +kernel⟩
theorem mv_X7_urgent : po_MV yX7_urgent cX7_urgent 3 (some .int) 1 := ⟨wq_1028, wq_1026, wq_90, by decide +kernel⟩
theorem wq_1027 : Cond.selects RX7 yX7_urgent yX7_urgent ∈ po_TB := List.mem_filter.mpr ⟨List.mem_of_getElem? (i := 1027) (by decide +kernel), by decide +kernel⟩
theorem ws_X7_urgent : Cond.selects yX7_urgent.cls yX7_urgent yX7_urgent ∈ po_TB := wq_1027
theorem wq_1049 : Cond.methodLink RL 67 yX7_variance ∈ po_TB := List.mem_filter.mpr ⟨List.mem_of_getElem? (i := 1049) (by decide +kernel), by decide +kernel⟩
theorem wq_1052 : Cond.code yX7_variance cX7_variance 4 (some .int) ∈ po_TB := List.mem_filter.mpr ⟨List.mem_of_getElem? (i := 1052) (by decide +kernel), by decide +kernel⟩
theorem wq_1050 : Cond.instanceMethod yX7_variance ∈ po_TB := List.mem_filter.mpr ⟨List.mem_of_getElem? (i := 1050) (by decide +kernel), by decide +kernel⟩
theorem mv_X7_variance : po_MV yX7_variance cX7_variance 4 (some .int) 2 := ⟨wq_1052, wq_1050, wq_90, by decide +kernel⟩
theorem wq_1051 : Cond.selects RX7 yX7_variance yX7_variance ∈ po_TB := List.mem_filter.mpr ⟨List.mem_of_getElem? (i := 1051) (by decide +kernel), by decide +kernel⟩
theorem ws_X7_variance : Cond.selects yX7_variance.cls yX7_variance yX7_variance ∈ po_TB := wq_1051
theorem wq_1063 : Cond.methodLink RL 70 yX7_needed ∈ po_TB := List.mem_filter.mpr ⟨List.mem_of_getElem? (i := 1063) (by decide +kernel), by decide +kernel⟩
theorem wq_1066 : Cond.code yX7_needed cX7_needed 4 (some .int) ∈ po_TB := List.mem_filter.mpr ⟨List.mem_of_getElem? (i := 1066) (by decide +kernel), by decide +kernel⟩
theorem wq_1064 : Cond.instanceMethod yX7_needed ∈ po_TB := List.mem_filter.mpr ⟨List.mem_of_getElem? (i := 1064) (by decide +kernel), by decide +kernel⟩
theorem mv_X7_needed : po_MV yX7_needed cX7_needed 4 (some .int) 2 := ⟨wq_1066, wq_1064, wq_90, by decide +kernel⟩
theorem wq_1065 : Cond.selects RX7 yX7_needed yX7_needed ∈ po_TB := List.mem_filter.mpr ⟨List.mem_of_getElem? (i := 1065) (by decide +kernel), by decide +kernel⟩
theorem ws_X7_needed : Cond.selects yX7_needed.cls yX7_needed yX7_needed ∈ po_TB := wq_1065
theorem wq_1078 : Cond.methodLink RL 73 yX7_condition ∈ po_TB := List.mem_filter.mpr ⟨List.mem_of_getElem? (i := 1078) (by decide +kernel), by decide +kernel⟩
theorem wq_1081 : Cond.code yX7_condition cX7_condition 5 (some .int) ∈ po_TB := List.mem_filter.mpr ⟨List.mem_of_getElem? (i := 1081) (by decide +kernel), by decide +kernel⟩
theorem wq_1079 : Cond.instanceMethod yX7_condition ∈ po_TB := List.mem_filter.mpr ⟨List.mem_of_getElem? (i := 1079) (by decide +kernel), by decide +kernel⟩
theorem mv_X7_condition : po_MV yX7_condition cX7_condition 5 (some .int) 3 := ⟨wq_1081, wq_1079, wq_90, by decide +kernel⟩
theorem wq_1080 : Cond.selects RX7 yX7_condition yX7_condition ∈ po_TB := List.mem_filter.mpr ⟨List.mem_of_getElem? (i := 1080) (by decide +kernel), by decide +kernel⟩
theorem ws_X7_condition : Cond.selects yX7_condition.cls yX7_condition yX7_condition ∈ po_TB := wq_1080
theorem wq_1091 : Cond.methodLink RL 76 yX7_fulfil ∈ po_TB := List.mem_filter.mpr ⟨List.mem_of_getElem? (i := 1091) (by decide +kernel), by decide +kernel⟩
theorem wq_1094 : Cond.code yX7_fulfil cX7_fulfil 5 (some .int) ∈ po_TB := List.mem_filter.mpr ⟨List.mem_of_getElem? (i := 1094) (by decide +kernel), by decide +kernel⟩
theorem wq_1092 : Cond.instanceMethod yX7_fulfil ∈ po_TB := List.mem_filter.mpr ⟨List.mem_of_getElem? (i := 1092) (by decide +kernel), by decide +kernel⟩
theorem mv_X7_fulfil : po_MV yX7_fulfil cX7_fulfil 5 (some .int) 2 := ⟨wq_1094, wq_1092, wq_90, by decide +kernel⟩
theorem wq_1093 : Cond.selects RX7 yX7_fulfil yX7_fulfil ∈ po_TB := List.mem_filter.mpr ⟨List.mem_of_getElem? (i := 1093) (by decide +kernel), by decide +kernel⟩
theorem ws_X7_fulfil : Cond.selects yX7_fulfil.cls yX7_fulfil yX7_fulfil ∈ po_TB := wq_1093
theorem wq_1104 : Cond.methodLink RL 79 yX7_inspect ∈ po_TB := List.mem_filter.mpr ⟨List.mem_of_getElem? (i := 1104) (by decide +kernel), by decide +kernel⟩
theorem wq_1107 : Cond.code yX7_inspect cX7_inspect 4 (some .boolean) ∈ po_TB := List.mem_filter.mpr ⟨List.mem_of_getElem? (i := 1107) (by decide +kernel), by decide +kernel⟩
theorem wq_1105 : Cond.instanceMethod yX7_inspect ∈ po_TB := List.mem_filter.mpr ⟨List.mem_of_getElem? (i := 1105) (by decide +kernel), by decide +kernel⟩
theorem mv_X7_inspect : po_MV yX7_inspect cX7_inspect 4 (some .boolean) 1 := ⟨wq_1107, wq_1105, wq_90, by decide +kernel⟩
theorem wq_1106 : Cond.selects RX7 yX7_inspect yX7_inspect ∈ po_TB := List.mem_filter.mpr ⟨List.mem_of_getElem? (i := 1106) (by decide +kernel), by decide +kernel⟩
theorem ws_X7_inspect : Cond.selects yX7_inspect.cls yX7_inspect yX7_inspect ∈ po_TB := wq_1106
theorem wq_1124 : Cond.methodLink RL 83 yX7_reinstate ∈ po_TB := List.mem_filter.mpr ⟨List.mem_of_getElem? (i := 1124) (by decide +kernel), by decide +kernel⟩
theorem wq_1127 : Cond.code yX7_reinstate cX7_reinstate 3 (some .int) ∈ po_TB := List.mem_filter.mpr ⟨List.mem_of_getElem? (i := 1127) (by decide +kernel), by decide +kernel⟩
theorem wq_1125 : Cond.instanceMethod yX7_reinstate ∈ po_TB := List.mem_filter.mpr ⟨List.mem_of_getElem? (i := 1125) (by decide +kernel), by decide +kernel⟩
theorem mv_X7_reinstate : po_MV yX7_reinstate cX7_reinstate 3 (some .int) 1 := ⟨wq_1127, wq_1125, wq_90, by decide +kernel⟩
theorem wq_1126 : Cond.selects RX7 yX7_reinstate yX7_reinstate ∈ po_TB := List.mem_filter.mpr ⟨List.mem_of_getElem? (i := 1126) (by decide +kernel), by decide +kernel⟩
theorem ws_X7_reinstate : Cond.selects yX7_reinstate.cls yX7_reinstate yX7_reinstate ∈ po_TB := wq_1126
theorem wq_1132 : Cond.methodLink RL 86 yX7_extend ∈ po_TB := List.mem_filter.mpr ⟨List.mem_of_getElem? (i := 1132) (by decide +kernel), by decide +kernel⟩
theorem wq_1135 : Cond.code yX7_extend cX7_extend 3 (some .int) ∈ po_TB := List.mem_filter.mpr ⟨List.mem_of_getElem? (i := 1135) (by decide +kernel), by decide +kernel⟩
theorem wq_1133 : Cond.instanceMethod yX7_extend ∈ po_TB := List.mem_filter.mpr ⟨List.mem_of_getElem? (i := 1133) (by decide +kernel), by decide +kernel⟩
theorem mv_X7_extend : po_MV yX7_extend cX7_extend 3 (some .int) 1 := ⟨wq_1135, wq_1133, wq_90, by decide +kernel⟩
theorem wq_1134 : Cond.selects RX7 yX7_extend yX7_extend ∈ po_TB := List.mem_filter.mpr ⟨List.mem_of_getElem? (i := 1134) (by decide +kernel), by decide +kernel⟩
theorem ws_X7_extend : Cond.selects yX7_extend.cls yX7_extend yX7_extend ∈ po_TB := wq_1134
theorem wq_1140 : Cond.methodLink RL 89 yX7_pass ∈ po_TB := List.mem_filter.mpr ⟨List.mem_of_getElem? (i := 1140) (by decide +kernel), by decide +kernel⟩
theorem wq_1143 : Cond.code yX7_pass cX7_pass 5 (some .int) ∈ po_TB := List.mem_filter.mpr ⟨List.mem_of_getElem? (i := 1143) (by decide +kernel), by decide +kernel⟩
theorem wq_1141 : Cond.instanceMethod yX7_pass ∈ po_TB := List.mem_filter.mpr ⟨List.mem_of_getElem? (i := 1141) (by decide +kernel), by decide +kernel⟩
theorem mv_X7_pass : po_MV yX7_pass cX7_pass 5 (some .int) 1 := ⟨wq_1143, wq_1141, wq_90, by decide +kernel⟩
theorem wq_1142 : Cond.selects RX7 yX7_pass yX7_pass ∈ po_TB := List.mem_filter.mpr ⟨List.mem_of_getElem? (i := 1142) (by decide +kernel), by decide +kernel⟩
theorem ws_X7_pass : Cond.selects yX7_pass.cls yX7_pass yX7_pass ∈ po_TB := wq_1142
theorem wq_1148 : Cond.methodLink RL 92 yX7_account ∈ po_TB := List.mem_filter.mpr ⟨List.mem_of_getElem? (i := 1148) (by decide +kernel), by decide +kernel⟩
theorem wq_1151 : Cond.code yX7_account cX7_account 6 (some .int) ∈ po_TB := List.mem_filter.mpr ⟨List.mem_of_getElem? (i := 1151) (by decide +kernel), by decide +kernel⟩
theorem wq_1149 : Cond.instanceMethod yX7_account ∈ po_TB := List.mem_filter.mpr ⟨List.mem_of_getElem? (i := 1149) (by decide +kernel), by decide +kernel⟩
theorem mv_X7_account : po_MV yX7_account cX7_account 6 (some .int) 2 := ⟨wq_1151, wq_1149, wq_90, by decide +kernel⟩
theorem wq_1150 : Cond.selects RX7 yX7_account yX7_account ∈ po_TB := List.mem_filter.mpr ⟨List.mem_of_getElem? (i := 1150) (by decide +kernel), by decide +kernel⟩
theorem ws_X7_account : Cond.selects yX7_account.cls yX7_account yX7_account ∈ po_TB := wq_1150
theorem wq_1170 : Cond.methodLink RL 95 yX7_meanFloorArea ∈ po_TB := List.mem_filter.mpr ⟨List.mem_of_getElem? (i := 1170) (by decide +kernel), by decide +kernel⟩
theorem wq_1173 : Cond.code yX7_meanFloorArea cX7_meanFloorArea 4 (some .float) ∈ po_TB := List.mem_filter.mpr ⟨List.mem_of_getElem? (i := 1173) (by decide +kernel), by decide +kernel⟩
theorem wq_1171 : Cond.instanceMethod yX7_meanFloorArea ∈ po_TB := List.mem_filter.mpr ⟨List.mem_of_getElem? (i := 1171) (by decide +kernel), by decide +kernel⟩
theorem mv_X7_meanFloorArea : po_MV yX7_meanFloorArea cX7_meanFloorArea 4 (some .float) 0 := ⟨wq_1173, wq_1171, wq_90, by decide +kernel⟩
theorem wq_1172 : Cond.selects RX7 yX7_meanFloorArea yX7_meanFloorArea ∈ po_TB := List.mem_filter.mpr ⟨List.mem_of_getElem? (i := 1172) (by decide +kernel), by decide +kernel⟩
theorem ws_X7_meanFloorArea : Cond.selects yX7_meanFloorArea.cls yX7_meanFloorArea yX7_meanFloorArea ∈ po_TB := wq_1172
theorem wq_1156 : Cond.classLink RL 99 "java/lang/ArithmeticException" ∈ po_TB := List.mem_filter.mpr ⟨List.mem_of_getElem? (i := 1156) (by decide +kernel), by decide +kernel⟩
theorem wn_1079 : Cond.castable "java/lang/ArithmeticException" "java/lang/ArithmeticException" ∈ po_NW := List.mem_filter.mpr ⟨List.mem_of_getElem? (i := 1079) (by decide +kernel), by decide +kernel⟩
theorem wq_1180 : Cond.methodLink RL 101 yX7_count ∈ po_TB := List.mem_filter.mpr ⟨List.mem_of_getElem? (i := 1180) (by decide +kernel), by decide +kernel⟩
theorem wq_1183 : Cond.code yX7_count cX7_count 2 (some .int) ∈ po_TB := List.mem_filter.mpr ⟨List.mem_of_getElem? (i := 1183) (by decide +kernel), by decide +kernel⟩
theorem wq_1181 : Cond.instanceMethod yX7_count ∈ po_TB := List.mem_filter.mpr ⟨List.mem_of_getElem? (i := 1181) (by decide +kernel), by decide +kernel⟩
theorem mv_X7_count : po_MV yX7_count cX7_count 2 (some .int) 1 := ⟨wq_1183, wq_1181, wq_90, by decide +kernel⟩
theorem wq_1182 : Cond.selects RX7 yX7_count yX7_count ∈ po_TB := List.mem_filter.mpr ⟨List.mem_of_getElem? (i := 1182) (by decide +kernel), by decide +kernel⟩
theorem ws_X7_count : Cond.selects yX7_count.cls yX7_count yX7_count ∈ po_TB := wq_1182
theorem wq_1196 : Cond.methodLink RL 104 yX7_undo ∈ po_TB := List.mem_filter.mpr ⟨List.mem_of_getElem? (i := 1196) (by decide +kernel), by decide +kernel⟩
theorem wq_1199 : Cond.code yX7_undo cX7_undo 1 (some .int) ∈ po_TB := List.mem_filter.mpr ⟨List.mem_of_getElem? (i := 1199) (by decide +kernel), by decide +kernel⟩
theorem wq_1197 : Cond.instanceMethod yX7_undo ∈ po_TB := List.mem_filter.mpr ⟨List.mem_of_getElem? (i := 1197) (by decide +kernel), by decide +kernel⟩
theorem mv_X7_undo : po_MV yX7_undo cX7_undo 1 (some .int) 0 := ⟨wq_1199, wq_1197, wq_90, by decide +kernel⟩
theorem wq_1198 : Cond.selects RX7 yX7_undo yX7_undo ∈ po_TB := List.mem_filter.mpr ⟨List.mem_of_getElem? (i := 1198) (by decide +kernel), by decide +kernel⟩
theorem ws_X7_undo : Cond.selects yX7_undo.cls yX7_undo yX7_undo ∈ po_TB := wq_1198
theorem wq_1204 : Cond.methodLink RL 107 yX7_restore ∈ po_TB := List.mem_filter.mpr ⟨List.mem_of_getElem? (i := 1204) (by decide +kernel), by decide +kernel⟩
theorem wq_1207 : Cond.code yX7_restore cX7_restore 1 (some .int) ∈ po_TB := List.mem_filter.mpr ⟨List.mem_of_getElem? (i := 1207) (by decide +kernel), by decide +kernel⟩
theorem wq_1205 : Cond.instanceMethod yX7_restore ∈ po_TB := List.mem_filter.mpr ⟨List.mem_of_getElem? (i := 1205) (by decide +kernel), by decide +kernel⟩
theorem mv_X7_restore : po_MV yX7_restore cX7_restore 1 (some .int) 0 := ⟨wq_1207, wq_1205, wq_90, by decide +kernel⟩
theorem wq_1206 : Cond.selects RX7 yX7_restore yX7_restore ∈ po_TB := List.mem_filter.mpr ⟨List.mem_of_getElem? (i := 1206) (by decide +kernel), by decide +kernel⟩
theorem ws_X7_restore : Cond.selects yX7_restore.cls yX7_restore yX7_restore ∈ po_TB := wq_1206
