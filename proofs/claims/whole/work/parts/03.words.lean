theorem wi_0 : Cond.fieldLink "HeapQueries$Heap" 32 "HeapQueries$Heap" "classCount" "I" ∈ hq_tbl := List.mem_filter.mpr ⟨List.mem_of_getElem? (i := 129) (by decide +kernel), rfl⟩
theorem wi_1 : Cond.fieldLink "HeapQueries$Heap" 9 "HeapQueries$Heap" "parents" "[I" ∈ hq_tbl := List.mem_filter.mpr ⟨List.mem_of_getElem? (i := 128) (by decide +kernel), rfl⟩
theorem wi_2 : Cond.methodLink "HeapQueries$Heap" 36 yxh_hasClass ∈ hq_tbl := List.mem_filter.mpr ⟨List.mem_of_getElem? (i := 227) (by decide +kernel), rfl⟩
theorem wi_3 : Cond.fieldLink "HeapQueries" 12 "HeapQueries" "heap" "LHeapQueries$Heap;" ∈ hq_tbl := List.mem_filter.mpr ⟨List.mem_of_getElem? (i := 206) (by decide +kernel), rfl⟩
theorem wi_4 : Cond.methodLink "HeapQueries" 30 yxh_makeClass ∈ hq_tbl := List.mem_filter.mpr ⟨List.mem_of_getElem? (i := 223) (by decide +kernel), rfl⟩
theorem wi_5 : Cond.fieldLink "HeapQueries$Heap" 40 "HeapQueries$Heap" "objectCount" "I" ∈ hq_tbl := List.mem_filter.mpr ⟨List.mem_of_getElem? (i := 133) (by decide +kernel), rfl⟩
theorem wi_6 : Cond.fieldLink "HeapQueries$Heap" 15 "HeapQueries$Heap" "classes" "[I" ∈ hq_tbl := List.mem_filter.mpr ⟨List.mem_of_getElem? (i := 130) (by decide +kernel), rfl⟩
theorem wi_7 : Cond.fieldLink "HeapQueries$Heap" 18 "HeapQueries$Heap" "sizes" "[I" ∈ hq_tbl := List.mem_filter.mpr ⟨List.mem_of_getElem? (i := 131) (by decide +kernel), rfl⟩
theorem wi_8 : Cond.fieldLink "HeapQueries$Heap" 43 "HeapQueries$Heap" "changed" "Z" ∈ hq_tbl := List.mem_filter.mpr ⟨List.mem_of_getElem? (i := 139) (by decide +kernel), rfl⟩
theorem wi_9 : Cond.methodLink "HeapQueries" 34 yxh_makeObject ∈ hq_tbl := List.mem_filter.mpr ⟨List.mem_of_getElem? (i := 235) (by decide +kernel), rfl⟩
theorem wi_10 : Cond.fieldLink "HeapQueries$Heap" 21 "HeapQueries$Heap" "fields" "[J" ∈ hq_tbl := List.mem_filter.mpr ⟨List.mem_of_getElem? (i := 132) (by decide +kernel), rfl⟩
theorem wi_11 : Cond.constantLong "HeapQueries$Value" 11 4294967296 ∈ hq_tbl := List.mem_filter.mpr ⟨List.mem_of_getElem? (i := 254) (by decide +kernel), rfl⟩
theorem wi_12 : Cond.constantLong "HeapQueries$Value" 13 4294967295 ∈ hq_tbl := List.mem_filter.mpr ⟨List.mem_of_getElem? (i := 255) (by decide +kernel), rfl⟩
theorem wi_13 : Cond.constantLong "HeapQueries$Value" 15 8589934592 ∈ hq_tbl := List.mem_filter.mpr ⟨List.mem_of_getElem? (i := 259) (by decide +kernel), rfl⟩
theorem wi_14 : Cond.methodLink "HeapQueries" 38 yxh_hasObject ∈ hq_tbl := List.mem_filter.mpr ⟨List.mem_of_getElem? (i := 243) (by decide +kernel), rfl⟩
theorem wi_15 : Cond.methodLink "HeapQueries" 44 yxh_putField ∈ hq_tbl := List.mem_filter.mpr ⟨List.mem_of_getElem? (i := 247) (by decide +kernel), rfl⟩
theorem wi_16 : Cond.methodLink "HeapQueries" 48 yxv_number ∈ hq_tbl := List.mem_filter.mpr ⟨List.mem_of_getElem? (i := 251) (by decide +kernel), rfl⟩
theorem wi_17 : Cond.methodLink "HeapQueries" 52 yxv_link ∈ hq_tbl := List.mem_filter.mpr ⟨List.mem_of_getElem? (i := 256) (by decide +kernel), rfl⟩
theorem wi_18 : Cond.fieldLink "HeapQueries$Heap" 47 "HeapQueries$Heap" "roots" "I" ∈ hq_tbl := List.mem_filter.mpr ⟨List.mem_of_getElem? (i := 134) (by decide +kernel), rfl⟩
theorem wi_19 : Cond.methodLink "HeapQueries" 55 yxh_markRoot ∈ hq_tbl := List.mem_filter.mpr ⟨List.mem_of_getElem? (i := 264) (by decide +kernel), rfl⟩
theorem wi_20 : Cond.constantLong "HeapQueries$Value" 21 2 ∈ hq_tbl := List.mem_filter.mpr ⟨List.mem_of_getElem? (i := 299) (by decide +kernel), rfl⟩
theorem wi_21 : Cond.methodLink "HeapQueries$Survey" 69 yxh_fieldOf ∈ hq_tbl := List.mem_filter.mpr ⟨List.mem_of_getElem? (i := 292) (by decide +kernel), rfl⟩
theorem wi_22 : Cond.methodLink "HeapQueries$Survey" 73 yxv_isLink ∈ hq_tbl := List.mem_filter.mpr ⟨List.mem_of_getElem? (i := 296) (by decide +kernel), rfl⟩
theorem wi_23 : Cond.methodLink "HeapQueries$Survey" 79 yxv_contentOf ∈ hq_tbl := List.mem_filter.mpr ⟨List.mem_of_getElem? (i := 300) (by decide +kernel), rfl⟩
theorem wi_24 : Cond.fieldLink "HeapQueries$Survey" 9 "HeapQueries$Survey" "linkedFrom" "[I" ∈ hq_tbl := List.mem_filter.mpr ⟨List.mem_of_getElem? (i := 98) (by decide +kernel), rfl⟩
theorem wi_25 : Cond.fieldLink "HeapQueries$Survey" 15 "HeapQueries$Survey" "linkCounts" "[I" ∈ hq_tbl := List.mem_filter.mpr ⟨List.mem_of_getElem? (i := 99) (by decide +kernel), rfl⟩
theorem wi_26 : Cond.fieldLink "HeapQueries$Survey" 36 "HeapQueries$Survey" "objectCount" "I" ∈ hq_tbl := List.mem_filter.mpr ⟨List.mem_of_getElem? (i := 104) (by decide +kernel), rfl⟩
theorem wi_27 : Cond.constant "java/lang/Integer" 264 65536 ∈ hq_tbl := List.mem_filter.mpr ⟨List.mem_of_getElem? (i := 310) (by decide +kernel), rfl⟩
theorem wi_28 : Cond.methodLink "HeapQueries$Survey" 83 yjn_numberOfTrailingZeros ∈ hq_tbl := List.mem_filter.mpr ⟨List.mem_of_getElem? (i := 307) (by decide +kernel), rfl⟩
theorem wi_29 : Cond.fieldLink "HeapQueries$Survey" 43 "HeapQueries$Survey" "roots" "I" ∈ hq_tbl := List.mem_filter.mpr ⟨List.mem_of_getElem? (i := 105) (by decide +kernel), rfl⟩
theorem wi_30 : Cond.fieldLink "HeapQueries$Survey" 53 "HeapQueries$Survey" "reachable" "I" ∈ hq_tbl := List.mem_filter.mpr ⟨List.mem_of_getElem? (i := 106) (by decide +kernel), rfl⟩
theorem wi_31 : Cond.methodLink "HeapQueries$Survey" 49 yxs_reachableWithout ∈ hq_tbl := List.mem_filter.mpr ⟨List.mem_of_getElem? (i := 303) (by decide +kernel), rfl⟩
theorem wi_32 : Cond.methodLink "HeapQueries$Survey" 88 yxh_sizeOf ∈ hq_tbl := List.mem_filter.mpr ⟨List.mem_of_getElem? (i := 319) (by decide +kernel), rfl⟩
theorem wi_33 : Cond.fieldLink "HeapQueries$Survey" 18 "HeapQueries$Survey" "retainedSets" "[I" ∈ hq_tbl := List.mem_filter.mpr ⟨List.mem_of_getElem? (i := 100) (by decide +kernel), rfl⟩
theorem wi_34 : Cond.fieldLink "HeapQueries$Survey" 24 "HeapQueries$Survey" "dominators" "[I" ∈ hq_tbl := List.mem_filter.mpr ⟨List.mem_of_getElem? (i := 102) (by decide +kernel), rfl⟩
theorem wi_35 : Cond.fieldLink "HeapQueries$Survey" 27 "HeapQueries$Survey" "immediateDominators" "[I" ∈ hq_tbl := List.mem_filter.mpr ⟨List.mem_of_getElem? (i := 103) (by decide +kernel), rfl⟩
theorem wi_36 : Cond.methodLink "HeapQueries$Survey" 66 yxs_findImmediateDominator ∈ hq_tbl := List.mem_filter.mpr ⟨List.mem_of_getElem? (i := 327) (by decide +kernel), rfl⟩
theorem wi_37 : Cond.methodLink "HeapQueries$Survey" 63 yxs_findDominators ∈ hq_tbl := List.mem_filter.mpr ⟨List.mem_of_getElem? (i := 323) (by decide +kernel), rfl⟩
theorem wi_38 : Cond.methodLink "HeapQueries$Survey" 56 yxs_retainedBy ∈ hq_tbl := List.mem_filter.mpr ⟨List.mem_of_getElem? (i := 311) (by decide +kernel), rfl⟩
theorem wi_39 : Cond.fieldLink "HeapQueries$Survey" 21 "HeapQueries$Survey" "retainedSizes" "[I" ∈ hq_tbl := List.mem_filter.mpr ⟨List.mem_of_getElem? (i := 101) (by decide +kernel), rfl⟩
theorem wi_40 : Cond.methodLink "HeapQueries$Survey" 59 yxs_sizeOfSet ∈ hq_tbl := List.mem_filter.mpr ⟨List.mem_of_getElem? (i := 315) (by decide +kernel), rfl⟩
theorem wi_41 : Cond.methodLink "HeapQueries$Survey" 30 yxh_size ∈ hq_tbl := List.mem_filter.mpr ⟨List.mem_of_getElem? (i := 280) (by decide +kernel), rfl⟩
theorem wi_42 : Cond.methodLink "HeapQueries$Survey" 40 yxh_roots ∈ hq_tbl := List.mem_filter.mpr ⟨List.mem_of_getElem? (i := 284) (by decide +kernel), rfl⟩
theorem wi_43 : Cond.methodLink "HeapQueries$Survey" 45 yxs_findLinks ∈ hq_tbl := List.mem_filter.mpr ⟨List.mem_of_getElem? (i := 288) (by decide +kernel), rfl⟩
theorem wi_44 : Cond.fieldLink "HeapQueries$Heap" 28 "HeapQueries$Heap" "survey" "LHeapQueries$Survey;" ∈ hq_tbl := List.mem_filter.mpr ⟨List.mem_of_getElem? (i := 135) (by decide +kernel), rfl⟩
theorem wi_45 : Cond.methodLink "HeapQueries$Heap" 50 yxs_takeOf ∈ hq_tbl := List.mem_filter.mpr ⟨List.mem_of_getElem? (i := 276) (by decide +kernel), rfl⟩
theorem wi_46 : Cond.methodLink "HeapQueries" 59 yxh_refreshSurvey ∈ hq_tbl := List.mem_filter.mpr ⟨List.mem_of_getElem? (i := 272) (by decide +kernel), rfl⟩
theorem wi_47 : Cond.fieldLink "HeapQueries" 62 "HeapQueries$Heap" "survey" "LHeapQueries$Survey;" ∈ hq_tbl := List.mem_filter.mpr ⟨List.mem_of_getElem? (i := 137) (by decide +kernel), rfl⟩
theorem wi_48 : Cond.methodLink "HeapQueries" 66 yxs_immediateDominatorOf ∈ hq_tbl := List.mem_filter.mpr ⟨List.mem_of_getElem? (i := 331) (by decide +kernel), rfl⟩
theorem wi_49 : Cond.methodLink "HeapQueries" 71 yxs_retainedSizeOf ∈ hq_tbl := List.mem_filter.mpr ⟨List.mem_of_getElem? (i := 339) (by decide +kernel), rfl⟩
theorem wi_50 : Cond.methodLink "HeapQueries" 94 yxh_hasClass ∈ hq_tbl := List.mem_filter.mpr ⟨List.mem_of_getElem? (i := 351) (by decide +kernel), rfl⟩
theorem wi_51 : Cond.fieldLink "HeapQueries$Text" 25 "HeapQueries$Text" "count" "I" ∈ hq_tbl := List.mem_filter.mpr ⟨List.mem_of_getElem? (i := 167) (by decide +kernel), rfl⟩
theorem wi_52 : Cond.fieldLink "HeapQueries" 19 "HeapQueries" "text" "LHeapQueries$Text;" ∈ hq_tbl := List.mem_filter.mpr ⟨List.mem_of_getElem? (i := 207) (by decide +kernel), rfl⟩
theorem wi_53 : Cond.methodLink "HeapQueries" 97 yxt_length ∈ hq_tbl := List.mem_filter.mpr ⟨List.mem_of_getElem? (i := 519) (by decide +kernel), rfl⟩
theorem wi_54 : Cond.fieldLink "HeapQueries$Text" 28 "HeapQueries$Text" "bracketCount" "I" ∈ hq_tbl := List.mem_filter.mpr ⟨List.mem_of_getElem? (i := 169) (by decide +kernel), rfl⟩
theorem wi_55 : Cond.methodLink "HeapQueries" 101 yxt_openBrackets ∈ hq_tbl := List.mem_filter.mpr ⟨List.mem_of_getElem? (i := 527) (by decide +kernel), rfl⟩
theorem wi_56 : Cond.fieldLink "HeapQueries$Worker" 15 "HeapQueries$Worker" "count" "I" ∈ hq_tbl := List.mem_filter.mpr ⟨List.mem_of_getElem? (i := 197) (by decide +kernel), rfl⟩
theorem wi_57 : Cond.fieldLink "HeapQueries" 26 "HeapQueries" "worker" "LHeapQueries$Worker;" ∈ hq_tbl := List.mem_filter.mpr ⟨List.mem_of_getElem? (i := 208) (by decide +kernel), rfl⟩
theorem wi_58 : Cond.methodLink "HeapQueries" 117 yxw_rowCount ∈ hq_tbl := List.mem_filter.mpr ⟨List.mem_of_getElem? (i := 677) (by decide +kernel), rfl⟩
theorem wi_59 : Cond.fieldLink "HeapQueries$Worker" 9 "HeapQueries$Worker" "rows" "[J" ∈ hq_tbl := List.mem_filter.mpr ⟨List.mem_of_getElem? (i := 196) (by decide +kernel), rfl⟩
theorem wi_60 : Cond.methodLink "HeapQueries" 120 yxw_hasRow ∈ hq_tbl := List.mem_filter.mpr ⟨List.mem_of_getElem? (i := 689) (by decide +kernel), rfl⟩
theorem wi_61 : Cond.methodLink "HeapQueries" 123 yxw_row ∈ hq_tbl := List.mem_filter.mpr ⟨List.mem_of_getElem? (i := 693) (by decide +kernel), rfl⟩
theorem wi_62 : Cond.methodLink "HeapQueries" 126 yxv_kindOf ∈ hq_tbl := List.mem_filter.mpr ⟨List.mem_of_getElem? (i := 697) (by decide +kernel), rfl⟩
theorem wi_63 : Cond.methodLink "HeapQueries" 130 yxv_contentOf ∈ hq_tbl := List.mem_filter.mpr ⟨List.mem_of_getElem? (i := 704) (by decide +kernel), rfl⟩
theorem wi_64 : Cond.fieldLink "HeapQueries$Worker" 19 "HeapQueries$Worker" "looks" "I" ∈ hq_tbl := List.mem_filter.mpr ⟨List.mem_of_getElem? (i := 198) (by decide +kernel), rfl⟩
theorem wi_65 : Cond.methodLink "HeapQueries" 133 yxw_lookCount ∈ hq_tbl := List.mem_filter.mpr ⟨List.mem_of_getElem? (i := 709) (by decide +kernel), rfl⟩
theorem wi_66 : Cond.fieldLink "HeapQueriesModel" 77 "HeapQueriesModel" "classes" "I" ∈ hq_tbl := List.mem_filter.mpr ⟨List.mem_of_getElem? (i := 719) (by decide +kernel), rfl⟩
theorem wi_67 : Cond.fieldLink "HeapQueriesModel" 7 "HeapQueriesModel" "parent" "[I" ∈ hq_tbl := List.mem_filter.mpr ⟨List.mem_of_getElem? (i := 720) (by decide +kernel), rfl⟩
theorem wi_68 : Cond.fieldLink "HeapQueriesModel" 81 "HeapQueriesModel" "objects" "I" ∈ hq_tbl := List.mem_filter.mpr ⟨List.mem_of_getElem? (i := 721) (by decide +kernel), rfl⟩
theorem wi_69 : Cond.fieldLink "HeapQueriesModel" 13 "HeapQueriesModel" "kindOf" "[I" ∈ hq_tbl := List.mem_filter.mpr ⟨List.mem_of_getElem? (i := 722) (by decide +kernel), rfl⟩
theorem wi_70 : Cond.fieldLink "HeapQueriesModel" 16 "HeapQueriesModel" "size" "[I" ∈ hq_tbl := List.mem_filter.mpr ⟨List.mem_of_getElem? (i := 723) (by decide +kernel), rfl⟩
theorem wi_71 : Cond.fieldLink "HeapQueriesModel" 23 "HeapQueriesModel" "slotKind" "[I" ∈ hq_tbl := List.mem_filter.mpr ⟨List.mem_of_getElem? (i := 725) (by decide +kernel), rfl⟩
theorem wi_72 : Cond.fieldLink "HeapQueriesModel" 26 "HeapQueriesModel" "slot" "[I" ∈ hq_tbl := List.mem_filter.mpr ⟨List.mem_of_getElem? (i := 726) (by decide +kernel), rfl⟩
theorem wi_73 : Cond.methodLink "HeapQueriesModel" 84 ym_there ∈ hq_tbl := List.mem_filter.mpr ⟨List.mem_of_getElem? (i := 847) (by decide +kernel), rfl⟩
theorem wi_74 : Cond.fieldLink "HeapQueriesModel" 19 "HeapQueriesModel" "root" "[Z" ∈ hq_tbl := List.mem_filter.mpr ⟨List.mem_of_getElem? (i := 724) (by decide +kernel), rfl⟩
theorem wi_75 : Cond.fieldLink "HeapQueriesModel" 29 "HeapQueriesModel" "kept" "[I" ∈ hq_tbl := List.mem_filter.mpr ⟨List.mem_of_getElem? (i := 727) (by decide +kernel), rfl⟩
theorem wi_76 : Cond.methodLink "HeapQueriesModel" 88 ym_reach ∈ hq_tbl := List.mem_filter.mpr ⟨List.mem_of_getElem? (i := 863) (by decide +kernel), rfl⟩
theorem wi_77 : Cond.methodLink "HeapQueriesModel" 92 ym_dominates ∈ hq_tbl := List.mem_filter.mpr ⟨List.mem_of_getElem? (i := 871) (by decide +kernel), rfl⟩
theorem wi_78 : Cond.methodLink "HeapQueriesModel" 96 ym_keepSets ∈ hq_tbl := List.mem_filter.mpr ⟨List.mem_of_getElem? (i := 859) (by decide +kernel), rfl⟩
theorem wi_79 : Cond.methodLink "HeapQueriesModel" 99 ym_immediate ∈ hq_tbl := List.mem_filter.mpr ⟨List.mem_of_getElem? (i := 867) (by decide +kernel), rfl⟩
theorem wi_80 : Cond.methodLink "HeapQueriesModel" 102 ym_sum ∈ hq_tbl := List.mem_filter.mpr ⟨List.mem_of_getElem? (i := 879) (by decide +kernel), rfl⟩
theorem wi_81 : Cond.fieldLink "HeapQueriesModel" 105 "HeapQueriesModel" "want" "I" ∈ hq_tbl := List.mem_filter.mpr ⟨List.mem_of_getElem? (i := 731) (by decide +kernel), rfl⟩
theorem wi_82 : Cond.fieldLink "HeapQueriesModel" 108 "HeapQueriesModel" "open" "I" ∈ hq_tbl := List.mem_filter.mpr ⟨List.mem_of_getElem? (i := 733) (by decide +kernel), rfl⟩
theorem wi_83 : Cond.fieldLink "HeapQueriesModel" 111 "HeapQueriesModel" "compared" "Z" ∈ hq_tbl := List.mem_filter.mpr ⟨List.mem_of_getElem? (i := 732) (by decide +kernel), rfl⟩
theorem wi_84 : Cond.fieldLink "HeapQueriesModel" 38 "HeapQueriesModel" "opened" "[I" ∈ hq_tbl := List.mem_filter.mpr ⟨List.mem_of_getElem? (i := 734) (by decide +kernel), rfl⟩
theorem wi_85 : Cond.methodLink "HeapQueriesModel" 115 ym_push ∈ hq_tbl := List.mem_filter.mpr ⟨List.mem_of_getElem? (i := 899) (by decide +kernel), rfl⟩
theorem wi_86 : Cond.methodLink "HeapQueriesModel" 119 ym_becomes ∈ hq_tbl := List.mem_filter.mpr ⟨List.mem_of_getElem? (i := 903) (by decide +kernel), rfl⟩
theorem wi_87 : Cond.methodLink "HeapQueriesModel" 128 ym_ends ∈ hq_tbl := List.mem_filter.mpr ⟨List.mem_of_getElem? (i := 915) (by decide +kernel), rfl⟩
theorem wi_88 : Cond.methodLink "HeapQueriesModel" 125 ym_behind ∈ hq_tbl := List.mem_filter.mpr ⟨List.mem_of_getElem? (i := 911) (by decide +kernel), rfl⟩
theorem wi_89 : Cond.methodLink "HeapQueriesModel" 122 ym_operand ∈ hq_tbl := List.mem_filter.mpr ⟨List.mem_of_getElem? (i := 907) (by decide +kernel), rfl⟩
theorem wi_90 : Cond.fieldLink "HeapQueriesModel" 131 "HeapQueriesModel" "count" "I" ∈ hq_tbl := List.mem_filter.mpr ⟨List.mem_of_getElem? (i := 728) (by decide +kernel), rfl⟩
theorem wi_91 : Cond.fieldLink "HeapQueriesModel" 32 "HeapQueriesModel" "code" "[I" ∈ hq_tbl := List.mem_filter.mpr ⟨List.mem_of_getElem? (i := 729) (by decide +kernel), rfl⟩
theorem wi_92 : Cond.methodLink "HeapQueriesModel" 140 ym_step ∈ hq_tbl := List.mem_filter.mpr ⟨List.mem_of_getElem? (i := 895) (by decide +kernel), rfl⟩
theorem wi_93 : Cond.methodLink "HeapQueriesModel" 134 ym_fits ∈ hq_tbl := List.mem_filter.mpr ⟨List.mem_of_getElem? (i := 887) (by decide +kernel), rfl⟩
theorem wi_94 : Cond.fieldLink "HeapQueriesModel" 35 "HeapQueriesModel" "number" "[I" ∈ hq_tbl := List.mem_filter.mpr ⟨List.mem_of_getElem? (i := 730) (by decide +kernel), rfl⟩
theorem wi_95 : Cond.methodLink "HeapQueriesModel" 137 ym_start ∈ hq_tbl := List.mem_filter.mpr ⟨List.mem_of_getElem? (i := 891) (by decide +kernel), rfl⟩
theorem wi_96 : Cond.fieldLink "HeapQueriesModel" 47 "HeapQueriesModel" "list" "[I" ∈ hq_tbl := List.mem_filter.mpr ⟨List.mem_of_getElem? (i := 739) (by decide +kernel), rfl⟩
theorem wi_97 : Cond.fieldLink "HeapQueriesModel" 165 "HeapQueriesModel" "many" "I" ∈ hq_tbl := List.mem_filter.mpr ⟨List.mem_of_getElem? (i := 738) (by decide +kernel), rfl⟩
theorem wi_98 : Cond.methodLink "HeapQueriesModel" 168 ym_under ∈ hq_tbl := List.mem_filter.mpr ⟨List.mem_of_getElem? (i := 947) (by decide +kernel), rfl⟩
theorem wi_99 : Cond.fieldLink "HeapQueriesModel" 149 "HeapQueriesModel" "rowCount" "I" ∈ hq_tbl := List.mem_filter.mpr ⟨List.mem_of_getElem? (i := 735) (by decide +kernel), rfl⟩
theorem wi_100 : Cond.fieldLink "HeapQueriesModel" 44 "HeapQueriesModel" "rowValue" "[I" ∈ hq_tbl := List.mem_filter.mpr ⟨List.mem_of_getElem? (i := 737) (by decide +kernel), rfl⟩
theorem wi_101 : Cond.fieldLink "HeapQueriesModel" 41 "HeapQueriesModel" "rowKind" "[I" ∈ hq_tbl := List.mem_filter.mpr ⟨List.mem_of_getElem? (i := 736) (by decide +kernel), rfl⟩
theorem wi_102 : Cond.fieldLink "HeapQueriesModel" 59 "HeapQueriesModel" "source" "[I" ∈ hq_tbl := List.mem_filter.mpr ⟨List.mem_of_getElem? (i := 746) (by decide +kernel), rfl⟩
theorem wi_103 : Cond.fieldLink "HeapQueriesModel" 152 "HeapQueriesModel" "level" "I" ∈ hq_tbl := List.mem_filter.mpr ⟨List.mem_of_getElem? (i := 742) (by decide +kernel), rfl⟩
theorem wi_104 : Cond.fieldLink "HeapQueriesModel" 50 "HeapQueriesModel" "from" "[I" ∈ hq_tbl := List.mem_filter.mpr ⟨List.mem_of_getElem? (i := 743) (by decide +kernel), rfl⟩
theorem wi_105 : Cond.fieldLink "HeapQueriesModel" 195 "HeapQueriesModel" "values" "I" ∈ hq_tbl := List.mem_filter.mpr ⟨List.mem_of_getElem? (i := 752) (by decide +kernel), rfl⟩
theorem wi_106 : Cond.fieldLink "HeapQueriesModel" 68 "HeapQueriesModel" "vKind" "[I" ∈ hq_tbl := List.mem_filter.mpr ⟨List.mem_of_getElem? (i := 753) (by decide +kernel), rfl⟩
theorem wi_107 : Cond.fieldLink "HeapQueriesModel" 71 "HeapQueriesModel" "v" "[I" ∈ hq_tbl := List.mem_filter.mpr ⟨List.mem_of_getElem? (i := 754) (by decide +kernel), rfl⟩
theorem wi_108 : Cond.methodLink "HeapQueriesModel" 207 ym_give ∈ hq_tbl := List.mem_filter.mpr ⟨List.mem_of_getElem? (i := 974) (by decide +kernel), rfl⟩
theorem wi_109 : Cond.fieldLink "HeapQueriesModel" 143 "HeapQueriesModel" "fail" "I" ∈ hq_tbl := List.mem_filter.mpr ⟨List.mem_of_getElem? (i := 741) (by decide +kernel), rfl⟩
theorem wi_110 : Cond.fieldLink "HeapQueriesModel" 198 "HeapQueriesModel" "waiting" "I" ∈ hq_tbl := List.mem_filter.mpr ⟨List.mem_of_getElem? (i := 755) (by decide +kernel), rfl⟩
theorem wi_111 : Cond.fieldLink "HeapQueriesModel" 74 "HeapQueriesModel" "waits" "[I" ∈ hq_tbl := List.mem_filter.mpr ⟨List.mem_of_getElem? (i := 756) (by decide +kernel), rfl⟩
theorem wi_112 : Cond.methodLink "HeapQueriesModel" 220 ym_rank ∈ hq_tbl := List.mem_filter.mpr ⟨List.mem_of_getElem? (i := 967) (by decide +kernel), rfl⟩
theorem wi_113 : Cond.methodLink "HeapQueriesModel" 226 ym_pair ∈ hq_tbl := List.mem_filter.mpr ⟨List.mem_of_getElem? (i := 978) (by decide +kernel), rfl⟩
theorem wi_114 : Cond.methodLink "HeapQueriesModel" 223 ym_truth ∈ hq_tbl := List.mem_filter.mpr ⟨List.mem_of_getElem? (i := 970) (by decide +kernel), rfl⟩
theorem wi_115 : Cond.fieldLink "HeapQueriesModel" 186 "HeapQueriesModel" "at" "I" ∈ hq_tbl := List.mem_filter.mpr ⟨List.mem_of_getElem? (i := 749) (by decide +kernel), rfl⟩
theorem wi_116 : Cond.methodLink "HeapQueriesModel" 229 ym_stops ∈ hq_tbl := List.mem_filter.mpr ⟨List.mem_of_getElem? (i := 994) (by decide +kernel), rfl⟩
theorem wi_117 : Cond.methodLink "HeapQueriesModel" 214 ym_hold ∈ hq_tbl := List.mem_filter.mpr ⟨List.mem_of_getElem? (i := 986) (by decide +kernel), rfl⟩
theorem wi_118 : Cond.methodLink "HeapQueriesModel" 204 ym_apply ∈ hq_tbl := List.mem_filter.mpr ⟨List.mem_of_getElem? (i := 963) (by decide +kernel), rfl⟩
theorem wi_119 : Cond.methodLink "HeapQueriesModel" 217 ym_branch ∈ hq_tbl := List.mem_filter.mpr ⟨List.mem_of_getElem? (i := 990) (by decide +kernel), rfl⟩
theorem wi_120 : Cond.methodLink "HeapQueriesModel" 211 ym_along ∈ hq_tbl := List.mem_filter.mpr ⟨List.mem_of_getElem? (i := 982) (by decide +kernel), rfl⟩
theorem wi_121 : Cond.fieldLink "HeapQueriesModel" 192 "HeapQueriesModel" "brackets" "I" ∈ hq_tbl := List.mem_filter.mpr ⟨List.mem_of_getElem? (i := 751) (by decide +kernel), rfl⟩
theorem wi_122 : Cond.fieldLink "HeapQueriesModel" 189 "HeapQueriesModel" "self" "I" ∈ hq_tbl := List.mem_filter.mpr ⟨List.mem_of_getElem? (i := 750) (by decide +kernel), rfl⟩
theorem wi_123 : Cond.methodLink "HeapQueriesModel" 201 ym_take ∈ hq_tbl := List.mem_filter.mpr ⟨List.mem_of_getElem? (i := 959) (by decide +kernel), rfl⟩
theorem wi_124 : Cond.fieldLink "HeapQueriesModel" 53 "HeapQueriesModel" "eAt" "[I" ∈ hq_tbl := List.mem_filter.mpr ⟨List.mem_of_getElem? (i := 744) (by decide +kernel), rfl⟩
theorem wi_125 : Cond.methodLink "HeapQueriesModel" 183 ym_work ∈ hq_tbl := List.mem_filter.mpr ⟨List.mem_of_getElem? (i := 955) (by decide +kernel), rfl⟩
theorem wi_126 : Cond.fieldLink "HeapQueriesModel" 146 "HeapQueriesModel" "seen" "I" ∈ hq_tbl := List.mem_filter.mpr ⟨List.mem_of_getElem? (i := 740) (by decide +kernel), rfl⟩
theorem wi_127 : Cond.fieldLink "HeapQueriesModel" 56 "HeapQueriesModel" "whereAt" "[I" ∈ hq_tbl := List.mem_filter.mpr ⟨List.mem_of_getElem? (i := 745) (by decide +kernel), rfl⟩
theorem wi_128 : Cond.fieldLink "HeapQueriesModel" 62 "HeapQueriesModel" "distinct" "[Z" ∈ hq_tbl := List.mem_filter.mpr ⟨List.mem_of_getElem? (i := 747) (by decide +kernel), rfl⟩
theorem wi_129 : Cond.methodLink "HeapQueriesModel" 180 ym_single ∈ hq_tbl := List.mem_filter.mpr ⟨List.mem_of_getElem? (i := 1005) (by decide +kernel), rfl⟩
theorem wi_130 : Cond.fieldLink "HeapQueriesModel" 65 "HeapQueriesModel" "keeps" "[Z" ∈ hq_tbl := List.mem_filter.mpr ⟨List.mem_of_getElem? (i := 748) (by decide +kernel), rfl⟩
theorem wi_131 : Cond.methodLink "HeapQueriesModel" 162 ym_numbers ∈ hq_tbl := List.mem_filter.mpr ⟨List.mem_of_getElem? (i := 997) (by decide +kernel), rfl⟩
theorem wi_132 : Cond.methodLink "HeapQueriesModel" 177 ym_retain ∈ hq_tbl := List.mem_filter.mpr ⟨List.mem_of_getElem? (i := 1001) (by decide +kernel), rfl⟩
theorem wi_133 : Cond.methodLink "HeapQueriesModel" 174 ym_look ∈ hq_tbl := List.mem_filter.mpr ⟨List.mem_of_getElem? (i := 951) (by decide +kernel), rfl⟩
theorem wi_134 : Cond.methodLink "HeapQueriesModel" 171 ym_gather ∈ hq_tbl := List.mem_filter.mpr ⟨List.mem_of_getElem? (i := 943) (by decide +kernel), rfl⟩
theorem wi_135 : Cond.methodLink "HeapQueriesModel" 159 ym_select ∈ hq_tbl := List.mem_filter.mpr ⟨List.mem_of_getElem? (i := 939) (by decide +kernel), rfl⟩
theorem wi_136 : Cond.methodLink "HeapQueriesModel" 155 ym_notice ∈ hq_tbl := List.mem_filter.mpr ⟨List.mem_of_getElem? (i := 935) (by decide +kernel), rfl⟩
theorem wi_137 : Cond.methodLink "HeapQueriesModel" 232 ym_row ∈ hq_tbl := List.mem_filter.mpr ⟨List.mem_of_getElem? (i := 1017) (by decide +kernel), rfl⟩
theorem wi_138 : Cond.fieldLink "HeapQueries$Calculator" 38 "HeapQueries$Node" "code" "I" ∈ hq_tbl := List.mem_filter.mpr ⟨List.mem_of_getElem? (i := 483) (by decide +kernel), rfl⟩
theorem wi_139 : Cond.fieldLink "HeapQueries$Calculator" 54 "HeapQueries$Node" "number" "I" ∈ hq_tbl := List.mem_filter.mpr ⟨List.mem_of_getElem? (i := 485) (by decide +kernel), rfl⟩
theorem wi_140 : Cond.methodLink "HeapQueries$Calculator" 57 yxv_number ∈ hq_tbl := List.mem_filter.mpr ⟨List.mem_of_getElem? (i := 604) (by decide +kernel), rfl⟩
theorem wi_141 : Cond.methodLink "HeapQueries$Calculator" 60 yxv_link ∈ hq_tbl := List.mem_filter.mpr ⟨List.mem_of_getElem? (i := 605) (by decide +kernel), rfl⟩
theorem wi_142 : Cond.constantLong "HeapQueries$Value" 23 3 ∈ hq_tbl := List.mem_filter.mpr ⟨List.mem_of_getElem? (i := 610) (by decide +kernel), rfl⟩
theorem wi_143 : Cond.constantLong "HeapQueries$Value" 17 12884901888 ∈ hq_tbl := List.mem_filter.mpr ⟨List.mem_of_getElem? (i := 622) (by decide +kernel), rfl⟩
theorem wi_144 : Cond.constantLong "HeapQueries$Value" 19 4294967297 ∈ hq_tbl := List.mem_filter.mpr ⟨List.mem_of_getElem? (i := 626) (by decide +kernel), rfl⟩
theorem wi_145 : Cond.methodLink "HeapQueries$Value" 25 yxv_isError ∈ hq_tbl := List.mem_filter.mpr ⟨List.mem_of_getElem? (i := 617) (by decide +kernel), rfl⟩
theorem wi_146 : Cond.methodLink "HeapQueries$Value" 29 yxv_isLink ∈ hq_tbl := List.mem_filter.mpr ⟨List.mem_of_getElem? (i := 618) (by decide +kernel), rfl⟩
theorem wi_147 : Cond.methodLink "HeapQueries$Value" 36 yxv_flag ∈ hq_tbl := List.mem_filter.mpr ⟨List.mem_of_getElem? (i := 623) (by decide +kernel), rfl⟩
theorem wi_148 : Cond.methodLink "HeapQueries$Value" 32 yxv_error ∈ hq_tbl := List.mem_filter.mpr ⟨List.mem_of_getElem? (i := 619) (by decide +kernel), rfl⟩
theorem wi_149 : Cond.methodLink "HeapQueries$Calculator" 96 yxh_classOf ∈ hq_tbl := List.mem_filter.mpr ⟨List.mem_of_getElem? (i := 638) (by decide +kernel), rfl⟩
theorem wi_150 : Cond.methodLink "HeapQueries$Calculator" 100 yxh_sizeOf ∈ hq_tbl := List.mem_filter.mpr ⟨List.mem_of_getElem? (i := 639) (by decide +kernel), rfl⟩
theorem wi_151 : Cond.fieldLink "HeapQueries$Calculator" 103 "HeapQueries$Heap" "survey" "LHeapQueries$Survey;" ∈ hq_tbl := List.mem_filter.mpr ⟨List.mem_of_getElem? (i := 136) (by decide +kernel), rfl⟩
theorem wi_152 : Cond.methodLink "HeapQueries$Calculator" 107 yxs_retainedSizeOf ∈ hq_tbl := List.mem_filter.mpr ⟨List.mem_of_getElem? (i := 640) (by decide +kernel), rfl⟩
theorem wi_153 : Cond.methodLink "HeapQueries$Calculator" 112 yxs_immediateDominatorOf ∈ hq_tbl := List.mem_filter.mpr ⟨List.mem_of_getElem? (i := 641) (by decide +kernel), rfl⟩
theorem wi_154 : Cond.methodLink "HeapQueries$Calculator" 115 yxs_linkCountOf ∈ hq_tbl := List.mem_filter.mpr ⟨List.mem_of_getElem? (i := 642) (by decide +kernel), rfl⟩
theorem wi_155 : Cond.methodLink "HeapQueries$Calculator" 69 yxv_isEmpty ∈ hq_tbl := List.mem_filter.mpr ⟨List.mem_of_getElem? (i := 629) (by decide +kernel), rfl⟩
theorem wi_156 : Cond.methodLink "HeapQueries$Calculator" 72 yxv_contentOf ∈ hq_tbl := List.mem_filter.mpr ⟨List.mem_of_getElem? (i := 630) (by decide +kernel), rfl⟩
theorem wi_157 : Cond.methodLink "HeapQueries$Calculator" 76 yxv_isLink ∈ hq_tbl := List.mem_filter.mpr ⟨List.mem_of_getElem? (i := 631) (by decide +kernel), rfl⟩
theorem wi_158 : Cond.methodLink "HeapQueries$Calculator" 85 yxv_error ∈ hq_tbl := List.mem_filter.mpr ⟨List.mem_of_getElem? (i := 633) (by decide +kernel), rfl⟩
theorem wi_159 : Cond.methodLink "HeapQueries$Calculator" 79 yxh_hasObject ∈ hq_tbl := List.mem_filter.mpr ⟨List.mem_of_getElem? (i := 632) (by decide +kernel), rfl⟩
theorem wi_160 : Cond.methodLink "HeapQueries$Calculator" 92 yxc_factOf ∈ hq_tbl := List.mem_filter.mpr ⟨List.mem_of_getElem? (i := 635) (by decide +kernel), rfl⟩
theorem wi_161 : Cond.methodLink "HeapQueries$Calculator" 88 yxh_fieldOf ∈ hq_tbl := List.mem_filter.mpr ⟨List.mem_of_getElem? (i := 634) (by decide +kernel), rfl⟩
theorem wi_162 : Cond.methodLink "HeapQueries$Calculator" 46 yxv_truthOf ∈ hq_tbl := List.mem_filter.mpr ⟨List.mem_of_getElem? (i := 614) (by decide +kernel), rfl⟩
theorem wi_163 : Cond.methodLink "HeapQueries$Calculator" 27 yxv_isError ∈ hq_tbl := List.mem_filter.mpr ⟨List.mem_of_getElem? (i := 607) (by decide +kernel), rfl⟩
theorem wi_164 : Cond.constantLong "HeapQueries$Calculator" 63 4294967296 ∈ hq_tbl := List.mem_filter.mpr ⟨List.mem_of_getElem? (i := 627) (by decide +kernel), rfl⟩
theorem wi_165 : Cond.methodLink "HeapQueries$Calculator" 65 yxv_flag ∈ hq_tbl := List.mem_filter.mpr ⟨List.mem_of_getElem? (i := 628) (by decide +kernel), rfl⟩
theorem wi_166 : Cond.constantLong "HeapQueries$Calculator" 118 4294967297 ∈ hq_tbl := List.mem_filter.mpr ⟨List.mem_of_getElem? (i := 649) (by decide +kernel), rfl⟩
theorem wi_167 : Cond.methodLink "HeapQueries$Calculator" 120 yxc_valueOfArithmetic ∈ hq_tbl := List.mem_filter.mpr ⟨List.mem_of_getElem? (i := 653) (by decide +kernel), rfl⟩
theorem wi_168 : Cond.fieldLink "HeapQueries$Text" 9 "HeapQueries$Text" "codes" "[I" ∈ hq_tbl := List.mem_filter.mpr ⟨List.mem_of_getElem? (i := 165) (by decide +kernel), rfl⟩
theorem wi_169 : Cond.fieldLink "HeapQueries$Text" 15 "HeapQueries$Text" "numbers" "[I" ∈ hq_tbl := List.mem_filter.mpr ⟨List.mem_of_getElem? (i := 166) (by decide +kernel), rfl⟩
theorem wi_170 : Cond.fieldLink "HeapQueries$Text" 21 "HeapQueries$Text" "place" "I" ∈ hq_tbl := List.mem_filter.mpr ⟨List.mem_of_getElem? (i := 170) (by decide +kernel), rfl⟩
theorem wi_171 : Cond.methodLink "HeapQueries$Text" 42 yxt_placeInS ∈ hq_tbl := List.mem_filter.mpr ⟨List.mem_of_getElem? (i := 364) (by decide +kernel), rfl⟩
theorem wi_172 : Cond.fieldLink "HeapQueries$Text" 18 "HeapQueries$Text" "brackets" "[I" ∈ hq_tbl := List.mem_filter.mpr ⟨List.mem_of_getElem? (i := 168) (by decide +kernel), rfl⟩
theorem wi_173 : Cond.methodLink "HeapQueries$Text" 61 yxt_isInsideE ∈ hq_tbl := List.mem_filter.mpr ⟨List.mem_of_getElem? (i := 376) (by decide +kernel), rfl⟩
theorem wi_174 : Cond.fieldLink "HeapQueries$Text" 65 "HeapQueries$Text" "inWhere" "Z" ∈ hq_tbl := List.mem_filter.mpr ⟨List.mem_of_getElem? (i := 171) (by decide +kernel), rfl⟩
theorem wi_175 : Cond.methodLink "HeapQueries$Text" 51 yxt_placeAfterWholeSelect ∈ hq_tbl := List.mem_filter.mpr ⟨List.mem_of_getElem? (i := 380) (by decide +kernel), rfl⟩
theorem wi_176 : Cond.fieldLink "HeapQueries$Text" 54 "HeapQueries$Text" "compared" "Z" ∈ hq_tbl := List.mem_filter.mpr ⟨List.mem_of_getElem? (i := 172) (by decide +kernel), rfl⟩
theorem wi_177 : Cond.methodLink "HeapQueries$Text" 58 yxt_placeAfterE ∈ hq_tbl := List.mem_filter.mpr ⟨List.mem_of_getElem? (i := 372) (by decide +kernel), rfl⟩
theorem wi_178 : Cond.methodLink "HeapQueries$Text" 39 yxt_placeAfterDistinct ∈ hq_tbl := List.mem_filter.mpr ⟨List.mem_of_getElem? (i := 360) (by decide +kernel), rfl⟩
theorem wi_179 : Cond.methodLink "HeapQueries$Text" 45 yxt_placeAfterU ∈ hq_tbl := List.mem_filter.mpr ⟨List.mem_of_getElem? (i := 368) (by decide +kernel), rfl⟩
theorem wi_180 : Cond.methodLink "HeapQueries$Text" 48 yxt_placeInSource ∈ hq_tbl := List.mem_filter.mpr ⟨List.mem_of_getElem? (i := 384) (by decide +kernel), rfl⟩
theorem wi_181 : Cond.methodLink "HeapQueries$Text" 68 yxt_openBracket ∈ hq_tbl := List.mem_filter.mpr ⟨List.mem_of_getElem? (i := 392) (by decide +kernel), rfl⟩
theorem wi_182 : Cond.methodLink "HeapQueries$Text" 71 yxt_closeBracket ∈ hq_tbl := List.mem_filter.mpr ⟨List.mem_of_getElem? (i := 396) (by decide +kernel), rfl⟩
theorem wi_183 : Cond.methodLink "HeapQueries$Text" 31 yxt_placeAfter ∈ hq_tbl := List.mem_filter.mpr ⟨List.mem_of_getElem? (i := 356) (by decide +kernel), rfl⟩
theorem wi_184 : Cond.methodLink "HeapQueries$Text" 35 yxt_remember ∈ hq_tbl := List.mem_filter.mpr ⟨List.mem_of_getElem? (i := 388) (by decide +kernel), rfl⟩
theorem wi_185 : Cond.methodLink "HeapQueries$Worker" 90 yxv_link ∈ hq_tbl := List.mem_filter.mpr ⟨List.mem_of_getElem? (i := 572) (by decide +kernel), rfl⟩
theorem wi_186 : Cond.methodLink "HeapQueries$Worker" 96 yxw_add ∈ hq_tbl := List.mem_filter.mpr ⟨List.mem_of_getElem? (i := 573) (by decide +kernel), rfl⟩
theorem wi_187 : Cond.methodLink "HeapQueries$Worker" 73 yxh_size ∈ hq_tbl := List.mem_filter.mpr ⟨List.mem_of_getElem? (i := 563) (by decide +kernel), rfl⟩
theorem wi_188 : Cond.fieldLink "HeapQueries$Worker" 79 "HeapQueries$Select" "withDescendants" "Z" ∈ hq_tbl := List.mem_filter.mpr ⟨List.mem_of_getElem? (i := 438) (by decide +kernel), rfl⟩
theorem wi_189 : Cond.methodLink "HeapQueries$Worker" 86 yxh_classOf ∈ hq_tbl := List.mem_filter.mpr ⟨List.mem_of_getElem? (i := 568) (by decide +kernel), rfl⟩
theorem wi_190 : Cond.methodLink "HeapQueries$Worker" 82 yxh_isInstance ∈ hq_tbl := List.mem_filter.mpr ⟨List.mem_of_getElem? (i := 564) (by decide +kernel), rfl⟩
theorem wi_191 : Cond.fieldLink "HeapQueries$Worker" 70 "HeapQueries$Select" "sourceClass" "I" ∈ hq_tbl := List.mem_filter.mpr ⟨List.mem_of_getElem? (i := 436) (by decide +kernel), rfl⟩
theorem wi_192 : Cond.methodLink "HeapQueries$Worker" 148 yxv_isNumber ∈ hq_tbl := List.mem_filter.mpr ⟨List.mem_of_getElem? (i := 582) (by decide +kernel), rfl⟩
theorem wi_193 : Cond.methodLink "HeapQueries$Worker" 129 yxv_isLink ∈ hq_tbl := List.mem_filter.mpr ⟨List.mem_of_getElem? (i := 663) (by decide +kernel), rfl⟩
theorem wi_194 : Cond.methodLink "HeapQueries$Worker" 100 yxv_contentOf ∈ hq_tbl := List.mem_filter.mpr ⟨List.mem_of_getElem? (i := 596) (by decide +kernel), rfl⟩
theorem wi_195 : Cond.methodLink "HeapQueries$Worker" 63 yxw_hasNumber ∈ hq_tbl := List.mem_filter.mpr ⟨List.mem_of_getElem? (i := 578) (by decide +kernel), rfl⟩
theorem wi_196 : Cond.fieldLink "HeapQueries$Worker" 132 "HeapQueries$Heap" "survey" "LHeapQueries$Survey;" ∈ hq_tbl := List.mem_filter.mpr ⟨List.mem_of_getElem? (i := 138) (by decide +kernel), rfl⟩
theorem wi_197 : Cond.methodLink "HeapQueries$Worker" 136 yxs_retainedBy ∈ hq_tbl := List.mem_filter.mpr ⟨List.mem_of_getElem? (i := 664) (by decide +kernel), rfl⟩
theorem wi_198 : Cond.methodLink "HeapQueries$Worker" 141 yxw_hasRowSince ∈ hq_tbl := List.mem_filter.mpr ⟨List.mem_of_getElem? (i := 669) (by decide +kernel), rfl⟩
theorem wi_199 : Cond.methodLink "HeapQueries$Worker" 145 yxv_isEmpty ∈ hq_tbl := List.mem_filter.mpr ⟨List.mem_of_getElem? (i := 589) (by decide +kernel), rfl⟩
theorem wi_200 : Cond.instanceMethod yxh_hasClass ∈ hq_tbl := List.mem_filter.mpr ⟨List.mem_of_getElem? (i := 228) (by decide +kernel), rfl⟩
theorem wi_201 : Cond.selects "HeapQueries$Heap" yxh_hasClass yxh_hasClass ∈ hq_tbl := List.mem_filter.mpr ⟨List.mem_of_getElem? (i := 229) (by decide +kernel), rfl⟩
theorem wi_202 : Cond.initialized "HeapQueries$Heap" ∈ hq_tbl := List.mem_filter.mpr ⟨List.mem_of_getElem? (i := 67) (by decide +kernel), rfl⟩
theorem wi_203 : Cond.code yxh_hasClass bxh_hasClass 2 (some .boolean) ∈ hq_tbl := List.mem_filter.mpr ⟨List.mem_of_getElem? (i := 230) (by decide +kernel), rfl⟩
theorem wi_204 : Cond.instanceMethod yxh_makeClass ∈ hq_tbl := List.mem_filter.mpr ⟨List.mem_of_getElem? (i := 224) (by decide +kernel), rfl⟩
theorem wi_205 : Cond.selects "HeapQueries$Heap" yxh_makeClass yxh_makeClass ∈ hq_tbl := List.mem_filter.mpr ⟨List.mem_of_getElem? (i := 225) (by decide +kernel), rfl⟩
theorem wi_206 : Cond.code yxh_makeClass bxh_makeClass 2 (some .int) ∈ hq_tbl := List.mem_filter.mpr ⟨List.mem_of_getElem? (i := 226) (by decide +kernel), rfl⟩
theorem wi_207 : Cond.instanceMethod yxq_addClass ∈ hq_tbl := List.mem_filter.mpr ⟨List.mem_of_getElem? (i := 220) (by decide +kernel), rfl⟩
theorem wi_208 : Cond.selects "HeapQueries" yxq_addClass yxq_addClass ∈ hq_tbl := List.mem_filter.mpr ⟨List.mem_of_getElem? (i := 221) (by decide +kernel), rfl⟩
theorem wi_209 : Cond.initialized "HeapQueries" ∈ hq_tbl := List.mem_filter.mpr ⟨List.mem_of_getElem? (i := 66) (by decide +kernel), rfl⟩
theorem wi_210 : Cond.code yxq_addClass bxq_addClass 2 (some .int) ∈ hq_tbl := List.mem_filter.mpr ⟨List.mem_of_getElem? (i := 222) (by decide +kernel), rfl⟩
theorem wi_211 : Cond.instanceMethod yxh_makeObject ∈ hq_tbl := List.mem_filter.mpr ⟨List.mem_of_getElem? (i := 236) (by decide +kernel), rfl⟩
theorem wi_212 : Cond.selects "HeapQueries$Heap" yxh_makeObject yxh_makeObject ∈ hq_tbl := List.mem_filter.mpr ⟨List.mem_of_getElem? (i := 237) (by decide +kernel), rfl⟩
theorem wi_213 : Cond.code yxh_makeObject bxh_makeObject 3 (some .int) ∈ hq_tbl := List.mem_filter.mpr ⟨List.mem_of_getElem? (i := 238) (by decide +kernel), rfl⟩
theorem wi_214 : Cond.instanceMethod yxq_addObject ∈ hq_tbl := List.mem_filter.mpr ⟨List.mem_of_getElem? (i := 232) (by decide +kernel), rfl⟩
theorem wi_215 : Cond.selects "HeapQueries" yxq_addObject yxq_addObject ∈ hq_tbl := List.mem_filter.mpr ⟨List.mem_of_getElem? (i := 233) (by decide +kernel), rfl⟩
theorem wi_216 : Cond.code yxq_addObject bxq_addObject 3 (some .int) ∈ hq_tbl := List.mem_filter.mpr ⟨List.mem_of_getElem? (i := 234) (by decide +kernel), rfl⟩
theorem wi_217 : Cond.instanceMethod yxh_hasObject ∈ hq_tbl := List.mem_filter.mpr ⟨List.mem_of_getElem? (i := 244) (by decide +kernel), rfl⟩
theorem wi_218 : Cond.selects "HeapQueries$Heap" yxh_hasObject yxh_hasObject ∈ hq_tbl := List.mem_filter.mpr ⟨List.mem_of_getElem? (i := 245) (by decide +kernel), rfl⟩
theorem wi_219 : Cond.code yxh_hasObject bxh_hasObject 2 (some .boolean) ∈ hq_tbl := List.mem_filter.mpr ⟨List.mem_of_getElem? (i := 246) (by decide +kernel), rfl⟩
theorem wi_220 : Cond.instanceMethod yxh_putField ∈ hq_tbl := List.mem_filter.mpr ⟨List.mem_of_getElem? (i := 248) (by decide +kernel), rfl⟩
theorem wi_221 : Cond.selects "HeapQueries$Heap" yxh_putField yxh_putField ∈ hq_tbl := List.mem_filter.mpr ⟨List.mem_of_getElem? (i := 249) (by decide +kernel), rfl⟩
theorem wi_222 : Cond.code yxh_putField bxh_putField 5 none ∈ hq_tbl := List.mem_filter.mpr ⟨List.mem_of_getElem? (i := 250) (by decide +kernel), rfl⟩
theorem wi_223 : Cond.static yxv_number ∈ hq_tbl := List.mem_filter.mpr ⟨List.mem_of_getElem? (i := 252) (by decide +kernel), rfl⟩
theorem wi_224 : Cond.initialized "HeapQueries$Value" ∈ hq_tbl := List.mem_filter.mpr ⟨List.mem_of_getElem? (i := 72) (by decide +kernel), rfl⟩
theorem wi_225 : Cond.code yxv_number bxv_number 1 (some .long) ∈ hq_tbl := List.mem_filter.mpr ⟨List.mem_of_getElem? (i := 253) (by decide +kernel), rfl⟩
theorem wi_226 : Cond.static yxv_link ∈ hq_tbl := List.mem_filter.mpr ⟨List.mem_of_getElem? (i := 257) (by decide +kernel), rfl⟩
theorem wi_227 : Cond.code yxv_link bxv_link 1 (some .long) ∈ hq_tbl := List.mem_filter.mpr ⟨List.mem_of_getElem? (i := 258) (by decide +kernel), rfl⟩
theorem wi_228 : Cond.instanceMethod yxq_set ∈ hq_tbl := List.mem_filter.mpr ⟨List.mem_of_getElem? (i := 240) (by decide +kernel), rfl⟩
theorem wi_229 : Cond.selects "HeapQueries" yxq_set yxq_set ∈ hq_tbl := List.mem_filter.mpr ⟨List.mem_of_getElem? (i := 241) (by decide +kernel), rfl⟩
theorem wi_230 : Cond.code yxq_set bxq_set 5 (some .boolean) ∈ hq_tbl := List.mem_filter.mpr ⟨List.mem_of_getElem? (i := 242) (by decide +kernel), rfl⟩
theorem wi_231 : Cond.instanceMethod yxh_markRoot ∈ hq_tbl := List.mem_filter.mpr ⟨List.mem_of_getElem? (i := 265) (by decide +kernel), rfl⟩
theorem wi_232 : Cond.selects "HeapQueries$Heap" yxh_markRoot yxh_markRoot ∈ hq_tbl := List.mem_filter.mpr ⟨List.mem_of_getElem? (i := 266) (by decide +kernel), rfl⟩
theorem wi_233 : Cond.code yxh_markRoot bxh_markRoot 4 none ∈ hq_tbl := List.mem_filter.mpr ⟨List.mem_of_getElem? (i := 267) (by decide +kernel), rfl⟩
theorem wi_234 : Cond.instanceMethod yxq_setRoot ∈ hq_tbl := List.mem_filter.mpr ⟨List.mem_of_getElem? (i := 261) (by decide +kernel), rfl⟩
theorem wi_235 : Cond.selects "HeapQueries" yxq_setRoot yxq_setRoot ∈ hq_tbl := List.mem_filter.mpr ⟨List.mem_of_getElem? (i := 262) (by decide +kernel), rfl⟩
theorem wi_236 : Cond.code yxq_setRoot bxq_setRoot 3 (some .boolean) ∈ hq_tbl := List.mem_filter.mpr ⟨List.mem_of_getElem? (i := 263) (by decide +kernel), rfl⟩
theorem wi_237 : Cond.instanceMethod yxh_size ∈ hq_tbl := List.mem_filter.mpr ⟨List.mem_of_getElem? (i := 281) (by decide +kernel), rfl⟩
theorem wi_238 : Cond.selects "HeapQueries$Heap" yxh_size yxh_size ∈ hq_tbl := List.mem_filter.mpr ⟨List.mem_of_getElem? (i := 282) (by decide +kernel), rfl⟩
theorem wi_239 : Cond.code yxh_size bxh_size 1 (some .int) ∈ hq_tbl := List.mem_filter.mpr ⟨List.mem_of_getElem? (i := 283) (by decide +kernel), rfl⟩
theorem wi_240 : Cond.instanceMethod yxh_roots ∈ hq_tbl := List.mem_filter.mpr ⟨List.mem_of_getElem? (i := 285) (by decide +kernel), rfl⟩
theorem wi_241 : Cond.selects "HeapQueries$Heap" yxh_roots yxh_roots ∈ hq_tbl := List.mem_filter.mpr ⟨List.mem_of_getElem? (i := 286) (by decide +kernel), rfl⟩
theorem wi_242 : Cond.code yxh_roots bxh_roots 1 (some .int) ∈ hq_tbl := List.mem_filter.mpr ⟨List.mem_of_getElem? (i := 287) (by decide +kernel), rfl⟩
theorem wi_243 : Cond.instanceMethod yxh_fieldOf ∈ hq_tbl := List.mem_filter.mpr ⟨List.mem_of_getElem? (i := 293) (by decide +kernel), rfl⟩
theorem wi_244 : Cond.selects "HeapQueries$Heap" yxh_fieldOf yxh_fieldOf ∈ hq_tbl := List.mem_filter.mpr ⟨List.mem_of_getElem? (i := 294) (by decide +kernel), rfl⟩
theorem wi_245 : Cond.code yxh_fieldOf bxh_fieldOf 3 (some .long) ∈ hq_tbl := List.mem_filter.mpr ⟨List.mem_of_getElem? (i := 295) (by decide +kernel), rfl⟩
theorem wi_246 : Cond.static yxv_isLink ∈ hq_tbl := List.mem_filter.mpr ⟨List.mem_of_getElem? (i := 297) (by decide +kernel), rfl⟩
theorem wi_247 : Cond.code yxv_isLink bxv_isLink 2 (some .boolean) ∈ hq_tbl := List.mem_filter.mpr ⟨List.mem_of_getElem? (i := 298) (by decide +kernel), rfl⟩
theorem wi_248 : Cond.static yxv_contentOf ∈ hq_tbl := List.mem_filter.mpr ⟨List.mem_of_getElem? (i := 301) (by decide +kernel), rfl⟩
theorem wi_249 : Cond.code yxv_contentOf bxv_contentOf 2 (some .int) ∈ hq_tbl := List.mem_filter.mpr ⟨List.mem_of_getElem? (i := 302) (by decide +kernel), rfl⟩
theorem wi_250 : Cond.instanceMethod yxs_findLinks ∈ hq_tbl := List.mem_filter.mpr ⟨List.mem_of_getElem? (i := 290) (by decide +kernel), rfl⟩
theorem wi_251 : Cond.selects "HeapQueries$Survey" yxs_findLinks yxs_findLinks ∈ hq_tbl := List.mem_filter.mpr ⟨List.mem_of_getElem? (i := 0) (by decide +kernel), rfl⟩
theorem wi_252 : Cond.initialized "HeapQueries$Survey" ∈ hq_tbl := List.mem_filter.mpr ⟨List.mem_of_getElem? (i := 68) (by decide +kernel), rfl⟩
theorem wi_253 : Cond.code yxs_findLinks bxs_findLinks 7 none ∈ hq_tbl := List.mem_filter.mpr ⟨List.mem_of_getElem? (i := 291) (by decide +kernel), rfl⟩
theorem wi_254 : Cond.static yjn_numberOfTrailingZeros ∈ hq_tbl := List.mem_filter.mpr ⟨List.mem_of_getElem? (i := 308) (by decide +kernel), rfl⟩
theorem wi_255 : Cond.initialized "java/lang/Integer" ∈ hq_tbl := List.mem_filter.mpr ⟨List.mem_of_getElem? (i := 73) (by decide +kernel), rfl⟩
theorem wi_256 : Cond.code yjn_numberOfTrailingZeros bjn_numberOfTrailingZeros 2 (some .int) ∈ hq_tbl := List.mem_filter.mpr ⟨List.mem_of_getElem? (i := 309) (by decide +kernel), rfl⟩
theorem wi_257 : Cond.instanceMethod yxs_reachableWithout ∈ hq_tbl := List.mem_filter.mpr ⟨List.mem_of_getElem? (i := 305) (by decide +kernel), rfl⟩
theorem wi_258 : Cond.selects "HeapQueries$Survey" yxs_reachableWithout yxs_reachableWithout ∈ hq_tbl := List.mem_filter.mpr ⟨List.mem_of_getElem? (i := 1) (by decide +kernel), rfl⟩
theorem wi_259 : Cond.code yxs_reachableWithout bxs_reachableWithout 7 (some .int) ∈ hq_tbl := List.mem_filter.mpr ⟨List.mem_of_getElem? (i := 306) (by decide +kernel), rfl⟩
theorem wi_260 : Cond.instanceMethod yxs_retainedBy ∈ hq_tbl := List.mem_filter.mpr ⟨List.mem_of_getElem? (i := 312) (by decide +kernel), rfl⟩
theorem wi_261 : Cond.selects "HeapQueries$Survey" yxs_retainedBy yxs_retainedBy ∈ hq_tbl := List.mem_filter.mpr ⟨List.mem_of_getElem? (i := 313) (by decide +kernel), rfl⟩
theorem wi_262 : Cond.code yxs_retainedBy bxs_retainedBy 2 (some .int) ∈ hq_tbl := List.mem_filter.mpr ⟨List.mem_of_getElem? (i := 314) (by decide +kernel), rfl⟩
theorem wi_263 : Cond.instanceMethod yxh_sizeOf ∈ hq_tbl := List.mem_filter.mpr ⟨List.mem_of_getElem? (i := 320) (by decide +kernel), rfl⟩
theorem wi_264 : Cond.selects "HeapQueries$Heap" yxh_sizeOf yxh_sizeOf ∈ hq_tbl := List.mem_filter.mpr ⟨List.mem_of_getElem? (i := 321) (by decide +kernel), rfl⟩
theorem wi_265 : Cond.code yxh_sizeOf bxh_sizeOf 2 (some .int) ∈ hq_tbl := List.mem_filter.mpr ⟨List.mem_of_getElem? (i := 322) (by decide +kernel), rfl⟩
theorem wi_266 : Cond.instanceMethod yxs_sizeOfSet ∈ hq_tbl := List.mem_filter.mpr ⟨List.mem_of_getElem? (i := 317) (by decide +kernel), rfl⟩
theorem wi_267 : Cond.selects "HeapQueries$Survey" yxs_sizeOfSet yxs_sizeOfSet ∈ hq_tbl := List.mem_filter.mpr ⟨List.mem_of_getElem? (i := 2) (by decide +kernel), rfl⟩
theorem wi_268 : Cond.code yxs_sizeOfSet bxs_sizeOfSet 5 (some .int) ∈ hq_tbl := List.mem_filter.mpr ⟨List.mem_of_getElem? (i := 318) (by decide +kernel), rfl⟩
theorem wi_269 : Cond.instanceMethod yxs_findDominators ∈ hq_tbl := List.mem_filter.mpr ⟨List.mem_of_getElem? (i := 325) (by decide +kernel), rfl⟩
theorem wi_270 : Cond.selects "HeapQueries$Survey" yxs_findDominators yxs_findDominators ∈ hq_tbl := List.mem_filter.mpr ⟨List.mem_of_getElem? (i := 3) (by decide +kernel), rfl⟩
theorem wi_271 : Cond.code yxs_findDominators bxs_findDominators 4 (some .int) ∈ hq_tbl := List.mem_filter.mpr ⟨List.mem_of_getElem? (i := 326) (by decide +kernel), rfl⟩
theorem wi_272 : Cond.instanceMethod yxs_findImmediateDominator ∈ hq_tbl := List.mem_filter.mpr ⟨List.mem_of_getElem? (i := 329) (by decide +kernel), rfl⟩
theorem wi_273 : Cond.selects "HeapQueries$Survey" yxs_findImmediateDominator yxs_findImmediateDominator ∈ hq_tbl := List.mem_filter.mpr ⟨List.mem_of_getElem? (i := 4) (by decide +kernel), rfl⟩
theorem wi_274 : Cond.code yxs_findImmediateDominator bxs_findImmediateDominator 5 (some .int) ∈ hq_tbl := List.mem_filter.mpr ⟨List.mem_of_getElem? (i := 330) (by decide +kernel), rfl⟩
theorem wi_275 : Cond.instanceMethod yxs_takeOf ∈ hq_tbl := List.mem_filter.mpr ⟨List.mem_of_getElem? (i := 277) (by decide +kernel), rfl⟩
theorem wi_276 : Cond.selects "HeapQueries$Survey" yxs_takeOf yxs_takeOf ∈ hq_tbl := List.mem_filter.mpr ⟨List.mem_of_getElem? (i := 278) (by decide +kernel), rfl⟩
theorem wi_277 : Cond.code yxs_takeOf bxs_takeOf 3 none ∈ hq_tbl := List.mem_filter.mpr ⟨List.mem_of_getElem? (i := 279) (by decide +kernel), rfl⟩
theorem wi_278 : Cond.instanceMethod yxh_refreshSurvey ∈ hq_tbl := List.mem_filter.mpr ⟨List.mem_of_getElem? (i := 273) (by decide +kernel), rfl⟩
theorem wi_279 : Cond.selects "HeapQueries$Heap" yxh_refreshSurvey yxh_refreshSurvey ∈ hq_tbl := List.mem_filter.mpr ⟨List.mem_of_getElem? (i := 274) (by decide +kernel), rfl⟩
theorem wi_280 : Cond.code yxh_refreshSurvey bxh_refreshSurvey 1 none ∈ hq_tbl := List.mem_filter.mpr ⟨List.mem_of_getElem? (i := 275) (by decide +kernel), rfl⟩
theorem wi_281 : Cond.instanceMethod yxs_immediateDominatorOf ∈ hq_tbl := List.mem_filter.mpr ⟨List.mem_of_getElem? (i := 332) (by decide +kernel), rfl⟩
theorem wi_282 : Cond.selects "HeapQueries$Survey" yxs_immediateDominatorOf yxs_immediateDominatorOf ∈ hq_tbl := List.mem_filter.mpr ⟨List.mem_of_getElem? (i := 333) (by decide +kernel), rfl⟩
theorem wi_283 : Cond.code yxs_immediateDominatorOf bxs_immediateDominatorOf 2 (some .int) ∈ hq_tbl := List.mem_filter.mpr ⟨List.mem_of_getElem? (i := 334) (by decide +kernel), rfl⟩
theorem wi_284 : Cond.instanceMethod yxq_dominator ∈ hq_tbl := List.mem_filter.mpr ⟨List.mem_of_getElem? (i := 269) (by decide +kernel), rfl⟩
theorem wi_285 : Cond.selects "HeapQueries" yxq_dominator yxq_dominator ∈ hq_tbl := List.mem_filter.mpr ⟨List.mem_of_getElem? (i := 270) (by decide +kernel), rfl⟩
theorem wi_286 : Cond.code yxq_dominator bxq_dominator 2 (some .int) ∈ hq_tbl := List.mem_filter.mpr ⟨List.mem_of_getElem? (i := 271) (by decide +kernel), rfl⟩
theorem wi_287 : Cond.instanceMethod yxs_retainedSizeOf ∈ hq_tbl := List.mem_filter.mpr ⟨List.mem_of_getElem? (i := 340) (by decide +kernel), rfl⟩
theorem wi_288 : Cond.selects "HeapQueries$Survey" yxs_retainedSizeOf yxs_retainedSizeOf ∈ hq_tbl := List.mem_filter.mpr ⟨List.mem_of_getElem? (i := 341) (by decide +kernel), rfl⟩
theorem wi_289 : Cond.code yxs_retainedSizeOf bxs_retainedSizeOf 2 (some .int) ∈ hq_tbl := List.mem_filter.mpr ⟨List.mem_of_getElem? (i := 342) (by decide +kernel), rfl⟩
theorem wi_290 : Cond.instanceMethod yxq_retained ∈ hq_tbl := List.mem_filter.mpr ⟨List.mem_of_getElem? (i := 336) (by decide +kernel), rfl⟩
theorem wi_291 : Cond.selects "HeapQueries" yxq_retained yxq_retained ∈ hq_tbl := List.mem_filter.mpr ⟨List.mem_of_getElem? (i := 337) (by decide +kernel), rfl⟩
theorem wi_292 : Cond.code yxq_retained bxq_retained 2 (some .int) ∈ hq_tbl := List.mem_filter.mpr ⟨List.mem_of_getElem? (i := 338) (by decide +kernel), rfl⟩
theorem wi_293 : Cond.instanceMethod yxq_isNumberAllowed ∈ hq_tbl := List.mem_filter.mpr ⟨List.mem_of_getElem? (i := 349) (by decide +kernel), rfl⟩
theorem wi_294 : Cond.selects "HeapQueries" yxq_isNumberAllowed yxq_isNumberAllowed ∈ hq_tbl := List.mem_filter.mpr ⟨List.mem_of_getElem? (i := 5) (by decide +kernel), rfl⟩
theorem wi_295 : Cond.code yxq_isNumberAllowed bxq_isNumberAllowed 3 (some .boolean) ∈ hq_tbl := List.mem_filter.mpr ⟨List.mem_of_getElem? (i := 350) (by decide +kernel), rfl⟩
theorem wi_296 : Cond.instanceMethod yxt_length ∈ hq_tbl := List.mem_filter.mpr ⟨List.mem_of_getElem? (i := 520) (by decide +kernel), rfl⟩
theorem wi_297 : Cond.selects "HeapQueries$Text" yxt_length yxt_length ∈ hq_tbl := List.mem_filter.mpr ⟨List.mem_of_getElem? (i := 521) (by decide +kernel), rfl⟩
theorem wi_298 : Cond.initialized "HeapQueries$Text" ∈ hq_tbl := List.mem_filter.mpr ⟨List.mem_of_getElem? (i := 69) (by decide +kernel), rfl⟩
theorem wi_299 : Cond.code yxt_length bxt_length 1 (some .int) ∈ hq_tbl := List.mem_filter.mpr ⟨List.mem_of_getElem? (i := 522) (by decide +kernel), rfl⟩
theorem wi_300 : Cond.instanceMethod yxq_tokens ∈ hq_tbl := List.mem_filter.mpr ⟨List.mem_of_getElem? (i := 516) (by decide +kernel), rfl⟩
theorem wi_301 : Cond.selects "HeapQueries" yxq_tokens yxq_tokens ∈ hq_tbl := List.mem_filter.mpr ⟨List.mem_of_getElem? (i := 517) (by decide +kernel), rfl⟩
theorem wi_302 : Cond.code yxq_tokens bxq_tokens 1 (some .int) ∈ hq_tbl := List.mem_filter.mpr ⟨List.mem_of_getElem? (i := 518) (by decide +kernel), rfl⟩
theorem wi_303 : Cond.instanceMethod yxt_openBrackets ∈ hq_tbl := List.mem_filter.mpr ⟨List.mem_of_getElem? (i := 528) (by decide +kernel), rfl⟩
theorem wi_304 : Cond.selects "HeapQueries$Text" yxt_openBrackets yxt_openBrackets ∈ hq_tbl := List.mem_filter.mpr ⟨List.mem_of_getElem? (i := 529) (by decide +kernel), rfl⟩
theorem wi_305 : Cond.code yxt_openBrackets bxt_openBrackets 1 (some .int) ∈ hq_tbl := List.mem_filter.mpr ⟨List.mem_of_getElem? (i := 530) (by decide +kernel), rfl⟩
theorem wi_306 : Cond.instanceMethod yxq_depth ∈ hq_tbl := List.mem_filter.mpr ⟨List.mem_of_getElem? (i := 524) (by decide +kernel), rfl⟩
theorem wi_307 : Cond.selects "HeapQueries" yxq_depth yxq_depth ∈ hq_tbl := List.mem_filter.mpr ⟨List.mem_of_getElem? (i := 525) (by decide +kernel), rfl⟩
theorem wi_308 : Cond.code yxq_depth bxq_depth 1 (some .int) ∈ hq_tbl := List.mem_filter.mpr ⟨List.mem_of_getElem? (i := 526) (by decide +kernel), rfl⟩
theorem wi_309 : Cond.instanceMethod yxw_rowCount ∈ hq_tbl := List.mem_filter.mpr ⟨List.mem_of_getElem? (i := 678) (by decide +kernel), rfl⟩
theorem wi_310 : Cond.selects "HeapQueries$Worker" yxw_rowCount yxw_rowCount ∈ hq_tbl := List.mem_filter.mpr ⟨List.mem_of_getElem? (i := 679) (by decide +kernel), rfl⟩
theorem wi_311 : Cond.initialized "HeapQueries$Worker" ∈ hq_tbl := List.mem_filter.mpr ⟨List.mem_of_getElem? (i := 70) (by decide +kernel), rfl⟩
theorem wi_312 : Cond.code yxw_rowCount bxw_rowCount 1 (some .int) ∈ hq_tbl := List.mem_filter.mpr ⟨List.mem_of_getElem? (i := 680) (by decide +kernel), rfl⟩
theorem wi_313 : Cond.instanceMethod yxq_rows ∈ hq_tbl := List.mem_filter.mpr ⟨List.mem_of_getElem? (i := 682) (by decide +kernel), rfl⟩
theorem wi_314 : Cond.selects "HeapQueries" yxq_rows yxq_rows ∈ hq_tbl := List.mem_filter.mpr ⟨List.mem_of_getElem? (i := 683) (by decide +kernel), rfl⟩
theorem wi_315 : Cond.code yxq_rows bxq_rows 1 (some .int) ∈ hq_tbl := List.mem_filter.mpr ⟨List.mem_of_getElem? (i := 684) (by decide +kernel), rfl⟩
theorem wi_316 : Cond.instanceMethod yxw_hasRow ∈ hq_tbl := List.mem_filter.mpr ⟨List.mem_of_getElem? (i := 690) (by decide +kernel), rfl⟩
theorem wi_317 : Cond.selects "HeapQueries$Worker" yxw_hasRow yxw_hasRow ∈ hq_tbl := List.mem_filter.mpr ⟨List.mem_of_getElem? (i := 691) (by decide +kernel), rfl⟩
theorem wi_318 : Cond.code yxw_hasRow bxw_hasRow 2 (some .boolean) ∈ hq_tbl := List.mem_filter.mpr ⟨List.mem_of_getElem? (i := 692) (by decide +kernel), rfl⟩
theorem wi_319 : Cond.instanceMethod yxw_row ∈ hq_tbl := List.mem_filter.mpr ⟨List.mem_of_getElem? (i := 694) (by decide +kernel), rfl⟩
theorem wi_320 : Cond.selects "HeapQueries$Worker" yxw_row yxw_row ∈ hq_tbl := List.mem_filter.mpr ⟨List.mem_of_getElem? (i := 695) (by decide +kernel), rfl⟩
theorem wi_321 : Cond.code yxw_row bxw_row 2 (some .long) ∈ hq_tbl := List.mem_filter.mpr ⟨List.mem_of_getElem? (i := 696) (by decide +kernel), rfl⟩
theorem wi_322 : Cond.static yxv_kindOf ∈ hq_tbl := List.mem_filter.mpr ⟨List.mem_of_getElem? (i := 698) (by decide +kernel), rfl⟩
theorem wi_323 : Cond.code yxv_kindOf bxv_kindOf 2 (some .int) ∈ hq_tbl := List.mem_filter.mpr ⟨List.mem_of_getElem? (i := 699) (by decide +kernel), rfl⟩
theorem wi_324 : Cond.instanceMethod yxq_kind ∈ hq_tbl := List.mem_filter.mpr ⟨List.mem_of_getElem? (i := 686) (by decide +kernel), rfl⟩
theorem wi_325 : Cond.selects "HeapQueries" yxq_kind yxq_kind ∈ hq_tbl := List.mem_filter.mpr ⟨List.mem_of_getElem? (i := 687) (by decide +kernel), rfl⟩
theorem wi_326 : Cond.code yxq_kind bxq_kind 2 (some .int) ∈ hq_tbl := List.mem_filter.mpr ⟨List.mem_of_getElem? (i := 688) (by decide +kernel), rfl⟩
theorem wi_327 : Cond.instanceMethod yxq_value ∈ hq_tbl := List.mem_filter.mpr ⟨List.mem_of_getElem? (i := 701) (by decide +kernel), rfl⟩
theorem wi_328 : Cond.selects "HeapQueries" yxq_value yxq_value ∈ hq_tbl := List.mem_filter.mpr ⟨List.mem_of_getElem? (i := 702) (by decide +kernel), rfl⟩
theorem wi_329 : Cond.code yxq_value bxq_value 2 (some .int) ∈ hq_tbl := List.mem_filter.mpr ⟨List.mem_of_getElem? (i := 703) (by decide +kernel), rfl⟩
theorem wi_330 : Cond.instanceMethod yxw_lookCount ∈ hq_tbl := List.mem_filter.mpr ⟨List.mem_of_getElem? (i := 710) (by decide +kernel), rfl⟩
theorem wi_331 : Cond.selects "HeapQueries$Worker" yxw_lookCount yxw_lookCount ∈ hq_tbl := List.mem_filter.mpr ⟨List.mem_of_getElem? (i := 711) (by decide +kernel), rfl⟩
theorem wi_332 : Cond.code yxw_lookCount bxw_lookCount 1 (some .int) ∈ hq_tbl := List.mem_filter.mpr ⟨List.mem_of_getElem? (i := 712) (by decide +kernel), rfl⟩
theorem wi_333 : Cond.instanceMethod yxq_looked ∈ hq_tbl := List.mem_filter.mpr ⟨List.mem_of_getElem? (i := 706) (by decide +kernel), rfl⟩
theorem wi_334 : Cond.selects "HeapQueries" yxq_looked yxq_looked ∈ hq_tbl := List.mem_filter.mpr ⟨List.mem_of_getElem? (i := 707) (by decide +kernel), rfl⟩
theorem wi_335 : Cond.code yxq_looked bxq_looked 1 (some .int) ∈ hq_tbl := List.mem_filter.mpr ⟨List.mem_of_getElem? (i := 708) (by decide +kernel), rfl⟩
theorem wi_336 : Cond.instanceMethod ym_addClass ∈ hq_tbl := List.mem_filter.mpr ⟨List.mem_of_getElem? (i := 836) (by decide +kernel), rfl⟩
theorem wi_337 : Cond.selects "HeapQueriesModel" ym_addClass ym_addClass ∈ hq_tbl := List.mem_filter.mpr ⟨List.mem_of_getElem? (i := 837) (by decide +kernel), rfl⟩
theorem wi_338 : Cond.initialized "HeapQueriesModel" ∈ hq_tbl := List.mem_filter.mpr ⟨List.mem_of_getElem? (i := 71) (by decide +kernel), rfl⟩
theorem wi_339 : Cond.code ym_addClass bm_addClass 2 (some .int) ∈ hq_tbl := List.mem_filter.mpr ⟨List.mem_of_getElem? (i := 838) (by decide +kernel), rfl⟩
theorem wi_340 : Cond.instanceMethod ym_addObject ∈ hq_tbl := List.mem_filter.mpr ⟨List.mem_of_getElem? (i := 840) (by decide +kernel), rfl⟩
theorem wi_341 : Cond.selects "HeapQueriesModel" ym_addObject ym_addObject ∈ hq_tbl := List.mem_filter.mpr ⟨List.mem_of_getElem? (i := 841) (by decide +kernel), rfl⟩
theorem wi_342 : Cond.code ym_addObject bm_addObject 3 (some .int) ∈ hq_tbl := List.mem_filter.mpr ⟨List.mem_of_getElem? (i := 842) (by decide +kernel), rfl⟩
theorem wi_343 : Cond.instanceMethod ym_there ∈ hq_tbl := List.mem_filter.mpr ⟨List.mem_of_getElem? (i := 849) (by decide +kernel), rfl⟩
theorem wi_344 : Cond.selects "HeapQueriesModel" ym_there ym_there ∈ hq_tbl := List.mem_filter.mpr ⟨List.mem_of_getElem? (i := 33) (by decide +kernel), rfl⟩
theorem wi_345 : Cond.code ym_there bm_there 2 (some .boolean) ∈ hq_tbl := List.mem_filter.mpr ⟨List.mem_of_getElem? (i := 850) (by decide +kernel), rfl⟩
theorem wi_346 : Cond.instanceMethod ym_set ∈ hq_tbl := List.mem_filter.mpr ⟨List.mem_of_getElem? (i := 844) (by decide +kernel), rfl⟩
theorem wi_347 : Cond.selects "HeapQueriesModel" ym_set ym_set ∈ hq_tbl := List.mem_filter.mpr ⟨List.mem_of_getElem? (i := 845) (by decide +kernel), rfl⟩
theorem wi_348 : Cond.code ym_set bm_set 5 (some .boolean) ∈ hq_tbl := List.mem_filter.mpr ⟨List.mem_of_getElem? (i := 846) (by decide +kernel), rfl⟩
theorem wi_349 : Cond.instanceMethod ym_setRoot ∈ hq_tbl := List.mem_filter.mpr ⟨List.mem_of_getElem? (i := 852) (by decide +kernel), rfl⟩
theorem wi_350 : Cond.selects "HeapQueriesModel" ym_setRoot ym_setRoot ∈ hq_tbl := List.mem_filter.mpr ⟨List.mem_of_getElem? (i := 853) (by decide +kernel), rfl⟩
theorem wi_351 : Cond.code ym_setRoot bm_setRoot 3 (some .boolean) ∈ hq_tbl := List.mem_filter.mpr ⟨List.mem_of_getElem? (i := 854) (by decide +kernel), rfl⟩
theorem wi_352 : Cond.instanceMethod ym_reach ∈ hq_tbl := List.mem_filter.mpr ⟨List.mem_of_getElem? (i := 865) (by decide +kernel), rfl⟩
theorem wi_353 : Cond.selects "HeapQueriesModel" ym_reach ym_reach ∈ hq_tbl := List.mem_filter.mpr ⟨List.mem_of_getElem? (i := 35) (by decide +kernel), rfl⟩
theorem wi_354 : Cond.code ym_reach bm_reach 9 (some .int) ∈ hq_tbl := List.mem_filter.mpr ⟨List.mem_of_getElem? (i := 866) (by decide +kernel), rfl⟩
theorem wi_355 : Cond.instanceMethod ym_keepSets ∈ hq_tbl := List.mem_filter.mpr ⟨List.mem_of_getElem? (i := 861) (by decide +kernel), rfl⟩
theorem wi_356 : Cond.selects "HeapQueriesModel" ym_keepSets ym_keepSets ∈ hq_tbl := List.mem_filter.mpr ⟨List.mem_of_getElem? (i := 34) (by decide +kernel), rfl⟩
theorem wi_357 : Cond.code ym_keepSets bm_keepSets 3 none ∈ hq_tbl := List.mem_filter.mpr ⟨List.mem_of_getElem? (i := 862) (by decide +kernel), rfl⟩
theorem wi_358 : Cond.instanceMethod ym_sum ∈ hq_tbl := List.mem_filter.mpr ⟨List.mem_of_getElem? (i := 881) (by decide +kernel), rfl⟩
theorem wi_359 : Cond.selects "HeapQueriesModel" ym_sum ym_sum ∈ hq_tbl := List.mem_filter.mpr ⟨List.mem_of_getElem? (i := 38) (by decide +kernel), rfl⟩
theorem wi_360 : Cond.code ym_sum bm_sum 4 (some .int) ∈ hq_tbl := List.mem_filter.mpr ⟨List.mem_of_getElem? (i := 882) (by decide +kernel), rfl⟩
theorem wi_361 : Cond.instanceMethod ym_dominates ∈ hq_tbl := List.mem_filter.mpr ⟨List.mem_of_getElem? (i := 873) (by decide +kernel), rfl⟩
theorem wi_362 : Cond.selects "HeapQueriesModel" ym_dominates ym_dominates ∈ hq_tbl := List.mem_filter.mpr ⟨List.mem_of_getElem? (i := 37) (by decide +kernel), rfl⟩
theorem wi_363 : Cond.code ym_dominates bm_dominates 3 (some .boolean) ∈ hq_tbl := List.mem_filter.mpr ⟨List.mem_of_getElem? (i := 874) (by decide +kernel), rfl⟩
theorem wi_364 : Cond.instanceMethod ym_immediate ∈ hq_tbl := List.mem_filter.mpr ⟨List.mem_of_getElem? (i := 869) (by decide +kernel), rfl⟩
theorem wi_365 : Cond.selects "HeapQueriesModel" ym_immediate ym_immediate ∈ hq_tbl := List.mem_filter.mpr ⟨List.mem_of_getElem? (i := 36) (by decide +kernel), rfl⟩
theorem wi_366 : Cond.code ym_immediate bm_immediate 5 (some .int) ∈ hq_tbl := List.mem_filter.mpr ⟨List.mem_of_getElem? (i := 870) (by decide +kernel), rfl⟩
theorem wi_367 : Cond.instanceMethod ym_dominator ∈ hq_tbl := List.mem_filter.mpr ⟨List.mem_of_getElem? (i := 856) (by decide +kernel), rfl⟩
theorem wi_368 : Cond.selects "HeapQueriesModel" ym_dominator ym_dominator ∈ hq_tbl := List.mem_filter.mpr ⟨List.mem_of_getElem? (i := 857) (by decide +kernel), rfl⟩
theorem wi_369 : Cond.code ym_dominator bm_dominator 2 (some .int) ∈ hq_tbl := List.mem_filter.mpr ⟨List.mem_of_getElem? (i := 858) (by decide +kernel), rfl⟩
theorem wi_370 : Cond.instanceMethod ym_retained ∈ hq_tbl := List.mem_filter.mpr ⟨List.mem_of_getElem? (i := 876) (by decide +kernel), rfl⟩
theorem wi_371 : Cond.selects "HeapQueriesModel" ym_retained ym_retained ∈ hq_tbl := List.mem_filter.mpr ⟨List.mem_of_getElem? (i := 877) (by decide +kernel), rfl⟩
theorem wi_372 : Cond.code ym_retained bm_retained 2 (some .int) ∈ hq_tbl := List.mem_filter.mpr ⟨List.mem_of_getElem? (i := 878) (by decide +kernel), rfl⟩
theorem wi_373 : Cond.instanceMethod ym_start ∈ hq_tbl := List.mem_filter.mpr ⟨List.mem_of_getElem? (i := 893) (by decide +kernel), rfl⟩
theorem wi_374 : Cond.selects "HeapQueriesModel" ym_start ym_start ∈ hq_tbl := List.mem_filter.mpr ⟨List.mem_of_getElem? (i := 40) (by decide +kernel), rfl⟩
theorem wi_375 : Cond.code ym_start bm_start 1 none ∈ hq_tbl := List.mem_filter.mpr ⟨List.mem_of_getElem? (i := 894) (by decide +kernel), rfl⟩
theorem wi_376 : Cond.instanceMethod ym_push ∈ hq_tbl := List.mem_filter.mpr ⟨List.mem_of_getElem? (i := 901) (by decide +kernel), rfl⟩
theorem wi_377 : Cond.selects "HeapQueriesModel" ym_push ym_push ∈ hq_tbl := List.mem_filter.mpr ⟨List.mem_of_getElem? (i := 42) (by decide +kernel), rfl⟩
theorem wi_378 : Cond.code ym_push bm_push 2 none ∈ hq_tbl := List.mem_filter.mpr ⟨List.mem_of_getElem? (i := 902) (by decide +kernel), rfl⟩
theorem wi_379 : Cond.instanceMethod ym_becomes ∈ hq_tbl := List.mem_filter.mpr ⟨List.mem_of_getElem? (i := 905) (by decide +kernel), rfl⟩
theorem wi_380 : Cond.selects "HeapQueriesModel" ym_becomes ym_becomes ∈ hq_tbl := List.mem_filter.mpr ⟨List.mem_of_getElem? (i := 43) (by decide +kernel), rfl⟩
theorem wi_381 : Cond.code ym_becomes bm_becomes 2 (some .boolean) ∈ hq_tbl := List.mem_filter.mpr ⟨List.mem_of_getElem? (i := 906) (by decide +kernel), rfl⟩
theorem wi_382 : Cond.instanceMethod ym_operand ∈ hq_tbl := List.mem_filter.mpr ⟨List.mem_of_getElem? (i := 909) (by decide +kernel), rfl⟩
theorem wi_383 : Cond.selects "HeapQueriesModel" ym_operand ym_operand ∈ hq_tbl := List.mem_filter.mpr ⟨List.mem_of_getElem? (i := 44) (by decide +kernel), rfl⟩
theorem wi_384 : Cond.code ym_operand bm_operand 2 (some .boolean) ∈ hq_tbl := List.mem_filter.mpr ⟨List.mem_of_getElem? (i := 910) (by decide +kernel), rfl⟩
theorem wi_385 : Cond.instanceMethod ym_ends ∈ hq_tbl := List.mem_filter.mpr ⟨List.mem_of_getElem? (i := 917) (by decide +kernel), rfl⟩
theorem wi_386 : Cond.selects "HeapQueriesModel" ym_ends ym_ends ∈ hq_tbl := List.mem_filter.mpr ⟨List.mem_of_getElem? (i := 46) (by decide +kernel), rfl⟩
theorem wi_387 : Cond.code ym_ends bm_ends 2 (some .boolean) ∈ hq_tbl := List.mem_filter.mpr ⟨List.mem_of_getElem? (i := 918) (by decide +kernel), rfl⟩
theorem wi_388 : Cond.instanceMethod ym_behind ∈ hq_tbl := List.mem_filter.mpr ⟨List.mem_of_getElem? (i := 913) (by decide +kernel), rfl⟩
theorem wi_389 : Cond.selects "HeapQueriesModel" ym_behind ym_behind ∈ hq_tbl := List.mem_filter.mpr ⟨List.mem_of_getElem? (i := 45) (by decide +kernel), rfl⟩
theorem wi_390 : Cond.code ym_behind bm_behind 3 (some .boolean) ∈ hq_tbl := List.mem_filter.mpr ⟨List.mem_of_getElem? (i := 914) (by decide +kernel), rfl⟩
theorem wi_391 : Cond.instanceMethod ym_step ∈ hq_tbl := List.mem_filter.mpr ⟨List.mem_of_getElem? (i := 897) (by decide +kernel), rfl⟩
theorem wi_392 : Cond.selects "HeapQueriesModel" ym_step ym_step ∈ hq_tbl := List.mem_filter.mpr ⟨List.mem_of_getElem? (i := 41) (by decide +kernel), rfl⟩
theorem wi_393 : Cond.code ym_step bm_step 2 (some .boolean) ∈ hq_tbl := List.mem_filter.mpr ⟨List.mem_of_getElem? (i := 898) (by decide +kernel), rfl⟩
theorem wi_394 : Cond.instanceMethod ym_fits ∈ hq_tbl := List.mem_filter.mpr ⟨List.mem_of_getElem? (i := 889) (by decide +kernel), rfl⟩
theorem wi_395 : Cond.selects "HeapQueriesModel" ym_fits ym_fits ∈ hq_tbl := List.mem_filter.mpr ⟨List.mem_of_getElem? (i := 39) (by decide +kernel), rfl⟩
theorem wi_396 : Cond.code ym_fits bm_fits 3 (some .boolean) ∈ hq_tbl := List.mem_filter.mpr ⟨List.mem_of_getElem? (i := 890) (by decide +kernel), rfl⟩
theorem wi_397 : Cond.instanceMethod ym_token ∈ hq_tbl := List.mem_filter.mpr ⟨List.mem_of_getElem? (i := 884) (by decide +kernel), rfl⟩
theorem wi_398 : Cond.selects "HeapQueriesModel" ym_token ym_token ∈ hq_tbl := List.mem_filter.mpr ⟨List.mem_of_getElem? (i := 885) (by decide +kernel), rfl⟩
theorem wi_399 : Cond.code ym_token bm_token 5 (some .boolean) ∈ hq_tbl := List.mem_filter.mpr ⟨List.mem_of_getElem? (i := 886) (by decide +kernel), rfl⟩
theorem wi_400 : Cond.instanceMethod ym_tokens ∈ hq_tbl := List.mem_filter.mpr ⟨List.mem_of_getElem? (i := 920) (by decide +kernel), rfl⟩
theorem wi_401 : Cond.selects "HeapQueriesModel" ym_tokens ym_tokens ∈ hq_tbl := List.mem_filter.mpr ⟨List.mem_of_getElem? (i := 921) (by decide +kernel), rfl⟩
theorem wi_402 : Cond.code ym_tokens bm_tokens 1 (some .int) ∈ hq_tbl := List.mem_filter.mpr ⟨List.mem_of_getElem? (i := 922) (by decide +kernel), rfl⟩
theorem wi_403 : Cond.instanceMethod ym_depth ∈ hq_tbl := List.mem_filter.mpr ⟨List.mem_of_getElem? (i := 924) (by decide +kernel), rfl⟩
theorem wi_404 : Cond.selects "HeapQueriesModel" ym_depth ym_depth ∈ hq_tbl := List.mem_filter.mpr ⟨List.mem_of_getElem? (i := 925) (by decide +kernel), rfl⟩
theorem wi_405 : Cond.code ym_depth bm_depth 3 (some .int) ∈ hq_tbl := List.mem_filter.mpr ⟨List.mem_of_getElem? (i := 926) (by decide +kernel), rfl⟩
theorem wi_406 : Cond.instanceMethod ym_clear ∈ hq_tbl := List.mem_filter.mpr ⟨List.mem_of_getElem? (i := 928) (by decide +kernel), rfl⟩
theorem wi_407 : Cond.selects "HeapQueriesModel" ym_clear ym_clear ∈ hq_tbl := List.mem_filter.mpr ⟨List.mem_of_getElem? (i := 929) (by decide +kernel), rfl⟩
theorem wi_408 : Cond.code ym_clear bm_clear 1 none ∈ hq_tbl := List.mem_filter.mpr ⟨List.mem_of_getElem? (i := 930) (by decide +kernel), rfl⟩
theorem wi_409 : Cond.instanceMethod ym_under ∈ hq_tbl := List.mem_filter.mpr ⟨List.mem_of_getElem? (i := 949) (by decide +kernel), rfl⟩
theorem wi_410 : Cond.selects "HeapQueriesModel" ym_under ym_under ∈ hq_tbl := List.mem_filter.mpr ⟨List.mem_of_getElem? (i := 50) (by decide +kernel), rfl⟩
theorem wi_411 : Cond.code ym_under bm_under 5 (some .boolean) ∈ hq_tbl := List.mem_filter.mpr ⟨List.mem_of_getElem? (i := 950) (by decide +kernel), rfl⟩
theorem wi_412 : Cond.instanceMethod ym_gather ∈ hq_tbl := List.mem_filter.mpr ⟨List.mem_of_getElem? (i := 945) (by decide +kernel), rfl⟩
theorem wi_413 : Cond.selects "HeapQueriesModel" ym_gather ym_gather ∈ hq_tbl := List.mem_filter.mpr ⟨List.mem_of_getElem? (i := 49) (by decide +kernel), rfl⟩
theorem wi_414 : Cond.code ym_gather bm_gather 4 none ∈ hq_tbl := List.mem_filter.mpr ⟨List.mem_of_getElem? (i := 946) (by decide +kernel), rfl⟩
theorem wi_415 : Cond.static ym_rank ∈ hq_tbl := List.mem_filter.mpr ⟨List.mem_of_getElem? (i := 968) (by decide +kernel), rfl⟩
theorem wi_416 : Cond.code ym_rank bm_rank 1 (some .int) ∈ hq_tbl := List.mem_filter.mpr ⟨List.mem_of_getElem? (i := 969) (by decide +kernel), rfl⟩
theorem wi_417 : Cond.instanceMethod ym_give ∈ hq_tbl := List.mem_filter.mpr ⟨List.mem_of_getElem? (i := 976) (by decide +kernel), rfl⟩
theorem wi_418 : Cond.selects "HeapQueriesModel" ym_give ym_give ∈ hq_tbl := List.mem_filter.mpr ⟨List.mem_of_getElem? (i := 56) (by decide +kernel), rfl⟩
theorem wi_419 : Cond.code ym_give bm_give 4 none ∈ hq_tbl := List.mem_filter.mpr ⟨List.mem_of_getElem? (i := 977) (by decide +kernel), rfl⟩
theorem wi_420 : Cond.instanceMethod ym_truth ∈ hq_tbl := List.mem_filter.mpr ⟨List.mem_of_getElem? (i := 972) (by decide +kernel), rfl⟩
theorem wi_421 : Cond.selects "HeapQueriesModel" ym_truth ym_truth ∈ hq_tbl := List.mem_filter.mpr ⟨List.mem_of_getElem? (i := 55) (by decide +kernel), rfl⟩
theorem wi_422 : Cond.code ym_truth bm_truth 2 none ∈ hq_tbl := List.mem_filter.mpr ⟨List.mem_of_getElem? (i := 973) (by decide +kernel), rfl⟩
theorem wi_423 : Cond.instanceMethod ym_pair ∈ hq_tbl := List.mem_filter.mpr ⟨List.mem_of_getElem? (i := 980) (by decide +kernel), rfl⟩
theorem wi_424 : Cond.selects "HeapQueriesModel" ym_pair ym_pair ∈ hq_tbl := List.mem_filter.mpr ⟨List.mem_of_getElem? (i := 57) (by decide +kernel), rfl⟩
theorem wi_425 : Cond.code ym_pair bm_pair 7 none ∈ hq_tbl := List.mem_filter.mpr ⟨List.mem_of_getElem? (i := 981) (by decide +kernel), rfl⟩
theorem wi_426 : Cond.instanceMethod ym_apply ∈ hq_tbl := List.mem_filter.mpr ⟨List.mem_of_getElem? (i := 965) (by decide +kernel), rfl⟩
theorem wi_427 : Cond.selects "HeapQueriesModel" ym_apply ym_apply ∈ hq_tbl := List.mem_filter.mpr ⟨List.mem_of_getElem? (i := 54) (by decide +kernel), rfl⟩
theorem wi_428 : Cond.code ym_apply bm_apply 3 none ∈ hq_tbl := List.mem_filter.mpr ⟨List.mem_of_getElem? (i := 966) (by decide +kernel), rfl⟩
theorem wi_429 : Cond.instanceMethod ym_along ∈ hq_tbl := List.mem_filter.mpr ⟨List.mem_of_getElem? (i := 984) (by decide +kernel), rfl⟩
theorem wi_430 : Cond.selects "HeapQueriesModel" ym_along ym_along ∈ hq_tbl := List.mem_filter.mpr ⟨List.mem_of_getElem? (i := 58) (by decide +kernel), rfl⟩
theorem wi_431 : Cond.code ym_along bm_along 7 none ∈ hq_tbl := List.mem_filter.mpr ⟨List.mem_of_getElem? (i := 985) (by decide +kernel), rfl⟩
theorem wi_432 : Cond.instanceMethod ym_hold ∈ hq_tbl := List.mem_filter.mpr ⟨List.mem_of_getElem? (i := 988) (by decide +kernel), rfl⟩
theorem wi_433 : Cond.selects "HeapQueriesModel" ym_hold ym_hold ∈ hq_tbl := List.mem_filter.mpr ⟨List.mem_of_getElem? (i := 59) (by decide +kernel), rfl⟩
theorem wi_434 : Cond.code ym_hold bm_hold 2 none ∈ hq_tbl := List.mem_filter.mpr ⟨List.mem_of_getElem? (i := 989) (by decide +kernel), rfl⟩
theorem wi_435 : Cond.static ym_stops ∈ hq_tbl := List.mem_filter.mpr ⟨List.mem_of_getElem? (i := 995) (by decide +kernel), rfl⟩
theorem wi_436 : Cond.code ym_stops bm_stops 2 (some .boolean) ∈ hq_tbl := List.mem_filter.mpr ⟨List.mem_of_getElem? (i := 996) (by decide +kernel), rfl⟩
theorem wi_437 : Cond.instanceMethod ym_branch ∈ hq_tbl := List.mem_filter.mpr ⟨List.mem_of_getElem? (i := 992) (by decide +kernel), rfl⟩
theorem wi_438 : Cond.selects "HeapQueriesModel" ym_branch ym_branch ∈ hq_tbl := List.mem_filter.mpr ⟨List.mem_of_getElem? (i := 60) (by decide +kernel), rfl⟩
theorem wi_439 : Cond.code ym_branch bm_branch 4 none ∈ hq_tbl := List.mem_filter.mpr ⟨List.mem_of_getElem? (i := 993) (by decide +kernel), rfl⟩
theorem wi_440 : Cond.instanceMethod ym_take ∈ hq_tbl := List.mem_filter.mpr ⟨List.mem_of_getElem? (i := 961) (by decide +kernel), rfl⟩
theorem wi_441 : Cond.selects "HeapQueriesModel" ym_take ym_take ∈ hq_tbl := List.mem_filter.mpr ⟨List.mem_of_getElem? (i := 53) (by decide +kernel), rfl⟩
theorem wi_442 : Cond.code ym_take bm_take 3 (some .boolean) ∈ hq_tbl := List.mem_filter.mpr ⟨List.mem_of_getElem? (i := 962) (by decide +kernel), rfl⟩
theorem wi_443 : Cond.instanceMethod ym_work ∈ hq_tbl := List.mem_filter.mpr ⟨List.mem_of_getElem? (i := 957) (by decide +kernel), rfl⟩
theorem wi_444 : Cond.selects "HeapQueriesModel" ym_work ym_work ∈ hq_tbl := List.mem_filter.mpr ⟨List.mem_of_getElem? (i := 52) (by decide +kernel), rfl⟩
theorem wi_445 : Cond.code ym_work bm_work 4 none ∈ hq_tbl := List.mem_filter.mpr ⟨List.mem_of_getElem? (i := 958) (by decide +kernel), rfl⟩
theorem wi_446 : Cond.instanceMethod ym_look ∈ hq_tbl := List.mem_filter.mpr ⟨List.mem_of_getElem? (i := 953) (by decide +kernel), rfl⟩
theorem wi_447 : Cond.selects "HeapQueriesModel" ym_look ym_look ∈ hq_tbl := List.mem_filter.mpr ⟨List.mem_of_getElem? (i := 51) (by decide +kernel), rfl⟩
theorem wi_448 : Cond.code ym_look bm_look 2 none ∈ hq_tbl := List.mem_filter.mpr ⟨List.mem_of_getElem? (i := 954) (by decide +kernel), rfl⟩
theorem wi_449 : Cond.instanceMethod ym_numbers ∈ hq_tbl := List.mem_filter.mpr ⟨List.mem_of_getElem? (i := 999) (by decide +kernel), rfl⟩
theorem wi_450 : Cond.selects "HeapQueriesModel" ym_numbers ym_numbers ∈ hq_tbl := List.mem_filter.mpr ⟨List.mem_of_getElem? (i := 61) (by decide +kernel), rfl⟩
theorem wi_451 : Cond.code ym_numbers bm_numbers 3 none ∈ hq_tbl := List.mem_filter.mpr ⟨List.mem_of_getElem? (i := 1000) (by decide +kernel), rfl⟩
theorem wi_452 : Cond.instanceMethod ym_retain ∈ hq_tbl := List.mem_filter.mpr ⟨List.mem_of_getElem? (i := 1003) (by decide +kernel), rfl⟩
theorem wi_453 : Cond.selects "HeapQueriesModel" ym_retain ym_retain ∈ hq_tbl := List.mem_filter.mpr ⟨List.mem_of_getElem? (i := 62) (by decide +kernel), rfl⟩
theorem wi_454 : Cond.code ym_retain bm_retain 5 none ∈ hq_tbl := List.mem_filter.mpr ⟨List.mem_of_getElem? (i := 1004) (by decide +kernel), rfl⟩
theorem wi_455 : Cond.instanceMethod ym_single ∈ hq_tbl := List.mem_filter.mpr ⟨List.mem_of_getElem? (i := 1007) (by decide +kernel), rfl⟩
theorem wi_456 : Cond.selects "HeapQueriesModel" ym_single ym_single ∈ hq_tbl := List.mem_filter.mpr ⟨List.mem_of_getElem? (i := 63) (by decide +kernel), rfl⟩
theorem wi_457 : Cond.code ym_single bm_single 6 none ∈ hq_tbl := List.mem_filter.mpr ⟨List.mem_of_getElem? (i := 1008) (by decide +kernel), rfl⟩
theorem wi_458 : Cond.instanceMethod ym_select ∈ hq_tbl := List.mem_filter.mpr ⟨List.mem_of_getElem? (i := 941) (by decide +kernel), rfl⟩
theorem wi_459 : Cond.selects "HeapQueriesModel" ym_select ym_select ∈ hq_tbl := List.mem_filter.mpr ⟨List.mem_of_getElem? (i := 48) (by decide +kernel), rfl⟩
theorem wi_460 : Cond.code ym_select bm_select 3 none ∈ hq_tbl := List.mem_filter.mpr ⟨List.mem_of_getElem? (i := 942) (by decide +kernel), rfl⟩
theorem wi_461 : Cond.instanceMethod ym_notice ∈ hq_tbl := List.mem_filter.mpr ⟨List.mem_of_getElem? (i := 937) (by decide +kernel), rfl⟩
theorem wi_462 : Cond.selects "HeapQueriesModel" ym_notice ym_notice ∈ hq_tbl := List.mem_filter.mpr ⟨List.mem_of_getElem? (i := 47) (by decide +kernel), rfl⟩
theorem wi_463 : Cond.code ym_notice bm_notice 4 none ∈ hq_tbl := List.mem_filter.mpr ⟨List.mem_of_getElem? (i := 938) (by decide +kernel), rfl⟩
theorem wi_464 : Cond.instanceMethod ym_run ∈ hq_tbl := List.mem_filter.mpr ⟨List.mem_of_getElem? (i := 932) (by decide +kernel), rfl⟩
theorem wi_465 : Cond.selects "HeapQueriesModel" ym_run ym_run ∈ hq_tbl := List.mem_filter.mpr ⟨List.mem_of_getElem? (i := 933) (by decide +kernel), rfl⟩
theorem wi_466 : Cond.code ym_run bm_run 3 (some .int) ∈ hq_tbl := List.mem_filter.mpr ⟨List.mem_of_getElem? (i := 934) (by decide +kernel), rfl⟩
theorem wi_467 : Cond.instanceMethod ym_rows ∈ hq_tbl := List.mem_filter.mpr ⟨List.mem_of_getElem? (i := 1010) (by decide +kernel), rfl⟩
theorem wi_468 : Cond.selects "HeapQueriesModel" ym_rows ym_rows ∈ hq_tbl := List.mem_filter.mpr ⟨List.mem_of_getElem? (i := 1011) (by decide +kernel), rfl⟩
theorem wi_469 : Cond.code ym_rows bm_rows 1 (some .int) ∈ hq_tbl := List.mem_filter.mpr ⟨List.mem_of_getElem? (i := 1012) (by decide +kernel), rfl⟩
theorem wi_470 : Cond.instanceMethod ym_row ∈ hq_tbl := List.mem_filter.mpr ⟨List.mem_of_getElem? (i := 1019) (by decide +kernel), rfl⟩
theorem wi_471 : Cond.selects "HeapQueriesModel" ym_row ym_row ∈ hq_tbl := List.mem_filter.mpr ⟨List.mem_of_getElem? (i := 64) (by decide +kernel), rfl⟩
theorem wi_472 : Cond.code ym_row bm_row 2 (some .boolean) ∈ hq_tbl := List.mem_filter.mpr ⟨List.mem_of_getElem? (i := 1020) (by decide +kernel), rfl⟩
theorem wi_473 : Cond.instanceMethod ym_kind ∈ hq_tbl := List.mem_filter.mpr ⟨List.mem_of_getElem? (i := 1014) (by decide +kernel), rfl⟩
theorem wi_474 : Cond.selects "HeapQueriesModel" ym_kind ym_kind ∈ hq_tbl := List.mem_filter.mpr ⟨List.mem_of_getElem? (i := 1015) (by decide +kernel), rfl⟩
theorem wi_475 : Cond.code ym_kind bm_kind 2 (some .int) ∈ hq_tbl := List.mem_filter.mpr ⟨List.mem_of_getElem? (i := 1016) (by decide +kernel), rfl⟩
theorem wi_476 : Cond.instanceMethod ym_value ∈ hq_tbl := List.mem_filter.mpr ⟨List.mem_of_getElem? (i := 1022) (by decide +kernel), rfl⟩
theorem wi_477 : Cond.selects "HeapQueriesModel" ym_value ym_value ∈ hq_tbl := List.mem_filter.mpr ⟨List.mem_of_getElem? (i := 1023) (by decide +kernel), rfl⟩
theorem wi_478 : Cond.code ym_value bm_value 2 (some .int) ∈ hq_tbl := List.mem_filter.mpr ⟨List.mem_of_getElem? (i := 1024) (by decide +kernel), rfl⟩
theorem wi_479 : Cond.instanceMethod ym_looked ∈ hq_tbl := List.mem_filter.mpr ⟨List.mem_of_getElem? (i := 1026) (by decide +kernel), rfl⟩
theorem wi_480 : Cond.selects "HeapQueriesModel" ym_looked ym_looked ∈ hq_tbl := List.mem_filter.mpr ⟨List.mem_of_getElem? (i := 1027) (by decide +kernel), rfl⟩
theorem wi_481 : Cond.code ym_looked bm_looked 1 (some .int) ∈ hq_tbl := List.mem_filter.mpr ⟨List.mem_of_getElem? (i := 1028) (by decide +kernel), rfl⟩
theorem wi_482 : Cond.static yxc_valueOfLeaf ∈ hq_tbl := List.mem_filter.mpr ⟨List.mem_of_getElem? (i := 602) (by decide +kernel), rfl⟩
theorem wi_483 : Cond.initialized "HeapQueries$Calculator" ∈ hq_tbl := List.mem_filter.mpr ⟨List.mem_of_getElem? (i := 77) (by decide +kernel), rfl⟩
theorem wi_484 : Cond.code yxc_valueOfLeaf bxc_valueOfLeaf 2 (some .long) ∈ hq_tbl := List.mem_filter.mpr ⟨List.mem_of_getElem? (i := 603) (by decide +kernel), rfl⟩
theorem wi_485 : Cond.static yxv_isError ∈ hq_tbl := List.mem_filter.mpr ⟨List.mem_of_getElem? (i := 608) (by decide +kernel), rfl⟩
theorem wi_486 : Cond.code yxv_isError bxv_isError 2 (some .boolean) ∈ hq_tbl := List.mem_filter.mpr ⟨List.mem_of_getElem? (i := 609) (by decide +kernel), rfl⟩
theorem wi_487 : Cond.static yxv_error ∈ hq_tbl := List.mem_filter.mpr ⟨List.mem_of_getElem? (i := 620) (by decide +kernel), rfl⟩
theorem wi_488 : Cond.code yxv_error bxv_error 1 (some .long) ∈ hq_tbl := List.mem_filter.mpr ⟨List.mem_of_getElem? (i := 621) (by decide +kernel), rfl⟩
theorem wi_489 : Cond.static yxv_flag ∈ hq_tbl := List.mem_filter.mpr ⟨List.mem_of_getElem? (i := 624) (by decide +kernel), rfl⟩
theorem wi_490 : Cond.code yxv_flag bxv_flag 1 (some .long) ∈ hq_tbl := List.mem_filter.mpr ⟨List.mem_of_getElem? (i := 625) (by decide +kernel), rfl⟩
theorem wi_491 : Cond.static yxv_truthOf ∈ hq_tbl := List.mem_filter.mpr ⟨List.mem_of_getElem? (i := 615) (by decide +kernel), rfl⟩
theorem wi_492 : Cond.code yxv_truthOf bxv_truthOf 2 (some .long) ∈ hq_tbl := List.mem_filter.mpr ⟨List.mem_of_getElem? (i := 616) (by decide +kernel), rfl⟩
theorem wi_493 : Cond.static yxv_isEmpty ∈ hq_tbl := List.mem_filter.mpr ⟨List.mem_of_getElem? (i := 590) (by decide +kernel), rfl⟩
theorem wi_494 : Cond.code yxv_isEmpty bxv_isEmpty 2 (some .boolean) ∈ hq_tbl := List.mem_filter.mpr ⟨List.mem_of_getElem? (i := 591) (by decide +kernel), rfl⟩
theorem wi_495 : Cond.instanceMethod yxh_classOf ∈ hq_tbl := List.mem_filter.mpr ⟨List.mem_of_getElem? (i := 569) (by decide +kernel), rfl⟩
theorem wi_496 : Cond.selects "HeapQueries$Heap" yxh_classOf yxh_classOf ∈ hq_tbl := List.mem_filter.mpr ⟨List.mem_of_getElem? (i := 570) (by decide +kernel), rfl⟩
theorem wi_497 : Cond.code yxh_classOf bxh_classOf 2 (some .int) ∈ hq_tbl := List.mem_filter.mpr ⟨List.mem_of_getElem? (i := 571) (by decide +kernel), rfl⟩
theorem wi_498 : Cond.instanceMethod yxs_linkCountOf ∈ hq_tbl := List.mem_filter.mpr ⟨List.mem_of_getElem? (i := 643) (by decide +kernel), rfl⟩
theorem wi_499 : Cond.selects "HeapQueries$Survey" yxs_linkCountOf yxs_linkCountOf ∈ hq_tbl := List.mem_filter.mpr ⟨List.mem_of_getElem? (i := 644) (by decide +kernel), rfl⟩
theorem wi_500 : Cond.code yxs_linkCountOf bxs_linkCountOf 2 (some .int) ∈ hq_tbl := List.mem_filter.mpr ⟨List.mem_of_getElem? (i := 645) (by decide +kernel), rfl⟩
theorem wi_501 : Cond.static yxc_factOf ∈ hq_tbl := List.mem_filter.mpr ⟨List.mem_of_getElem? (i := 636) (by decide +kernel), rfl⟩
theorem wi_502 : Cond.code yxc_factOf bxc_factOf 4 (some .long) ∈ hq_tbl := List.mem_filter.mpr ⟨List.mem_of_getElem? (i := 637) (by decide +kernel), rfl⟩
theorem wi_503 : Cond.static yxc_valueOfUnary ∈ hq_tbl := List.mem_filter.mpr ⟨List.mem_of_getElem? (i := 612) (by decide +kernel), rfl⟩
theorem wi_504 : Cond.code yxc_valueOfUnary bxc_valueOfUnary 6 (some .long) ∈ hq_tbl := List.mem_filter.mpr ⟨List.mem_of_getElem? (i := 613) (by decide +kernel), rfl⟩
theorem wi_505 : Cond.static yxc_settles ∈ hq_tbl := List.mem_filter.mpr ⟨List.mem_of_getElem? (i := 647) (by decide +kernel), rfl⟩
theorem wi_506 : Cond.code yxc_settles bxc_settles 5 (some .boolean) ∈ hq_tbl := List.mem_filter.mpr ⟨List.mem_of_getElem? (i := 648) (by decide +kernel), rfl⟩
theorem wi_507 : Cond.static yxc_valueOfArithmetic ∈ hq_tbl := List.mem_filter.mpr ⟨List.mem_of_getElem? (i := 654) (by decide +kernel), rfl⟩
theorem wi_508 : Cond.code yxc_valueOfArithmetic bxc_valueOfArithmetic 7 (some .long) ∈ hq_tbl := List.mem_filter.mpr ⟨List.mem_of_getElem? (i := 655) (by decide +kernel), rfl⟩
theorem wi_509 : Cond.static yxc_valueOfBinary ∈ hq_tbl := List.mem_filter.mpr ⟨List.mem_of_getElem? (i := 651) (by decide +kernel), rfl⟩
theorem wi_510 : Cond.code yxc_valueOfBinary bxc_valueOfBinary 5 (some .long) ∈ hq_tbl := List.mem_filter.mpr ⟨List.mem_of_getElem? (i := 652) (by decide +kernel), rfl⟩
theorem wi_511 : Cond.instanceMethod yxh_isInstance ∈ hq_tbl := List.mem_filter.mpr ⟨List.mem_of_getElem? (i := 565) (by decide +kernel), rfl⟩
theorem wi_512 : Cond.selects "HeapQueries$Heap" yxh_isInstance yxh_isInstance ∈ hq_tbl := List.mem_filter.mpr ⟨List.mem_of_getElem? (i := 566) (by decide +kernel), rfl⟩
theorem wi_513 : Cond.code yxh_isInstance bxh_isInstance 5 (some .boolean) ∈ hq_tbl := List.mem_filter.mpr ⟨List.mem_of_getElem? (i := 567) (by decide +kernel), rfl⟩
theorem wi_514 : Cond.instanceMethod yxt_codeAt ∈ hq_tbl := List.mem_filter.mpr ⟨List.mem_of_getElem? (i := 469) (by decide +kernel), rfl⟩
theorem wi_515 : Cond.selects "HeapQueries$Text" yxt_codeAt yxt_codeAt ∈ hq_tbl := List.mem_filter.mpr ⟨List.mem_of_getElem? (i := 470) (by decide +kernel), rfl⟩
theorem wi_516 : Cond.code yxt_codeAt bxt_codeAt 2 (some .int) ∈ hq_tbl := List.mem_filter.mpr ⟨List.mem_of_getElem? (i := 471) (by decide +kernel), rfl⟩
theorem wi_517 : Cond.instanceMethod yxt_numberAt ∈ hq_tbl := List.mem_filter.mpr ⟨List.mem_of_getElem? (i := 508) (by decide +kernel), rfl⟩
theorem wi_518 : Cond.selects "HeapQueries$Text" yxt_numberAt yxt_numberAt ∈ hq_tbl := List.mem_filter.mpr ⟨List.mem_of_getElem? (i := 509) (by decide +kernel), rfl⟩
theorem wi_519 : Cond.code yxt_numberAt bxt_numberAt 2 (some .int) ∈ hq_tbl := List.mem_filter.mpr ⟨List.mem_of_getElem? (i := 510) (by decide +kernel), rfl⟩
theorem wi_520 : Cond.instanceMethod yxt_forget ∈ hq_tbl := List.mem_filter.mpr ⟨List.mem_of_getElem? (i := 536) (by decide +kernel), rfl⟩
theorem wi_521 : Cond.selects "HeapQueries$Text" yxt_forget yxt_forget ∈ hq_tbl := List.mem_filter.mpr ⟨List.mem_of_getElem? (i := 537) (by decide +kernel), rfl⟩
theorem wi_522 : Cond.code yxt_forget bxt_forget 1 none ∈ hq_tbl := List.mem_filter.mpr ⟨List.mem_of_getElem? (i := 538) (by decide +kernel), rfl⟩
theorem wi_523 : Cond.instanceMethod yxt_placeInS ∈ hq_tbl := List.mem_filter.mpr ⟨List.mem_of_getElem? (i := 366) (by decide +kernel), rfl⟩
theorem wi_524 : Cond.selects "HeapQueries$Text" yxt_placeInS yxt_placeInS ∈ hq_tbl := List.mem_filter.mpr ⟨List.mem_of_getElem? (i := 8) (by decide +kernel), rfl⟩
theorem wi_525 : Cond.code yxt_placeInS bxt_placeInS 2 (some .int) ∈ hq_tbl := List.mem_filter.mpr ⟨List.mem_of_getElem? (i := 367) (by decide +kernel), rfl⟩
theorem wi_526 : Cond.instanceMethod yxt_placeAfterDistinct ∈ hq_tbl := List.mem_filter.mpr ⟨List.mem_of_getElem? (i := 362) (by decide +kernel), rfl⟩
theorem wi_527 : Cond.selects "HeapQueries$Text" yxt_placeAfterDistinct yxt_placeAfterDistinct ∈ hq_tbl := List.mem_filter.mpr ⟨List.mem_of_getElem? (i := 7) (by decide +kernel), rfl⟩
theorem wi_528 : Cond.code yxt_placeAfterDistinct bxt_placeAfterDistinct 2 (some .int) ∈ hq_tbl := List.mem_filter.mpr ⟨List.mem_of_getElem? (i := 363) (by decide +kernel), rfl⟩
theorem wi_529 : Cond.instanceMethod yxt_isInsideE ∈ hq_tbl := List.mem_filter.mpr ⟨List.mem_of_getElem? (i := 378) (by decide +kernel), rfl⟩
theorem wi_530 : Cond.selects "HeapQueries$Text" yxt_isInsideE yxt_isInsideE ∈ hq_tbl := List.mem_filter.mpr ⟨List.mem_of_getElem? (i := 11) (by decide +kernel), rfl⟩
theorem wi_531 : Cond.code yxt_isInsideE bxt_isInsideE 1 (some .boolean) ∈ hq_tbl := List.mem_filter.mpr ⟨List.mem_of_getElem? (i := 379) (by decide +kernel), rfl⟩
theorem wi_532 : Cond.instanceMethod yxt_placeAfterWholeSelect ∈ hq_tbl := List.mem_filter.mpr ⟨List.mem_of_getElem? (i := 382) (by decide +kernel), rfl⟩
theorem wi_533 : Cond.selects "HeapQueries$Text" yxt_placeAfterWholeSelect yxt_placeAfterWholeSelect ∈ hq_tbl := List.mem_filter.mpr ⟨List.mem_of_getElem? (i := 12) (by decide +kernel), rfl⟩
theorem wi_534 : Cond.code yxt_placeAfterWholeSelect bxt_placeAfterWholeSelect 2 (some .int) ∈ hq_tbl := List.mem_filter.mpr ⟨List.mem_of_getElem? (i := 383) (by decide +kernel), rfl⟩
theorem wi_535 : Cond.instanceMethod yxt_placeAfterE ∈ hq_tbl := List.mem_filter.mpr ⟨List.mem_of_getElem? (i := 374) (by decide +kernel), rfl⟩
theorem wi_536 : Cond.selects "HeapQueries$Text" yxt_placeAfterE yxt_placeAfterE ∈ hq_tbl := List.mem_filter.mpr ⟨List.mem_of_getElem? (i := 10) (by decide +kernel), rfl⟩
theorem wi_537 : Cond.code yxt_placeAfterE bxt_placeAfterE 2 (some .int) ∈ hq_tbl := List.mem_filter.mpr ⟨List.mem_of_getElem? (i := 375) (by decide +kernel), rfl⟩
theorem wi_538 : Cond.instanceMethod yxt_placeAfterU ∈ hq_tbl := List.mem_filter.mpr ⟨List.mem_of_getElem? (i := 370) (by decide +kernel), rfl⟩
theorem wi_539 : Cond.selects "HeapQueries$Text" yxt_placeAfterU yxt_placeAfterU ∈ hq_tbl := List.mem_filter.mpr ⟨List.mem_of_getElem? (i := 9) (by decide +kernel), rfl⟩
theorem wi_540 : Cond.code yxt_placeAfterU bxt_placeAfterU 2 (some .int) ∈ hq_tbl := List.mem_filter.mpr ⟨List.mem_of_getElem? (i := 371) (by decide +kernel), rfl⟩
theorem wi_541 : Cond.instanceMethod yxt_placeInSource ∈ hq_tbl := List.mem_filter.mpr ⟨List.mem_of_getElem? (i := 386) (by decide +kernel), rfl⟩
theorem wi_542 : Cond.selects "HeapQueries$Text" yxt_placeInSource yxt_placeInSource ∈ hq_tbl := List.mem_filter.mpr ⟨List.mem_of_getElem? (i := 13) (by decide +kernel), rfl⟩
theorem wi_543 : Cond.code yxt_placeInSource bxt_placeInSource 2 (some .int) ∈ hq_tbl := List.mem_filter.mpr ⟨List.mem_of_getElem? (i := 387) (by decide +kernel), rfl⟩
theorem wi_544 : Cond.instanceMethod yxt_placeAfter ∈ hq_tbl := List.mem_filter.mpr ⟨List.mem_of_getElem? (i := 358) (by decide +kernel), rfl⟩
theorem wi_545 : Cond.selects "HeapQueries$Text" yxt_placeAfter yxt_placeAfter ∈ hq_tbl := List.mem_filter.mpr ⟨List.mem_of_getElem? (i := 6) (by decide +kernel), rfl⟩
theorem wi_546 : Cond.code yxt_placeAfter bxt_placeAfter 2 (some .int) ∈ hq_tbl := List.mem_filter.mpr ⟨List.mem_of_getElem? (i := 359) (by decide +kernel), rfl⟩
theorem wi_547 : Cond.instanceMethod yxt_openBracket ∈ hq_tbl := List.mem_filter.mpr ⟨List.mem_of_getElem? (i := 394) (by decide +kernel), rfl⟩
theorem wi_548 : Cond.selects "HeapQueries$Text" yxt_openBracket yxt_openBracket ∈ hq_tbl := List.mem_filter.mpr ⟨List.mem_of_getElem? (i := 15) (by decide +kernel), rfl⟩
theorem wi_549 : Cond.code yxt_openBracket bxt_openBracket 2 none ∈ hq_tbl := List.mem_filter.mpr ⟨List.mem_of_getElem? (i := 395) (by decide +kernel), rfl⟩
theorem wi_550 : Cond.instanceMethod yxt_closeBracket ∈ hq_tbl := List.mem_filter.mpr ⟨List.mem_of_getElem? (i := 398) (by decide +kernel), rfl⟩
theorem wi_551 : Cond.selects "HeapQueries$Text" yxt_closeBracket yxt_closeBracket ∈ hq_tbl := List.mem_filter.mpr ⟨List.mem_of_getElem? (i := 16) (by decide +kernel), rfl⟩
theorem wi_552 : Cond.code yxt_closeBracket bxt_closeBracket 1 none ∈ hq_tbl := List.mem_filter.mpr ⟨List.mem_of_getElem? (i := 399) (by decide +kernel), rfl⟩
theorem wi_553 : Cond.instanceMethod yxt_remember ∈ hq_tbl := List.mem_filter.mpr ⟨List.mem_of_getElem? (i := 390) (by decide +kernel), rfl⟩
theorem wi_554 : Cond.selects "HeapQueries$Text" yxt_remember yxt_remember ∈ hq_tbl := List.mem_filter.mpr ⟨List.mem_of_getElem? (i := 14) (by decide +kernel), rfl⟩
theorem wi_555 : Cond.code yxt_remember bxt_remember 2 none ∈ hq_tbl := List.mem_filter.mpr ⟨List.mem_of_getElem? (i := 391) (by decide +kernel), rfl⟩
theorem wi_556 : Cond.instanceMethod yxt_take ∈ hq_tbl := List.mem_filter.mpr ⟨List.mem_of_getElem? (i := 353) (by decide +kernel), rfl⟩
theorem wi_557 : Cond.selects "HeapQueries$Text" yxt_take yxt_take ∈ hq_tbl := List.mem_filter.mpr ⟨List.mem_of_getElem? (i := 354) (by decide +kernel), rfl⟩
theorem wi_558 : Cond.code yxt_take bxt_take 4 (some .boolean) ∈ hq_tbl := List.mem_filter.mpr ⟨List.mem_of_getElem? (i := 355) (by decide +kernel), rfl⟩
theorem wi_559 : Cond.static yxv_isNumber ∈ hq_tbl := List.mem_filter.mpr ⟨List.mem_of_getElem? (i := 583) (by decide +kernel), rfl⟩
theorem wi_560 : Cond.code yxv_isNumber bxv_isNumber 2 (some .boolean) ∈ hq_tbl := List.mem_filter.mpr ⟨List.mem_of_getElem? (i := 584) (by decide +kernel), rfl⟩
theorem wi_561 : Cond.instanceMethod yxw_begin ∈ hq_tbl := List.mem_filter.mpr ⟨List.mem_of_getElem? (i := 544) (by decide +kernel), rfl⟩
theorem wi_562 : Cond.selects "HeapQueries$Worker" yxw_begin yxw_begin ∈ hq_tbl := List.mem_filter.mpr ⟨List.mem_of_getElem? (i := 545) (by decide +kernel), rfl⟩
theorem wi_563 : Cond.code yxw_begin bxw_begin 1 none ∈ hq_tbl := List.mem_filter.mpr ⟨List.mem_of_getElem? (i := 546) (by decide +kernel), rfl⟩
theorem wi_564 : Cond.instanceMethod yxw_dropRows ∈ hq_tbl := List.mem_filter.mpr ⟨List.mem_of_getElem? (i := 674) (by decide +kernel), rfl⟩
theorem wi_565 : Cond.selects "HeapQueries$Worker" yxw_dropRows yxw_dropRows ∈ hq_tbl := List.mem_filter.mpr ⟨List.mem_of_getElem? (i := 675) (by decide +kernel), rfl⟩
theorem wi_566 : Cond.code yxw_dropRows bxw_dropRows 1 none ∈ hq_tbl := List.mem_filter.mpr ⟨List.mem_of_getElem? (i := 676) (by decide +kernel), rfl⟩
theorem wi_567 : Cond.instanceMethod yxw_add ∈ hq_tbl := List.mem_filter.mpr ⟨List.mem_of_getElem? (i := 575) (by decide +kernel), rfl⟩
theorem wi_568 : Cond.selects "HeapQueries$Worker" yxw_add yxw_add ∈ hq_tbl := List.mem_filter.mpr ⟨List.mem_of_getElem? (i := 26) (by decide +kernel), rfl⟩
theorem wi_569 : Cond.code yxw_add bxw_add 3 none ∈ hq_tbl := List.mem_filter.mpr ⟨List.mem_of_getElem? (i := 576) (by decide +kernel), rfl⟩
theorem wi_570 : Cond.instanceMethod yxw_addObjectsOfClass ∈ hq_tbl := List.mem_filter.mpr ⟨List.mem_of_getElem? (i := 561) (by decide +kernel), rfl⟩
theorem wi_571 : Cond.selects "HeapQueries$Worker" yxw_addObjectsOfClass yxw_addObjectsOfClass ∈ hq_tbl := List.mem_filter.mpr ⟨List.mem_of_getElem? (i := 25) (by decide +kernel), rfl⟩
theorem wi_572 : Cond.code yxw_addObjectsOfClass bxw_addObjectsOfClass 5 none ∈ hq_tbl := List.mem_filter.mpr ⟨List.mem_of_getElem? (i := 562) (by decide +kernel), rfl⟩
theorem wi_573 : Cond.instanceMethod yxw_hasNumber ∈ hq_tbl := List.mem_filter.mpr ⟨List.mem_of_getElem? (i := 580) (by decide +kernel), rfl⟩
theorem wi_574 : Cond.selects "HeapQueries$Worker" yxw_hasNumber yxw_hasNumber ∈ hq_tbl := List.mem_filter.mpr ⟨List.mem_of_getElem? (i := 27) (by decide +kernel), rfl⟩
theorem wi_575 : Cond.code yxw_hasNumber bxw_hasNumber 3 (some .boolean) ∈ hq_tbl := List.mem_filter.mpr ⟨List.mem_of_getElem? (i := 581) (by decide +kernel), rfl⟩
theorem wi_576 : Cond.instanceMethod yxw_turnIntoRetained ∈ hq_tbl := List.mem_filter.mpr ⟨List.mem_of_getElem? (i := 661) (by decide +kernel), rfl⟩
theorem wi_577 : Cond.selects "HeapQueries$Worker" yxw_turnIntoRetained yxw_turnIntoRetained ∈ hq_tbl := List.mem_filter.mpr ⟨List.mem_of_getElem? (i := 30) (by decide +kernel), rfl⟩
theorem wi_578 : Cond.code yxw_turnIntoRetained bxw_turnIntoRetained 6 (some .int) ∈ hq_tbl := List.mem_filter.mpr ⟨List.mem_of_getElem? (i := 662) (by decide +kernel), rfl⟩
theorem wi_579 : Cond.instanceMethod yxw_hasRowSince ∈ hq_tbl := List.mem_filter.mpr ⟨List.mem_of_getElem? (i := 671) (by decide +kernel), rfl⟩
theorem wi_580 : Cond.selects "HeapQueries$Worker" yxw_hasRowSince yxw_hasRowSince ∈ hq_tbl := List.mem_filter.mpr ⟨List.mem_of_getElem? (i := 32) (by decide +kernel), rfl⟩
theorem wi_581 : Cond.code yxw_hasRowSince bxw_hasRowSince 5 (some .boolean) ∈ hq_tbl := List.mem_filter.mpr ⟨List.mem_of_getElem? (i := 672) (by decide +kernel), rfl⟩
theorem wi_582 : Cond.instanceMethod yxw_leaveOutRepeated ∈ hq_tbl := List.mem_filter.mpr ⟨List.mem_of_getElem? (i := 667) (by decide +kernel), rfl⟩
theorem wi_583 : Cond.selects "HeapQueries$Worker" yxw_leaveOutRepeated yxw_leaveOutRepeated ∈ hq_tbl := List.mem_filter.mpr ⟨List.mem_of_getElem? (i := 31) (by decide +kernel), rfl⟩
theorem wi_584 : Cond.code yxw_leaveOutRepeated bxw_leaveOutRepeated 4 none ∈ hq_tbl := List.mem_filter.mpr ⟨List.mem_of_getElem? (i := 668) (by decide +kernel), rfl⟩
theorem wi_585 : Cond.instanceMethod yxw_leaveOutEmpty ∈ hq_tbl := List.mem_filter.mpr ⟨List.mem_of_getElem? (i := 587) (by decide +kernel), rfl⟩
theorem wi_586 : Cond.selects "HeapQueries$Worker" yxw_leaveOutEmpty yxw_leaveOutEmpty ∈ hq_tbl := List.mem_filter.mpr ⟨List.mem_of_getElem? (i := 28) (by decide +kernel), rfl⟩
theorem wi_587 : Cond.code yxw_leaveOutEmpty bxw_leaveOutEmpty 4 none ∈ hq_tbl := List.mem_filter.mpr ⟨List.mem_of_getElem? (i := 588) (by decide +kernel), rfl⟩
