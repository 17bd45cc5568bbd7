theorem wi_699 : Cond.methodLink "HeapQueries$Survey" 3 yjo_init ∈ hq_tbl := List.mem_filter.mpr ⟨List.mem_of_getElem? (i := 97) (by decide +kernel), rfl⟩
theorem wi_700 : Cond.arrayClass .int ∈ hq_tbl := List.mem_filter.mpr ⟨List.mem_of_getElem? (i := 126) (by decide +kernel), rfl⟩
theorem wi_701 : Cond.methodLink "HeapQueries$Text" 3 yjo_init ∈ hq_tbl := List.mem_filter.mpr ⟨List.mem_of_getElem? (i := 164) (by decide +kernel), rfl⟩
theorem wi_702 : Cond.methodLink "HeapQueries$Worker" 3 yjo_init ∈ hq_tbl := List.mem_filter.mpr ⟨List.mem_of_getElem? (i := 195) (by decide +kernel), rfl⟩
theorem wi_703 : Cond.arrayClass .long ∈ hq_tbl := List.mem_filter.mpr ⟨List.mem_of_getElem? (i := 127) (by decide +kernel), rfl⟩
theorem wi_704 : Cond.methodLink "HeapQueries$Heap" 3 yjo_init ∈ hq_tbl := List.mem_filter.mpr ⟨List.mem_of_getElem? (i := 91) (by decide +kernel), rfl⟩
theorem wi_705 : Cond.classLink "HeapQueries$Heap" 25 "HeapQueries$Survey" ∈ hq_tbl := List.mem_filter.mpr ⟨List.mem_of_getElem? (i := 92) (by decide +kernel), rfl⟩
theorem wi_706 : Cond.instantiable "HeapQueries$Survey" 9 ∈ hq_tbl := List.mem_filter.mpr ⟨List.mem_of_getElem? (i := 93) (by decide +kernel), rfl⟩
theorem wi_707 : Cond.instanceMethod yxs_init ∈ hq_tbl := List.mem_filter.mpr ⟨List.mem_of_getElem? (i := 95) (by decide +kernel), rfl⟩
theorem wi_708 : Cond.code yxs_init bxs_init 1 none ∈ hq_tbl := List.mem_filter.mpr ⟨List.mem_of_getElem? (i := 96) (by decide +kernel), rfl⟩
theorem wi_709 : Cond.methodLink "HeapQueries" 3 yjo_init ∈ hq_tbl := List.mem_filter.mpr ⟨List.mem_of_getElem? (i := 83) (by decide +kernel), rfl⟩
theorem wi_710 : Cond.classLink "HeapQueries" 9 "HeapQueries$Heap" ∈ hq_tbl := List.mem_filter.mpr ⟨List.mem_of_getElem? (i := 86) (by decide +kernel), rfl⟩
theorem wi_711 : Cond.instantiable "HeapQueries$Heap" 9 ∈ hq_tbl := List.mem_filter.mpr ⟨List.mem_of_getElem? (i := 87) (by decide +kernel), rfl⟩
theorem wi_712 : Cond.instanceMethod yxh_init ∈ hq_tbl := List.mem_filter.mpr ⟨List.mem_of_getElem? (i := 89) (by decide +kernel), rfl⟩
theorem wi_713 : Cond.code yxh_init bxh_init 1 none ∈ hq_tbl := List.mem_filter.mpr ⟨List.mem_of_getElem? (i := 90) (by decide +kernel), rfl⟩
theorem wi_714 : Cond.classLink "HeapQueries" 16 "HeapQueries$Text" ∈ hq_tbl := List.mem_filter.mpr ⟨List.mem_of_getElem? (i := 159) (by decide +kernel), rfl⟩
theorem wi_715 : Cond.instantiable "HeapQueries$Text" 8 ∈ hq_tbl := List.mem_filter.mpr ⟨List.mem_of_getElem? (i := 160) (by decide +kernel), rfl⟩
theorem wi_716 : Cond.instanceMethod yxt_init ∈ hq_tbl := List.mem_filter.mpr ⟨List.mem_of_getElem? (i := 162) (by decide +kernel), rfl⟩
theorem wi_717 : Cond.code yxt_init bxt_init 1 none ∈ hq_tbl := List.mem_filter.mpr ⟨List.mem_of_getElem? (i := 163) (by decide +kernel), rfl⟩
theorem wi_718 : Cond.classLink "HeapQueries" 23 "HeapQueries$Worker" ∈ hq_tbl := List.mem_filter.mpr ⟨List.mem_of_getElem? (i := 190) (by decide +kernel), rfl⟩
theorem wi_719 : Cond.instantiable "HeapQueries$Worker" 3 ∈ hq_tbl := List.mem_filter.mpr ⟨List.mem_of_getElem? (i := 191) (by decide +kernel), rfl⟩
theorem wi_720 : Cond.instanceMethod yxw_init ∈ hq_tbl := List.mem_filter.mpr ⟨List.mem_of_getElem? (i := 193) (by decide +kernel), rfl⟩
theorem wi_721 : Cond.code yxw_init bxw_init 1 none ∈ hq_tbl := List.mem_filter.mpr ⟨List.mem_of_getElem? (i := 194) (by decide +kernel), rfl⟩
theorem wi_722 : Cond.methodLink "HeapQueriesModel" 1 yjo_init ∈ hq_tbl := List.mem_filter.mpr ⟨List.mem_of_getElem? (i := 718) (by decide +kernel), rfl⟩
theorem wi_723 : Cond.arrayClass .boolean ∈ hq_tbl := List.mem_filter.mpr ⟨List.mem_of_getElem? (i := 834) (by decide +kernel), rfl⟩
theorem wi_724 : Cond.methodLink "HeapQueries$Reader" 3 yjo_init ∈ hq_tbl := List.mem_filter.mpr ⟨List.mem_of_getElem? (i := 405) (by decide +kernel), rfl⟩
theorem wi_725 : Cond.methodLink "HeapQueries" 74 yxq_isNumberAllowed ∈ hq_tbl := List.mem_filter.mpr ⟨List.mem_of_getElem? (i := 347) (by decide +kernel), rfl⟩
theorem wi_726 : Cond.methodLink "HeapQueries" 78 yxt_take ∈ hq_tbl := List.mem_filter.mpr ⟨List.mem_of_getElem? (i := 352) (by decide +kernel), rfl⟩
theorem wi_727 : Cond.classLink "HeapQueries" 81 "HeapQueries$Reader" ∈ hq_tbl := List.mem_filter.mpr ⟨List.mem_of_getElem? (i := 400) (by decide +kernel), rfl⟩
theorem wi_728 : Cond.instantiable "HeapQueries$Reader" 2 ∈ hq_tbl := List.mem_filter.mpr ⟨List.mem_of_getElem? (i := 401) (by decide +kernel), rfl⟩
theorem wi_729 : Cond.methodLink "HeapQueries" 83 yxr_init ∈ hq_tbl := List.mem_filter.mpr ⟨List.mem_of_getElem? (i := 402) (by decide +kernel), rfl⟩
theorem wi_730 : Cond.instanceMethod yxr_init ∈ hq_tbl := List.mem_filter.mpr ⟨List.mem_of_getElem? (i := 403) (by decide +kernel), rfl⟩
theorem wi_731 : Cond.code yxr_init bxr_init 2 none ∈ hq_tbl := List.mem_filter.mpr ⟨List.mem_of_getElem? (i := 404) (by decide +kernel), rfl⟩
theorem wi_732 : Cond.methodLink "HeapQueries" 86 yxr_readQuery ∈ hq_tbl := List.mem_filter.mpr ⟨List.mem_of_getElem? (i := 413) (by decide +kernel), rfl⟩
theorem wi_733 : Cond.methodLink "HeapQueriesLaw" 13 yxq_addClass ∈ hq_tbl := List.mem_filter.mpr ⟨List.mem_of_getElem? (i := 219) (by decide +kernel), rfl⟩
theorem wi_734 : Cond.methodLink "HeapQueriesLaw" 17 ym_addClass ∈ hq_tbl := List.mem_filter.mpr ⟨List.mem_of_getElem? (i := 835) (by decide +kernel), rfl⟩
theorem wi_735 : Cond.methodLink "HeapQueriesLaw" 18 yxq_addObject ∈ hq_tbl := List.mem_filter.mpr ⟨List.mem_of_getElem? (i := 231) (by decide +kernel), rfl⟩
theorem wi_736 : Cond.methodLink "HeapQueriesLaw" 22 ym_addObject ∈ hq_tbl := List.mem_filter.mpr ⟨List.mem_of_getElem? (i := 839) (by decide +kernel), rfl⟩
theorem wi_737 : Cond.methodLink "HeapQueriesLaw" 23 yxq_set ∈ hq_tbl := List.mem_filter.mpr ⟨List.mem_of_getElem? (i := 239) (by decide +kernel), rfl⟩
theorem wi_738 : Cond.methodLink "HeapQueriesLaw" 27 ym_set ∈ hq_tbl := List.mem_filter.mpr ⟨List.mem_of_getElem? (i := 843) (by decide +kernel), rfl⟩
theorem wi_739 : Cond.methodLink "HeapQueriesLaw" 28 yxq_setRoot ∈ hq_tbl := List.mem_filter.mpr ⟨List.mem_of_getElem? (i := 260) (by decide +kernel), rfl⟩
theorem wi_740 : Cond.methodLink "HeapQueriesLaw" 32 ym_setRoot ∈ hq_tbl := List.mem_filter.mpr ⟨List.mem_of_getElem? (i := 851) (by decide +kernel), rfl⟩
theorem wi_741 : Cond.methodLink "HeapQueriesLaw" 33 yxq_dominator ∈ hq_tbl := List.mem_filter.mpr ⟨List.mem_of_getElem? (i := 268) (by decide +kernel), rfl⟩
theorem wi_742 : Cond.methodLink "HeapQueriesLaw" 36 ym_dominator ∈ hq_tbl := List.mem_filter.mpr ⟨List.mem_of_getElem? (i := 855) (by decide +kernel), rfl⟩
theorem wi_743 : Cond.methodLink "HeapQueriesLaw" 37 yxq_retained ∈ hq_tbl := List.mem_filter.mpr ⟨List.mem_of_getElem? (i := 335) (by decide +kernel), rfl⟩
theorem wi_744 : Cond.methodLink "HeapQueriesLaw" 40 ym_retained ∈ hq_tbl := List.mem_filter.mpr ⟨List.mem_of_getElem? (i := 875) (by decide +kernel), rfl⟩
theorem wi_745 : Cond.methodLink "HeapQueriesLaw" 46 yxq_tokens ∈ hq_tbl := List.mem_filter.mpr ⟨List.mem_of_getElem? (i := 515) (by decide +kernel), rfl⟩
theorem wi_746 : Cond.methodLink "HeapQueriesLaw" 50 ym_tokens ∈ hq_tbl := List.mem_filter.mpr ⟨List.mem_of_getElem? (i := 919) (by decide +kernel), rfl⟩
theorem wi_747 : Cond.methodLink "HeapQueriesLaw" 51 yxq_depth ∈ hq_tbl := List.mem_filter.mpr ⟨List.mem_of_getElem? (i := 523) (by decide +kernel), rfl⟩
theorem wi_748 : Cond.methodLink "HeapQueriesLaw" 54 ym_depth ∈ hq_tbl := List.mem_filter.mpr ⟨List.mem_of_getElem? (i := 923) (by decide +kernel), rfl⟩
theorem wi_749 : Cond.methodLink "HeapQueriesLaw" 63 yxq_rows ∈ hq_tbl := List.mem_filter.mpr ⟨List.mem_of_getElem? (i := 681) (by decide +kernel), rfl⟩
theorem wi_750 : Cond.methodLink "HeapQueriesLaw" 66 ym_rows ∈ hq_tbl := List.mem_filter.mpr ⟨List.mem_of_getElem? (i := 1009) (by decide +kernel), rfl⟩
theorem wi_751 : Cond.methodLink "HeapQueriesLaw" 67 yxq_kind ∈ hq_tbl := List.mem_filter.mpr ⟨List.mem_of_getElem? (i := 685) (by decide +kernel), rfl⟩
theorem wi_752 : Cond.methodLink "HeapQueriesLaw" 70 ym_kind ∈ hq_tbl := List.mem_filter.mpr ⟨List.mem_of_getElem? (i := 1013) (by decide +kernel), rfl⟩
theorem wi_753 : Cond.methodLink "HeapQueriesLaw" 71 yxq_value ∈ hq_tbl := List.mem_filter.mpr ⟨List.mem_of_getElem? (i := 700) (by decide +kernel), rfl⟩
theorem wi_754 : Cond.methodLink "HeapQueriesLaw" 74 ym_value ∈ hq_tbl := List.mem_filter.mpr ⟨List.mem_of_getElem? (i := 1021) (by decide +kernel), rfl⟩
theorem wi_755 : Cond.methodLink "HeapQueriesLaw" 75 yxq_looked ∈ hq_tbl := List.mem_filter.mpr ⟨List.mem_of_getElem? (i := 705) (by decide +kernel), rfl⟩
theorem wi_756 : Cond.methodLink "HeapQueriesLaw" 78 ym_looked ∈ hq_tbl := List.mem_filter.mpr ⟨List.mem_of_getElem? (i := 1025) (by decide +kernel), rfl⟩
theorem wi_757 : Cond.methodLink "HeapQueriesLaw" 55 yxq_clear ∈ hq_tbl := List.mem_filter.mpr ⟨List.mem_of_getElem? (i := 531) (by decide +kernel), rfl⟩
theorem wi_758 : Cond.instanceMethod yxq_clear ∈ hq_tbl := List.mem_filter.mpr ⟨List.mem_of_getElem? (i := 532) (by decide +kernel), rfl⟩
theorem wi_759 : Cond.selects "HeapQueries" yxq_clear yxq_clear ∈ hq_tbl := List.mem_filter.mpr ⟨List.mem_of_getElem? (i := 533) (by decide +kernel), rfl⟩
theorem wi_760 : Cond.code yxq_clear bxq_clear 1 none ∈ hq_tbl := List.mem_filter.mpr ⟨List.mem_of_getElem? (i := 534) (by decide +kernel), rfl⟩
theorem wi_761 : Cond.methodLink "HeapQueriesLaw" 58 ym_clear ∈ hq_tbl := List.mem_filter.mpr ⟨List.mem_of_getElem? (i := 927) (by decide +kernel), rfl⟩
theorem wi_762 : Cond.methodLink "HeapQueriesLaw" 41 yxq_token ∈ hq_tbl := List.mem_filter.mpr ⟨List.mem_of_getElem? (i := 343) (by decide +kernel), rfl⟩
theorem wi_763 : Cond.instanceMethod yxq_token ∈ hq_tbl := List.mem_filter.mpr ⟨List.mem_of_getElem? (i := 344) (by decide +kernel), rfl⟩
theorem wi_764 : Cond.selects "HeapQueries" yxq_token yxq_token ∈ hq_tbl := List.mem_filter.mpr ⟨List.mem_of_getElem? (i := 345) (by decide +kernel), rfl⟩
theorem wi_765 : Cond.code yxq_token bxq_token 3 (some .boolean) ∈ hq_tbl := List.mem_filter.mpr ⟨List.mem_of_getElem? (i := 346) (by decide +kernel), rfl⟩
theorem wi_766 : Cond.methodLink "HeapQueriesLaw" 45 ym_token ∈ hq_tbl := List.mem_filter.mpr ⟨List.mem_of_getElem? (i := 883) (by decide +kernel), rfl⟩
theorem wi_767 : Cond.methodLink "HeapQueriesLaw" 59 yxq_run ∈ hq_tbl := List.mem_filter.mpr ⟨List.mem_of_getElem? (i := 539) (by decide +kernel), rfl⟩
theorem wi_768 : Cond.methodLink "HeapQueriesLaw" 62 ym_run ∈ hq_tbl := List.mem_filter.mpr ⟨List.mem_of_getElem? (i := 931) (by decide +kernel), rfl⟩
theorem wi_769 : Cond.instantiable "HeapQueriesModel" 38 ∈ hq_tbl := List.mem_filter.mpr ⟨List.mem_of_getElem? (i := 714) (by decide +kernel), rfl⟩
theorem wi_770 : Cond.instantiable "HeapQueries" 4 ∈ hq_tbl := List.mem_filter.mpr ⟨List.mem_of_getElem? (i := 79) (by decide +kernel), rfl⟩
theorem wi_771 : Cond.classLink "HeapQueriesLaw" 7 "HeapQueries" ∈ hq_tbl := List.mem_filter.mpr ⟨List.mem_of_getElem? (i := 78) (by decide +kernel), rfl⟩
theorem wi_772 : Cond.methodLink "HeapQueriesLaw" 9 yxq_init ∈ hq_tbl := List.mem_filter.mpr ⟨List.mem_of_getElem? (i := 80) (by decide +kernel), rfl⟩
theorem wi_773 : Cond.instanceMethod yxq_init ∈ hq_tbl := List.mem_filter.mpr ⟨List.mem_of_getElem? (i := 81) (by decide +kernel), rfl⟩
theorem wi_774 : Cond.code yxq_init bxq_init 1 none ∈ hq_tbl := List.mem_filter.mpr ⟨List.mem_of_getElem? (i := 82) (by decide +kernel), rfl⟩
theorem wi_775 : Cond.classLink "HeapQueriesLaw" 10 "HeapQueriesModel" ∈ hq_tbl := List.mem_filter.mpr ⟨List.mem_of_getElem? (i := 713) (by decide +kernel), rfl⟩
theorem wi_776 : Cond.methodLink "HeapQueriesLaw" 12 ym_init ∈ hq_tbl := List.mem_filter.mpr ⟨List.mem_of_getElem? (i := 715) (by decide +kernel), rfl⟩
theorem wi_777 : Cond.instanceMethod ym_init ∈ hq_tbl := List.mem_filter.mpr ⟨List.mem_of_getElem? (i := 716) (by decide +kernel), rfl⟩
theorem wi_778 : Cond.code ym_init bm_init 1 none ∈ hq_tbl := List.mem_filter.mpr ⟨List.mem_of_getElem? (i := 717) (by decide +kernel), rfl⟩
