theorem wi_588 : Cond.fieldLink "HeapQueries$Calculator" 11 "HeapQueries$Node" "left" "LHeapQueries$Node;" ∈ hq_tbl := List.mem_filter.mpr ⟨List.mem_of_getElem? (i := 487) (by decide +kernel), rfl⟩
theorem wi_589 : Cond.methodLink "HeapQueries$Calculator" 17 yxc_valueOfLeaf ∈ hq_tbl := List.mem_filter.mpr ⟨List.mem_of_getElem? (i := 601) (by decide +kernel), rfl⟩
theorem wi_590 : Cond.methodLink "HeapQueries$Calculator" 23 yxc_valueOf ∈ hq_tbl := List.mem_filter.mpr ⟨List.mem_of_getElem? (i := 606) (by decide +kernel), rfl⟩
theorem wi_591 : Cond.fieldLink "HeapQueries$Calculator" 31 "HeapQueries$Node" "right" "LHeapQueries$Node;" ∈ hq_tbl := List.mem_filter.mpr ⟨List.mem_of_getElem? (i := 489) (by decide +kernel), rfl⟩
theorem wi_592 : Cond.methodLink "HeapQueries$Calculator" 34 yxc_valueOfUnary ∈ hq_tbl := List.mem_filter.mpr ⟨List.mem_of_getElem? (i := 611) (by decide +kernel), rfl⟩
theorem wi_593 : Cond.methodLink "HeapQueries$Calculator" 42 yxc_settles ∈ hq_tbl := List.mem_filter.mpr ⟨List.mem_of_getElem? (i := 646) (by decide +kernel), rfl⟩
theorem wi_594 : Cond.methodLink "HeapQueries$Calculator" 50 yxc_valueOfBinary ∈ hq_tbl := List.mem_filter.mpr ⟨List.mem_of_getElem? (i := 650) (by decide +kernel), rfl⟩
theorem wi_595 : Cond.static yxc_valueOf ∈ hq_tbl := List.mem_filter.mpr ⟨List.mem_of_getElem? (i := 599) (by decide +kernel), rfl⟩
theorem wi_596 : Cond.code yxc_valueOf bxc_valueOf 8 (some .long) ∈ hq_tbl := List.mem_filter.mpr ⟨List.mem_of_getElem? (i := 600) (by decide +kernel), rfl⟩
theorem wi_597 : Cond.static yxr_levelOf ∈ hq_tbl := List.mem_filter.mpr ⟨List.mem_of_getElem? (i := 512) (by decide +kernel), rfl⟩
theorem wi_598 : Cond.initialized "HeapQueries$Reader" ∈ hq_tbl := List.mem_filter.mpr ⟨List.mem_of_getElem? (i := 74) (by decide +kernel), rfl⟩
theorem wi_599 : Cond.code yxr_levelOf bxr_levelOf 1 (some .int) ∈ hq_tbl := List.mem_filter.mpr ⟨List.mem_of_getElem? (i := 513) (by decide +kernel), rfl⟩
theorem wi_600 : Cond.fieldLink "HeapQueries$Reader" 9 "HeapQueries$Reader" "text" "LHeapQueries$Text;" ∈ hq_tbl := List.mem_filter.mpr ⟨List.mem_of_getElem? (i := 406) (by decide +kernel), rfl⟩
theorem wi_601 : Cond.fieldLink "HeapQueries$Reader" 58 "HeapQueries$Reader" "at" "I" ∈ hq_tbl := List.mem_filter.mpr ⟨List.mem_of_getElem? (i := 407) (by decide +kernel), rfl⟩
theorem wi_602 : Cond.methodLink "HeapQueries$Reader" 90 yxt_codeAt ∈ hq_tbl := List.mem_filter.mpr ⟨List.mem_of_getElem? (i := 468) (by decide +kernel), rfl⟩
theorem wi_603 : Cond.instanceMethod yxr_code ∈ hq_tbl := List.mem_filter.mpr ⟨List.mem_of_getElem? (i := 466) (by decide +kernel), rfl⟩
theorem wi_604 : Cond.selects "HeapQueries$Reader" yxr_code yxr_code ∈ hq_tbl := List.mem_filter.mpr ⟨List.mem_of_getElem? (i := 19) (by decide +kernel), rfl⟩
theorem wi_605 : Cond.code yxr_code bxr_code 1 (some .int) ∈ hq_tbl := List.mem_filter.mpr ⟨List.mem_of_getElem? (i := 467) (by decide +kernel), rfl⟩
theorem wi_606 : Cond.methodLink "HeapQueries$Reader" 51 yxr_code ∈ hq_tbl := List.mem_filter.mpr ⟨List.mem_of_getElem? (i := 464) (by decide +kernel), rfl⟩
theorem wi_607 : Cond.instanceMethod yxr_skip ∈ hq_tbl := List.mem_filter.mpr ⟨List.mem_of_getElem? (i := 462) (by decide +kernel), rfl⟩
theorem wi_608 : Cond.selects "HeapQueries$Reader" yxr_skip yxr_skip ∈ hq_tbl := List.mem_filter.mpr ⟨List.mem_of_getElem? (i := 18) (by decide +kernel), rfl⟩
theorem wi_609 : Cond.code yxr_skip bxr_skip 3 (some .boolean) ∈ hq_tbl := List.mem_filter.mpr ⟨List.mem_of_getElem? (i := 463) (by decide +kernel), rfl⟩
theorem wi_610 : Cond.methodLink "HeapQueries$Node" 1 yjo_init ∈ hq_tbl := List.mem_filter.mpr ⟨List.mem_of_getElem? (i := 481) (by decide +kernel), rfl⟩
theorem wi_611 : Cond.instanceMethod yjo_init ∈ hq_tbl := List.mem_filter.mpr ⟨List.mem_of_getElem? (i := 84) (by decide +kernel), rfl⟩
theorem wi_612 : Cond.code yjo_init bjo_init 1 none ∈ hq_tbl := List.mem_filter.mpr ⟨List.mem_of_getElem? (i := 85) (by decide +kernel), rfl⟩
theorem wi_613 : Cond.fieldLink "HeapQueries$Node" 7 "HeapQueries$Node" "code" "I" ∈ hq_tbl := List.mem_filter.mpr ⟨List.mem_of_getElem? (i := 482) (by decide +kernel), rfl⟩
theorem wi_614 : Cond.fieldLink "HeapQueries$Node" 13 "HeapQueries$Node" "number" "I" ∈ hq_tbl := List.mem_filter.mpr ⟨List.mem_of_getElem? (i := 484) (by decide +kernel), rfl⟩
theorem wi_615 : Cond.fieldLink "HeapQueries$Node" 16 "HeapQueries$Node" "left" "LHeapQueries$Node;" ∈ hq_tbl := List.mem_filter.mpr ⟨List.mem_of_getElem? (i := 486) (by decide +kernel), rfl⟩
theorem wi_616 : Cond.fieldLink "HeapQueries$Node" 20 "HeapQueries$Node" "right" "LHeapQueries$Node;" ∈ hq_tbl := List.mem_filter.mpr ⟨List.mem_of_getElem? (i := 488) (by decide +kernel), rfl⟩
theorem wi_617 : Cond.methodLink "HeapQueries$Select" 1 yjo_init ∈ hq_tbl := List.mem_filter.mpr ⟨List.mem_of_getElem? (i := 426) (by decide +kernel), rfl⟩
theorem wi_618 : Cond.classLink "HeapQueries$Reader" 74 "HeapQueries$Node" ∈ hq_tbl := List.mem_filter.mpr ⟨List.mem_of_getElem? (i := 476) (by decide +kernel), rfl⟩
theorem wi_619 : Cond.instantiable "HeapQueries$Node" 4 ∈ hq_tbl := List.mem_filter.mpr ⟨List.mem_of_getElem? (i := 477) (by decide +kernel), rfl⟩
theorem wi_620 : Cond.initialized "HeapQueries$Node" ∈ hq_tbl := List.mem_filter.mpr ⟨List.mem_of_getElem? (i := 76) (by decide +kernel), rfl⟩
theorem wi_621 : Cond.methodLink "HeapQueries$Reader" 62 yxt_numberAt ∈ hq_tbl := List.mem_filter.mpr ⟨List.mem_of_getElem? (i := 507) (by decide +kernel), rfl⟩
theorem wi_622 : Cond.methodLink "HeapQueries$Reader" 76 yxn_init ∈ hq_tbl := List.mem_filter.mpr ⟨List.mem_of_getElem? (i := 478) (by decide +kernel), rfl⟩
theorem wi_623 : Cond.instanceMethod yxn_init ∈ hq_tbl := List.mem_filter.mpr ⟨List.mem_of_getElem? (i := 479) (by decide +kernel), rfl⟩
theorem wi_624 : Cond.code yxn_init bxn_init 5 none ∈ hq_tbl := List.mem_filter.mpr ⟨List.mem_of_getElem? (i := 480) (by decide +kernel), rfl⟩
theorem wi_625 : Cond.methodLink "HeapQueries$Reader" 86 yxr_readStep ∈ hq_tbl := List.mem_filter.mpr ⟨List.mem_of_getElem? (i := 503) (by decide +kernel), rfl⟩
theorem wi_626 : Cond.instanceMethod yxr_readStep ∈ hq_tbl := List.mem_filter.mpr ⟨List.mem_of_getElem? (i := 505) (by decide +kernel), rfl⟩
theorem wi_627 : Cond.selects "HeapQueries$Reader" yxr_readStep yxr_readStep ∈ hq_tbl := List.mem_filter.mpr ⟨List.mem_of_getElem? (i := 22) (by decide +kernel), rfl⟩
theorem wi_628 : Cond.code yxr_readStep bxr_readStep 3 (some (.object "HeapQueries$Node")) ∈ hq_tbl := List.mem_filter.mpr ⟨List.mem_of_getElem? (i := 506) (by decide +kernel), rfl⟩
theorem wi_629 : Cond.methodLink "HeapQueries$Reader" 19 yxr_skip ∈ hq_tbl := List.mem_filter.mpr ⟨List.mem_of_getElem? (i := 460) (by decide +kernel), rfl⟩
theorem wi_630 : Cond.methodLink "HeapQueries$Reader" 37 yxr_readE ∈ hq_tbl := List.mem_filter.mpr ⟨List.mem_of_getElem? (i := 472) (by decide +kernel), rfl⟩
theorem wi_631 : Cond.instanceMethod yxr_readE ∈ hq_tbl := List.mem_filter.mpr ⟨List.mem_of_getElem? (i := 474) (by decide +kernel), rfl⟩
theorem wi_632 : Cond.selects "HeapQueries$Reader" yxr_readE yxr_readE ∈ hq_tbl := List.mem_filter.mpr ⟨List.mem_of_getElem? (i := 20) (by decide +kernel), rfl⟩
theorem wi_633 : Cond.code yxr_readE bxr_readE 6 (some (.object "HeapQueries$Node")) ∈ hq_tbl := List.mem_filter.mpr ⟨List.mem_of_getElem? (i := 475) (by decide +kernel), rfl⟩
theorem wi_634 : Cond.methodLink "HeapQueries$Reader" 83 yxr_levelOf ∈ hq_tbl := List.mem_filter.mpr ⟨List.mem_of_getElem? (i := 511) (by decide +kernel), rfl⟩
theorem wi_635 : Cond.methodLink "HeapQueries$Reader" 79 yxr_readM ∈ hq_tbl := List.mem_filter.mpr ⟨List.mem_of_getElem? (i := 499) (by decide +kernel), rfl⟩
theorem wi_636 : Cond.instanceMethod yxr_readM ∈ hq_tbl := List.mem_filter.mpr ⟨List.mem_of_getElem? (i := 501) (by decide +kernel), rfl⟩
theorem wi_637 : Cond.selects "HeapQueries$Reader" yxr_readM yxr_readM ∈ hq_tbl := List.mem_filter.mpr ⟨List.mem_of_getElem? (i := 21) (by decide +kernel), rfl⟩
theorem wi_638 : Cond.code yxr_readM bxr_readM 4 (some (.object "HeapQueries$Node")) ∈ hq_tbl := List.mem_filter.mpr ⟨List.mem_of_getElem? (i := 502) (by decide +kernel), rfl⟩
theorem wi_639 : Cond.methodLink "HeapQueries$Worker" 120 yxv_isError ∈ hq_tbl := List.mem_filter.mpr ⟨List.mem_of_getElem? (i := 657) (by decide +kernel), rfl⟩
theorem wi_640 : Cond.constantLong "HeapQueries$Worker" 124 4294967296 ∈ hq_tbl := List.mem_filter.mpr ⟨List.mem_of_getElem? (i := 658) (by decide +kernel), rfl⟩
theorem wi_641 : Cond.fieldLink "HeapQueries$Worker" 126 "HeapQueries$Select" "row" "LHeapQueries$Node;" ∈ hq_tbl := List.mem_filter.mpr ⟨List.mem_of_getElem? (i := 432) (by decide +kernel), rfl⟩
theorem wi_642 : Cond.methodLink "HeapQueries$Worker" 110 yxc_valueOf ∈ hq_tbl := List.mem_filter.mpr ⟨List.mem_of_getElem? (i := 598) (by decide +kernel), rfl⟩
theorem wi_643 : Cond.fieldLink "HeapQueries$Worker" 104 "HeapQueries$Select" "condition" "LHeapQueries$Node;" ∈ hq_tbl := List.mem_filter.mpr ⟨List.mem_of_getElem? (i := 440) (by decide +kernel), rfl⟩
theorem wi_644 : Cond.constantLong "HeapQueries$Worker" 108 4294967297 ∈ hq_tbl := List.mem_filter.mpr ⟨List.mem_of_getElem? (i := 597) (by decide +kernel), rfl⟩
theorem wi_645 : Cond.methodLink "HeapQueries$Worker" 116 yxv_truthOf ∈ hq_tbl := List.mem_filter.mpr ⟨List.mem_of_getElem? (i := 656) (by decide +kernel), rfl⟩
theorem wi_646 : Cond.instanceMethod yxw_lookAtAll ∈ hq_tbl := List.mem_filter.mpr ⟨List.mem_of_getElem? (i := 594) (by decide +kernel), rfl⟩
theorem wi_647 : Cond.selects "HeapQueries$Worker" yxw_lookAtAll yxw_lookAtAll ∈ hq_tbl := List.mem_filter.mpr ⟨List.mem_of_getElem? (i := 29) (by decide +kernel), rfl⟩
theorem wi_648 : Cond.code yxw_lookAtAll bxw_lookAtAll 11 (some .int) ∈ hq_tbl := List.mem_filter.mpr ⟨List.mem_of_getElem? (i := 595) (by decide +kernel), rfl⟩
theorem wi_649 : Cond.instanceMethod yxw_addQuery ∈ hq_tbl := List.mem_filter.mpr ⟨List.mem_of_getElem? (i := 548) (by decide +kernel), rfl⟩
theorem wi_650 : Cond.selects "HeapQueries$Worker" yxw_addQuery yxw_addQuery ∈ hq_tbl := List.mem_filter.mpr ⟨List.mem_of_getElem? (i := 549) (by decide +kernel), rfl⟩
theorem wi_651 : Cond.code yxw_addQuery bxw_addQuery 6 (some .int) ∈ hq_tbl := List.mem_filter.mpr ⟨List.mem_of_getElem? (i := 550) (by decide +kernel), rfl⟩
theorem wi_652 : Cond.fieldLink "HeapQueries$Worker" 53 "HeapQueries$Select" "nested" "LHeapQueries$Select;" ∈ hq_tbl := List.mem_filter.mpr ⟨List.mem_of_getElem? (i := 434) (by decide +kernel), rfl⟩
theorem wi_653 : Cond.methodLink "HeapQueries$Worker" 56 yxw_addObjectsOfClass ∈ hq_tbl := List.mem_filter.mpr ⟨List.mem_of_getElem? (i := 559) (by decide +kernel), rfl⟩
theorem wi_654 : Cond.methodLink "HeapQueries$Worker" 60 yxw_addQuery ∈ hq_tbl := List.mem_filter.mpr ⟨List.mem_of_getElem? (i := 577) (by decide +kernel), rfl⟩
theorem wi_655 : Cond.methodLink "HeapQueries$Worker" 67 yxw_leaveOutEmpty ∈ hq_tbl := List.mem_filter.mpr ⟨List.mem_of_getElem? (i := 585) (by decide +kernel), rfl⟩
theorem wi_656 : Cond.instanceMethod yxw_addSource ∈ hq_tbl := List.mem_filter.mpr ⟨List.mem_of_getElem? (i := 557) (by decide +kernel), rfl⟩
theorem wi_657 : Cond.selects "HeapQueries$Worker" yxw_addSource yxw_addSource ∈ hq_tbl := List.mem_filter.mpr ⟨List.mem_of_getElem? (i := 24) (by decide +kernel), rfl⟩
theorem wi_658 : Cond.code yxw_addSource bxw_addSource 6 (some .int) ∈ hq_tbl := List.mem_filter.mpr ⟨List.mem_of_getElem? (i := 558) (by decide +kernel), rfl⟩
theorem wi_659 : Cond.fieldLink "HeapQueries$Worker" 38 "HeapQueries$Select" "isRetained" "Z" ∈ hq_tbl := List.mem_filter.mpr ⟨List.mem_of_getElem? (i := 430) (by decide +kernel), rfl⟩
theorem wi_660 : Cond.fieldLink "HeapQueries$Worker" 46 "HeapQueries$Select" "isDistinct" "Z" ∈ hq_tbl := List.mem_filter.mpr ⟨List.mem_of_getElem? (i := 428) (by decide +kernel), rfl⟩
theorem wi_661 : Cond.methodLink "HeapQueries$Worker" 49 yxw_leaveOutRepeated ∈ hq_tbl := List.mem_filter.mpr ⟨List.mem_of_getElem? (i := 665) (by decide +kernel), rfl⟩
theorem wi_662 : Cond.methodLink "HeapQueries$Worker" 42 yxw_turnIntoRetained ∈ hq_tbl := List.mem_filter.mpr ⟨List.mem_of_getElem? (i := 659) (by decide +kernel), rfl⟩
theorem wi_663 : Cond.methodLink "HeapQueries$Worker" 32 yxw_addSource ∈ hq_tbl := List.mem_filter.mpr ⟨List.mem_of_getElem? (i := 555) (by decide +kernel), rfl⟩
theorem wi_664 : Cond.methodLink "HeapQueries$Worker" 35 yxw_lookAtAll ∈ hq_tbl := List.mem_filter.mpr ⟨List.mem_of_getElem? (i := 592) (by decide +kernel), rfl⟩
theorem wi_665 : Cond.instanceMethod yxw_addSelect ∈ hq_tbl := List.mem_filter.mpr ⟨List.mem_of_getElem? (i := 553) (by decide +kernel), rfl⟩
theorem wi_666 : Cond.selects "HeapQueries$Worker" yxw_addSelect yxw_addSelect ∈ hq_tbl := List.mem_filter.mpr ⟨List.mem_of_getElem? (i := 23) (by decide +kernel), rfl⟩
theorem wi_667 : Cond.code yxw_addSelect bxw_addSelect 6 (some .int) ∈ hq_tbl := List.mem_filter.mpr ⟨List.mem_of_getElem? (i := 554) (by decide +kernel), rfl⟩
theorem wi_668 : Cond.methodLink "HeapQueries$Worker" 22 yxw_addSelect ∈ hq_tbl := List.mem_filter.mpr ⟨List.mem_of_getElem? (i := 551) (by decide +kernel), rfl⟩
theorem wi_669 : Cond.fieldLink "HeapQueries$Worker" 26 "HeapQueries$Select" "next" "LHeapQueries$Select;" ∈ hq_tbl := List.mem_filter.mpr ⟨List.mem_of_getElem? (i := 442) (by decide +kernel), rfl⟩
theorem wi_670 : Cond.fieldLink "HeapQueries$Reader" 71 "HeapQueries$Select" "condition" "LHeapQueries$Node;" ∈ hq_tbl := List.mem_filter.mpr ⟨List.mem_of_getElem? (i := 439) (by decide +kernel), rfl⟩
theorem wi_671 : Cond.classLink "HeapQueries$Reader" 24 "HeapQueries$Select" ∈ hq_tbl := List.mem_filter.mpr ⟨List.mem_of_getElem? (i := 421) (by decide +kernel), rfl⟩
theorem wi_672 : Cond.instantiable "HeapQueries$Select" 8 ∈ hq_tbl := List.mem_filter.mpr ⟨List.mem_of_getElem? (i := 422) (by decide +kernel), rfl⟩
theorem wi_673 : Cond.initialized "HeapQueries$Select" ∈ hq_tbl := List.mem_filter.mpr ⟨List.mem_of_getElem? (i := 75) (by decide +kernel), rfl⟩
theorem wi_674 : Cond.instanceMethod yxl_init ∈ hq_tbl := List.mem_filter.mpr ⟨List.mem_of_getElem? (i := 424) (by decide +kernel), rfl⟩
theorem wi_675 : Cond.code yxl_init bxl_init 1 none ∈ hq_tbl := List.mem_filter.mpr ⟨List.mem_of_getElem? (i := 425) (by decide +kernel), rfl⟩
theorem wi_676 : Cond.fieldLink "HeapQueries$Reader" 30 "HeapQueries$Select" "isDistinct" "Z" ∈ hq_tbl := List.mem_filter.mpr ⟨List.mem_of_getElem? (i := 427) (by decide +kernel), rfl⟩
theorem wi_677 : Cond.fieldLink "HeapQueries$Reader" 34 "HeapQueries$Select" "isRetained" "Z" ∈ hq_tbl := List.mem_filter.mpr ⟨List.mem_of_getElem? (i := 429) (by decide +kernel), rfl⟩
theorem wi_678 : Cond.fieldLink "HeapQueries$Reader" 41 "HeapQueries$Select" "row" "LHeapQueries$Node;" ∈ hq_tbl := List.mem_filter.mpr ⟨List.mem_of_getElem? (i := 431) (by decide +kernel), rfl⟩
theorem wi_679 : Cond.methodLink "HeapQueries$Reader" 45 yxr_readQuery ∈ hq_tbl := List.mem_filter.mpr ⟨List.mem_of_getElem? (i := 514) (by decide +kernel), rfl⟩
theorem wi_680 : Cond.instanceMethod yxr_readQuery ∈ hq_tbl := List.mem_filter.mpr ⟨List.mem_of_getElem? (i := 414) (by decide +kernel), rfl⟩
theorem wi_681 : Cond.selects "HeapQueries$Reader" yxr_readQuery yxr_readQuery ∈ hq_tbl := List.mem_filter.mpr ⟨List.mem_of_getElem? (i := 415) (by decide +kernel), rfl⟩
theorem wi_682 : Cond.code yxr_readQuery bxr_readQuery 5 (some (.object "HeapQueries$Select")) ∈ hq_tbl := List.mem_filter.mpr ⟨List.mem_of_getElem? (i := 416) (by decide +kernel), rfl⟩
theorem wi_683 : Cond.fieldLink "HeapQueries$Reader" 48 "HeapQueries$Select" "nested" "LHeapQueries$Select;" ∈ hq_tbl := List.mem_filter.mpr ⟨List.mem_of_getElem? (i := 433) (by decide +kernel), rfl⟩
theorem wi_684 : Cond.fieldLink "HeapQueries$Reader" 55 "HeapQueries$Select" "withDescendants" "Z" ∈ hq_tbl := List.mem_filter.mpr ⟨List.mem_of_getElem? (i := 437) (by decide +kernel), rfl⟩
theorem wi_685 : Cond.fieldLink "HeapQueries$Reader" 68 "HeapQueries$Select" "sourceClass" "I" ∈ hq_tbl := List.mem_filter.mpr ⟨List.mem_of_getElem? (i := 435) (by decide +kernel), rfl⟩
theorem wi_686 : Cond.methodLink "HeapQueries$Reader" 15 yxr_readSelect ∈ hq_tbl := List.mem_filter.mpr ⟨List.mem_of_getElem? (i := 417) (by decide +kernel), rfl⟩
theorem wi_687 : Cond.instanceMethod yxr_readSelect ∈ hq_tbl := List.mem_filter.mpr ⟨List.mem_of_getElem? (i := 419) (by decide +kernel), rfl⟩
theorem wi_688 : Cond.selects "HeapQueries$Reader" yxr_readSelect yxr_readSelect ∈ hq_tbl := List.mem_filter.mpr ⟨List.mem_of_getElem? (i := 17) (by decide +kernel), rfl⟩
theorem wi_689 : Cond.code yxr_readSelect bxr_readSelect 3 (some (.object "HeapQueries$Select")) ∈ hq_tbl := List.mem_filter.mpr ⟨List.mem_of_getElem? (i := 420) (by decide +kernel), rfl⟩
theorem wi_690 : Cond.fieldLink "HeapQueries$Reader" 23 "HeapQueries$Select" "next" "LHeapQueries$Select;" ∈ hq_tbl := List.mem_filter.mpr ⟨List.mem_of_getElem? (i := 441) (by decide +kernel), rfl⟩
theorem wi_691 : Cond.fieldLink "HeapQueries" 90 "HeapQueries" "query" "LHeapQueries$Select;" ∈ hq_tbl := List.mem_filter.mpr ⟨List.mem_of_getElem? (i := 209) (by decide +kernel), rfl⟩
theorem wi_692 : Cond.methodLink "HeapQueries" 107 yxw_begin ∈ hq_tbl := List.mem_filter.mpr ⟨List.mem_of_getElem? (i := 543) (by decide +kernel), rfl⟩
theorem wi_693 : Cond.methodLink "HeapQueries" 110 yxw_addQuery ∈ hq_tbl := List.mem_filter.mpr ⟨List.mem_of_getElem? (i := 547) (by decide +kernel), rfl⟩
theorem wi_694 : Cond.methodLink "HeapQueries" 114 yxw_dropRows ∈ hq_tbl := List.mem_filter.mpr ⟨List.mem_of_getElem? (i := 673) (by decide +kernel), rfl⟩
theorem wi_695 : Cond.instanceMethod yxq_run ∈ hq_tbl := List.mem_filter.mpr ⟨List.mem_of_getElem? (i := 540) (by decide +kernel), rfl⟩
theorem wi_696 : Cond.selects "HeapQueries" yxq_run yxq_run ∈ hq_tbl := List.mem_filter.mpr ⟨List.mem_of_getElem? (i := 541) (by decide +kernel), rfl⟩
theorem wi_697 : Cond.code yxq_run bxq_run 2 (some .int) ∈ hq_tbl := List.mem_filter.mpr ⟨List.mem_of_getElem? (i := 542) (by decide +kernel), rfl⟩
theorem wi_698 : Cond.methodLink "HeapQueries" 104 yxt_forget ∈ hq_tbl := List.mem_filter.mpr ⟨List.mem_of_getElem? (i := 535) (by decide +kernel), rfl⟩
