theorem wi_588 : Cond.fieldLink "HeapQueries$Calculator" 11 "HeapQueries$Node" "left" "LHeapQueries$Node;" ∈ hq_tbl := List.mem_filter.mpr ⟨List.mem_of_getElem? (i := 487) (by decide +kernel), rfl⟩
theorem wi_589 : Cond.methodLink "HeapQueries$Calculator" 17 yxc_valueOfLeaf ∈ hq_tbl := List.mem_filter.mpr ⟨List.mem_of_getElem? (i := 601) (by decide +kernel), rfl⟩
theorem wi_590 : Cond.methodLink "HeapQueries$Calculator" 23 yxc_valueOf ∈ hq_tbl := List.mem_filter.mpr ⟨List.mem_of_getElem? (i := 606) (by decide +kernel), rfl⟩
theorem wi_591 : Cond.fieldLink "HeapQueries$Calculator" 31 "HeapQueries$Node" "right" "LHeapQueries$Node;" ∈ hq_tbl := List.mem_filter.mpr ⟨List.mem_of_getElem? (i := 489) (by decide +kernel), rfl⟩
theorem wi_592 : Cond.methodLink "HeapQueries$Calculator" 34 yxc_valueOfUnary ∈ hq_tbl := List.mem_filter.mpr ⟨List.mem_of_getElem? (i := 611) (by decide +kernel), rfl⟩
theorem wi_593 : Cond.methodLink "HeapQueries$Calculator" 42 yxc_settles ∈ hq_tbl := List.mem_filter.mpr ⟨List.mem_of_getElem? (i := 646) (by decide +kernel), rfl⟩
theorem wi_594 : Cond.methodLink "HeapQueries$Calculator" 50 yxc_valueOfBinary ∈ hq_tbl := List.mem_filter.mpr ⟨List.mem_of_getElem? (i := 650) (by decide +kernel), rfl⟩
theorem wi_595 : Cond.static yxc_valueOf ∈ hq_tbl := List.mem_filter.mpr ⟨List.mem_of_getElem? (i := 599) (by decide +kernel), rfl⟩
theorem wi_596 : Cond.code yxc_valueOf bxc_valueOf 8 (some .long) ∈ hq_tbl := List.mem_filter.mpr ⟨List.mem_of_getElem? (i := 600) (by decide +kernel), rfl⟩
