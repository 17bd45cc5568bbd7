section
-- ===== PART A: goes FIRST, ahead of the names: the tables' words, and 'selects' of the private methods out of them =====
/-- a private method of a class that the tables say can be made, by its rows of tables_1 -/
def lw_okq (q : MethodName × Nat) : Prop := (q.1.cls ≠ "java/lang/invoke/MethodHandle" ∧ q.1.cls ≠ "java/lang/invoke/VarHandle") ∧ Cond.instantiable q.1.cls q.2 ∈ tables_1 ∧ Cond.privateMethod q.1 ∈ tables_1 ∧ Cond.instanceMethod q.1 ∈ tables_1
theorem lw_p0 : lw_okq (⟨"HeapQueries$Survey", "findLinks", "(LHeapQueries$Heap;)V"⟩, 9) := ⟨⟨by decide +kernel, by decide +kernel⟩, List.mem_of_getElem? (i := 28) (by decide +kernel), List.mem_of_getElem? (i := 224) (by decide +kernel), List.mem_of_getElem? (i := 225) (by decide +kernel)⟩
theorem lw_p1 : lw_okq (⟨"HeapQueries$Survey", "reachableWithout", "(I)I"⟩, 9) := ⟨⟨by decide +kernel, by decide +kernel⟩, List.mem_of_getElem? (i := 28) (by decide +kernel), List.mem_of_getElem? (i := 239) (by decide +kernel), List.mem_of_getElem? (i := 240) (by decide +kernel)⟩
theorem lw_p2 : lw_okq (⟨"HeapQueries$Survey", "sizeOfSet", "(LHeapQueries$Heap;I)I"⟩, 9) := ⟨⟨by decide +kernel, by decide +kernel⟩, List.mem_of_getElem? (i := 28) (by decide +kernel), List.mem_of_getElem? (i := 251) (by decide +kernel), List.mem_of_getElem? (i := 252) (by decide +kernel)⟩
theorem lw_p3 : lw_okq (⟨"HeapQueries$Survey", "findDominators", "(I)I"⟩, 9) := ⟨⟨by decide +kernel, by decide +kernel⟩, List.mem_of_getElem? (i := 28) (by decide +kernel), List.mem_of_getElem? (i := 259) (by decide +kernel), List.mem_of_getElem? (i := 260) (by decide +kernel)⟩
theorem lw_p4 : lw_okq (⟨"HeapQueries$Survey", "findImmediateDominator", "(I)I"⟩, 9) := ⟨⟨by decide +kernel, by decide +kernel⟩, List.mem_of_getElem? (i := 28) (by decide +kernel), List.mem_of_getElem? (i := 263) (by decide +kernel), List.mem_of_getElem? (i := 264) (by decide +kernel)⟩
theorem lw_p5 : lw_okq (⟨"HeapQueries", "isNumberAllowed", "(II)Z"⟩, 4) := ⟨⟨by decide +kernel, by decide +kernel⟩, List.mem_of_getElem? (i := 14) (by decide +kernel), List.mem_of_getElem? (i := 283) (by decide +kernel), List.mem_of_getElem? (i := 284) (by decide +kernel)⟩
theorem lw_p6 : lw_okq (⟨"HeapQueries$Text", "placeAfter", "(I)I"⟩, 8) := ⟨⟨by decide +kernel, by decide +kernel⟩, List.mem_of_getElem? (i := 95) (by decide +kernel), List.mem_of_getElem? (i := 292) (by decide +kernel), List.mem_of_getElem? (i := 293) (by decide +kernel)⟩
theorem lw_p7 : lw_okq (⟨"HeapQueries$Text", "placeAfterDistinct", "(I)I"⟩, 8) := ⟨⟨by decide +kernel, by decide +kernel⟩, List.mem_of_getElem? (i := 95) (by decide +kernel), List.mem_of_getElem? (i := 296) (by decide +kernel), List.mem_of_getElem? (i := 297) (by decide +kernel)⟩
theorem lw_p8 : lw_okq (⟨"HeapQueries$Text", "placeInS", "(I)I"⟩, 8) := ⟨⟨by decide +kernel, by decide +kernel⟩, List.mem_of_getElem? (i := 95) (by decide +kernel), List.mem_of_getElem? (i := 300) (by decide +kernel), List.mem_of_getElem? (i := 301) (by decide +kernel)⟩
theorem lw_p9 : lw_okq (⟨"HeapQueries$Text", "placeAfterU", "(I)I"⟩, 8) := ⟨⟨by decide +kernel, by decide +kernel⟩, List.mem_of_getElem? (i := 95) (by decide +kernel), List.mem_of_getElem? (i := 304) (by decide +kernel), List.mem_of_getElem? (i := 305) (by decide +kernel)⟩
theorem lw_p10 : lw_okq (⟨"HeapQueries$Text", "placeAfterE", "(I)I"⟩, 8) := ⟨⟨by decide +kernel, by decide +kernel⟩, List.mem_of_getElem? (i := 95) (by decide +kernel), List.mem_of_getElem? (i := 308) (by decide +kernel), List.mem_of_getElem? (i := 309) (by decide +kernel)⟩
theorem lw_p11 : lw_okq (⟨"HeapQueries$Text", "isInsideE", "()Z"⟩, 8) := ⟨⟨by decide +kernel, by decide +kernel⟩, List.mem_of_getElem? (i := 95) (by decide +kernel), List.mem_of_getElem? (i := 312) (by decide +kernel), List.mem_of_getElem? (i := 313) (by decide +kernel)⟩
theorem lw_p12 : lw_okq (⟨"HeapQueries$Text", "placeAfterWholeSelect", "(I)I"⟩, 8) := ⟨⟨by decide +kernel, by decide +kernel⟩, List.mem_of_getElem? (i := 95) (by decide +kernel), List.mem_of_getElem? (i := 316) (by decide +kernel), List.mem_of_getElem? (i := 317) (by decide +kernel)⟩
theorem lw_p13 : lw_okq (⟨"HeapQueries$Text", "placeInSource", "(I)I"⟩, 8) := ⟨⟨by decide +kernel, by decide +kernel⟩, List.mem_of_getElem? (i := 95) (by decide +kernel), List.mem_of_getElem? (i := 320) (by decide +kernel), List.mem_of_getElem? (i := 321) (by decide +kernel)⟩
theorem lw_p14 : lw_okq (⟨"HeapQueries$Text", "remember", "(I)V"⟩, 8) := ⟨⟨by decide +kernel, by decide +kernel⟩, List.mem_of_getElem? (i := 95) (by decide +kernel), List.mem_of_getElem? (i := 324) (by decide +kernel), List.mem_of_getElem? (i := 325) (by decide +kernel)⟩
theorem lw_p15 : lw_okq (⟨"HeapQueries$Text", "openBracket", "()V"⟩, 8) := ⟨⟨by decide +kernel, by decide +kernel⟩, List.mem_of_getElem? (i := 95) (by decide +kernel), List.mem_of_getElem? (i := 328) (by decide +kernel), List.mem_of_getElem? (i := 329) (by decide +kernel)⟩
def lw_privs_1 : List (MethodName × Nat) := [(⟨"HeapQueries$Survey", "findLinks", "(LHeapQueries$Heap;)V"⟩, 9), (⟨"HeapQueries$Survey", "reachableWithout", "(I)I"⟩, 9), (⟨"HeapQueries$Survey", "sizeOfSet", "(LHeapQueries$Heap;I)I"⟩, 9), (⟨"HeapQueries$Survey", "findDominators", "(I)I"⟩, 9), (⟨"HeapQueries$Survey", "findImmediateDominator", "(I)I"⟩, 9), (⟨"HeapQueries", "isNumberAllowed", "(II)Z"⟩, 4), (⟨"HeapQueries$Text", "placeAfter", "(I)I"⟩, 8), (⟨"HeapQueries$Text", "placeAfterDistinct", "(I)I"⟩, 8), (⟨"HeapQueries$Text", "placeInS", "(I)I"⟩, 8), (⟨"HeapQueries$Text", "placeAfterU", "(I)I"⟩, 8), (⟨"HeapQueries$Text", "placeAfterE", "(I)I"⟩, 8), (⟨"HeapQueries$Text", "isInsideE", "()Z"⟩, 8), (⟨"HeapQueries$Text", "placeAfterWholeSelect", "(I)I"⟩, 8), (⟨"HeapQueries$Text", "placeInSource", "(I)I"⟩, 8), (⟨"HeapQueries$Text", "remember", "(I)V"⟩, 8), (⟨"HeapQueries$Text", "openBracket", "()V"⟩, 8)]
theorem lw_r1 : ∀ q ∈ lw_privs_1, lw_okq q := List.forall_mem_cons.mpr ⟨lw_p0, List.forall_mem_cons.mpr ⟨lw_p1, List.forall_mem_cons.mpr ⟨lw_p2, List.forall_mem_cons.mpr ⟨lw_p3, List.forall_mem_cons.mpr ⟨lw_p4, List.forall_mem_cons.mpr ⟨lw_p5, List.forall_mem_cons.mpr ⟨lw_p6, List.forall_mem_cons.mpr ⟨lw_p7, List.forall_mem_cons.mpr ⟨lw_p8, List.forall_mem_cons.mpr ⟨lw_p9, List.forall_mem_cons.mpr ⟨lw_p10, List.forall_mem_cons.mpr ⟨lw_p11, List.forall_mem_cons.mpr ⟨lw_p12, List.forall_mem_cons.mpr ⟨lw_p13, List.forall_mem_cons.mpr ⟨lw_p14, List.forall_mem_cons.mpr ⟨lw_p15, fun _ h => absurd h List.not_mem_nil⟩⟩⟩⟩⟩⟩⟩⟩⟩⟩⟩⟩⟩⟩⟩⟩
theorem lw_p16 : lw_okq (⟨"HeapQueries$Text", "closeBracket", "()V"⟩, 8) := ⟨⟨by decide +kernel, by decide +kernel⟩, List.mem_of_getElem? (i := 95) (by decide +kernel), List.mem_of_getElem? (i := 332) (by decide +kernel), List.mem_of_getElem? (i := 333) (by decide +kernel)⟩
theorem lw_p17 : lw_okq (⟨"HeapQueries$Reader", "readSelect", "(I)LHeapQueries$Select;"⟩, 2) := ⟨⟨by decide +kernel, by decide +kernel⟩, List.mem_of_getElem? (i := 336) (by decide +kernel), List.mem_of_getElem? (i := 353) (by decide +kernel), List.mem_of_getElem? (i := 354) (by decide +kernel)⟩
theorem lw_p18 : lw_okq (⟨"HeapQueries$Reader", "skip", "(I)Z"⟩, 2) := ⟨⟨by decide +kernel, by decide +kernel⟩, List.mem_of_getElem? (i := 336) (by decide +kernel), List.mem_of_getElem? (i := 396) (by decide +kernel), List.mem_of_getElem? (i := 397) (by decide +kernel)⟩
theorem lw_p19 : lw_okq (⟨"HeapQueries$Reader", "code", "()I"⟩, 2) := ⟨⟨by decide +kernel, by decide +kernel⟩, List.mem_of_getElem? (i := 336) (by decide +kernel), List.mem_of_getElem? (i := 400) (by decide +kernel), List.mem_of_getElem? (i := 401) (by decide +kernel)⟩
theorem lw_p20 : lw_okq (⟨"HeapQueries$Reader", "readE", "(II)LHeapQueries$Node;"⟩, 2) := ⟨⟨by decide +kernel, by decide +kernel⟩, List.mem_of_getElem? (i := 336) (by decide +kernel), List.mem_of_getElem? (i := 408) (by decide +kernel), List.mem_of_getElem? (i := 409) (by decide +kernel)⟩
theorem lw_p21 : lw_okq (⟨"HeapQueries$Reader", "readM", "(I)LHeapQueries$Node;"⟩, 2) := ⟨⟨by decide +kernel, by decide +kernel⟩, List.mem_of_getElem? (i := 336) (by decide +kernel), List.mem_of_getElem? (i := 435) (by decide +kernel), List.mem_of_getElem? (i := 436) (by decide +kernel)⟩
theorem lw_p22 : lw_okq (⟨"HeapQueries$Reader", "readStep", "(LHeapQueries$Node;)LHeapQueries$Node;"⟩, 2) := ⟨⟨by decide +kernel, by decide +kernel⟩, List.mem_of_getElem? (i := 336) (by decide +kernel), List.mem_of_getElem? (i := 439) (by decide +kernel), List.mem_of_getElem? (i := 440) (by decide +kernel)⟩
theorem lw_p23 : lw_okq (⟨"HeapQueries$Worker", "addSelect", "(LHeapQueries$Heap;LHeapQueries$Select;I)I"⟩, 3) := ⟨⟨by decide +kernel, by decide +kernel⟩, List.mem_of_getElem? (i := 126) (by decide +kernel), List.mem_of_getElem? (i := 487) (by decide +kernel), List.mem_of_getElem? (i := 488) (by decide +kernel)⟩
theorem lw_p24 : lw_okq (⟨"HeapQueries$Worker", "addSource", "(LHeapQueries$Heap;LHeapQueries$Select;I)I"⟩, 3) := ⟨⟨by decide +kernel, by decide +kernel⟩, List.mem_of_getElem? (i := 126) (by decide +kernel), List.mem_of_getElem? (i := 491) (by decide +kernel), List.mem_of_getElem? (i := 492) (by decide +kernel)⟩
theorem lw_p25 : lw_okq (⟨"HeapQueries$Worker", "addObjectsOfClass", "(LHeapQueries$Heap;LHeapQueries$Select;)V"⟩, 3) := ⟨⟨by decide +kernel, by decide +kernel⟩, List.mem_of_getElem? (i := 126) (by decide +kernel), List.mem_of_getElem? (i := 495) (by decide +kernel), List.mem_of_getElem? (i := 496) (by decide +kernel)⟩
theorem lw_p26 : lw_okq (⟨"HeapQueries$Worker", "add", "(J)V"⟩, 3) := ⟨⟨by decide +kernel, by decide +kernel⟩, List.mem_of_getElem? (i := 126) (by decide +kernel), List.mem_of_getElem? (i := 509) (by decide +kernel), List.mem_of_getElem? (i := 510) (by decide +kernel)⟩
theorem lw_p27 : lw_okq (⟨"HeapQueries$Worker", "hasNumber", "(I)Z"⟩, 3) := ⟨⟨by decide +kernel, by decide +kernel⟩, List.mem_of_getElem? (i := 126) (by decide +kernel), List.mem_of_getElem? (i := 514) (by decide +kernel), List.mem_of_getElem? (i := 515) (by decide +kernel)⟩
theorem lw_p28 : lw_okq (⟨"HeapQueries$Worker", "leaveOutEmpty", "(I)V"⟩, 3) := ⟨⟨by decide +kernel, by decide +kernel⟩, List.mem_of_getElem? (i := 126) (by decide +kernel), List.mem_of_getElem? (i := 521) (by decide +kernel), List.mem_of_getElem? (i := 522) (by decide +kernel)⟩
theorem lw_p29 : lw_okq (⟨"HeapQueries$Worker", "lookAtAll", "(LHeapQueries$Heap;LHeapQueries$Select;I)I"⟩, 3) := ⟨⟨by decide +kernel, by decide +kernel⟩, List.mem_of_getElem? (i := 126) (by decide +kernel), List.mem_of_getElem? (i := 528) (by decide +kernel), List.mem_of_getElem? (i := 529) (by decide +kernel)⟩
theorem lw_p30 : lw_okq (⟨"HeapQueries$Worker", "turnIntoRetained", "(LHeapQueries$Heap;I)I"⟩, 3) := ⟨⟨by decide +kernel, by decide +kernel⟩, List.mem_of_getElem? (i := 126) (by decide +kernel), List.mem_of_getElem? (i := 595) (by decide +kernel), List.mem_of_getElem? (i := 596) (by decide +kernel)⟩
theorem lw_p31 : lw_okq (⟨"HeapQueries$Worker", "leaveOutRepeated", "(I)V"⟩, 3) := ⟨⟨by decide +kernel, by decide +kernel⟩, List.mem_of_getElem? (i := 126) (by decide +kernel), List.mem_of_getElem? (i := 601) (by decide +kernel), List.mem_of_getElem? (i := 602) (by decide +kernel)⟩
def lw_privs_2 : List (MethodName × Nat) := [(⟨"HeapQueries$Text", "closeBracket", "()V"⟩, 8), (⟨"HeapQueries$Reader", "readSelect", "(I)LHeapQueries$Select;"⟩, 2), (⟨"HeapQueries$Reader", "skip", "(I)Z"⟩, 2), (⟨"HeapQueries$Reader", "code", "()I"⟩, 2), (⟨"HeapQueries$Reader", "readE", "(II)LHeapQueries$Node;"⟩, 2), (⟨"HeapQueries$Reader", "readM", "(I)LHeapQueries$Node;"⟩, 2), (⟨"HeapQueries$Reader", "readStep", "(LHeapQueries$Node;)LHeapQueries$Node;"⟩, 2), (⟨"HeapQueries$Worker", "addSelect", "(LHeapQueries$Heap;LHeapQueries$Select;I)I"⟩, 3), (⟨"HeapQueries$Worker", "addSource", "(LHeapQueries$Heap;LHeapQueries$Select;I)I"⟩, 3), (⟨"HeapQueries$Worker", "addObjectsOfClass", "(LHeapQueries$Heap;LHeapQueries$Select;)V"⟩, 3), (⟨"HeapQueries$Worker", "add", "(J)V"⟩, 3), (⟨"HeapQueries$Worker", "hasNumber", "(I)Z"⟩, 3), (⟨"HeapQueries$Worker", "leaveOutEmpty", "(I)V"⟩, 3), (⟨"HeapQueries$Worker", "lookAtAll", "(LHeapQueries$Heap;LHeapQueries$Select;I)I"⟩, 3), (⟨"HeapQueries$Worker", "turnIntoRetained", "(LHeapQueries$Heap;I)I"⟩, 3), (⟨"HeapQueries$Worker", "leaveOutRepeated", "(I)V"⟩, 3)]
theorem lw_r2 : ∀ q ∈ lw_privs_2, lw_okq q := List.forall_mem_cons.mpr ⟨lw_p16, List.forall_mem_cons.mpr ⟨lw_p17, List.forall_mem_cons.mpr ⟨lw_p18, List.forall_mem_cons.mpr ⟨lw_p19, List.forall_mem_cons.mpr ⟨lw_p20, List.forall_mem_cons.mpr ⟨lw_p21, List.forall_mem_cons.mpr ⟨lw_p22, List.forall_mem_cons.mpr ⟨lw_p23, List.forall_mem_cons.mpr ⟨lw_p24, List.forall_mem_cons.mpr ⟨lw_p25, List.forall_mem_cons.mpr ⟨lw_p26, List.forall_mem_cons.mpr ⟨lw_p27, List.forall_mem_cons.mpr ⟨lw_p28, List.forall_mem_cons.mpr ⟨lw_p29, List.forall_mem_cons.mpr ⟨lw_p30, List.forall_mem_cons.mpr ⟨lw_p31, fun _ h => absurd h List.not_mem_nil⟩⟩⟩⟩⟩⟩⟩⟩⟩⟩⟩⟩⟩⟩⟩⟩
theorem lw_p32 : lw_okq (⟨"HeapQueries$Worker", "hasRowSince", "(IJ)Z"⟩, 3) := ⟨⟨by decide +kernel, by decide +kernel⟩, List.mem_of_getElem? (i := 126) (by decide +kernel), List.mem_of_getElem? (i := 605) (by decide +kernel), List.mem_of_getElem? (i := 606) (by decide +kernel)⟩
theorem lw_p33 : lw_okq (⟨"HeapQueriesModel", "there", "(I)Z"⟩, 38) := ⟨⟨by decide +kernel, by decide +kernel⟩, List.mem_of_getElem? (i := 649) (by decide +kernel), List.mem_of_getElem? (i := 783) (by decide +kernel), List.mem_of_getElem? (i := 784) (by decide +kernel)⟩
theorem lw_p34 : lw_okq (⟨"HeapQueriesModel", "keepSets", "()V"⟩, 38) := ⟨⟨by decide +kernel, by decide +kernel⟩, List.mem_of_getElem? (i := 649) (by decide +kernel), List.mem_of_getElem? (i := 795) (by decide +kernel), List.mem_of_getElem? (i := 796) (by decide +kernel)⟩
theorem lw_p35 : lw_okq (⟨"HeapQueriesModel", "reach", "(I)I"⟩, 38) := ⟨⟨by decide +kernel, by decide +kernel⟩, List.mem_of_getElem? (i := 649) (by decide +kernel), List.mem_of_getElem? (i := 799) (by decide +kernel), List.mem_of_getElem? (i := 800) (by decide +kernel)⟩
theorem lw_p36 : lw_okq (⟨"HeapQueriesModel", "immediate", "(I)I"⟩, 38) := ⟨⟨by decide +kernel, by decide +kernel⟩, List.mem_of_getElem? (i := 649) (by decide +kernel), List.mem_of_getElem? (i := 803) (by decide +kernel), List.mem_of_getElem? (i := 804) (by decide +kernel)⟩
theorem lw_p37 : lw_okq (⟨"HeapQueriesModel", "dominates", "(II)Z"⟩, 38) := ⟨⟨by decide +kernel, by decide +kernel⟩, List.mem_of_getElem? (i := 649) (by decide +kernel), List.mem_of_getElem? (i := 807) (by decide +kernel), List.mem_of_getElem? (i := 808) (by decide +kernel)⟩
theorem lw_p38 : lw_okq (⟨"HeapQueriesModel", "sum", "(I)I"⟩, 38) := ⟨⟨by decide +kernel, by decide +kernel⟩, List.mem_of_getElem? (i := 649) (by decide +kernel), List.mem_of_getElem? (i := 815) (by decide +kernel), List.mem_of_getElem? (i := 816) (by decide +kernel)⟩
theorem lw_p39 : lw_okq (⟨"HeapQueriesModel", "fits", "(II)Z"⟩, 38) := ⟨⟨by decide +kernel, by decide +kernel⟩, List.mem_of_getElem? (i := 649) (by decide +kernel), List.mem_of_getElem? (i := 823) (by decide +kernel), List.mem_of_getElem? (i := 824) (by decide +kernel)⟩
theorem lw_p40 : lw_okq (⟨"HeapQueriesModel", "start", "()V"⟩, 38) := ⟨⟨by decide +kernel, by decide +kernel⟩, List.mem_of_getElem? (i := 649) (by decide +kernel), List.mem_of_getElem? (i := 827) (by decide +kernel), List.mem_of_getElem? (i := 828) (by decide +kernel)⟩
theorem lw_p41 : lw_okq (⟨"HeapQueriesModel", "step", "(I)Z"⟩, 38) := ⟨⟨by decide +kernel, by decide +kernel⟩, List.mem_of_getElem? (i := 649) (by decide +kernel), List.mem_of_getElem? (i := 831) (by decide +kernel), List.mem_of_getElem? (i := 832) (by decide +kernel)⟩
theorem lw_p42 : lw_okq (⟨"HeapQueriesModel", "push", "(I)V"⟩, 38) := ⟨⟨by decide +kernel, by decide +kernel⟩, List.mem_of_getElem? (i := 649) (by decide +kernel), List.mem_of_getElem? (i := 835) (by decide +kernel), List.mem_of_getElem? (i := 836) (by decide +kernel)⟩
theorem lw_p43 : lw_okq (⟨"HeapQueriesModel", "becomes", "(I)Z"⟩, 38) := ⟨⟨by decide +kernel, by decide +kernel⟩, List.mem_of_getElem? (i := 649) (by decide +kernel), List.mem_of_getElem? (i := 839) (by decide +kernel), List.mem_of_getElem? (i := 840) (by decide +kernel)⟩
theorem lw_p44 : lw_okq (⟨"HeapQueriesModel", "operand", "(I)Z"⟩, 38) := ⟨⟨by decide +kernel, by decide +kernel⟩, List.mem_of_getElem? (i := 649) (by decide +kernel), List.mem_of_getElem? (i := 843) (by decide +kernel), List.mem_of_getElem? (i := 844) (by decide +kernel)⟩
theorem lw_p45 : lw_okq (⟨"HeapQueriesModel", "behind", "(I)Z"⟩, 38) := ⟨⟨by decide +kernel, by decide +kernel⟩, List.mem_of_getElem? (i := 649) (by decide +kernel), List.mem_of_getElem? (i := 847) (by decide +kernel), List.mem_of_getElem? (i := 848) (by decide +kernel)⟩
theorem lw_p46 : lw_okq (⟨"HeapQueriesModel", "ends", "(I)Z"⟩, 38) := ⟨⟨by decide +kernel, by decide +kernel⟩, List.mem_of_getElem? (i := 649) (by decide +kernel), List.mem_of_getElem? (i := 851) (by decide +kernel), List.mem_of_getElem? (i := 852) (by decide +kernel)⟩
theorem lw_p47 : lw_okq (⟨"HeapQueriesModel", "notice", "(II)V"⟩, 38) := ⟨⟨by decide +kernel, by decide +kernel⟩, List.mem_of_getElem? (i := 649) (by decide +kernel), List.mem_of_getElem? (i := 871) (by decide +kernel), List.mem_of_getElem? (i := 872) (by decide +kernel)⟩
def lw_privs_3 : List (MethodName × Nat) := [(⟨"HeapQueries$Worker", "hasRowSince", "(IJ)Z"⟩, 3), (⟨"HeapQueriesModel", "there", "(I)Z"⟩, 38), (⟨"HeapQueriesModel", "keepSets", "()V"⟩, 38), (⟨"HeapQueriesModel", "reach", "(I)I"⟩, 38), (⟨"HeapQueriesModel", "immediate", "(I)I"⟩, 38), (⟨"HeapQueriesModel", "dominates", "(II)Z"⟩, 38), (⟨"HeapQueriesModel", "sum", "(I)I"⟩, 38), (⟨"HeapQueriesModel", "fits", "(II)Z"⟩, 38), (⟨"HeapQueriesModel", "start", "()V"⟩, 38), (⟨"HeapQueriesModel", "step", "(I)Z"⟩, 38), (⟨"HeapQueriesModel", "push", "(I)V"⟩, 38), (⟨"HeapQueriesModel", "becomes", "(I)Z"⟩, 38), (⟨"HeapQueriesModel", "operand", "(I)Z"⟩, 38), (⟨"HeapQueriesModel", "behind", "(I)Z"⟩, 38), (⟨"HeapQueriesModel", "ends", "(I)Z"⟩, 38), (⟨"HeapQueriesModel", "notice", "(II)V"⟩, 38)]
theorem lw_r3 : ∀ q ∈ lw_privs_3, lw_okq q := List.forall_mem_cons.mpr ⟨lw_p32, List.forall_mem_cons.mpr ⟨lw_p33, List.forall_mem_cons.mpr ⟨lw_p34, List.forall_mem_cons.mpr ⟨lw_p35, List.forall_mem_cons.mpr ⟨lw_p36, List.forall_mem_cons.mpr ⟨lw_p37, List.forall_mem_cons.mpr ⟨lw_p38, List.forall_mem_cons.mpr ⟨lw_p39, List.forall_mem_cons.mpr ⟨lw_p40, List.forall_mem_cons.mpr ⟨lw_p41, List.forall_mem_cons.mpr ⟨lw_p42, List.forall_mem_cons.mpr ⟨lw_p43, List.forall_mem_cons.mpr ⟨lw_p44, List.forall_mem_cons.mpr ⟨lw_p45, List.forall_mem_cons.mpr ⟨lw_p46, List.forall_mem_cons.mpr ⟨lw_p47, fun _ h => absurd h List.not_mem_nil⟩⟩⟩⟩⟩⟩⟩⟩⟩⟩⟩⟩⟩⟩⟩⟩
theorem lw_p48 : lw_okq (⟨"HeapQueriesModel", "select", "()V"⟩, 38) := ⟨⟨by decide +kernel, by decide +kernel⟩, List.mem_of_getElem? (i := 649) (by decide +kernel), List.mem_of_getElem? (i := 875) (by decide +kernel), List.mem_of_getElem? (i := 876) (by decide +kernel)⟩
theorem lw_p49 : lw_okq (⟨"HeapQueriesModel", "gather", "()V"⟩, 38) := ⟨⟨by decide +kernel, by decide +kernel⟩, List.mem_of_getElem? (i := 649) (by decide +kernel), List.mem_of_getElem? (i := 879) (by decide +kernel), List.mem_of_getElem? (i := 880) (by decide +kernel)⟩
theorem lw_p50 : lw_okq (⟨"HeapQueriesModel", "under", "(II)Z"⟩, 38) := ⟨⟨by decide +kernel, by decide +kernel⟩, List.mem_of_getElem? (i := 649) (by decide +kernel), List.mem_of_getElem? (i := 883) (by decide +kernel), List.mem_of_getElem? (i := 884) (by decide +kernel)⟩
theorem lw_p51 : lw_okq (⟨"HeapQueriesModel", "look", "(I)V"⟩, 38) := ⟨⟨by decide +kernel, by decide +kernel⟩, List.mem_of_getElem? (i := 649) (by decide +kernel), List.mem_of_getElem? (i := 887) (by decide +kernel), List.mem_of_getElem? (i := 888) (by decide +kernel)⟩
theorem lw_p52 : lw_okq (⟨"HeapQueriesModel", "work", "(II)V"⟩, 38) := ⟨⟨by decide +kernel, by decide +kernel⟩, List.mem_of_getElem? (i := 649) (by decide +kernel), List.mem_of_getElem? (i := 891) (by decide +kernel), List.mem_of_getElem? (i := 892) (by decide +kernel)⟩
theorem lw_p53 : lw_okq (⟨"HeapQueriesModel", "take", "(II)Z"⟩, 38) := ⟨⟨by decide +kernel, by decide +kernel⟩, List.mem_of_getElem? (i := 649) (by decide +kernel), List.mem_of_getElem? (i := 895) (by decide +kernel), List.mem_of_getElem? (i := 896) (by decide +kernel)⟩
theorem lw_p54 : lw_okq (⟨"HeapQueriesModel", "apply", "(I)V"⟩, 38) := ⟨⟨by decide +kernel, by decide +kernel⟩, List.mem_of_getElem? (i := 649) (by decide +kernel), List.mem_of_getElem? (i := 899) (by decide +kernel), List.mem_of_getElem? (i := 900) (by decide +kernel)⟩
theorem lw_p55 : lw_okq (⟨"HeapQueriesModel", "truth", "(I)V"⟩, 38) := ⟨⟨by decide +kernel, by decide +kernel⟩, List.mem_of_getElem? (i := 649) (by decide +kernel), List.mem_of_getElem? (i := 906) (by decide +kernel), List.mem_of_getElem? (i := 907) (by decide +kernel)⟩
theorem lw_p56 : lw_okq (⟨"HeapQueriesModel", "give", "(III)V"⟩, 38) := ⟨⟨by decide +kernel, by decide +kernel⟩, List.mem_of_getElem? (i := 649) (by decide +kernel), List.mem_of_getElem? (i := 910) (by decide +kernel), List.mem_of_getElem? (i := 911) (by decide +kernel)⟩
theorem lw_p57 : lw_okq (⟨"HeapQueriesModel", "pair", "(I)V"⟩, 38) := ⟨⟨by decide +kernel, by decide +kernel⟩, List.mem_of_getElem? (i := 649) (by decide +kernel), List.mem_of_getElem? (i := 914) (by decide +kernel), List.mem_of_getElem? (i := 915) (by decide +kernel)⟩
theorem lw_p58 : lw_okq (⟨"HeapQueriesModel", "along", "(II)V"⟩, 38) := ⟨⟨by decide +kernel, by decide +kernel⟩, List.mem_of_getElem? (i := 649) (by decide +kernel), List.mem_of_getElem? (i := 918) (by decide +kernel), List.mem_of_getElem? (i := 919) (by decide +kernel)⟩
theorem lw_p59 : lw_okq (⟨"HeapQueriesModel", "hold", "(I)V"⟩, 38) := ⟨⟨by decide +kernel, by decide +kernel⟩, List.mem_of_getElem? (i := 649) (by decide +kernel), List.mem_of_getElem? (i := 922) (by decide +kernel), List.mem_of_getElem? (i := 923) (by decide +kernel)⟩
theorem lw_p60 : lw_okq (⟨"HeapQueriesModel", "branch", "(I)V"⟩, 38) := ⟨⟨by decide +kernel, by decide +kernel⟩, List.mem_of_getElem? (i := 649) (by decide +kernel), List.mem_of_getElem? (i := 926) (by decide +kernel), List.mem_of_getElem? (i := 927) (by decide +kernel)⟩
theorem lw_p61 : lw_okq (⟨"HeapQueriesModel", "numbers", "(I)V"⟩, 38) := ⟨⟨by decide +kernel, by decide +kernel⟩, List.mem_of_getElem? (i := 649) (by decide +kernel), List.mem_of_getElem? (i := 933) (by decide +kernel), List.mem_of_getElem? (i := 934) (by decide +kernel)⟩
theorem lw_p62 : lw_okq (⟨"HeapQueriesModel", "retain", "(I)V"⟩, 38) := ⟨⟨by decide +kernel, by decide +kernel⟩, List.mem_of_getElem? (i := 649) (by decide +kernel), List.mem_of_getElem? (i := 937) (by decide +kernel), List.mem_of_getElem? (i := 938) (by decide +kernel)⟩
theorem lw_p63 : lw_okq (⟨"HeapQueriesModel", "single", "(I)V"⟩, 38) := ⟨⟨by decide +kernel, by decide +kernel⟩, List.mem_of_getElem? (i := 649) (by decide +kernel), List.mem_of_getElem? (i := 941) (by decide +kernel), List.mem_of_getElem? (i := 942) (by decide +kernel)⟩
def lw_privs_4 : List (MethodName × Nat) := [(⟨"HeapQueriesModel", "select", "()V"⟩, 38), (⟨"HeapQueriesModel", "gather", "()V"⟩, 38), (⟨"HeapQueriesModel", "under", "(II)Z"⟩, 38), (⟨"HeapQueriesModel", "look", "(I)V"⟩, 38), (⟨"HeapQueriesModel", "work", "(II)V"⟩, 38), (⟨"HeapQueriesModel", "take", "(II)Z"⟩, 38), (⟨"HeapQueriesModel", "apply", "(I)V"⟩, 38), (⟨"HeapQueriesModel", "truth", "(I)V"⟩, 38), (⟨"HeapQueriesModel", "give", "(III)V"⟩, 38), (⟨"HeapQueriesModel", "pair", "(I)V"⟩, 38), (⟨"HeapQueriesModel", "along", "(II)V"⟩, 38), (⟨"HeapQueriesModel", "hold", "(I)V"⟩, 38), (⟨"HeapQueriesModel", "branch", "(I)V"⟩, 38), (⟨"HeapQueriesModel", "numbers", "(I)V"⟩, 38), (⟨"HeapQueriesModel", "retain", "(I)V"⟩, 38), (⟨"HeapQueriesModel", "single", "(I)V"⟩, 38)]
theorem lw_r4 : ∀ q ∈ lw_privs_4, lw_okq q := List.forall_mem_cons.mpr ⟨lw_p48, List.forall_mem_cons.mpr ⟨lw_p49, List.forall_mem_cons.mpr ⟨lw_p50, List.forall_mem_cons.mpr ⟨lw_p51, List.forall_mem_cons.mpr ⟨lw_p52, List.forall_mem_cons.mpr ⟨lw_p53, List.forall_mem_cons.mpr ⟨lw_p54, List.forall_mem_cons.mpr ⟨lw_p55, List.forall_mem_cons.mpr ⟨lw_p56, List.forall_mem_cons.mpr ⟨lw_p57, List.forall_mem_cons.mpr ⟨lw_p58, List.forall_mem_cons.mpr ⟨lw_p59, List.forall_mem_cons.mpr ⟨lw_p60, List.forall_mem_cons.mpr ⟨lw_p61, List.forall_mem_cons.mpr ⟨lw_p62, List.forall_mem_cons.mpr ⟨lw_p63, fun _ h => absurd h List.not_mem_nil⟩⟩⟩⟩⟩⟩⟩⟩⟩⟩⟩⟩⟩⟩⟩⟩
theorem lw_p64 : lw_okq (⟨"HeapQueriesModel", "row", "(I)Z"⟩, 38) := ⟨⟨by decide +kernel, by decide +kernel⟩, List.mem_of_getElem? (i := 649) (by decide +kernel), List.mem_of_getElem? (i := 953) (by decide +kernel), List.mem_of_getElem? (i := 954) (by decide +kernel)⟩
def lw_privs_5 : List (MethodName × Nat) := [(⟨"HeapQueriesModel", "row", "(I)Z"⟩, 38)]
theorem lw_r5 : ∀ q ∈ lw_privs_5, lw_okq q := List.forall_mem_cons.mpr ⟨lw_p64, fun _ h => absurd h List.not_mem_nil⟩
def lw_privs : List (MethodName × Nat) := lw_privs_1 ++ (lw_privs_2 ++ (lw_privs_3 ++ (lw_privs_4 ++ (lw_privs_5))))
def lw_tbl : List Cond := k2_sels lw_privs ++ tables_1
theorem lw_privs_ok : ∀ q ∈ lw_privs, lw_okq q := by
  show ∀ q ∈ lw_privs_1 ++ (lw_privs_2 ++ (lw_privs_3 ++ (lw_privs_4 ++ (lw_privs_5)))), lw_okq q
  exact List.forall_mem_append.mpr ⟨lw_r1, List.forall_mem_append.mpr ⟨lw_r2, List.forall_mem_append.mpr ⟨lw_r3, List.forall_mem_append.mpr ⟨lw_r4, lw_r5⟩⟩⟩⟩
end
section
def hq_tbl : List Cond := lw_tbl.filter goodWord
def hT_m : u_T := fun k => match k with
  | 0 => ("HeapQueriesModel", "classes", "I", false)
  | 1 => ("HeapQueriesModel", "parent", "[I", false)
  | 2 => ("HeapQueriesModel", "objects", "I", false)
  | 3 => ("HeapQueriesModel", "kindOf", "[I", false)
  | 4 => ("HeapQueriesModel", "size", "[I", false)
  | 5 => ("HeapQueriesModel", "root", "[Z", false)
  | 6 => ("HeapQueriesModel", "slotKind", "[I", false)
  | 7 => ("HeapQueriesModel", "slot", "[I", false)
  | 8 => ("HeapQueriesModel", "kept", "[I", false)
  | 9 => ("HeapQueriesModel", "count", "I", false)
  | 10 => ("HeapQueriesModel", "code", "[I", false)
  | 11 => ("HeapQueriesModel", "number", "[I", false)
  | 12 => ("HeapQueriesModel", "want", "I", false)
  | 13 => ("HeapQueriesModel", "compared", "Z", false)
  | 14 => ("HeapQueriesModel", "open", "I", false)
  | 15 => ("HeapQueriesModel", "opened", "[I", false)
  | 16 => ("HeapQueriesModel", "rowCount", "I", false)
  | 17 => ("HeapQueriesModel", "rowKind", "[I", false)
  | 18 => ("HeapQueriesModel", "rowValue", "[I", false)
  | 19 => ("HeapQueriesModel", "many", "I", false)
  | 20 => ("HeapQueriesModel", "list", "[I", false)
  | 21 => ("HeapQueriesModel", "seen", "I", false)
  | 22 => ("HeapQueriesModel", "fail", "I", false)
  | 23 => ("HeapQueriesModel", "level", "I", false)
  | 24 => ("HeapQueriesModel", "from", "[I", false)
  | 25 => ("HeapQueriesModel", "eAt", "[I", false)
  | 26 => ("HeapQueriesModel", "whereAt", "[I", false)
  | 27 => ("HeapQueriesModel", "source", "[I", false)
  | 28 => ("HeapQueriesModel", "distinct", "[Z", false)
  | 29 => ("HeapQueriesModel", "keeps", "[Z", false)
  | 30 => ("HeapQueriesModel", "at", "I", false)
  | 31 => ("HeapQueriesModel", "self", "I", false)
  | 32 => ("HeapQueriesModel", "brackets", "I", false)
  | 33 => ("HeapQueriesModel", "values", "I", false)
  | 34 => ("HeapQueriesModel", "vKind", "[I", false)
  | 35 => ("HeapQueriesModel", "v", "[I", false)
  | 36 => ("HeapQueriesModel", "waiting", "I", false)
  | _ => ("HeapQueriesModel", "waits", "[I", false)
def hty_m : Nat → FieldType := fun k => match k with
  | 0 => .int
  | 1 => .array .int
  | 2 => .int
  | 3 => .array .int
  | 4 => .array .int
  | 5 => .array .boolean
  | 6 => .array .int
  | 7 => .array .int
  | 8 => .array .int
  | 9 => .int
  | 10 => .array .int
  | 11 => .array .int
  | 12 => .int
  | 13 => .boolean
  | 14 => .int
  | 15 => .array .int
  | 16 => .int
  | 17 => .array .int
  | 18 => .array .int
  | 19 => .int
  | 20 => .array .int
  | 21 => .int
  | 22 => .int
  | 23 => .int
  | 24 => .array .int
  | 25 => .array .int
  | 26 => .array .int
  | 27 => .array .int
  | 28 => .array .boolean
  | 29 => .array .boolean
  | 30 => .int
  | 31 => .int
  | 32 => .int
  | 33 => .int
  | 34 => .array .int
  | 35 => .array .int
  | 36 => .int
  | _ => .array .int
theorem hnm_m : ∀ a, a < 38 → ∀ b, b < 38 → a ≠ b → (hT_m a).2.1 ≠ (hT_m b).2.1 := by decide +kernel
theorem hty_m_ok : ∀ k, k < 38 → parseFieldDescriptor (hT_m k).2.2.1 = some (hty_m k) := by decide +kernel
theorem hin_m : ∀ w ∈ u_ws "HeapQueriesModel" hT_m 38, w ∈ hq_tbl := by
  have h : (u_ws "HeapQueriesModel" hT_m 38).all (fun w => decide (w ∈ hq_tbl)) = true := by decide +kernel
  exact fun w hw => of_decide_eq_true (List.all_eq_true.mp h w hw)
def hT_xq : u_T := fun k => match k with
  | 0 => ("HeapQueries", "heap", "LHeapQueries$Heap;", true)
  | 1 => ("HeapQueries", "text", "LHeapQueries$Text;", true)
  | 2 => ("HeapQueries", "worker", "LHeapQueries$Worker;", true)
  | _ => ("HeapQueries", "query", "LHeapQueries$Select;", false)
def hty_xq : Nat → FieldType := fun k => match k with
  | 0 => .object "HeapQueries$Heap"
  | 1 => .object "HeapQueries$Text"
  | 2 => .object "HeapQueries$Worker"
  | _ => .object "HeapQueries$Select"
theorem hnm_xq : ∀ a, a < 4 → ∀ b, b < 4 → a ≠ b → (hT_xq a).2.1 ≠ (hT_xq b).2.1 := by decide +kernel
theorem hty_xq_ok : ∀ k, k < 4 → parseFieldDescriptor (hT_xq k).2.2.1 = some (hty_xq k) := by decide +kernel
theorem hin_xq : ∀ w ∈ u_ws "HeapQueries" hT_xq 4, w ∈ hq_tbl := by
  have h : (u_ws "HeapQueries" hT_xq 4).all (fun w => decide (w ∈ hq_tbl)) = true := by decide +kernel
  exact fun w hw => of_decide_eq_true (List.all_eq_true.mp h w hw)
def hT_xh : u_T := fun k => match k with
  | 0 => ("HeapQueries$Heap", "parents", "[I", true)
  | 1 => ("HeapQueries$Heap", "classCount", "I", false)
  | 2 => ("HeapQueries$Heap", "classes", "[I", true)
  | 3 => ("HeapQueries$Heap", "sizes", "[I", true)
  | 4 => ("HeapQueries$Heap", "fields", "[J", true)
  | 5 => ("HeapQueries$Heap", "objectCount", "I", false)
  | 6 => ("HeapQueries$Heap", "roots", "I", false)
  | 7 => ("HeapQueries$Heap", "survey", "LHeapQueries$Survey;", true)
  | _ => ("HeapQueries$Heap", "changed", "Z", false)
def hty_xh : Nat → FieldType := fun k => match k with
  | 0 => .array .int
  | 1 => .int
  | 2 => .array .int
  | 3 => .array .int
  | 4 => .array .long
  | 5 => .int
  | 6 => .int
  | 7 => .object "HeapQueries$Survey"
  | _ => .boolean
theorem hnm_xh : ∀ a, a < 9 → ∀ b, b < 9 → a ≠ b → (hT_xh a).2.1 ≠ (hT_xh b).2.1 := by decide +kernel
theorem hty_xh_ok : ∀ k, k < 9 → parseFieldDescriptor (hT_xh k).2.2.1 = some (hty_xh k) := by decide +kernel
theorem hin_xh : ∀ w ∈ u_ws "HeapQueries$Heap" hT_xh 9, w ∈ hq_tbl := by
  have h : (u_ws "HeapQueries$Heap" hT_xh 9).all (fun w => decide (w ∈ hq_tbl)) = true := by decide +kernel
  exact fun w hw => of_decide_eq_true (List.all_eq_true.mp h w hw)
def hT_xs : u_T := fun k => match k with
  | 0 => ("HeapQueries$Survey", "linkedFrom", "[I", true)
  | 1 => ("HeapQueries$Survey", "linkCounts", "[I", true)
  | 2 => ("HeapQueries$Survey", "retainedSets", "[I", true)
  | 3 => ("HeapQueries$Survey", "retainedSizes", "[I", true)
  | 4 => ("HeapQueries$Survey", "dominators", "[I", true)
  | 5 => ("HeapQueries$Survey", "immediateDominators", "[I", true)
  | 6 => ("HeapQueries$Survey", "objectCount", "I", false)
  | 7 => ("HeapQueries$Survey", "roots", "I", false)
  | _ => ("HeapQueries$Survey", "reachable", "I", false)
def hty_xs : Nat → FieldType := fun k => match k with
  | 0 => .array .int
  | 1 => .array .int
  | 2 => .array .int
  | 3 => .array .int
  | 4 => .array .int
  | 5 => .array .int
  | 6 => .int
  | 7 => .int
  | _ => .int
theorem hnm_xs : ∀ a, a < 9 → ∀ b, b < 9 → a ≠ b → (hT_xs a).2.1 ≠ (hT_xs b).2.1 := by decide +kernel
theorem hty_xs_ok : ∀ k, k < 9 → parseFieldDescriptor (hT_xs k).2.2.1 = some (hty_xs k) := by decide +kernel
theorem hin_xs : ∀ w ∈ u_ws "HeapQueries$Survey" hT_xs 9, w ∈ hq_tbl := by
  have h : (u_ws "HeapQueries$Survey" hT_xs 9).all (fun w => decide (w ∈ hq_tbl)) = true := by decide +kernel
  exact fun w hw => of_decide_eq_true (List.all_eq_true.mp h w hw)
def hT_xt : u_T := fun k => match k with
  | 0 => ("HeapQueries$Text", "codes", "[I", true)
  | 1 => ("HeapQueries$Text", "numbers", "[I", true)
  | 2 => ("HeapQueries$Text", "count", "I", false)
  | 3 => ("HeapQueries$Text", "brackets", "[I", true)
  | 4 => ("HeapQueries$Text", "bracketCount", "I", false)
  | 5 => ("HeapQueries$Text", "place", "I", false)
  | 6 => ("HeapQueries$Text", "inWhere", "Z", false)
  | _ => ("HeapQueries$Text", "compared", "Z", false)
def hty_xt : Nat → FieldType := fun k => match k with
  | 0 => .array .int
  | 1 => .array .int
  | 2 => .int
  | 3 => .array .int
  | 4 => .int
  | 5 => .int
  | 6 => .boolean
  | _ => .boolean
theorem hnm_xt : ∀ a, a < 8 → ∀ b, b < 8 → a ≠ b → (hT_xt a).2.1 ≠ (hT_xt b).2.1 := by decide +kernel
theorem hty_xt_ok : ∀ k, k < 8 → parseFieldDescriptor (hT_xt k).2.2.1 = some (hty_xt k) := by decide +kernel
theorem hin_xt : ∀ w ∈ u_ws "HeapQueries$Text" hT_xt 8, w ∈ hq_tbl := by
  have h : (u_ws "HeapQueries$Text" hT_xt 8).all (fun w => decide (w ∈ hq_tbl)) = true := by decide +kernel
  exact fun w hw => of_decide_eq_true (List.all_eq_true.mp h w hw)
def hT_xw : u_T := fun k => match k with
  | 0 => ("HeapQueries$Worker", "rows", "[J", true)
  | 1 => ("HeapQueries$Worker", "count", "I", false)
  | _ => ("HeapQueries$Worker", "looks", "I", false)
def hty_xw : Nat → FieldType := fun k => match k with
  | 0 => .array .long
  | 1 => .int
  | _ => .int
theorem hnm_xw : ∀ a, a < 3 → ∀ b, b < 3 → a ≠ b → (hT_xw a).2.1 ≠ (hT_xw b).2.1 := by decide +kernel
theorem hty_xw_ok : ∀ k, k < 3 → parseFieldDescriptor (hT_xw k).2.2.1 = some (hty_xw k) := by decide +kernel
theorem hin_xw : ∀ w ∈ u_ws "HeapQueries$Worker" hT_xw 3, w ∈ hq_tbl := by
  have h : (u_ws "HeapQueries$Worker" hT_xw 3).all (fun w => decide (w ∈ hq_tbl)) = true := by decide +kernel
  exact fun w hw => of_decide_eq_true (List.all_eq_true.mp h w hw)
def hT_xl : u_T := fun k => match k with
  | 0 => ("HeapQueries$Select", "isDistinct", "Z", false)
  | 1 => ("HeapQueries$Select", "isRetained", "Z", false)
  | 2 => ("HeapQueries$Select", "row", "LHeapQueries$Node;", false)
  | 3 => ("HeapQueries$Select", "nested", "LHeapQueries$Select;", false)
  | 4 => ("HeapQueries$Select", "sourceClass", "I", false)
  | 5 => ("HeapQueries$Select", "withDescendants", "Z", false)
  | 6 => ("HeapQueries$Select", "condition", "LHeapQueries$Node;", false)
  | _ => ("HeapQueries$Select", "next", "LHeapQueries$Select;", false)
def hty_xl : Nat → FieldType := fun k => match k with
  | 0 => .boolean
  | 1 => .boolean
  | 2 => .object "HeapQueries$Node"
  | 3 => .object "HeapQueries$Select"
  | 4 => .int
  | 5 => .boolean
  | 6 => .object "HeapQueries$Node"
  | _ => .object "HeapQueries$Select"
theorem hnm_xl : ∀ a, a < 8 → ∀ b, b < 8 → a ≠ b → (hT_xl a).2.1 ≠ (hT_xl b).2.1 := by decide +kernel
theorem hty_xl_ok : ∀ k, k < 8 → parseFieldDescriptor (hT_xl k).2.2.1 = some (hty_xl k) := by decide +kernel
theorem hin_xl : ∀ w ∈ u_ws "HeapQueries$Select" hT_xl 8, w ∈ hq_tbl := by
  have h : (u_ws "HeapQueries$Select" hT_xl 8).all (fun w => decide (w ∈ hq_tbl)) = true := by decide +kernel
  exact fun w hw => of_decide_eq_true (List.all_eq_true.mp h w hw)
def hT_xn : u_T := fun k => match k with
  | 0 => ("HeapQueries$Node", "code", "I", true)
  | 1 => ("HeapQueries$Node", "number", "I", true)
  | 2 => ("HeapQueries$Node", "left", "LHeapQueries$Node;", true)
  | _ => ("HeapQueries$Node", "right", "LHeapQueries$Node;", true)
def hty_xn : Nat → FieldType := fun k => match k with
  | 0 => .int
  | 1 => .int
  | 2 => .object "HeapQueries$Node"
  | _ => .object "HeapQueries$Node"
theorem hnm_xn : ∀ a, a < 4 → ∀ b, b < 4 → a ≠ b → (hT_xn a).2.1 ≠ (hT_xn b).2.1 := by decide +kernel
theorem hty_xn_ok : ∀ k, k < 4 → parseFieldDescriptor (hT_xn k).2.2.1 = some (hty_xn k) := by decide +kernel
theorem hin_xn : ∀ w ∈ u_ws "HeapQueries$Node" hT_xn 4, w ∈ hq_tbl := by
  have h : (u_ws "HeapQueries$Node" hT_xn 4).all (fun w => decide (w ∈ hq_tbl)) = true := by decide +kernel
  exact fun w hw => of_decide_eq_true (List.all_eq_true.mp h w hw)
def hT_xr : u_T := fun k => match k with
  | 0 => ("HeapQueries$Reader", "text", "LHeapQueries$Text;", true)
  | _ => ("HeapQueries$Reader", "at", "I", false)
def hty_xr : Nat → FieldType := fun k => match k with
  | 0 => .object "HeapQueries$Text"
  | _ => .int
theorem hnm_xr : ∀ a, a < 2 → ∀ b, b < 2 → a ≠ b → (hT_xr a).2.1 ≠ (hT_xr b).2.1 := by decide +kernel
theorem hty_xr_ok : ∀ k, k < 2 → parseFieldDescriptor (hT_xr k).2.2.1 = some (hty_xr k) := by decide +kernel
theorem hin_xr : ∀ w ∈ u_ws "HeapQueries$Reader" hT_xr 2, w ∈ hq_tbl := by
  have h : (u_ws "HeapQueries$Reader" hT_xr 2).all (fun w => decide (w ∈ hq_tbl)) = true := by decide +kernel
  exact fun w hw => of_decide_eq_true (List.all_eq_true.mp h w hw)
def hq_cl : List vw_C := [("HeapQueriesModel", hT_m, 38), ("HeapQueries", hT_xq, 4), ("HeapQueries$Heap", hT_xh, 9), ("HeapQueries$Survey", hT_xs, 9), ("HeapQueries$Text", hT_xt, 8), ("HeapQueries$Worker", hT_xw, 3), ("HeapQueries$Select", hT_xl, 8), ("HeapQueries$Node", hT_xn, 4), ("HeapQueries$Reader", hT_xr, 2)]
abbrev bxq_init : ByteArray := prog_1_method_1_code
def yxq_init : MethodName := ⟨"HeapQueries", "<init>", "()V"⟩
abbrev bxq_addClass : ByteArray := prog_1_method_2_code
def yxq_addClass : MethodName := ⟨"HeapQueries", "addClass", "(I)I"⟩
abbrev bxq_addObject : ByteArray := prog_1_method_3_code
def yxq_addObject : MethodName := ⟨"HeapQueries", "addObject", "(II)I"⟩
abbrev bxq_set : ByteArray := prog_1_method_4_code
def yxq_set : MethodName := ⟨"HeapQueries", "set", "(IIII)Z"⟩
abbrev bxq_setRoot : ByteArray := prog_1_method_5_code
def yxq_setRoot : MethodName := ⟨"HeapQueries", "setRoot", "(IZ)Z"⟩
abbrev bxq_dominator : ByteArray := prog_1_method_6_code
def yxq_dominator : MethodName := ⟨"HeapQueries", "dominator", "(I)I"⟩
abbrev bxq_retained : ByteArray := prog_1_method_7_code
def yxq_retained : MethodName := ⟨"HeapQueries", "retained", "(I)I"⟩
abbrev bxq_token : ByteArray := prog_1_method_8_code
def yxq_token : MethodName := ⟨"HeapQueries", "token", "(II)Z"⟩
abbrev bxq_isNumberAllowed : ByteArray := prog_1_method_9_code
def yxq_isNumberAllowed : MethodName := ⟨"HeapQueries", "isNumberAllowed", "(II)Z"⟩
abbrev bxq_tokens : ByteArray := prog_1_method_10_code
def yxq_tokens : MethodName := ⟨"HeapQueries", "tokens", "()I"⟩
abbrev bxq_depth : ByteArray := prog_1_method_11_code
def yxq_depth : MethodName := ⟨"HeapQueries", "depth", "()I"⟩
abbrev bxq_clear : ByteArray := prog_1_method_12_code
def yxq_clear : MethodName := ⟨"HeapQueries", "clear", "()V"⟩
abbrev bxq_run : ByteArray := prog_1_method_13_code
def yxq_run : MethodName := ⟨"HeapQueries", "run", "()I"⟩
abbrev bxq_rows : ByteArray := prog_1_method_14_code
def yxq_rows : MethodName := ⟨"HeapQueries", "rows", "()I"⟩
abbrev bxq_kind : ByteArray := prog_1_method_15_code
def yxq_kind : MethodName := ⟨"HeapQueries", "kind", "(I)I"⟩
abbrev bxq_value : ByteArray := prog_1_method_16_code
def yxq_value : MethodName := ⟨"HeapQueries", "value", "(I)I"⟩
abbrev bxq_looked : ByteArray := prog_1_method_17_code
def yxq_looked : MethodName := ⟨"HeapQueries", "looked", "()I"⟩
abbrev bm_init : ByteArray := prog_12_method_1_code
def ym_init : MethodName := ⟨"HeapQueriesModel", "<init>", "()V"⟩
abbrev bm_addClass : ByteArray := prog_12_method_2_code
def ym_addClass : MethodName := ⟨"HeapQueriesModel", "addClass", "(I)I"⟩
abbrev bm_addObject : ByteArray := prog_12_method_3_code
def ym_addObject : MethodName := ⟨"HeapQueriesModel", "addObject", "(II)I"⟩
abbrev bm_there : ByteArray := prog_12_method_4_code
def ym_there : MethodName := ⟨"HeapQueriesModel", "there", "(I)Z"⟩
abbrev bm_set : ByteArray := prog_12_method_5_code
def ym_set : MethodName := ⟨"HeapQueriesModel", "set", "(IIII)Z"⟩
abbrev bm_setRoot : ByteArray := prog_12_method_6_code
def ym_setRoot : MethodName := ⟨"HeapQueriesModel", "setRoot", "(IZ)Z"⟩
abbrev bm_reach : ByteArray := prog_12_method_7_code
def ym_reach : MethodName := ⟨"HeapQueriesModel", "reach", "(I)I"⟩
abbrev bm_keepSets : ByteArray := prog_12_method_8_code
def ym_keepSets : MethodName := ⟨"HeapQueriesModel", "keepSets", "()V"⟩
abbrev bm_sum : ByteArray := prog_12_method_9_code
def ym_sum : MethodName := ⟨"HeapQueriesModel", "sum", "(I)I"⟩
abbrev bm_dominates : ByteArray := prog_12_method_10_code
def ym_dominates : MethodName := ⟨"HeapQueriesModel", "dominates", "(II)Z"⟩
abbrev bm_immediate : ByteArray := prog_12_method_11_code
def ym_immediate : MethodName := ⟨"HeapQueriesModel", "immediate", "(I)I"⟩
abbrev bm_dominator : ByteArray := prog_12_method_12_code
def ym_dominator : MethodName := ⟨"HeapQueriesModel", "dominator", "(I)I"⟩
abbrev bm_retained : ByteArray := prog_12_method_13_code
def ym_retained : MethodName := ⟨"HeapQueriesModel", "retained", "(I)I"⟩
abbrev bm_start : ByteArray := prog_12_method_14_code
def ym_start : MethodName := ⟨"HeapQueriesModel", "start", "()V"⟩
abbrev bm_push : ByteArray := prog_12_method_15_code
def ym_push : MethodName := ⟨"HeapQueriesModel", "push", "(I)V"⟩
abbrev bm_becomes : ByteArray := prog_12_method_16_code
def ym_becomes : MethodName := ⟨"HeapQueriesModel", "becomes", "(I)Z"⟩
abbrev bm_step : ByteArray := prog_12_method_17_code
def ym_step : MethodName := ⟨"HeapQueriesModel", "step", "(I)Z"⟩
abbrev bm_operand : ByteArray := prog_12_method_18_code
def ym_operand : MethodName := ⟨"HeapQueriesModel", "operand", "(I)Z"⟩
abbrev bm_behind : ByteArray := prog_12_method_19_code
def ym_behind : MethodName := ⟨"HeapQueriesModel", "behind", "(I)Z"⟩
abbrev bm_ends : ByteArray := prog_12_method_20_code
def ym_ends : MethodName := ⟨"HeapQueriesModel", "ends", "(I)Z"⟩
abbrev bm_fits : ByteArray := prog_12_method_21_code
def ym_fits : MethodName := ⟨"HeapQueriesModel", "fits", "(II)Z"⟩
abbrev bm_token : ByteArray := prog_12_method_22_code
def ym_token : MethodName := ⟨"HeapQueriesModel", "token", "(II)Z"⟩
abbrev bm_tokens : ByteArray := prog_12_method_23_code
def ym_tokens : MethodName := ⟨"HeapQueriesModel", "tokens", "()I"⟩
abbrev bm_depth : ByteArray := prog_12_method_24_code
def ym_depth : MethodName := ⟨"HeapQueriesModel", "depth", "()I"⟩
abbrev bm_clear : ByteArray := prog_12_method_25_code
def ym_clear : MethodName := ⟨"HeapQueriesModel", "clear", "()V"⟩
abbrev bm_run : ByteArray := prog_12_method_26_code
def ym_run : MethodName := ⟨"HeapQueriesModel", "run", "()I"⟩
abbrev bm_notice : ByteArray := prog_12_method_27_code
def ym_notice : MethodName := ⟨"HeapQueriesModel", "notice", "(II)V"⟩
abbrev bm_numbers : ByteArray := prog_12_method_28_code
def ym_numbers : MethodName := ⟨"HeapQueriesModel", "numbers", "(I)V"⟩
abbrev bm_under : ByteArray := prog_12_method_29_code
def ym_under : MethodName := ⟨"HeapQueriesModel", "under", "(II)Z"⟩
abbrev bm_gather : ByteArray := prog_12_method_30_code
def ym_gather : MethodName := ⟨"HeapQueriesModel", "gather", "()V"⟩
abbrev bm_select : ByteArray := prog_12_method_31_code
def ym_select : MethodName := ⟨"HeapQueriesModel", "select", "()V"⟩
abbrev bm_look : ByteArray := prog_12_method_32_code
def ym_look : MethodName := ⟨"HeapQueriesModel", "look", "(I)V"⟩
abbrev bm_retain : ByteArray := prog_12_method_33_code
def ym_retain : MethodName := ⟨"HeapQueriesModel", "retain", "(I)V"⟩
abbrev bm_single : ByteArray := prog_12_method_34_code
def ym_single : MethodName := ⟨"HeapQueriesModel", "single", "(I)V"⟩
abbrev bm_work : ByteArray := prog_12_method_35_code
def ym_work : MethodName := ⟨"HeapQueriesModel", "work", "(II)V"⟩
abbrev bm_give : ByteArray := prog_12_method_36_code
def ym_give : MethodName := ⟨"HeapQueriesModel", "give", "(III)V"⟩
abbrev bm_hold : ByteArray := prog_12_method_37_code
def ym_hold : MethodName := ⟨"HeapQueriesModel", "hold", "(I)V"⟩
abbrev bm_take : ByteArray := prog_12_method_38_code
def ym_take : MethodName := ⟨"HeapQueriesModel", "take", "(II)Z"⟩
abbrev bm_rank : ByteArray := prog_12_method_39_code
def ym_rank : MethodName := ⟨"HeapQueriesModel", "rank", "(I)I"⟩
abbrev bm_apply : ByteArray := prog_12_method_40_code
def ym_apply : MethodName := ⟨"HeapQueriesModel", "apply", "(I)V"⟩
abbrev bm_truth : ByteArray := prog_12_method_41_code
def ym_truth : MethodName := ⟨"HeapQueriesModel", "truth", "(I)V"⟩
abbrev bm_pair : ByteArray := prog_12_method_42_code
def ym_pair : MethodName := ⟨"HeapQueriesModel", "pair", "(I)V"⟩
abbrev bm_branch : ByteArray := prog_12_method_43_code
def ym_branch : MethodName := ⟨"HeapQueriesModel", "branch", "(I)V"⟩
abbrev bm_stops : ByteArray := prog_12_method_44_code
def ym_stops : MethodName := ⟨"HeapQueriesModel", "stops", "(II)Z"⟩
abbrev bm_along : ByteArray := prog_12_method_45_code
def ym_along : MethodName := ⟨"HeapQueriesModel", "along", "(II)V"⟩
abbrev bm_rows : ByteArray := prog_12_method_46_code
def ym_rows : MethodName := ⟨"HeapQueriesModel", "rows", "()I"⟩
abbrev bm_row : ByteArray := prog_12_method_47_code
def ym_row : MethodName := ⟨"HeapQueriesModel", "row", "(I)Z"⟩
abbrev bm_kind : ByteArray := prog_12_method_48_code
def ym_kind : MethodName := ⟨"HeapQueriesModel", "kind", "(I)I"⟩
abbrev bm_value : ByteArray := prog_12_method_49_code
def ym_value : MethodName := ⟨"HeapQueriesModel", "value", "(I)I"⟩
abbrev bm_looked : ByteArray := prog_12_method_50_code
def ym_looked : MethodName := ⟨"HeapQueriesModel", "looked", "()I"⟩
abbrev bxc_valueOf : ByteArray := prog_2_method_2_code
def yxc_valueOf : MethodName := ⟨"HeapQueries$Calculator", "valueOf", "(LHeapQueries$Heap;LHeapQueries$Node;II)J"⟩
abbrev bxc_valueOfLeaf : ByteArray := prog_2_method_3_code
def yxc_valueOfLeaf : MethodName := ⟨"HeapQueries$Calculator", "valueOfLeaf", "(LHeapQueries$Node;I)J"⟩
abbrev bxc_valueOfUnary : ByteArray := prog_2_method_4_code
def yxc_valueOfUnary : MethodName := ⟨"HeapQueries$Calculator", "valueOfUnary", "(LHeapQueries$Heap;LHeapQueries$Node;J)J"⟩
abbrev bxc_factOf : ByteArray := prog_2_method_5_code
def yxc_factOf : MethodName := ⟨"HeapQueries$Calculator", "factOf", "(LHeapQueries$Heap;II)J"⟩
abbrev bxc_settles : ByteArray := prog_2_method_6_code
def yxc_settles : MethodName := ⟨"HeapQueries$Calculator", "settles", "(IJ)Z"⟩
abbrev bxc_valueOfBinary : ByteArray := prog_2_method_7_code
def yxc_valueOfBinary : MethodName := ⟨"HeapQueries$Calculator", "valueOfBinary", "(IJJ)J"⟩
abbrev bxc_valueOfArithmetic : ByteArray := prog_2_method_8_code
def yxc_valueOfArithmetic : MethodName := ⟨"HeapQueries$Calculator", "valueOfArithmetic", "(IJJ)J"⟩
abbrev bxh_init : ByteArray := prog_3_method_1_code
def yxh_init : MethodName := ⟨"HeapQueries$Heap", "<init>", "()V"⟩
abbrev bxh_makeClass : ByteArray := prog_3_method_2_code
def yxh_makeClass : MethodName := ⟨"HeapQueries$Heap", "makeClass", "(I)I"⟩
abbrev bxh_makeObject : ByteArray := prog_3_method_3_code
def yxh_makeObject : MethodName := ⟨"HeapQueries$Heap", "makeObject", "(II)I"⟩
abbrev bxh_putField : ByteArray := prog_3_method_4_code
def yxh_putField : MethodName := ⟨"HeapQueries$Heap", "putField", "(IIJ)V"⟩
abbrev bxh_markRoot : ByteArray := prog_3_method_5_code
def yxh_markRoot : MethodName := ⟨"HeapQueries$Heap", "markRoot", "(IZ)V"⟩
abbrev bxh_hasClass : ByteArray := prog_3_method_6_code
def yxh_hasClass : MethodName := ⟨"HeapQueries$Heap", "hasClass", "(I)Z"⟩
abbrev bxh_hasObject : ByteArray := prog_3_method_7_code
def yxh_hasObject : MethodName := ⟨"HeapQueries$Heap", "hasObject", "(I)Z"⟩
abbrev bxh_size : ByteArray := prog_3_method_8_code
def yxh_size : MethodName := ⟨"HeapQueries$Heap", "size", "()I"⟩
abbrev bxh_roots : ByteArray := prog_3_method_9_code
def yxh_roots : MethodName := ⟨"HeapQueries$Heap", "roots", "()I"⟩
abbrev bxh_classOf : ByteArray := prog_3_method_10_code
def yxh_classOf : MethodName := ⟨"HeapQueries$Heap", "classOf", "(I)I"⟩
abbrev bxh_sizeOf : ByteArray := prog_3_method_11_code
def yxh_sizeOf : MethodName := ⟨"HeapQueries$Heap", "sizeOf", "(I)I"⟩
abbrev bxh_fieldOf : ByteArray := prog_3_method_12_code
def yxh_fieldOf : MethodName := ⟨"HeapQueries$Heap", "fieldOf", "(II)J"⟩
abbrev bxh_isInstance : ByteArray := prog_3_method_13_code
def yxh_isInstance : MethodName := ⟨"HeapQueries$Heap", "isInstance", "(II)Z"⟩
abbrev bxh_refreshSurvey : ByteArray := prog_3_method_14_code
def yxh_refreshSurvey : MethodName := ⟨"HeapQueries$Heap", "refreshSurvey", "()V"⟩
abbrev bxn_init : ByteArray := prog_4_method_1_code
def yxn_init : MethodName := ⟨"HeapQueries$Node", "<init>", "(IILHeapQueries$Node;LHeapQueries$Node;)V"⟩
abbrev bxr_init : ByteArray := prog_5_method_1_code
def yxr_init : MethodName := ⟨"HeapQueries$Reader", "<init>", "(LHeapQueries$Text;)V"⟩
abbrev bxr_readQuery : ByteArray := prog_5_method_2_code
def yxr_readQuery : MethodName := ⟨"HeapQueries$Reader", "readQuery", "(I)LHeapQueries$Select;"⟩
abbrev bxr_readSelect : ByteArray := prog_5_method_3_code
def yxr_readSelect : MethodName := ⟨"HeapQueries$Reader", "readSelect", "(I)LHeapQueries$Select;"⟩
abbrev bxr_readE : ByteArray := prog_5_method_4_code
def yxr_readE : MethodName := ⟨"HeapQueries$Reader", "readE", "(II)LHeapQueries$Node;"⟩
abbrev bxr_readM : ByteArray := prog_5_method_5_code
def yxr_readM : MethodName := ⟨"HeapQueries$Reader", "readM", "(I)LHeapQueries$Node;"⟩
abbrev bxr_readStep : ByteArray := prog_5_method_6_code
def yxr_readStep : MethodName := ⟨"HeapQueries$Reader", "readStep", "(LHeapQueries$Node;)LHeapQueries$Node;"⟩
abbrev bxr_code : ByteArray := prog_5_method_7_code
def yxr_code : MethodName := ⟨"HeapQueries$Reader", "code", "()I"⟩
abbrev bxr_skip : ByteArray := prog_5_method_8_code
def yxr_skip : MethodName := ⟨"HeapQueries$Reader", "skip", "(I)Z"⟩
abbrev bxr_levelOf : ByteArray := prog_5_method_9_code
def yxr_levelOf : MethodName := ⟨"HeapQueries$Reader", "levelOf", "(I)I"⟩
abbrev bxl_init : ByteArray := prog_6_method_1_code
def yxl_init : MethodName := ⟨"HeapQueries$Select", "<init>", "()V"⟩
abbrev bxs_init : ByteArray := prog_7_method_1_code
def yxs_init : MethodName := ⟨"HeapQueries$Survey", "<init>", "()V"⟩
abbrev bxs_takeOf : ByteArray := prog_7_method_2_code
def yxs_takeOf : MethodName := ⟨"HeapQueries$Survey", "takeOf", "(LHeapQueries$Heap;)V"⟩
abbrev bxs_retainedSizeOf : ByteArray := prog_7_method_3_code
def yxs_retainedSizeOf : MethodName := ⟨"HeapQueries$Survey", "retainedSizeOf", "(I)I"⟩
abbrev bxs_linkCountOf : ByteArray := prog_7_method_4_code
def yxs_linkCountOf : MethodName := ⟨"HeapQueries$Survey", "linkCountOf", "(I)I"⟩
abbrev bxs_immediateDominatorOf : ByteArray := prog_7_method_5_code
def yxs_immediateDominatorOf : MethodName := ⟨"HeapQueries$Survey", "immediateDominatorOf", "(I)I"⟩
abbrev bxs_retainedBy : ByteArray := prog_7_method_6_code
def yxs_retainedBy : MethodName := ⟨"HeapQueries$Survey", "retainedBy", "(I)I"⟩
abbrev bxs_findLinks : ByteArray := prog_7_method_7_code
def yxs_findLinks : MethodName := ⟨"HeapQueries$Survey", "findLinks", "(LHeapQueries$Heap;)V"⟩
abbrev bxs_reachableWithout : ByteArray := prog_7_method_8_code
def yxs_reachableWithout : MethodName := ⟨"HeapQueries$Survey", "reachableWithout", "(I)I"⟩
abbrev bxs_sizeOfSet : ByteArray := prog_7_method_9_code
def yxs_sizeOfSet : MethodName := ⟨"HeapQueries$Survey", "sizeOfSet", "(LHeapQueries$Heap;I)I"⟩
abbrev bxs_findDominators : ByteArray := prog_7_method_10_code
def yxs_findDominators : MethodName := ⟨"HeapQueries$Survey", "findDominators", "(I)I"⟩
abbrev bxs_findImmediateDominator : ByteArray := prog_7_method_11_code
def yxs_findImmediateDominator : MethodName := ⟨"HeapQueries$Survey", "findImmediateDominator", "(I)I"⟩
abbrev bxt_init : ByteArray := prog_8_method_1_code
def yxt_init : MethodName := ⟨"HeapQueries$Text", "<init>", "()V"⟩
abbrev bxt_length : ByteArray := prog_8_method_2_code
def yxt_length : MethodName := ⟨"HeapQueries$Text", "length", "()I"⟩
abbrev bxt_openBrackets : ByteArray := prog_8_method_3_code
def yxt_openBrackets : MethodName := ⟨"HeapQueries$Text", "openBrackets", "()I"⟩
abbrev bxt_codeAt : ByteArray := prog_8_method_4_code
def yxt_codeAt : MethodName := ⟨"HeapQueries$Text", "codeAt", "(I)I"⟩
abbrev bxt_numberAt : ByteArray := prog_8_method_5_code
def yxt_numberAt : MethodName := ⟨"HeapQueries$Text", "numberAt", "(I)I"⟩
abbrev bxt_forget : ByteArray := prog_8_method_6_code
def yxt_forget : MethodName := ⟨"HeapQueries$Text", "forget", "()V"⟩
abbrev bxt_take : ByteArray := prog_8_method_7_code
def yxt_take : MethodName := ⟨"HeapQueries$Text", "take", "(II)Z"⟩
abbrev bxt_placeAfter : ByteArray := prog_8_method_8_code
def yxt_placeAfter : MethodName := ⟨"HeapQueries$Text", "placeAfter", "(I)I"⟩
abbrev bxt_placeAfterDistinct : ByteArray := prog_8_method_9_code
def yxt_placeAfterDistinct : MethodName := ⟨"HeapQueries$Text", "placeAfterDistinct", "(I)I"⟩
abbrev bxt_placeInS : ByteArray := prog_8_method_10_code
def yxt_placeInS : MethodName := ⟨"HeapQueries$Text", "placeInS", "(I)I"⟩
abbrev bxt_placeAfterU : ByteArray := prog_8_method_11_code
def yxt_placeAfterU : MethodName := ⟨"HeapQueries$Text", "placeAfterU", "(I)I"⟩
abbrev bxt_placeAfterE : ByteArray := prog_8_method_12_code
def yxt_placeAfterE : MethodName := ⟨"HeapQueries$Text", "placeAfterE", "(I)I"⟩
abbrev bxt_placeInSource : ByteArray := prog_8_method_13_code
def yxt_placeInSource : MethodName := ⟨"HeapQueries$Text", "placeInSource", "(I)I"⟩
abbrev bxt_placeAfterWholeSelect : ByteArray := prog_8_method_14_code
def yxt_placeAfterWholeSelect : MethodName := ⟨"HeapQueries$Text", "placeAfterWholeSelect", "(I)I"⟩
abbrev bxt_isInsideE : ByteArray := prog_8_method_15_code
def yxt_isInsideE : MethodName := ⟨"HeapQueries$Text", "isInsideE", "()Z"⟩
abbrev bxt_remember : ByteArray := prog_8_method_16_code
def yxt_remember : MethodName := ⟨"HeapQueries$Text", "remember", "(I)V"⟩
abbrev bxt_openBracket : ByteArray := prog_8_method_17_code
def yxt_openBracket : MethodName := ⟨"HeapQueries$Text", "openBracket", "()V"⟩
abbrev bxt_closeBracket : ByteArray := prog_8_method_18_code
def yxt_closeBracket : MethodName := ⟨"HeapQueries$Text", "closeBracket", "()V"⟩
abbrev bxv_number : ByteArray := prog_9_method_2_code
def yxv_number : MethodName := ⟨"HeapQueries$Value", "number", "(I)J"⟩
abbrev bxv_link : ByteArray := prog_9_method_3_code
def yxv_link : MethodName := ⟨"HeapQueries$Value", "link", "(I)J"⟩
abbrev bxv_error : ByteArray := prog_9_method_4_code
def yxv_error : MethodName := ⟨"HeapQueries$Value", "error", "(I)J"⟩
abbrev bxv_flag : ByteArray := prog_9_method_5_code
def yxv_flag : MethodName := ⟨"HeapQueries$Value", "flag", "(Z)J"⟩
abbrev bxv_kindOf : ByteArray := prog_9_method_6_code
def yxv_kindOf : MethodName := ⟨"HeapQueries$Value", "kindOf", "(J)I"⟩
abbrev bxv_contentOf : ByteArray := prog_9_method_7_code
def yxv_contentOf : MethodName := ⟨"HeapQueries$Value", "contentOf", "(J)I"⟩
abbrev bxv_isEmpty : ByteArray := prog_9_method_8_code
def yxv_isEmpty : MethodName := ⟨"HeapQueries$Value", "isEmpty", "(J)Z"⟩
abbrev bxv_isNumber : ByteArray := prog_9_method_9_code
def yxv_isNumber : MethodName := ⟨"HeapQueries$Value", "isNumber", "(J)Z"⟩
abbrev bxv_isLink : ByteArray := prog_9_method_10_code
def yxv_isLink : MethodName := ⟨"HeapQueries$Value", "isLink", "(J)Z"⟩
abbrev bxv_isError : ByteArray := prog_9_method_11_code
def yxv_isError : MethodName := ⟨"HeapQueries$Value", "isError", "(J)Z"⟩
abbrev bxv_truthOf : ByteArray := prog_9_method_12_code
def yxv_truthOf : MethodName := ⟨"HeapQueries$Value", "truthOf", "(J)J"⟩
abbrev bxw_init : ByteArray := prog_10_method_1_code
def yxw_init : MethodName := ⟨"HeapQueries$Worker", "<init>", "()V"⟩
abbrev bxw_rowCount : ByteArray := prog_10_method_2_code
def yxw_rowCount : MethodName := ⟨"HeapQueries$Worker", "rowCount", "()I"⟩
abbrev bxw_hasRow : ByteArray := prog_10_method_3_code
def yxw_hasRow : MethodName := ⟨"HeapQueries$Worker", "hasRow", "(I)Z"⟩
abbrev bxw_row : ByteArray := prog_10_method_4_code
def yxw_row : MethodName := ⟨"HeapQueries$Worker", "row", "(I)J"⟩
abbrev bxw_lookCount : ByteArray := prog_10_method_5_code
def yxw_lookCount : MethodName := ⟨"HeapQueries$Worker", "lookCount", "()I"⟩
abbrev bxw_begin : ByteArray := prog_10_method_6_code
def yxw_begin : MethodName := ⟨"HeapQueries$Worker", "begin", "()V"⟩
abbrev bxw_dropRows : ByteArray := prog_10_method_7_code
def yxw_dropRows : MethodName := ⟨"HeapQueries$Worker", "dropRows", "()V"⟩
abbrev bxw_addQuery : ByteArray := prog_10_method_8_code
def yxw_addQuery : MethodName := ⟨"HeapQueries$Worker", "addQuery", "(LHeapQueries$Heap;LHeapQueries$Select;I)I"⟩
abbrev bxw_addSelect : ByteArray := prog_10_method_9_code
def yxw_addSelect : MethodName := ⟨"HeapQueries$Worker", "addSelect", "(LHeapQueries$Heap;LHeapQueries$Select;I)I"⟩
abbrev bxw_addSource : ByteArray := prog_10_method_10_code
def yxw_addSource : MethodName := ⟨"HeapQueries$Worker", "addSource", "(LHeapQueries$Heap;LHeapQueries$Select;I)I"⟩
abbrev bxw_addObjectsOfClass : ByteArray := prog_10_method_11_code
def yxw_addObjectsOfClass : MethodName := ⟨"HeapQueries$Worker", "addObjectsOfClass", "(LHeapQueries$Heap;LHeapQueries$Select;)V"⟩
abbrev bxw_lookAtAll : ByteArray := prog_10_method_12_code
def yxw_lookAtAll : MethodName := ⟨"HeapQueries$Worker", "lookAtAll", "(LHeapQueries$Heap;LHeapQueries$Select;I)I"⟩
abbrev bxw_turnIntoRetained : ByteArray := prog_10_method_13_code
def yxw_turnIntoRetained : MethodName := ⟨"HeapQueries$Worker", "turnIntoRetained", "(LHeapQueries$Heap;I)I"⟩
abbrev bxw_leaveOutRepeated : ByteArray := prog_10_method_14_code
def yxw_leaveOutRepeated : MethodName := ⟨"HeapQueries$Worker", "leaveOutRepeated", "(I)V"⟩
abbrev bxw_leaveOutEmpty : ByteArray := prog_10_method_15_code
def yxw_leaveOutEmpty : MethodName := ⟨"HeapQueries$Worker", "leaveOutEmpty", "(I)V"⟩
abbrev bxw_hasNumber : ByteArray := prog_10_method_16_code
def yxw_hasNumber : MethodName := ⟨"HeapQueries$Worker", "hasNumber", "(I)Z"⟩
abbrev bxw_hasRowSince : ByteArray := prog_10_method_17_code
def yxw_hasRowSince : MethodName := ⟨"HeapQueries$Worker", "hasRowSince", "(IJ)Z"⟩
abbrev bxw_add : ByteArray := prog_10_method_18_code
def yxw_add : MethodName := ⟨"HeapQueries$Worker", "add", "(J)V"⟩
abbrev bjo_init : ByteArray := object_method_1_code
def yjo_init : MethodName := ⟨"java/lang/Object", "<init>", "()V"⟩
abbrev bjn_numberOfTrailingZeros : ByteArray := prog_13_method_48_code
def yjn_numberOfTrailingZeros : MethodName := ⟨"java/lang/Integer", "numberOfTrailingZeros", "(I)I"⟩
end
section
theorem wi_0 : Cond.fieldLink "HeapQueries$Heap" 32 "HeapQueries$Heap" "classCount" "I" ∈ hq_tbl := List.mem_filter.mpr ⟨List.mem_of_getElem? (i := 129) (by decide +kernel), rfl⟩
theorem wi_1 : Cond.fieldLink "HeapQueries$Heap" 9 "HeapQueries$Heap" "parents" "[I" ∈ hq_tbl := List.mem_filter.mpr ⟨List.mem_of_getElem? (i := 128) (by decide +kernel), rfl⟩
theorem wi_2 : Cond.methodLink "HeapQueries$Heap" 36 yxh_hasClass ∈ hq_tbl := List.mem_filter.mpr ⟨List.mem_of_getElem? (i := 227) (by decide +kernel), rfl⟩
theorem wi_3 : Cond.fieldLink "HeapQueries" 12 "HeapQueries" "heap" "LHeapQueries$Heap;" ∈ hq_tbl := List.mem_filter.mpr ⟨List.mem_of_getElem? (i := 206) (by decide +kernel), rfl⟩
theorem wi_4 : Cond.methodLink "HeapQueries" 30 yxh_makeClass ∈ hq_tbl := List.mem_filter.mpr ⟨List.mem_of_getElem? (i := 223) (by decide +kernel), rfl⟩
theorem wi_5 : Cond.fieldLink "HeapQueries$Heap" 40 "HeapQueries$Heap" "objectCount" "I" ∈ hq_tbl := List.mem_filter.mpr ⟨List.mem_of_getElem? (i := 133) (by decide +kernel), rfl⟩
theorem wi_6 : Cond.fieldLink "HeapQueries$Heap" 15 "HeapQueries$Heap" "classes" "[I" ∈ hq_tbl := List.mem_filter.mpr ⟨List.mem_of_getElem? (i := 130) (by decide +kernel), rfl⟩
theorem wi_7 : Cond.fieldLink "HeapQueries$Heap" 18 "HeapQueries$Heap" "sizes" "[I" ∈ hq_tbl := List.mem_filter.mpr ⟨List.mem_of_getElem? (i := 131) (by decide +kernel), rfl⟩
theorem wi_8 : Cond.fieldLink "HeapQueries$Heap" 43 "HeapQueries$Heap" "changed" "Z" ∈ hq_tbl := List.mem_filter.mpr ⟨List.mem_of_getElem? (i := 139) (by decide +kernel), rfl⟩
theorem wi_9 : Cond.methodLink "HeapQueries" 34 yxh_makeObject ∈ hq_tbl := List.mem_filter.mpr ⟨List.mem_of_getElem? (i := 235) (by decide +kernel), rfl⟩
theorem wi_10 : Cond.fieldLink "HeapQueries$Heap" 21 "HeapQueries$Heap" "fields" "[J" ∈ hq_tbl := List.mem_filter.mpr ⟨List.mem_of_getElem? (i := 132) (by decide +kernel), rfl⟩
theorem wi_11 : Cond.constantLong "HeapQueries$Value" 11 4294967296 ∈ hq_tbl := List.mem_filter.mpr ⟨List.mem_of_getElem? (i := 254) (by decide +kernel), rfl⟩
theorem wi_12 : Cond.constantLong "HeapQueries$Value" 13 4294967295 ∈ hq_tbl := List.mem_filter.mpr ⟨List.mem_of_getElem? (i := 255) (by decide +kernel), rfl⟩
theorem wi_13 : Cond.constantLong "HeapQueries$Value" 15 8589934592 ∈ hq_tbl := List.mem_filter.mpr ⟨List.mem_of_getElem? (i := 259) (by decide +kernel), rfl⟩
theorem wi_14 : Cond.methodLink "HeapQueries" 38 yxh_hasObject ∈ hq_tbl := List.mem_filter.mpr ⟨List.mem_of_getElem? (i := 243) (by decide +kernel), rfl⟩
theorem wi_15 : Cond.methodLink "HeapQueries" 44 yxh_putField ∈ hq_tbl := List.mem_filter.mpr ⟨List.mem_of_getElem? (i := 247) (by decide +kernel), rfl⟩
theorem wi_16 : Cond.methodLink "HeapQueries" 48 yxv_number ∈ hq_tbl := List.mem_filter.mpr ⟨List.mem_of_getElem? (i := 251) (by decide +kernel), rfl⟩
theorem wi_17 : Cond.methodLink "HeapQueries" 52 yxv_link ∈ hq_tbl := List.mem_filter.mpr ⟨List.mem_of_getElem? (i := 256) (by decide +kernel), rfl⟩
theorem wi_18 : Cond.fieldLink "HeapQueries$Heap" 47 "HeapQueries$Heap" "roots" "I" ∈ hq_tbl := List.mem_filter.mpr ⟨List.mem_of_getElem? (i := 134) (by decide +kernel), rfl⟩
theorem wi_19 : Cond.methodLink "HeapQueries" 55 yxh_markRoot ∈ hq_tbl := List.mem_filter.mpr ⟨List.mem_of_getElem? (i := 264) (by decide +kernel), rfl⟩
theorem wi_20 : Cond.constantLong "HeapQueries$Value" 21 2 ∈ hq_tbl := List.mem_filter.mpr ⟨List.mem_of_getElem? (i := 299) (by decide +kernel), rfl⟩
theorem wi_21 : Cond.methodLink "HeapQueries$Survey" 69 yxh_fieldOf ∈ hq_tbl := List.mem_filter.mpr ⟨List.mem_of_getElem? (i := 292) (by decide +kernel), rfl⟩
theorem wi_22 : Cond.methodLink "HeapQueries$Survey" 73 yxv_isLink ∈ hq_tbl := List.mem_filter.mpr ⟨List.mem_of_getElem? (i := 296) (by decide +kernel), rfl⟩
theorem wi_23 : Cond.methodLink "HeapQueries$Survey" 79 yxv_contentOf ∈ hq_tbl := List.mem_filter.mpr ⟨List.mem_of_getElem? (i := 300) (by decide +kernel), rfl⟩
theorem wi_24 : Cond.fieldLink "HeapQueries$Survey" 9 "HeapQueries$Survey" "linkedFrom" "[I" ∈ hq_tbl := List.mem_filter.mpr ⟨List.mem_of_getElem? (i := 98) (by decide +kernel), rfl⟩
theorem wi_25 : Cond.fieldLink "HeapQueries$Survey" 15 "HeapQueries$Survey" "linkCounts" "[I" ∈ hq_tbl := List.mem_filter.mpr ⟨List.mem_of_getElem? (i := 99) (by decide +kernel), rfl⟩
theorem wi_26 : Cond.fieldLink "HeapQueries$Survey" 36 "HeapQueries$Survey" "objectCount" "I" ∈ hq_tbl := List.mem_filter.mpr ⟨List.mem_of_getElem? (i := 104) (by decide +kernel), rfl⟩
theorem wi_27 : Cond.constant "java/lang/Integer" 264 65536 ∈ hq_tbl := List.mem_filter.mpr ⟨List.mem_of_getElem? (i := 310) (by decide +kernel), rfl⟩
theorem wi_28 : Cond.methodLink "HeapQueries$Survey" 83 yjn_numberOfTrailingZeros ∈ hq_tbl := List.mem_filter.mpr ⟨List.mem_of_getElem? (i := 307) (by decide +kernel), rfl⟩
theorem wi_29 : Cond.fieldLink "HeapQueries$Survey" 43 "HeapQueries$Survey" "roots" "I" ∈ hq_tbl := List.mem_filter.mpr ⟨List.mem_of_getElem? (i := 105) (by decide +kernel), rfl⟩
theorem wi_30 : Cond.fieldLink "HeapQueries$Survey" 53 "HeapQueries$Survey" "reachable" "I" ∈ hq_tbl := List.mem_filter.mpr ⟨List.mem_of_getElem? (i := 106) (by decide +kernel), rfl⟩
theorem wi_31 : Cond.methodLink "HeapQueries$Survey" 49 yxs_reachableWithout ∈ hq_tbl := List.mem_filter.mpr ⟨List.mem_of_getElem? (i := 303) (by decide +kernel), rfl⟩
theorem wi_32 : Cond.methodLink "HeapQueries$Survey" 88 yxh_sizeOf ∈ hq_tbl := List.mem_filter.mpr ⟨List.mem_of_getElem? (i := 319) (by decide +kernel), rfl⟩
theorem wi_33 : Cond.fieldLink "HeapQueries$Survey" 18 "HeapQueries$Survey" "retainedSets" "[I" ∈ hq_tbl := List.mem_filter.mpr ⟨List.mem_of_getElem? (i := 100) (by decide +kernel), rfl⟩
theorem wi_34 : Cond.fieldLink "HeapQueries$Survey" 24 "HeapQueries$Survey" "dominators" "[I" ∈ hq_tbl := List.mem_filter.mpr ⟨List.mem_of_getElem? (i := 102) (by decide +kernel), rfl⟩
theorem wi_35 : Cond.fieldLink "HeapQueries$Survey" 27 "HeapQueries$Survey" "immediateDominators" "[I" ∈ hq_tbl := List.mem_filter.mpr ⟨List.mem_of_getElem? (i := 103) (by decide +kernel), rfl⟩
theorem wi_36 : Cond.methodLink "HeapQueries$Survey" 66 yxs_findImmediateDominator ∈ hq_tbl := List.mem_filter.mpr ⟨List.mem_of_getElem? (i := 327) (by decide +kernel), rfl⟩
theorem wi_37 : Cond.methodLink "HeapQueries$Survey" 63 yxs_findDominators ∈ hq_tbl := List.mem_filter.mpr ⟨List.mem_of_getElem? (i := 323) (by decide +kernel), rfl⟩
theorem wi_38 : Cond.methodLink "HeapQueries$Survey" 56 yxs_retainedBy ∈ hq_tbl := List.mem_filter.mpr ⟨List.mem_of_getElem? (i := 311) (by decide +kernel), rfl⟩
theorem wi_39 : Cond.fieldLink "HeapQueries$Survey" 21 "HeapQueries$Survey" "retainedSizes" "[I" ∈ hq_tbl := List.mem_filter.mpr ⟨List.mem_of_getElem? (i := 101) (by decide +kernel), rfl⟩
theorem wi_40 : Cond.methodLink "HeapQueries$Survey" 59 yxs_sizeOfSet ∈ hq_tbl := List.mem_filter.mpr ⟨List.mem_of_getElem? (i := 315) (by decide +kernel), rfl⟩
theorem wi_41 : Cond.methodLink "HeapQueries$Survey" 30 yxh_size ∈ hq_tbl := List.mem_filter.mpr ⟨List.mem_of_getElem? (i := 280) (by decide +kernel), rfl⟩
theorem wi_42 : Cond.methodLink "HeapQueries$Survey" 40 yxh_roots ∈ hq_tbl := List.mem_filter.mpr ⟨List.mem_of_getElem? (i := 284) (by decide +kernel), rfl⟩
theorem wi_43 : Cond.methodLink "HeapQueries$Survey" 45 yxs_findLinks ∈ hq_tbl := List.mem_filter.mpr ⟨List.mem_of_getElem? (i := 288) (by decide +kernel), rfl⟩
theorem wi_44 : Cond.fieldLink "HeapQueries$Heap" 28 "HeapQueries$Heap" "survey" "LHeapQueries$Survey;" ∈ hq_tbl := List.mem_filter.mpr ⟨List.mem_of_getElem? (i := 135) (by decide +kernel), rfl⟩
theorem wi_45 : Cond.methodLink "HeapQueries$Heap" 50 yxs_takeOf ∈ hq_tbl := List.mem_filter.mpr ⟨List.mem_of_getElem? (i := 276) (by decide +kernel), rfl⟩
theorem wi_46 : Cond.methodLink "HeapQueries" 59 yxh_refreshSurvey ∈ hq_tbl := List.mem_filter.mpr ⟨List.mem_of_getElem? (i := 272) (by decide +kernel), rfl⟩
theorem wi_47 : Cond.fieldLink "HeapQueries" 62 "HeapQueries$Heap" "survey" "LHeapQueries$Survey;" ∈ hq_tbl := List.mem_filter.mpr ⟨List.mem_of_getElem? (i := 137) (by decide +kernel), rfl⟩
theorem wi_48 : Cond.methodLink "HeapQueries" 66 yxs_immediateDominatorOf ∈ hq_tbl := List.mem_filter.mpr ⟨List.mem_of_getElem? (i := 331) (by decide +kernel), rfl⟩
theorem wi_49 : Cond.methodLink "HeapQueries" 71 yxs_retainedSizeOf ∈ hq_tbl := List.mem_filter.mpr ⟨List.mem_of_getElem? (i := 339) (by decide +kernel), rfl⟩
theorem wi_50 : Cond.methodLink "HeapQueries" 94 yxh_hasClass ∈ hq_tbl := List.mem_filter.mpr ⟨List.mem_of_getElem? (i := 351) (by decide +kernel), rfl⟩
theorem wi_51 : Cond.fieldLink "HeapQueries$Text" 25 "HeapQueries$Text" "count" "I" ∈ hq_tbl := List.mem_filter.mpr ⟨List.mem_of_getElem? (i := 167) (by decide +kernel), rfl⟩
theorem wi_52 : Cond.fieldLink "HeapQueries" 19 "HeapQueries" "text" "LHeapQueries$Text;" ∈ hq_tbl := List.mem_filter.mpr ⟨List.mem_of_getElem? (i := 207) (by decide +kernel), rfl⟩
theorem wi_53 : Cond.methodLink "HeapQueries" 97 yxt_length ∈ hq_tbl := List.mem_filter.mpr ⟨List.mem_of_getElem? (i := 519) (by decide +kernel), rfl⟩
theorem wi_54 : Cond.fieldLink "HeapQueries$Text" 28 "HeapQueries$Text" "bracketCount" "I" ∈ hq_tbl := List.mem_filter.mpr ⟨List.mem_of_getElem? (i := 169) (by decide +kernel), rfl⟩
theorem wi_55 : Cond.methodLink "HeapQueries" 101 yxt_openBrackets ∈ hq_tbl := List.mem_filter.mpr ⟨List.mem_of_getElem? (i := 527) (by decide +kernel), rfl⟩
theorem wi_56 : Cond.fieldLink "HeapQueries$Worker" 15 "HeapQueries$Worker" "count" "I" ∈ hq_tbl := List.mem_filter.mpr ⟨List.mem_of_getElem? (i := 197) (by decide +kernel), rfl⟩
theorem wi_57 : Cond.fieldLink "HeapQueries" 26 "HeapQueries" "worker" "LHeapQueries$Worker;" ∈ hq_tbl := List.mem_filter.mpr ⟨List.mem_of_getElem? (i := 208) (by decide +kernel), rfl⟩
theorem wi_58 : Cond.methodLink "HeapQueries" 117 yxw_rowCount ∈ hq_tbl := List.mem_filter.mpr ⟨List.mem_of_getElem? (i := 677) (by decide +kernel), rfl⟩
theorem wi_59 : Cond.fieldLink "HeapQueries$Worker" 9 "HeapQueries$Worker" "rows" "[J" ∈ hq_tbl := List.mem_filter.mpr ⟨List.mem_of_getElem? (i := 196) (by decide +kernel), rfl⟩
theorem wi_60 : Cond.methodLink "HeapQueries" 120 yxw_hasRow ∈ hq_tbl := List.mem_filter.mpr ⟨List.mem_of_getElem? (i := 689) (by decide +kernel), rfl⟩
theorem wi_61 : Cond.methodLink "HeapQueries" 123 yxw_row ∈ hq_tbl := List.mem_filter.mpr ⟨List.mem_of_getElem? (i := 693) (by decide +kernel), rfl⟩
theorem wi_62 : Cond.methodLink "HeapQueries" 126 yxv_kindOf ∈ hq_tbl := List.mem_filter.mpr ⟨List.mem_of_getElem? (i := 697) (by decide +kernel), rfl⟩
theorem wi_63 : Cond.methodLink "HeapQueries" 130 yxv_contentOf ∈ hq_tbl := List.mem_filter.mpr ⟨List.mem_of_getElem? (i := 704) (by decide +kernel), rfl⟩
theorem wi_64 : Cond.fieldLink "HeapQueries$Worker" 19 "HeapQueries$Worker" "looks" "I" ∈ hq_tbl := List.mem_filter.mpr ⟨List.mem_of_getElem? (i := 198) (by decide +kernel), rfl⟩
theorem wi_65 : Cond.methodLink "HeapQueries" 133 yxw_lookCount ∈ hq_tbl := List.mem_filter.mpr ⟨List.mem_of_getElem? (i := 709) (by decide +kernel), rfl⟩
theorem wi_66 : Cond.fieldLink "HeapQueriesModel" 77 "HeapQueriesModel" "classes" "I" ∈ hq_tbl := List.mem_filter.mpr ⟨List.mem_of_getElem? (i := 719) (by decide +kernel), rfl⟩
theorem wi_67 : Cond.fieldLink "HeapQueriesModel" 7 "HeapQueriesModel" "parent" "[I" ∈ hq_tbl := List.mem_filter.mpr ⟨List.mem_of_getElem? (i := 720) (by decide +kernel), rfl⟩
theorem wi_68 : Cond.fieldLink "HeapQueriesModel" 81 "HeapQueriesModel" "objects" "I" ∈ hq_tbl := List.mem_filter.mpr ⟨List.mem_of_getElem? (i := 721) (by decide +kernel), rfl⟩
theorem wi_69 : Cond.fieldLink "HeapQueriesModel" 13 "HeapQueriesModel" "kindOf" "[I" ∈ hq_tbl := List.mem_filter.mpr ⟨List.mem_of_getElem? (i := 722) (by decide +kernel), rfl⟩
theorem wi_70 : Cond.fieldLink "HeapQueriesModel" 16 "HeapQueriesModel" "size" "[I" ∈ hq_tbl := List.mem_filter.mpr ⟨List.mem_of_getElem? (i := 723) (by decide +kernel), rfl⟩
theorem wi_71 : Cond.fieldLink "HeapQueriesModel" 23 "HeapQueriesModel" "slotKind" "[I" ∈ hq_tbl := List.mem_filter.mpr ⟨List.mem_of_getElem? (i := 725) (by decide +kernel), rfl⟩
theorem wi_72 : Cond.fieldLink "HeapQueriesModel" 26 "HeapQueriesModel" "slot" "[I" ∈ hq_tbl := List.mem_filter.mpr ⟨List.mem_of_getElem? (i := 726) (by decide +kernel), rfl⟩
theorem wi_73 : Cond.methodLink "HeapQueriesModel" 84 ym_there ∈ hq_tbl := List.mem_filter.mpr ⟨List.mem_of_getElem? (i := 847) (by decide +kernel), rfl⟩
theorem wi_74 : Cond.fieldLink "HeapQueriesModel" 19 "HeapQueriesModel" "root" "[Z" ∈ hq_tbl := List.mem_filter.mpr ⟨List.mem_of_getElem? (i := 724) (by decide +kernel), rfl⟩
theorem wi_75 : Cond.fieldLink "HeapQueriesModel" 29 "HeapQueriesModel" "kept" "[I" ∈ hq_tbl := List.mem_filter.mpr ⟨List.mem_of_getElem? (i := 727) (by decide +kernel), rfl⟩
theorem wi_76 : Cond.methodLink "HeapQueriesModel" 88 ym_reach ∈ hq_tbl := List.mem_filter.mpr ⟨List.mem_of_getElem? (i := 863) (by decide +kernel), rfl⟩
theorem wi_77 : Cond.methodLink "HeapQueriesModel" 92 ym_dominates ∈ hq_tbl := List.mem_filter.mpr ⟨List.mem_of_getElem? (i := 871) (by decide +kernel), rfl⟩
theorem wi_78 : Cond.methodLink "HeapQueriesModel" 96 ym_keepSets ∈ hq_tbl := List.mem_filter.mpr ⟨List.mem_of_getElem? (i := 859) (by decide +kernel), rfl⟩
theorem wi_79 : Cond.methodLink "HeapQueriesModel" 99 ym_immediate ∈ hq_tbl := List.mem_filter.mpr ⟨List.mem_of_getElem? (i := 867) (by decide +kernel), rfl⟩
theorem wi_80 : Cond.methodLink "HeapQueriesModel" 102 ym_sum ∈ hq_tbl := List.mem_filter.mpr ⟨List.mem_of_getElem? (i := 879) (by decide +kernel), rfl⟩
theorem wi_81 : Cond.fieldLink "HeapQueriesModel" 105 "HeapQueriesModel" "want" "I" ∈ hq_tbl := List.mem_filter.mpr ⟨List.mem_of_getElem? (i := 731) (by decide +kernel), rfl⟩
theorem wi_82 : Cond.fieldLink "HeapQueriesModel" 108 "HeapQueriesModel" "open" "I" ∈ hq_tbl := List.mem_filter.mpr ⟨List.mem_of_getElem? (i := 733) (by decide +kernel), rfl⟩
theorem wi_83 : Cond.fieldLink "HeapQueriesModel" 111 "HeapQueriesModel" "compared" "Z" ∈ hq_tbl := List.mem_filter.mpr ⟨List.mem_of_getElem? (i := 732) (by decide +kernel), rfl⟩
theorem wi_84 : Cond.fieldLink "HeapQueriesModel" 38 "HeapQueriesModel" "opened" "[I" ∈ hq_tbl := List.mem_filter.mpr ⟨List.mem_of_getElem? (i := 734) (by decide +kernel), rfl⟩
theorem wi_85 : Cond.methodLink "HeapQueriesModel" 115 ym_push ∈ hq_tbl := List.mem_filter.mpr ⟨List.mem_of_getElem? (i := 899) (by decide +kernel), rfl⟩
theorem wi_86 : Cond.methodLink "HeapQueriesModel" 119 ym_becomes ∈ hq_tbl := List.mem_filter.mpr ⟨List.mem_of_getElem? (i := 903) (by decide +kernel), rfl⟩
theorem wi_87 : Cond.methodLink "HeapQueriesModel" 128 ym_ends ∈ hq_tbl := List.mem_filter.mpr ⟨List.mem_of_getElem? (i := 915) (by decide +kernel), rfl⟩
theorem wi_88 : Cond.methodLink "HeapQueriesModel" 125 ym_behind ∈ hq_tbl := List.mem_filter.mpr ⟨List.mem_of_getElem? (i := 911) (by decide +kernel), rfl⟩
theorem wi_89 : Cond.methodLink "HeapQueriesModel" 122 ym_operand ∈ hq_tbl := List.mem_filter.mpr ⟨List.mem_of_getElem? (i := 907) (by decide +kernel), rfl⟩
theorem wi_90 : Cond.fieldLink "HeapQueriesModel" 131 "HeapQueriesModel" "count" "I" ∈ hq_tbl := List.mem_filter.mpr ⟨List.mem_of_getElem? (i := 728) (by decide +kernel), rfl⟩
theorem wi_91 : Cond.fieldLink "HeapQueriesModel" 32 "HeapQueriesModel" "code" "[I" ∈ hq_tbl := List.mem_filter.mpr ⟨List.mem_of_getElem? (i := 729) (by decide +kernel), rfl⟩
theorem wi_92 : Cond.methodLink "HeapQueriesModel" 140 ym_step ∈ hq_tbl := List.mem_filter.mpr ⟨List.mem_of_getElem? (i := 895) (by decide +kernel), rfl⟩
theorem wi_93 : Cond.methodLink "HeapQueriesModel" 134 ym_fits ∈ hq_tbl := List.mem_filter.mpr ⟨List.mem_of_getElem? (i := 887) (by decide +kernel), rfl⟩
theorem wi_94 : Cond.fieldLink "HeapQueriesModel" 35 "HeapQueriesModel" "number" "[I" ∈ hq_tbl := List.mem_filter.mpr ⟨List.mem_of_getElem? (i := 730) (by decide +kernel), rfl⟩
theorem wi_95 : Cond.methodLink "HeapQueriesModel" 137 ym_start ∈ hq_tbl := List.mem_filter.mpr ⟨List.mem_of_getElem? (i := 891) (by decide +kernel), rfl⟩
theorem wi_96 : Cond.fieldLink "HeapQueriesModel" 47 "HeapQueriesModel" "list" "[I" ∈ hq_tbl := List.mem_filter.mpr ⟨List.mem_of_getElem? (i := 739) (by decide +kernel), rfl⟩
theorem wi_97 : Cond.fieldLink "HeapQueriesModel" 165 "HeapQueriesModel" "many" "I" ∈ hq_tbl := List.mem_filter.mpr ⟨List.mem_of_getElem? (i := 738) (by decide +kernel), rfl⟩
theorem wi_98 : Cond.methodLink "HeapQueriesModel" 168 ym_under ∈ hq_tbl := List.mem_filter.mpr ⟨List.mem_of_getElem? (i := 947) (by decide +kernel), rfl⟩
theorem wi_99 : Cond.fieldLink "HeapQueriesModel" 149 "HeapQueriesModel" "rowCount" "I" ∈ hq_tbl := List.mem_filter.mpr ⟨List.mem_of_getElem? (i := 735) (by decide +kernel), rfl⟩
theorem wi_100 : Cond.fieldLink "HeapQueriesModel" 44 "HeapQueriesModel" "rowValue" "[I" ∈ hq_tbl := List.mem_filter.mpr ⟨List.mem_of_getElem? (i := 737) (by decide +kernel), rfl⟩
theorem wi_101 : Cond.fieldLink "HeapQueriesModel" 41 "HeapQueriesModel" "rowKind" "[I" ∈ hq_tbl := List.mem_filter.mpr ⟨List.mem_of_getElem? (i := 736) (by decide +kernel), rfl⟩
theorem wi_102 : Cond.fieldLink "HeapQueriesModel" 59 "HeapQueriesModel" "source" "[I" ∈ hq_tbl := List.mem_filter.mpr ⟨List.mem_of_getElem? (i := 746) (by decide +kernel), rfl⟩
theorem wi_103 : Cond.fieldLink "HeapQueriesModel" 152 "HeapQueriesModel" "level" "I" ∈ hq_tbl := List.mem_filter.mpr ⟨List.mem_of_getElem? (i := 742) (by decide +kernel), rfl⟩
theorem wi_104 : Cond.fieldLink "HeapQueriesModel" 50 "HeapQueriesModel" "from" "[I" ∈ hq_tbl := List.mem_filter.mpr ⟨List.mem_of_getElem? (i := 743) (by decide +kernel), rfl⟩
theorem wi_105 : Cond.fieldLink "HeapQueriesModel" 195 "HeapQueriesModel" "values" "I" ∈ hq_tbl := List.mem_filter.mpr ⟨List.mem_of_getElem? (i := 752) (by decide +kernel), rfl⟩
theorem wi_106 : Cond.fieldLink "HeapQueriesModel" 68 "HeapQueriesModel" "vKind" "[I" ∈ hq_tbl := List.mem_filter.mpr ⟨List.mem_of_getElem? (i := 753) (by decide +kernel), rfl⟩
theorem wi_107 : Cond.fieldLink "HeapQueriesModel" 71 "HeapQueriesModel" "v" "[I" ∈ hq_tbl := List.mem_filter.mpr ⟨List.mem_of_getElem? (i := 754) (by decide +kernel), rfl⟩
theorem wi_108 : Cond.methodLink "HeapQueriesModel" 207 ym_give ∈ hq_tbl := List.mem_filter.mpr ⟨List.mem_of_getElem? (i := 974) (by decide +kernel), rfl⟩
theorem wi_109 : Cond.fieldLink "HeapQueriesModel" 143 "HeapQueriesModel" "fail" "I" ∈ hq_tbl := List.mem_filter.mpr ⟨List.mem_of_getElem? (i := 741) (by decide +kernel), rfl⟩
theorem wi_110 : Cond.fieldLink "HeapQueriesModel" 198 "HeapQueriesModel" "waiting" "I" ∈ hq_tbl := List.mem_filter.mpr ⟨List.mem_of_getElem? (i := 755) (by decide +kernel), rfl⟩
theorem wi_111 : Cond.fieldLink "HeapQueriesModel" 74 "HeapQueriesModel" "waits" "[I" ∈ hq_tbl := List.mem_filter.mpr ⟨List.mem_of_getElem? (i := 756) (by decide +kernel), rfl⟩
theorem wi_112 : Cond.methodLink "HeapQueriesModel" 220 ym_rank ∈ hq_tbl := List.mem_filter.mpr ⟨List.mem_of_getElem? (i := 967) (by decide +kernel), rfl⟩
theorem wi_113 : Cond.methodLink "HeapQueriesModel" 226 ym_pair ∈ hq_tbl := List.mem_filter.mpr ⟨List.mem_of_getElem? (i := 978) (by decide +kernel), rfl⟩
theorem wi_114 : Cond.methodLink "HeapQueriesModel" 223 ym_truth ∈ hq_tbl := List.mem_filter.mpr ⟨List.mem_of_getElem? (i := 970) (by decide +kernel), rfl⟩
theorem wi_115 : Cond.fieldLink "HeapQueriesModel" 186 "HeapQueriesModel" "at" "I" ∈ hq_tbl := List.mem_filter.mpr ⟨List.mem_of_getElem? (i := 749) (by decide +kernel), rfl⟩
theorem wi_116 : Cond.methodLink "HeapQueriesModel" 229 ym_stops ∈ hq_tbl := List.mem_filter.mpr ⟨List.mem_of_getElem? (i := 994) (by decide +kernel), rfl⟩
theorem wi_117 : Cond.methodLink "HeapQueriesModel" 214 ym_hold ∈ hq_tbl := List.mem_filter.mpr ⟨List.mem_of_getElem? (i := 986) (by decide +kernel), rfl⟩
theorem wi_118 : Cond.methodLink "HeapQueriesModel" 204 ym_apply ∈ hq_tbl := List.mem_filter.mpr ⟨List.mem_of_getElem? (i := 963) (by decide +kernel), rfl⟩
theorem wi_119 : Cond.methodLink "HeapQueriesModel" 217 ym_branch ∈ hq_tbl := List.mem_filter.mpr ⟨List.mem_of_getElem? (i := 990) (by decide +kernel), rfl⟩
theorem wi_120 : Cond.methodLink "HeapQueriesModel" 211 ym_along ∈ hq_tbl := List.mem_filter.mpr ⟨List.mem_of_getElem? (i := 982) (by decide +kernel), rfl⟩
theorem wi_121 : Cond.fieldLink "HeapQueriesModel" 192 "HeapQueriesModel" "brackets" "I" ∈ hq_tbl := List.mem_filter.mpr ⟨List.mem_of_getElem? (i := 751) (by decide +kernel), rfl⟩
theorem wi_122 : Cond.fieldLink "HeapQueriesModel" 189 "HeapQueriesModel" "self" "I" ∈ hq_tbl := List.mem_filter.mpr ⟨List.mem_of_getElem? (i := 750) (by decide +kernel), rfl⟩
theorem wi_123 : Cond.methodLink "HeapQueriesModel" 201 ym_take ∈ hq_tbl := List.mem_filter.mpr ⟨List.mem_of_getElem? (i := 959) (by decide +kernel), rfl⟩
theorem wi_124 : Cond.fieldLink "HeapQueriesModel" 53 "HeapQueriesModel" "eAt" "[I" ∈ hq_tbl := List.mem_filter.mpr ⟨List.mem_of_getElem? (i := 744) (by decide +kernel), rfl⟩
theorem wi_125 : Cond.methodLink "HeapQueriesModel" 183 ym_work ∈ hq_tbl := List.mem_filter.mpr ⟨List.mem_of_getElem? (i := 955) (by decide +kernel), rfl⟩
theorem wi_126 : Cond.fieldLink "HeapQueriesModel" 146 "HeapQueriesModel" "seen" "I" ∈ hq_tbl := List.mem_filter.mpr ⟨List.mem_of_getElem? (i := 740) (by decide +kernel), rfl⟩
theorem wi_127 : Cond.fieldLink "HeapQueriesModel" 56 "HeapQueriesModel" "whereAt" "[I" ∈ hq_tbl := List.mem_filter.mpr ⟨List.mem_of_getElem? (i := 745) (by decide +kernel), rfl⟩
theorem wi_128 : Cond.fieldLink "HeapQueriesModel" 62 "HeapQueriesModel" "distinct" "[Z" ∈ hq_tbl := List.mem_filter.mpr ⟨List.mem_of_getElem? (i := 747) (by decide +kernel), rfl⟩
theorem wi_129 : Cond.methodLink "HeapQueriesModel" 180 ym_single ∈ hq_tbl := List.mem_filter.mpr ⟨List.mem_of_getElem? (i := 1005) (by decide +kernel), rfl⟩
theorem wi_130 : Cond.fieldLink "HeapQueriesModel" 65 "HeapQueriesModel" "keeps" "[Z" ∈ hq_tbl := List.mem_filter.mpr ⟨List.mem_of_getElem? (i := 748) (by decide +kernel), rfl⟩
theorem wi_131 : Cond.methodLink "HeapQueriesModel" 162 ym_numbers ∈ hq_tbl := List.mem_filter.mpr ⟨List.mem_of_getElem? (i := 997) (by decide +kernel), rfl⟩
theorem wi_132 : Cond.methodLink "HeapQueriesModel" 177 ym_retain ∈ hq_tbl := List.mem_filter.mpr ⟨List.mem_of_getElem? (i := 1001) (by decide +kernel), rfl⟩
theorem wi_133 : Cond.methodLink "HeapQueriesModel" 174 ym_look ∈ hq_tbl := List.mem_filter.mpr ⟨List.mem_of_getElem? (i := 951) (by decide +kernel), rfl⟩
theorem wi_134 : Cond.methodLink "HeapQueriesModel" 171 ym_gather ∈ hq_tbl := List.mem_filter.mpr ⟨List.mem_of_getElem? (i := 943) (by decide +kernel), rfl⟩
theorem wi_135 : Cond.methodLink "HeapQueriesModel" 159 ym_select ∈ hq_tbl := List.mem_filter.mpr ⟨List.mem_of_getElem? (i := 939) (by decide +kernel), rfl⟩
theorem wi_136 : Cond.methodLink "HeapQueriesModel" 155 ym_notice ∈ hq_tbl := List.mem_filter.mpr ⟨List.mem_of_getElem? (i := 935) (by decide +kernel), rfl⟩
theorem wi_137 : Cond.methodLink "HeapQueriesModel" 232 ym_row ∈ hq_tbl := List.mem_filter.mpr ⟨List.mem_of_getElem? (i := 1017) (by decide +kernel), rfl⟩
theorem wi_138 : Cond.fieldLink "HeapQueries$Calculator" 38 "HeapQueries$Node" "code" "I" ∈ hq_tbl := List.mem_filter.mpr ⟨List.mem_of_getElem? (i := 483) (by decide +kernel), rfl⟩
theorem wi_139 : Cond.fieldLink "HeapQueries$Calculator" 54 "HeapQueries$Node" "number" "I" ∈ hq_tbl := List.mem_filter.mpr ⟨List.mem_of_getElem? (i := 485) (by decide +kernel), rfl⟩
theorem wi_140 : Cond.methodLink "HeapQueries$Calculator" 57 yxv_number ∈ hq_tbl := List.mem_filter.mpr ⟨List.mem_of_getElem? (i := 604) (by decide +kernel), rfl⟩
theorem wi_141 : Cond.methodLink "HeapQueries$Calculator" 60 yxv_link ∈ hq_tbl := List.mem_filter.mpr ⟨List.mem_of_getElem? (i := 605) (by decide +kernel), rfl⟩
theorem wi_142 : Cond.constantLong "HeapQueries$Value" 23 3 ∈ hq_tbl := List.mem_filter.mpr ⟨List.mem_of_getElem? (i := 610) (by decide +kernel), rfl⟩
theorem wi_143 : Cond.constantLong "HeapQueries$Value" 17 12884901888 ∈ hq_tbl := List.mem_filter.mpr ⟨List.mem_of_getElem? (i := 622) (by decide +kernel), rfl⟩
theorem wi_144 : Cond.constantLong "HeapQueries$Value" 19 4294967297 ∈ hq_tbl := List.mem_filter.mpr ⟨List.mem_of_getElem? (i := 626) (by decide +kernel), rfl⟩
theorem wi_145 : Cond.methodLink "HeapQueries$Value" 25 yxv_isError ∈ hq_tbl := List.mem_filter.mpr ⟨List.mem_of_getElem? (i := 617) (by decide +kernel), rfl⟩
theorem wi_146 : Cond.methodLink "HeapQueries$Value" 29 yxv_isLink ∈ hq_tbl := List.mem_filter.mpr ⟨List.mem_of_getElem? (i := 618) (by decide +kernel), rfl⟩
theorem wi_147 : Cond.methodLink "HeapQueries$Value" 36 yxv_flag ∈ hq_tbl := List.mem_filter.mpr ⟨List.mem_of_getElem? (i := 623) (by decide +kernel), rfl⟩
theorem wi_148 : Cond.methodLink "HeapQueries$Value" 32 yxv_error ∈ hq_tbl := List.mem_filter.mpr ⟨List.mem_of_getElem? (i := 619) (by decide +kernel), rfl⟩
theorem wi_149 : Cond.methodLink "HeapQueries$Calculator" 96 yxh_classOf ∈ hq_tbl := List.mem_filter.mpr ⟨List.mem_of_getElem? (i := 638) (by decide +kernel), rfl⟩
theorem wi_150 : Cond.methodLink "HeapQueries$Calculator" 100 yxh_sizeOf ∈ hq_tbl := List.mem_filter.mpr ⟨List.mem_of_getElem? (i := 639) (by decide +kernel), rfl⟩
theorem wi_151 : Cond.fieldLink "HeapQueries$Calculator" 103 "HeapQueries$Heap" "survey" "LHeapQueries$Survey;" ∈ hq_tbl := List.mem_filter.mpr ⟨List.mem_of_getElem? (i := 136) (by decide +kernel), rfl⟩
theorem wi_152 : Cond.methodLink "HeapQueries$Calculator" 107 yxs_retainedSizeOf ∈ hq_tbl := List.mem_filter.mpr ⟨List.mem_of_getElem? (i := 640) (by decide +kernel), rfl⟩
theorem wi_153 : Cond.methodLink "HeapQueries$Calculator" 112 yxs_immediateDominatorOf ∈ hq_tbl := List.mem_filter.mpr ⟨List.mem_of_getElem? (i := 641) (by decide +kernel), rfl⟩
theorem wi_154 : Cond.methodLink "HeapQueries$Calculator" 115 yxs_linkCountOf ∈ hq_tbl := List.mem_filter.mpr ⟨List.mem_of_getElem? (i := 642) (by decide +kernel), rfl⟩
theorem wi_155 : Cond.methodLink "HeapQueries$Calculator" 69 yxv_isEmpty ∈ hq_tbl := List.mem_filter.mpr ⟨List.mem_of_getElem? (i := 629) (by decide +kernel), rfl⟩
theorem wi_156 : Cond.methodLink "HeapQueries$Calculator" 72 yxv_contentOf ∈ hq_tbl := List.mem_filter.mpr ⟨List.mem_of_getElem? (i := 630) (by decide +kernel), rfl⟩
theorem wi_157 : Cond.methodLink "HeapQueries$Calculator" 76 yxv_isLink ∈ hq_tbl := List.mem_filter.mpr ⟨List.mem_of_getElem? (i := 631) (by decide +kernel), rfl⟩
theorem wi_158 : Cond.methodLink "HeapQueries$Calculator" 85 yxv_error ∈ hq_tbl := List.mem_filter.mpr ⟨List.mem_of_getElem? (i := 633) (by decide +kernel), rfl⟩
theorem wi_159 : Cond.methodLink "HeapQueries$Calculator" 79 yxh_hasObject ∈ hq_tbl := List.mem_filter.mpr ⟨List.mem_of_getElem? (i := 632) (by decide +kernel), rfl⟩
theorem wi_160 : Cond.methodLink "HeapQueries$Calculator" 92 yxc_factOf ∈ hq_tbl := List.mem_filter.mpr ⟨List.mem_of_getElem? (i := 635) (by decide +kernel), rfl⟩
theorem wi_161 : Cond.methodLink "HeapQueries$Calculator" 88 yxh_fieldOf ∈ hq_tbl := List.mem_filter.mpr ⟨List.mem_of_getElem? (i := 634) (by decide +kernel), rfl⟩
theorem wi_162 : Cond.methodLink "HeapQueries$Calculator" 46 yxv_truthOf ∈ hq_tbl := List.mem_filter.mpr ⟨List.mem_of_getElem? (i := 614) (by decide +kernel), rfl⟩
theorem wi_163 : Cond.methodLink "HeapQueries$Calculator" 27 yxv_isError ∈ hq_tbl := List.mem_filter.mpr ⟨List.mem_of_getElem? (i := 607) (by decide +kernel), rfl⟩
theorem wi_164 : Cond.constantLong "HeapQueries$Calculator" 63 4294967296 ∈ hq_tbl := List.mem_filter.mpr ⟨List.mem_of_getElem? (i := 627) (by decide +kernel), rfl⟩
theorem wi_165 : Cond.methodLink "HeapQueries$Calculator" 65 yxv_flag ∈ hq_tbl := List.mem_filter.mpr ⟨List.mem_of_getElem? (i := 628) (by decide +kernel), rfl⟩
theorem wi_166 : Cond.constantLong "HeapQueries$Calculator" 118 4294967297 ∈ hq_tbl := List.mem_filter.mpr ⟨List.mem_of_getElem? (i := 649) (by decide +kernel), rfl⟩
theorem wi_167 : Cond.methodLink "HeapQueries$Calculator" 120 yxc_valueOfArithmetic ∈ hq_tbl := List.mem_filter.mpr ⟨List.mem_of_getElem? (i := 653) (by decide +kernel), rfl⟩
theorem wi_168 : Cond.fieldLink "HeapQueries$Text" 9 "HeapQueries$Text" "codes" "[I" ∈ hq_tbl := List.mem_filter.mpr ⟨List.mem_of_getElem? (i := 165) (by decide +kernel), rfl⟩
theorem wi_169 : Cond.fieldLink "HeapQueries$Text" 15 "HeapQueries$Text" "numbers" "[I" ∈ hq_tbl := List.mem_filter.mpr ⟨List.mem_of_getElem? (i := 166) (by decide +kernel), rfl⟩
theorem wi_170 : Cond.fieldLink "HeapQueries$Text" 21 "HeapQueries$Text" "place" "I" ∈ hq_tbl := List.mem_filter.mpr ⟨List.mem_of_getElem? (i := 170) (by decide +kernel), rfl⟩
theorem wi_171 : Cond.methodLink "HeapQueries$Text" 42 yxt_placeInS ∈ hq_tbl := List.mem_filter.mpr ⟨List.mem_of_getElem? (i := 364) (by decide +kernel), rfl⟩
theorem wi_172 : Cond.fieldLink "HeapQueries$Text" 18 "HeapQueries$Text" "brackets" "[I" ∈ hq_tbl := List.mem_filter.mpr ⟨List.mem_of_getElem? (i := 168) (by decide +kernel), rfl⟩
theorem wi_173 : Cond.methodLink "HeapQueries$Text" 61 yxt_isInsideE ∈ hq_tbl := List.mem_filter.mpr ⟨List.mem_of_getElem? (i := 376) (by decide +kernel), rfl⟩
theorem wi_174 : Cond.fieldLink "HeapQueries$Text" 65 "HeapQueries$Text" "inWhere" "Z" ∈ hq_tbl := List.mem_filter.mpr ⟨List.mem_of_getElem? (i := 171) (by decide +kernel), rfl⟩
theorem wi_175 : Cond.methodLink "HeapQueries$Text" 51 yxt_placeAfterWholeSelect ∈ hq_tbl := List.mem_filter.mpr ⟨List.mem_of_getElem? (i := 380) (by decide +kernel), rfl⟩
theorem wi_176 : Cond.fieldLink "HeapQueries$Text" 54 "HeapQueries$Text" "compared" "Z" ∈ hq_tbl := List.mem_filter.mpr ⟨List.mem_of_getElem? (i := 172) (by decide +kernel), rfl⟩
theorem wi_177 : Cond.methodLink "HeapQueries$Text" 58 yxt_placeAfterE ∈ hq_tbl := List.mem_filter.mpr ⟨List.mem_of_getElem? (i := 372) (by decide +kernel), rfl⟩
theorem wi_178 : Cond.methodLink "HeapQueries$Text" 39 yxt_placeAfterDistinct ∈ hq_tbl := List.mem_filter.mpr ⟨List.mem_of_getElem? (i := 360) (by decide +kernel), rfl⟩
theorem wi_179 : Cond.methodLink "HeapQueries$Text" 45 yxt_placeAfterU ∈ hq_tbl := List.mem_filter.mpr ⟨List.mem_of_getElem? (i := 368) (by decide +kernel), rfl⟩
theorem wi_180 : Cond.methodLink "HeapQueries$Text" 48 yxt_placeInSource ∈ hq_tbl := List.mem_filter.mpr ⟨List.mem_of_getElem? (i := 384) (by decide +kernel), rfl⟩
theorem wi_181 : Cond.methodLink "HeapQueries$Text" 68 yxt_openBracket ∈ hq_tbl := List.mem_filter.mpr ⟨List.mem_of_getElem? (i := 392) (by decide +kernel), rfl⟩
theorem wi_182 : Cond.methodLink "HeapQueries$Text" 71 yxt_closeBracket ∈ hq_tbl := List.mem_filter.mpr ⟨List.mem_of_getElem? (i := 396) (by decide +kernel), rfl⟩
theorem wi_183 : Cond.methodLink "HeapQueries$Text" 31 yxt_placeAfter ∈ hq_tbl := List.mem_filter.mpr ⟨List.mem_of_getElem? (i := 356) (by decide +kernel), rfl⟩
theorem wi_184 : Cond.methodLink "HeapQueries$Text" 35 yxt_remember ∈ hq_tbl := List.mem_filter.mpr ⟨List.mem_of_getElem? (i := 388) (by decide +kernel), rfl⟩
theorem wi_185 : Cond.methodLink "HeapQueries$Worker" 90 yxv_link ∈ hq_tbl := List.mem_filter.mpr ⟨List.mem_of_getElem? (i := 572) (by decide +kernel), rfl⟩
theorem wi_186 : Cond.methodLink "HeapQueries$Worker" 96 yxw_add ∈ hq_tbl := List.mem_filter.mpr ⟨List.mem_of_getElem? (i := 573) (by decide +kernel), rfl⟩
theorem wi_187 : Cond.methodLink "HeapQueries$Worker" 73 yxh_size ∈ hq_tbl := List.mem_filter.mpr ⟨List.mem_of_getElem? (i := 563) (by decide +kernel), rfl⟩
theorem wi_188 : Cond.fieldLink "HeapQueries$Worker" 79 "HeapQueries$Select" "withDescendants" "Z" ∈ hq_tbl := List.mem_filter.mpr ⟨List.mem_of_getElem? (i := 438) (by decide +kernel), rfl⟩
theorem wi_189 : Cond.methodLink "HeapQueries$Worker" 86 yxh_classOf ∈ hq_tbl := List.mem_filter.mpr ⟨List.mem_of_getElem? (i := 568) (by decide +kernel), rfl⟩
theorem wi_190 : Cond.methodLink "HeapQueries$Worker" 82 yxh_isInstance ∈ hq_tbl := List.mem_filter.mpr ⟨List.mem_of_getElem? (i := 564) (by decide +kernel), rfl⟩
theorem wi_191 : Cond.fieldLink "HeapQueries$Worker" 70 "HeapQueries$Select" "sourceClass" "I" ∈ hq_tbl := List.mem_filter.mpr ⟨List.mem_of_getElem? (i := 436) (by decide +kernel), rfl⟩
theorem wi_192 : Cond.methodLink "HeapQueries$Worker" 148 yxv_isNumber ∈ hq_tbl := List.mem_filter.mpr ⟨List.mem_of_getElem? (i := 582) (by decide +kernel), rfl⟩
theorem wi_193 : Cond.methodLink "HeapQueries$Worker" 129 yxv_isLink ∈ hq_tbl := List.mem_filter.mpr ⟨List.mem_of_getElem? (i := 663) (by decide +kernel), rfl⟩
theorem wi_194 : Cond.methodLink "HeapQueries$Worker" 100 yxv_contentOf ∈ hq_tbl := List.mem_filter.mpr ⟨List.mem_of_getElem? (i := 596) (by decide +kernel), rfl⟩
theorem wi_195 : Cond.methodLink "HeapQueries$Worker" 63 yxw_hasNumber ∈ hq_tbl := List.mem_filter.mpr ⟨List.mem_of_getElem? (i := 578) (by decide +kernel), rfl⟩
theorem wi_196 : Cond.fieldLink "HeapQueries$Worker" 132 "HeapQueries$Heap" "survey" "LHeapQueries$Survey;" ∈ hq_tbl := List.mem_filter.mpr ⟨List.mem_of_getElem? (i := 138) (by decide +kernel), rfl⟩
theorem wi_197 : Cond.methodLink "HeapQueries$Worker" 136 yxs_retainedBy ∈ hq_tbl := List.mem_filter.mpr ⟨List.mem_of_getElem? (i := 664) (by decide +kernel), rfl⟩
theorem wi_198 : Cond.methodLink "HeapQueries$Worker" 141 yxw_hasRowSince ∈ hq_tbl := List.mem_filter.mpr ⟨List.mem_of_getElem? (i := 669) (by decide +kernel), rfl⟩
theorem wi_199 : Cond.methodLink "HeapQueries$Worker" 145 yxv_isEmpty ∈ hq_tbl := List.mem_filter.mpr ⟨List.mem_of_getElem? (i := 589) (by decide +kernel), rfl⟩
theorem wi_200 : Cond.instanceMethod yxh_hasClass ∈ hq_tbl := List.mem_filter.mpr ⟨List.mem_of_getElem? (i := 228) (by decide +kernel), rfl⟩
theorem wi_201 : Cond.selects "HeapQueries$Heap" yxh_hasClass yxh_hasClass ∈ hq_tbl := List.mem_filter.mpr ⟨List.mem_of_getElem? (i := 229) (by decide +kernel), rfl⟩
theorem wi_202 : Cond.initialized "HeapQueries$Heap" ∈ hq_tbl := List.mem_filter.mpr ⟨List.mem_of_getElem? (i := 67) (by decide +kernel), rfl⟩
theorem wi_203 : Cond.code yxh_hasClass bxh_hasClass 2 (some .boolean) ∈ hq_tbl := List.mem_filter.mpr ⟨List.mem_of_getElem? (i := 230) (by decide +kernel), rfl⟩
theorem wi_204 : Cond.instanceMethod yxh_makeClass ∈ hq_tbl := List.mem_filter.mpr ⟨List.mem_of_getElem? (i := 224) (by decide +kernel), rfl⟩
theorem wi_205 : Cond.selects "HeapQueries$Heap" yxh_makeClass yxh_makeClass ∈ hq_tbl := List.mem_filter.mpr ⟨List.mem_of_getElem? (i := 225) (by decide +kernel), rfl⟩
theorem wi_206 : Cond.code yxh_makeClass bxh_makeClass 2 (some .int) ∈ hq_tbl := List.mem_filter.mpr ⟨List.mem_of_getElem? (i := 226) (by decide +kernel), rfl⟩
theorem wi_207 : Cond.instanceMethod yxq_addClass ∈ hq_tbl := List.mem_filter.mpr ⟨List.mem_of_getElem? (i := 220) (by decide +kernel), rfl⟩
theorem wi_208 : Cond.selects "HeapQueries" yxq_addClass yxq_addClass ∈ hq_tbl := List.mem_filter.mpr ⟨List.mem_of_getElem? (i := 221) (by decide +kernel), rfl⟩
theorem wi_209 : Cond.initialized "HeapQueries" ∈ hq_tbl := List.mem_filter.mpr ⟨List.mem_of_getElem? (i := 66) (by decide +kernel), rfl⟩
theorem wi_210 : Cond.code yxq_addClass bxq_addClass 2 (some .int) ∈ hq_tbl := List.mem_filter.mpr ⟨List.mem_of_getElem? (i := 222) (by decide +kernel), rfl⟩
theorem wi_211 : Cond.instanceMethod yxh_makeObject ∈ hq_tbl := List.mem_filter.mpr ⟨List.mem_of_getElem? (i := 236) (by decide +kernel), rfl⟩
theorem wi_212 : Cond.selects "HeapQueries$Heap" yxh_makeObject yxh_makeObject ∈ hq_tbl := List.mem_filter.mpr ⟨List.mem_of_getElem? (i := 237) (by decide +kernel), rfl⟩
theorem wi_213 : Cond.code yxh_makeObject bxh_makeObject 3 (some .int) ∈ hq_tbl := List.mem_filter.mpr ⟨List.mem_of_getElem? (i := 238) (by decide +kernel), rfl⟩
theorem wi_214 : Cond.instanceMethod yxq_addObject ∈ hq_tbl := List.mem_filter.mpr ⟨List.mem_of_getElem? (i := 232) (by decide +kernel), rfl⟩
theorem wi_215 : Cond.selects "HeapQueries" yxq_addObject yxq_addObject ∈ hq_tbl := List.mem_filter.mpr ⟨List.mem_of_getElem? (i := 233) (by decide +kernel), rfl⟩
theorem wi_216 : Cond.code yxq_addObject bxq_addObject 3 (some .int) ∈ hq_tbl := List.mem_filter.mpr ⟨List.mem_of_getElem? (i := 234) (by decide +kernel), rfl⟩
theorem wi_217 : Cond.instanceMethod yxh_hasObject ∈ hq_tbl := List.mem_filter.mpr ⟨List.mem_of_getElem? (i := 244) (by decide +kernel), rfl⟩
theorem wi_218 : Cond.selects "HeapQueries$Heap" yxh_hasObject yxh_hasObject ∈ hq_tbl := List.mem_filter.mpr ⟨List.mem_of_getElem? (i := 245) (by decide +kernel), rfl⟩
theorem wi_219 : Cond.code yxh_hasObject bxh_hasObject 2 (some .boolean) ∈ hq_tbl := List.mem_filter.mpr ⟨List.mem_of_getElem? (i := 246) (by decide +kernel), rfl⟩
theorem wi_220 : Cond.instanceMethod yxh_putField ∈ hq_tbl := List.mem_filter.mpr ⟨List.mem_of_getElem? (i := 248) (by decide +kernel), rfl⟩
theorem wi_221 : Cond.selects "HeapQueries$Heap" yxh_putField yxh_putField ∈ hq_tbl := List.mem_filter.mpr ⟨List.mem_of_getElem? (i := 249) (by decide +kernel), rfl⟩
theorem wi_222 : Cond.code yxh_putField bxh_putField 5 none ∈ hq_tbl := List.mem_filter.mpr ⟨List.mem_of_getElem? (i := 250) (by decide +kernel), rfl⟩
theorem wi_223 : Cond.static yxv_number ∈ hq_tbl := List.mem_filter.mpr ⟨List.mem_of_getElem? (i := 252) (by decide +kernel), rfl⟩
theorem wi_224 : Cond.initialized "HeapQueries$Value" ∈ hq_tbl := List.mem_filter.mpr ⟨List.mem_of_getElem? (i := 72) (by decide +kernel), rfl⟩
theorem wi_225 : Cond.code yxv_number bxv_number 1 (some .long) ∈ hq_tbl := List.mem_filter.mpr ⟨List.mem_of_getElem? (i := 253) (by decide +kernel), rfl⟩
theorem wi_226 : Cond.static yxv_link ∈ hq_tbl := List.mem_filter.mpr ⟨List.mem_of_getElem? (i := 257) (by decide +kernel), rfl⟩
theorem wi_227 : Cond.code yxv_link bxv_link 1 (some .long) ∈ hq_tbl := List.mem_filter.mpr ⟨List.mem_of_getElem? (i := 258) (by decide +kernel), rfl⟩
theorem wi_228 : Cond.instanceMethod yxq_set ∈ hq_tbl := List.mem_filter.mpr ⟨List.mem_of_getElem? (i := 240) (by decide +kernel), rfl⟩
theorem wi_229 : Cond.selects "HeapQueries" yxq_set yxq_set ∈ hq_tbl := List.mem_filter.mpr ⟨List.mem_of_getElem? (i := 241) (by decide +kernel), rfl⟩
theorem wi_230 : Cond.code yxq_set bxq_set 5 (some .boolean) ∈ hq_tbl := List.mem_filter.mpr ⟨List.mem_of_getElem? (i := 242) (by decide +kernel), rfl⟩
theorem wi_231 : Cond.instanceMethod yxh_markRoot ∈ hq_tbl := List.mem_filter.mpr ⟨List.mem_of_getElem? (i := 265) (by decide +kernel), rfl⟩
theorem wi_232 : Cond.selects "HeapQueries$Heap" yxh_markRoot yxh_markRoot ∈ hq_tbl := List.mem_filter.mpr ⟨List.mem_of_getElem? (i := 266) (by decide +kernel), rfl⟩
theorem wi_233 : Cond.code yxh_markRoot bxh_markRoot 4 none ∈ hq_tbl := List.mem_filter.mpr ⟨List.mem_of_getElem? (i := 267) (by decide +kernel), rfl⟩
theorem wi_234 : Cond.instanceMethod yxq_setRoot ∈ hq_tbl := List.mem_filter.mpr ⟨List.mem_of_getElem? (i := 261) (by decide +kernel), rfl⟩
theorem wi_235 : Cond.selects "HeapQueries" yxq_setRoot yxq_setRoot ∈ hq_tbl := List.mem_filter.mpr ⟨List.mem_of_getElem? (i := 262) (by decide +kernel), rfl⟩
theorem wi_236 : Cond.code yxq_setRoot bxq_setRoot 3 (some .boolean) ∈ hq_tbl := List.mem_filter.mpr ⟨List.mem_of_getElem? (i := 263) (by decide +kernel), rfl⟩
theorem wi_237 : Cond.instanceMethod yxh_size ∈ hq_tbl := List.mem_filter.mpr ⟨List.mem_of_getElem? (i := 281) (by decide +kernel), rfl⟩
theorem wi_238 : Cond.selects "HeapQueries$Heap" yxh_size yxh_size ∈ hq_tbl := List.mem_filter.mpr ⟨List.mem_of_getElem? (i := 282) (by decide +kernel), rfl⟩
theorem wi_239 : Cond.code yxh_size bxh_size 1 (some .int) ∈ hq_tbl := List.mem_filter.mpr ⟨List.mem_of_getElem? (i := 283) (by decide +kernel), rfl⟩
theorem wi_240 : Cond.instanceMethod yxh_roots ∈ hq_tbl := List.mem_filter.mpr ⟨List.mem_of_getElem? (i := 285) (by decide +kernel), rfl⟩
theorem wi_241 : Cond.selects "HeapQueries$Heap" yxh_roots yxh_roots ∈ hq_tbl := List.mem_filter.mpr ⟨List.mem_of_getElem? (i := 286) (by decide +kernel), rfl⟩
theorem wi_242 : Cond.code yxh_roots bxh_roots 1 (some .int) ∈ hq_tbl := List.mem_filter.mpr ⟨List.mem_of_getElem? (i := 287) (by decide +kernel), rfl⟩
theorem wi_243 : Cond.instanceMethod yxh_fieldOf ∈ hq_tbl := List.mem_filter.mpr ⟨List.mem_of_getElem? (i := 293) (by decide +kernel), rfl⟩
theorem wi_244 : Cond.selects "HeapQueries$Heap" yxh_fieldOf yxh_fieldOf ∈ hq_tbl := List.mem_filter.mpr ⟨List.mem_of_getElem? (i := 294) (by decide +kernel), rfl⟩
theorem wi_245 : Cond.code yxh_fieldOf bxh_fieldOf 3 (some .long) ∈ hq_tbl := List.mem_filter.mpr ⟨List.mem_of_getElem? (i := 295) (by decide +kernel), rfl⟩
theorem wi_246 : Cond.static yxv_isLink ∈ hq_tbl := List.mem_filter.mpr ⟨List.mem_of_getElem? (i := 297) (by decide +kernel), rfl⟩
theorem wi_247 : Cond.code yxv_isLink bxv_isLink 2 (some .boolean) ∈ hq_tbl := List.mem_filter.mpr ⟨List.mem_of_getElem? (i := 298) (by decide +kernel), rfl⟩
theorem wi_248 : Cond.static yxv_contentOf ∈ hq_tbl := List.mem_filter.mpr ⟨List.mem_of_getElem? (i := 301) (by decide +kernel), rfl⟩
theorem wi_249 : Cond.code yxv_contentOf bxv_contentOf 2 (some .int) ∈ hq_tbl := List.mem_filter.mpr ⟨List.mem_of_getElem? (i := 302) (by decide +kernel), rfl⟩
theorem wi_250 : Cond.instanceMethod yxs_findLinks ∈ hq_tbl := List.mem_filter.mpr ⟨List.mem_of_getElem? (i := 290) (by decide +kernel), rfl⟩
theorem wi_251 : Cond.selects "HeapQueries$Survey" yxs_findLinks yxs_findLinks ∈ hq_tbl := List.mem_filter.mpr ⟨List.mem_of_getElem? (i := 0) (by decide +kernel), rfl⟩
theorem wi_252 : Cond.initialized "HeapQueries$Survey" ∈ hq_tbl := List.mem_filter.mpr ⟨List.mem_of_getElem? (i := 68) (by decide +kernel), rfl⟩
theorem wi_253 : Cond.code yxs_findLinks bxs_findLinks 7 none ∈ hq_tbl := List.mem_filter.mpr ⟨List.mem_of_getElem? (i := 291) (by decide +kernel), rfl⟩
theorem wi_254 : Cond.static yjn_numberOfTrailingZeros ∈ hq_tbl := List.mem_filter.mpr ⟨List.mem_of_getElem? (i := 308) (by decide +kernel), rfl⟩
theorem wi_255 : Cond.initialized "java/lang/Integer" ∈ hq_tbl := List.mem_filter.mpr ⟨List.mem_of_getElem? (i := 73) (by decide +kernel), rfl⟩
theorem wi_256 : Cond.code yjn_numberOfTrailingZeros bjn_numberOfTrailingZeros 2 (some .int) ∈ hq_tbl := List.mem_filter.mpr ⟨List.mem_of_getElem? (i := 309) (by decide +kernel), rfl⟩
theorem wi_257 : Cond.instanceMethod yxs_reachableWithout ∈ hq_tbl := List.mem_filter.mpr ⟨List.mem_of_getElem? (i := 305) (by decide +kernel), rfl⟩
theorem wi_258 : Cond.selects "HeapQueries$Survey" yxs_reachableWithout yxs_reachableWithout ∈ hq_tbl := List.mem_filter.mpr ⟨List.mem_of_getElem? (i := 1) (by decide +kernel), rfl⟩
theorem wi_259 : Cond.code yxs_reachableWithout bxs_reachableWithout 7 (some .int) ∈ hq_tbl := List.mem_filter.mpr ⟨List.mem_of_getElem? (i := 306) (by decide +kernel), rfl⟩
theorem wi_260 : Cond.instanceMethod yxs_retainedBy ∈ hq_tbl := List.mem_filter.mpr ⟨List.mem_of_getElem? (i := 312) (by decide +kernel), rfl⟩
theorem wi_261 : Cond.selects "HeapQueries$Survey" yxs_retainedBy yxs_retainedBy ∈ hq_tbl := List.mem_filter.mpr ⟨List.mem_of_getElem? (i := 313) (by decide +kernel), rfl⟩
theorem wi_262 : Cond.code yxs_retainedBy bxs_retainedBy 2 (some .int) ∈ hq_tbl := List.mem_filter.mpr ⟨List.mem_of_getElem? (i := 314) (by decide +kernel), rfl⟩
theorem wi_263 : Cond.instanceMethod yxh_sizeOf ∈ hq_tbl := List.mem_filter.mpr ⟨List.mem_of_getElem? (i := 320) (by decide +kernel), rfl⟩
theorem wi_264 : Cond.selects "HeapQueries$Heap" yxh_sizeOf yxh_sizeOf ∈ hq_tbl := List.mem_filter.mpr ⟨List.mem_of_getElem? (i := 321) (by decide +kernel), rfl⟩
theorem wi_265 : Cond.code yxh_sizeOf bxh_sizeOf 2 (some .int) ∈ hq_tbl := List.mem_filter.mpr ⟨List.mem_of_getElem? (i := 322) (by decide +kernel), rfl⟩
theorem wi_266 : Cond.instanceMethod yxs_sizeOfSet ∈ hq_tbl := List.mem_filter.mpr ⟨List.mem_of_getElem? (i := 317) (by decide +kernel), rfl⟩
theorem wi_267 : Cond.selects "HeapQueries$Survey" yxs_sizeOfSet yxs_sizeOfSet ∈ hq_tbl := List.mem_filter.mpr ⟨List.mem_of_getElem? (i := 2) (by decide +kernel), rfl⟩
theorem wi_268 : Cond.code yxs_sizeOfSet bxs_sizeOfSet 5 (some .int) ∈ hq_tbl := List.mem_filter.mpr ⟨List.mem_of_getElem? (i := 318) (by decide +kernel), rfl⟩
theorem wi_269 : Cond.instanceMethod yxs_findDominators ∈ hq_tbl := List.mem_filter.mpr ⟨List.mem_of_getElem? (i := 325) (by decide +kernel), rfl⟩
theorem wi_270 : Cond.selects "HeapQueries$Survey" yxs_findDominators yxs_findDominators ∈ hq_tbl := List.mem_filter.mpr ⟨List.mem_of_getElem? (i := 3) (by decide +kernel), rfl⟩
theorem wi_271 : Cond.code yxs_findDominators bxs_findDominators 4 (some .int) ∈ hq_tbl := List.mem_filter.mpr ⟨List.mem_of_getElem? (i := 326) (by decide +kernel), rfl⟩
theorem wi_272 : Cond.instanceMethod yxs_findImmediateDominator ∈ hq_tbl := List.mem_filter.mpr ⟨List.mem_of_getElem? (i := 329) (by decide +kernel), rfl⟩
theorem wi_273 : Cond.selects "HeapQueries$Survey" yxs_findImmediateDominator yxs_findImmediateDominator ∈ hq_tbl := List.mem_filter.mpr ⟨List.mem_of_getElem? (i := 4) (by decide +kernel), rfl⟩
theorem wi_274 : Cond.code yxs_findImmediateDominator bxs_findImmediateDominator 5 (some .int) ∈ hq_tbl := List.mem_filter.mpr ⟨List.mem_of_getElem? (i := 330) (by decide +kernel), rfl⟩
theorem wi_275 : Cond.instanceMethod yxs_takeOf ∈ hq_tbl := List.mem_filter.mpr ⟨List.mem_of_getElem? (i := 277) (by decide +kernel), rfl⟩
theorem wi_276 : Cond.selects "HeapQueries$Survey" yxs_takeOf yxs_takeOf ∈ hq_tbl := List.mem_filter.mpr ⟨List.mem_of_getElem? (i := 278) (by decide +kernel), rfl⟩
theorem wi_277 : Cond.code yxs_takeOf bxs_takeOf 3 none ∈ hq_tbl := List.mem_filter.mpr ⟨List.mem_of_getElem? (i := 279) (by decide +kernel), rfl⟩
theorem wi_278 : Cond.instanceMethod yxh_refreshSurvey ∈ hq_tbl := List.mem_filter.mpr ⟨List.mem_of_getElem? (i := 273) (by decide +kernel), rfl⟩
theorem wi_279 : Cond.selects "HeapQueries$Heap" yxh_refreshSurvey yxh_refreshSurvey ∈ hq_tbl := List.mem_filter.mpr ⟨List.mem_of_getElem? (i := 274) (by decide +kernel), rfl⟩
theorem wi_280 : Cond.code yxh_refreshSurvey bxh_refreshSurvey 1 none ∈ hq_tbl := List.mem_filter.mpr ⟨List.mem_of_getElem? (i := 275) (by decide +kernel), rfl⟩
theorem wi_281 : Cond.instanceMethod yxs_immediateDominatorOf ∈ hq_tbl := List.mem_filter.mpr ⟨List.mem_of_getElem? (i := 332) (by decide +kernel), rfl⟩
theorem wi_282 : Cond.selects "HeapQueries$Survey" yxs_immediateDominatorOf yxs_immediateDominatorOf ∈ hq_tbl := List.mem_filter.mpr ⟨List.mem_of_getElem? (i := 333) (by decide +kernel), rfl⟩
theorem wi_283 : Cond.code yxs_immediateDominatorOf bxs_immediateDominatorOf 2 (some .int) ∈ hq_tbl := List.mem_filter.mpr ⟨List.mem_of_getElem? (i := 334) (by decide +kernel), rfl⟩
theorem wi_284 : Cond.instanceMethod yxq_dominator ∈ hq_tbl := List.mem_filter.mpr ⟨List.mem_of_getElem? (i := 269) (by decide +kernel), rfl⟩
theorem wi_285 : Cond.selects "HeapQueries" yxq_dominator yxq_dominator ∈ hq_tbl := List.mem_filter.mpr ⟨List.mem_of_getElem? (i := 270) (by decide +kernel), rfl⟩
theorem wi_286 : Cond.code yxq_dominator bxq_dominator 2 (some .int) ∈ hq_tbl := List.mem_filter.mpr ⟨List.mem_of_getElem? (i := 271) (by decide +kernel), rfl⟩
theorem wi_287 : Cond.instanceMethod yxs_retainedSizeOf ∈ hq_tbl := List.mem_filter.mpr ⟨List.mem_of_getElem? (i := 340) (by decide +kernel), rfl⟩
theorem wi_288 : Cond.selects "HeapQueries$Survey" yxs_retainedSizeOf yxs_retainedSizeOf ∈ hq_tbl := List.mem_filter.mpr ⟨List.mem_of_getElem? (i := 341) (by decide +kernel), rfl⟩
theorem wi_289 : Cond.code yxs_retainedSizeOf bxs_retainedSizeOf 2 (some .int) ∈ hq_tbl := List.mem_filter.mpr ⟨List.mem_of_getElem? (i := 342) (by decide +kernel), rfl⟩
theorem wi_290 : Cond.instanceMethod yxq_retained ∈ hq_tbl := List.mem_filter.mpr ⟨List.mem_of_getElem? (i := 336) (by decide +kernel), rfl⟩
theorem wi_291 : Cond.selects "HeapQueries" yxq_retained yxq_retained ∈ hq_tbl := List.mem_filter.mpr ⟨List.mem_of_getElem? (i := 337) (by decide +kernel), rfl⟩
theorem wi_292 : Cond.code yxq_retained bxq_retained 2 (some .int) ∈ hq_tbl := List.mem_filter.mpr ⟨List.mem_of_getElem? (i := 338) (by decide +kernel), rfl⟩
theorem wi_293 : Cond.instanceMethod yxq_isNumberAllowed ∈ hq_tbl := List.mem_filter.mpr ⟨List.mem_of_getElem? (i := 349) (by decide +kernel), rfl⟩
theorem wi_294 : Cond.selects "HeapQueries" yxq_isNumberAllowed yxq_isNumberAllowed ∈ hq_tbl := List.mem_filter.mpr ⟨List.mem_of_getElem? (i := 5) (by decide +kernel), rfl⟩
theorem wi_295 : Cond.code yxq_isNumberAllowed bxq_isNumberAllowed 3 (some .boolean) ∈ hq_tbl := List.mem_filter.mpr ⟨List.mem_of_getElem? (i := 350) (by decide +kernel), rfl⟩
theorem wi_296 : Cond.instanceMethod yxt_length ∈ hq_tbl := List.mem_filter.mpr ⟨List.mem_of_getElem? (i := 520) (by decide +kernel), rfl⟩
theorem wi_297 : Cond.selects "HeapQueries$Text" yxt_length yxt_length ∈ hq_tbl := List.mem_filter.mpr ⟨List.mem_of_getElem? (i := 521) (by decide +kernel), rfl⟩
theorem wi_298 : Cond.initialized "HeapQueries$Text" ∈ hq_tbl := List.mem_filter.mpr ⟨List.mem_of_getElem? (i := 69) (by decide +kernel), rfl⟩
theorem wi_299 : Cond.code yxt_length bxt_length 1 (some .int) ∈ hq_tbl := List.mem_filter.mpr ⟨List.mem_of_getElem? (i := 522) (by decide +kernel), rfl⟩
theorem wi_300 : Cond.instanceMethod yxq_tokens ∈ hq_tbl := List.mem_filter.mpr ⟨List.mem_of_getElem? (i := 516) (by decide +kernel), rfl⟩
theorem wi_301 : Cond.selects "HeapQueries" yxq_tokens yxq_tokens ∈ hq_tbl := List.mem_filter.mpr ⟨List.mem_of_getElem? (i := 517) (by decide +kernel), rfl⟩
theorem wi_302 : Cond.code yxq_tokens bxq_tokens 1 (some .int) ∈ hq_tbl := List.mem_filter.mpr ⟨List.mem_of_getElem? (i := 518) (by decide +kernel), rfl⟩
theorem wi_303 : Cond.instanceMethod yxt_openBrackets ∈ hq_tbl := List.mem_filter.mpr ⟨List.mem_of_getElem? (i := 528) (by decide +kernel), rfl⟩
theorem wi_304 : Cond.selects "HeapQueries$Text" yxt_openBrackets yxt_openBrackets ∈ hq_tbl := List.mem_filter.mpr ⟨List.mem_of_getElem? (i := 529) (by decide +kernel), rfl⟩
theorem wi_305 : Cond.code yxt_openBrackets bxt_openBrackets 1 (some .int) ∈ hq_tbl := List.mem_filter.mpr ⟨List.mem_of_getElem? (i := 530) (by decide +kernel), rfl⟩
theorem wi_306 : Cond.instanceMethod yxq_depth ∈ hq_tbl := List.mem_filter.mpr ⟨List.mem_of_getElem? (i := 524) (by decide +kernel), rfl⟩
theorem wi_307 : Cond.selects "HeapQueries" yxq_depth yxq_depth ∈ hq_tbl := List.mem_filter.mpr ⟨List.mem_of_getElem? (i := 525) (by decide +kernel), rfl⟩
theorem wi_308 : Cond.code yxq_depth bxq_depth 1 (some .int) ∈ hq_tbl := List.mem_filter.mpr ⟨List.mem_of_getElem? (i := 526) (by decide +kernel), rfl⟩
theorem wi_309 : Cond.instanceMethod yxw_rowCount ∈ hq_tbl := List.mem_filter.mpr ⟨List.mem_of_getElem? (i := 678) (by decide +kernel), rfl⟩
theorem wi_310 : Cond.selects "HeapQueries$Worker" yxw_rowCount yxw_rowCount ∈ hq_tbl := List.mem_filter.mpr ⟨List.mem_of_getElem? (i := 679) (by decide +kernel), rfl⟩
theorem wi_311 : Cond.initialized "HeapQueries$Worker" ∈ hq_tbl := List.mem_filter.mpr ⟨List.mem_of_getElem? (i := 70) (by decide +kernel), rfl⟩
theorem wi_312 : Cond.code yxw_rowCount bxw_rowCount 1 (some .int) ∈ hq_tbl := List.mem_filter.mpr ⟨List.mem_of_getElem? (i := 680) (by decide +kernel), rfl⟩
theorem wi_313 : Cond.instanceMethod yxq_rows ∈ hq_tbl := List.mem_filter.mpr ⟨List.mem_of_getElem? (i := 682) (by decide +kernel), rfl⟩
theorem wi_314 : Cond.selects "HeapQueries" yxq_rows yxq_rows ∈ hq_tbl := List.mem_filter.mpr ⟨List.mem_of_getElem? (i := 683) (by decide +kernel), rfl⟩
theorem wi_315 : Cond.code yxq_rows bxq_rows 1 (some .int) ∈ hq_tbl := List.mem_filter.mpr ⟨List.mem_of_getElem? (i := 684) (by decide +kernel), rfl⟩
theorem wi_316 : Cond.instanceMethod yxw_hasRow ∈ hq_tbl := List.mem_filter.mpr ⟨List.mem_of_getElem? (i := 690) (by decide +kernel), rfl⟩
theorem wi_317 : Cond.selects "HeapQueries$Worker" yxw_hasRow yxw_hasRow ∈ hq_tbl := List.mem_filter.mpr ⟨List.mem_of_getElem? (i := 691) (by decide +kernel), rfl⟩
theorem wi_318 : Cond.code yxw_hasRow bxw_hasRow 2 (some .boolean) ∈ hq_tbl := List.mem_filter.mpr ⟨List.mem_of_getElem? (i := 692) (by decide +kernel), rfl⟩
theorem wi_319 : Cond.instanceMethod yxw_row ∈ hq_tbl := List.mem_filter.mpr ⟨List.mem_of_getElem? (i := 694) (by decide +kernel), rfl⟩
theorem wi_320 : Cond.selects "HeapQueries$Worker" yxw_row yxw_row ∈ hq_tbl := List.mem_filter.mpr ⟨List.mem_of_getElem? (i := 695) (by decide +kernel), rfl⟩
theorem wi_321 : Cond.code yxw_row bxw_row 2 (some .long) ∈ hq_tbl := List.mem_filter.mpr ⟨List.mem_of_getElem? (i := 696) (by decide +kernel), rfl⟩
theorem wi_322 : Cond.static yxv_kindOf ∈ hq_tbl := List.mem_filter.mpr ⟨List.mem_of_getElem? (i := 698) (by decide +kernel), rfl⟩
theorem wi_323 : Cond.code yxv_kindOf bxv_kindOf 2 (some .int) ∈ hq_tbl := List.mem_filter.mpr ⟨List.mem_of_getElem? (i := 699) (by decide +kernel), rfl⟩
theorem wi_324 : Cond.instanceMethod yxq_kind ∈ hq_tbl := List.mem_filter.mpr ⟨List.mem_of_getElem? (i := 686) (by decide +kernel), rfl⟩
theorem wi_325 : Cond.selects "HeapQueries" yxq_kind yxq_kind ∈ hq_tbl := List.mem_filter.mpr ⟨List.mem_of_getElem? (i := 687) (by decide +kernel), rfl⟩
theorem wi_326 : Cond.code yxq_kind bxq_kind 2 (some .int) ∈ hq_tbl := List.mem_filter.mpr ⟨List.mem_of_getElem? (i := 688) (by decide +kernel), rfl⟩
theorem wi_327 : Cond.instanceMethod yxq_value ∈ hq_tbl := List.mem_filter.mpr ⟨List.mem_of_getElem? (i := 701) (by decide +kernel), rfl⟩
theorem wi_328 : Cond.selects "HeapQueries" yxq_value yxq_value ∈ hq_tbl := List.mem_filter.mpr ⟨List.mem_of_getElem? (i := 702) (by decide +kernel), rfl⟩
theorem wi_329 : Cond.code yxq_value bxq_value 2 (some .int) ∈ hq_tbl := List.mem_filter.mpr ⟨List.mem_of_getElem? (i := 703) (by decide +kernel), rfl⟩
theorem wi_330 : Cond.instanceMethod yxw_lookCount ∈ hq_tbl := List.mem_filter.mpr ⟨List.mem_of_getElem? (i := 710) (by decide +kernel), rfl⟩
theorem wi_331 : Cond.selects "HeapQueries$Worker" yxw_lookCount yxw_lookCount ∈ hq_tbl := List.mem_filter.mpr ⟨List.mem_of_getElem? (i := 711) (by decide +kernel), rfl⟩
theorem wi_332 : Cond.code yxw_lookCount bxw_lookCount 1 (some .int) ∈ hq_tbl := List.mem_filter.mpr ⟨List.mem_of_getElem? (i := 712) (by decide +kernel), rfl⟩
theorem wi_333 : Cond.instanceMethod yxq_looked ∈ hq_tbl := List.mem_filter.mpr ⟨List.mem_of_getElem? (i := 706) (by decide +kernel), rfl⟩
theorem wi_334 : Cond.selects "HeapQueries" yxq_looked yxq_looked ∈ hq_tbl := List.mem_filter.mpr ⟨List.mem_of_getElem? (i := 707) (by decide +kernel), rfl⟩
theorem wi_335 : Cond.code yxq_looked bxq_looked 1 (some .int) ∈ hq_tbl := List.mem_filter.mpr ⟨List.mem_of_getElem? (i := 708) (by decide +kernel), rfl⟩
theorem wi_336 : Cond.instanceMethod ym_addClass ∈ hq_tbl := List.mem_filter.mpr ⟨List.mem_of_getElem? (i := 836) (by decide +kernel), rfl⟩
theorem wi_337 : Cond.selects "HeapQueriesModel" ym_addClass ym_addClass ∈ hq_tbl := List.mem_filter.mpr ⟨List.mem_of_getElem? (i := 837) (by decide +kernel), rfl⟩
theorem wi_338 : Cond.initialized "HeapQueriesModel" ∈ hq_tbl := List.mem_filter.mpr ⟨List.mem_of_getElem? (i := 71) (by decide +kernel), rfl⟩
theorem wi_339 : Cond.code ym_addClass bm_addClass 2 (some .int) ∈ hq_tbl := List.mem_filter.mpr ⟨List.mem_of_getElem? (i := 838) (by decide +kernel), rfl⟩
theorem wi_340 : Cond.instanceMethod ym_addObject ∈ hq_tbl := List.mem_filter.mpr ⟨List.mem_of_getElem? (i := 840) (by decide +kernel), rfl⟩
theorem wi_341 : Cond.selects "HeapQueriesModel" ym_addObject ym_addObject ∈ hq_tbl := List.mem_filter.mpr ⟨List.mem_of_getElem? (i := 841) (by decide +kernel), rfl⟩
theorem wi_342 : Cond.code ym_addObject bm_addObject 3 (some .int) ∈ hq_tbl := List.mem_filter.mpr ⟨List.mem_of_getElem? (i := 842) (by decide +kernel), rfl⟩
theorem wi_343 : Cond.instanceMethod ym_there ∈ hq_tbl := List.mem_filter.mpr ⟨List.mem_of_getElem? (i := 849) (by decide +kernel), rfl⟩
theorem wi_344 : Cond.selects "HeapQueriesModel" ym_there ym_there ∈ hq_tbl := List.mem_filter.mpr ⟨List.mem_of_getElem? (i := 33) (by decide +kernel), rfl⟩
theorem wi_345 : Cond.code ym_there bm_there 2 (some .boolean) ∈ hq_tbl := List.mem_filter.mpr ⟨List.mem_of_getElem? (i := 850) (by decide +kernel), rfl⟩
theorem wi_346 : Cond.instanceMethod ym_set ∈ hq_tbl := List.mem_filter.mpr ⟨List.mem_of_getElem? (i := 844) (by decide +kernel), rfl⟩
theorem wi_347 : Cond.selects "HeapQueriesModel" ym_set ym_set ∈ hq_tbl := List.mem_filter.mpr ⟨List.mem_of_getElem? (i := 845) (by decide +kernel), rfl⟩
theorem wi_348 : Cond.code ym_set bm_set 5 (some .boolean) ∈ hq_tbl := List.mem_filter.mpr ⟨List.mem_of_getElem? (i := 846) (by decide +kernel), rfl⟩
theorem wi_349 : Cond.instanceMethod ym_setRoot ∈ hq_tbl := List.mem_filter.mpr ⟨List.mem_of_getElem? (i := 852) (by decide +kernel), rfl⟩
theorem wi_350 : Cond.selects "HeapQueriesModel" ym_setRoot ym_setRoot ∈ hq_tbl := List.mem_filter.mpr ⟨List.mem_of_getElem? (i := 853) (by decide +kernel), rfl⟩
theorem wi_351 : Cond.code ym_setRoot bm_setRoot 3 (some .boolean) ∈ hq_tbl := List.mem_filter.mpr ⟨List.mem_of_getElem? (i := 854) (by decide +kernel), rfl⟩
theorem wi_352 : Cond.instanceMethod ym_reach ∈ hq_tbl := List.mem_filter.mpr ⟨List.mem_of_getElem? (i := 865) (by decide +kernel), rfl⟩
theorem wi_353 : Cond.selects "HeapQueriesModel" ym_reach ym_reach ∈ hq_tbl := List.mem_filter.mpr ⟨List.mem_of_getElem? (i := 35) (by decide +kernel), rfl⟩
theorem wi_354 : Cond.code ym_reach bm_reach 9 (some .int) ∈ hq_tbl := List.mem_filter.mpr ⟨List.mem_of_getElem? (i := 866) (by decide +kernel), rfl⟩
theorem wi_355 : Cond.instanceMethod ym_keepSets ∈ hq_tbl := List.mem_filter.mpr ⟨List.mem_of_getElem? (i := 861) (by decide +kernel), rfl⟩
theorem wi_356 : Cond.selects "HeapQueriesModel" ym_keepSets ym_keepSets ∈ hq_tbl := List.mem_filter.mpr ⟨List.mem_of_getElem? (i := 34) (by decide +kernel), rfl⟩
theorem wi_357 : Cond.code ym_keepSets bm_keepSets 3 none ∈ hq_tbl := List.mem_filter.mpr ⟨List.mem_of_getElem? (i := 862) (by decide +kernel), rfl⟩
theorem wi_358 : Cond.instanceMethod ym_sum ∈ hq_tbl := List.mem_filter.mpr ⟨List.mem_of_getElem? (i := 881) (by decide +kernel), rfl⟩
theorem wi_359 : Cond.selects "HeapQueriesModel" ym_sum ym_sum ∈ hq_tbl := List.mem_filter.mpr ⟨List.mem_of_getElem? (i := 38) (by decide +kernel), rfl⟩
theorem wi_360 : Cond.code ym_sum bm_sum 4 (some .int) ∈ hq_tbl := List.mem_filter.mpr ⟨List.mem_of_getElem? (i := 882) (by decide +kernel), rfl⟩
theorem wi_361 : Cond.instanceMethod ym_dominates ∈ hq_tbl := List.mem_filter.mpr ⟨List.mem_of_getElem? (i := 873) (by decide +kernel), rfl⟩
theorem wi_362 : Cond.selects "HeapQueriesModel" ym_dominates ym_dominates ∈ hq_tbl := List.mem_filter.mpr ⟨List.mem_of_getElem? (i := 37) (by decide +kernel), rfl⟩
theorem wi_363 : Cond.code ym_dominates bm_dominates 3 (some .boolean) ∈ hq_tbl := List.mem_filter.mpr ⟨List.mem_of_getElem? (i := 874) (by decide +kernel), rfl⟩
theorem wi_364 : Cond.instanceMethod ym_immediate ∈ hq_tbl := List.mem_filter.mpr ⟨List.mem_of_getElem? (i := 869) (by decide +kernel), rfl⟩
theorem wi_365 : Cond.selects "HeapQueriesModel" ym_immediate ym_immediate ∈ hq_tbl := List.mem_filter.mpr ⟨List.mem_of_getElem? (i := 36) (by decide +kernel), rfl⟩
theorem wi_366 : Cond.code ym_immediate bm_immediate 5 (some .int) ∈ hq_tbl := List.mem_filter.mpr ⟨List.mem_of_getElem? (i := 870) (by decide +kernel), rfl⟩
theorem wi_367 : Cond.instanceMethod ym_dominator ∈ hq_tbl := List.mem_filter.mpr ⟨List.mem_of_getElem? (i := 856) (by decide +kernel), rfl⟩
theorem wi_368 : Cond.selects "HeapQueriesModel" ym_dominator ym_dominator ∈ hq_tbl := List.mem_filter.mpr ⟨List.mem_of_getElem? (i := 857) (by decide +kernel), rfl⟩
theorem wi_369 : Cond.code ym_dominator bm_dominator 2 (some .int) ∈ hq_tbl := List.mem_filter.mpr ⟨List.mem_of_getElem? (i := 858) (by decide +kernel), rfl⟩
theorem wi_370 : Cond.instanceMethod ym_retained ∈ hq_tbl := List.mem_filter.mpr ⟨List.mem_of_getElem? (i := 876) (by decide +kernel), rfl⟩
theorem wi_371 : Cond.selects "HeapQueriesModel" ym_retained ym_retained ∈ hq_tbl := List.mem_filter.mpr ⟨List.mem_of_getElem? (i := 877) (by decide +kernel), rfl⟩
theorem wi_372 : Cond.code ym_retained bm_retained 2 (some .int) ∈ hq_tbl := List.mem_filter.mpr ⟨List.mem_of_getElem? (i := 878) (by decide +kernel), rfl⟩
theorem wi_373 : Cond.instanceMethod ym_start ∈ hq_tbl := List.mem_filter.mpr ⟨List.mem_of_getElem? (i := 893) (by decide +kernel), rfl⟩
theorem wi_374 : Cond.selects "HeapQueriesModel" ym_start ym_start ∈ hq_tbl := List.mem_filter.mpr ⟨List.mem_of_getElem? (i := 40) (by decide +kernel), rfl⟩
theorem wi_375 : Cond.code ym_start bm_start 1 none ∈ hq_tbl := List.mem_filter.mpr ⟨List.mem_of_getElem? (i := 894) (by decide +kernel), rfl⟩
theorem wi_376 : Cond.instanceMethod ym_push ∈ hq_tbl := List.mem_filter.mpr ⟨List.mem_of_getElem? (i := 901) (by decide +kernel), rfl⟩
theorem wi_377 : Cond.selects "HeapQueriesModel" ym_push ym_push ∈ hq_tbl := List.mem_filter.mpr ⟨List.mem_of_getElem? (i := 42) (by decide +kernel), rfl⟩
theorem wi_378 : Cond.code ym_push bm_push 2 none ∈ hq_tbl := List.mem_filter.mpr ⟨List.mem_of_getElem? (i := 902) (by decide +kernel), rfl⟩
theorem wi_379 : Cond.instanceMethod ym_becomes ∈ hq_tbl := List.mem_filter.mpr ⟨List.mem_of_getElem? (i := 905) (by decide +kernel), rfl⟩
theorem wi_380 : Cond.selects "HeapQueriesModel" ym_becomes ym_becomes ∈ hq_tbl := List.mem_filter.mpr ⟨List.mem_of_getElem? (i := 43) (by decide +kernel), rfl⟩
theorem wi_381 : Cond.code ym_becomes bm_becomes 2 (some .boolean) ∈ hq_tbl := List.mem_filter.mpr ⟨List.mem_of_getElem? (i := 906) (by decide +kernel), rfl⟩
theorem wi_382 : Cond.instanceMethod ym_operand ∈ hq_tbl := List.mem_filter.mpr ⟨List.mem_of_getElem? (i := 909) (by decide +kernel), rfl⟩
theorem wi_383 : Cond.selects "HeapQueriesModel" ym_operand ym_operand ∈ hq_tbl := List.mem_filter.mpr ⟨List.mem_of_getElem? (i := 44) (by decide +kernel), rfl⟩
theorem wi_384 : Cond.code ym_operand bm_operand 2 (some .boolean) ∈ hq_tbl := List.mem_filter.mpr ⟨List.mem_of_getElem? (i := 910) (by decide +kernel), rfl⟩
theorem wi_385 : Cond.instanceMethod ym_ends ∈ hq_tbl := List.mem_filter.mpr ⟨List.mem_of_getElem? (i := 917) (by decide +kernel), rfl⟩
theorem wi_386 : Cond.selects "HeapQueriesModel" ym_ends ym_ends ∈ hq_tbl := List.mem_filter.mpr ⟨List.mem_of_getElem? (i := 46) (by decide +kernel), rfl⟩
theorem wi_387 : Cond.code ym_ends bm_ends 2 (some .boolean) ∈ hq_tbl := List.mem_filter.mpr ⟨List.mem_of_getElem? (i := 918) (by decide +kernel), rfl⟩
theorem wi_388 : Cond.instanceMethod ym_behind ∈ hq_tbl := List.mem_filter.mpr ⟨List.mem_of_getElem? (i := 913) (by decide +kernel), rfl⟩
theorem wi_389 : Cond.selects "HeapQueriesModel" ym_behind ym_behind ∈ hq_tbl := List.mem_filter.mpr ⟨List.mem_of_getElem? (i := 45) (by decide +kernel), rfl⟩
theorem wi_390 : Cond.code ym_behind bm_behind 3 (some .boolean) ∈ hq_tbl := List.mem_filter.mpr ⟨List.mem_of_getElem? (i := 914) (by decide +kernel), rfl⟩
theorem wi_391 : Cond.instanceMethod ym_step ∈ hq_tbl := List.mem_filter.mpr ⟨List.mem_of_getElem? (i := 897) (by decide +kernel), rfl⟩
theorem wi_392 : Cond.selects "HeapQueriesModel" ym_step ym_step ∈ hq_tbl := List.mem_filter.mpr ⟨List.mem_of_getElem? (i := 41) (by decide +kernel), rfl⟩
theorem wi_393 : Cond.code ym_step bm_step 2 (some .boolean) ∈ hq_tbl := List.mem_filter.mpr ⟨List.mem_of_getElem? (i := 898) (by decide +kernel), rfl⟩
theorem wi_394 : Cond.instanceMethod ym_fits ∈ hq_tbl := List.mem_filter.mpr ⟨List.mem_of_getElem? (i := 889) (by decide +kernel), rfl⟩
theorem wi_395 : Cond.selects "HeapQueriesModel" ym_fits ym_fits ∈ hq_tbl := List.mem_filter.mpr ⟨List.mem_of_getElem? (i := 39) (by decide +kernel), rfl⟩
theorem wi_396 : Cond.code ym_fits bm_fits 3 (some .boolean) ∈ hq_tbl := List.mem_filter.mpr ⟨List.mem_of_getElem? (i := 890) (by decide +kernel), rfl⟩
theorem wi_397 : Cond.instanceMethod ym_token ∈ hq_tbl := List.mem_filter.mpr ⟨List.mem_of_getElem? (i := 884) (by decide +kernel), rfl⟩
theorem wi_398 : Cond.selects "HeapQueriesModel" ym_token ym_token ∈ hq_tbl := List.mem_filter.mpr ⟨List.mem_of_getElem? (i := 885) (by decide +kernel), rfl⟩
theorem wi_399 : Cond.code ym_token bm_token 5 (some .boolean) ∈ hq_tbl := List.mem_filter.mpr ⟨List.mem_of_getElem? (i := 886) (by decide +kernel), rfl⟩
theorem wi_400 : Cond.instanceMethod ym_tokens ∈ hq_tbl := List.mem_filter.mpr ⟨List.mem_of_getElem? (i := 920) (by decide +kernel), rfl⟩
theorem wi_401 : Cond.selects "HeapQueriesModel" ym_tokens ym_tokens ∈ hq_tbl := List.mem_filter.mpr ⟨List.mem_of_getElem? (i := 921) (by decide +kernel), rfl⟩
theorem wi_402 : Cond.code ym_tokens bm_tokens 1 (some .int) ∈ hq_tbl := List.mem_filter.mpr ⟨List.mem_of_getElem? (i := 922) (by decide +kernel), rfl⟩
theorem wi_403 : Cond.instanceMethod ym_depth ∈ hq_tbl := List.mem_filter.mpr ⟨List.mem_of_getElem? (i := 924) (by decide +kernel), rfl⟩
theorem wi_404 : Cond.selects "HeapQueriesModel" ym_depth ym_depth ∈ hq_tbl := List.mem_filter.mpr ⟨List.mem_of_getElem? (i := 925) (by decide +kernel), rfl⟩
theorem wi_405 : Cond.code ym_depth bm_depth 3 (some .int) ∈ hq_tbl := List.mem_filter.mpr ⟨List.mem_of_getElem? (i := 926) (by decide +kernel), rfl⟩
theorem wi_406 : Cond.instanceMethod ym_clear ∈ hq_tbl := List.mem_filter.mpr ⟨List.mem_of_getElem? (i := 928) (by decide +kernel), rfl⟩
theorem wi_407 : Cond.selects "HeapQueriesModel" ym_clear ym_clear ∈ hq_tbl := List.mem_filter.mpr ⟨List.mem_of_getElem? (i := 929) (by decide +kernel), rfl⟩
theorem wi_408 : Cond.code ym_clear bm_clear 1 none ∈ hq_tbl := List.mem_filter.mpr ⟨List.mem_of_getElem? (i := 930) (by decide +kernel), rfl⟩
theorem wi_409 : Cond.instanceMethod ym_under ∈ hq_tbl := List.mem_filter.mpr ⟨List.mem_of_getElem? (i := 949) (by decide +kernel), rfl⟩
theorem wi_410 : Cond.selects "HeapQueriesModel" ym_under ym_under ∈ hq_tbl := List.mem_filter.mpr ⟨List.mem_of_getElem? (i := 50) (by decide +kernel), rfl⟩
theorem wi_411 : Cond.code ym_under bm_under 5 (some .boolean) ∈ hq_tbl := List.mem_filter.mpr ⟨List.mem_of_getElem? (i := 950) (by decide +kernel), rfl⟩
theorem wi_412 : Cond.instanceMethod ym_gather ∈ hq_tbl := List.mem_filter.mpr ⟨List.mem_of_getElem? (i := 945) (by decide +kernel), rfl⟩
theorem wi_413 : Cond.selects "HeapQueriesModel" ym_gather ym_gather ∈ hq_tbl := List.mem_filter.mpr ⟨List.mem_of_getElem? (i := 49) (by decide +kernel), rfl⟩
theorem wi_414 : Cond.code ym_gather bm_gather 4 none ∈ hq_tbl := List.mem_filter.mpr ⟨List.mem_of_getElem? (i := 946) (by decide +kernel), rfl⟩
theorem wi_415 : Cond.static ym_rank ∈ hq_tbl := List.mem_filter.mpr ⟨List.mem_of_getElem? (i := 968) (by decide +kernel), rfl⟩
theorem wi_416 : Cond.code ym_rank bm_rank 1 (some .int) ∈ hq_tbl := List.mem_filter.mpr ⟨List.mem_of_getElem? (i := 969) (by decide +kernel), rfl⟩
theorem wi_417 : Cond.instanceMethod ym_give ∈ hq_tbl := List.mem_filter.mpr ⟨List.mem_of_getElem? (i := 976) (by decide +kernel), rfl⟩
theorem wi_418 : Cond.selects "HeapQueriesModel" ym_give ym_give ∈ hq_tbl := List.mem_filter.mpr ⟨List.mem_of_getElem? (i := 56) (by decide +kernel), rfl⟩
theorem wi_419 : Cond.code ym_give bm_give 4 none ∈ hq_tbl := List.mem_filter.mpr ⟨List.mem_of_getElem? (i := 977) (by decide +kernel), rfl⟩
theorem wi_420 : Cond.instanceMethod ym_truth ∈ hq_tbl := List.mem_filter.mpr ⟨List.mem_of_getElem? (i := 972) (by decide +kernel), rfl⟩
theorem wi_421 : Cond.selects "HeapQueriesModel" ym_truth ym_truth ∈ hq_tbl := List.mem_filter.mpr ⟨List.mem_of_getElem? (i := 55) (by decide +kernel), rfl⟩
theorem wi_422 : Cond.code ym_truth bm_truth 2 none ∈ hq_tbl := List.mem_filter.mpr ⟨List.mem_of_getElem? (i := 973) (by decide +kernel), rfl⟩
theorem wi_423 : Cond.instanceMethod ym_pair ∈ hq_tbl := List.mem_filter.mpr ⟨List.mem_of_getElem? (i := 980) (by decide +kernel), rfl⟩
theorem wi_424 : Cond.selects "HeapQueriesModel" ym_pair ym_pair ∈ hq_tbl := List.mem_filter.mpr ⟨List.mem_of_getElem? (i := 57) (by decide +kernel), rfl⟩
theorem wi_425 : Cond.code ym_pair bm_pair 7 none ∈ hq_tbl := List.mem_filter.mpr ⟨List.mem_of_getElem? (i := 981) (by decide +kernel), rfl⟩
theorem wi_426 : Cond.instanceMethod ym_apply ∈ hq_tbl := List.mem_filter.mpr ⟨List.mem_of_getElem? (i := 965) (by decide +kernel), rfl⟩
theorem wi_427 : Cond.selects "HeapQueriesModel" ym_apply ym_apply ∈ hq_tbl := List.mem_filter.mpr ⟨List.mem_of_getElem? (i := 54) (by decide +kernel), rfl⟩
theorem wi_428 : Cond.code ym_apply bm_apply 3 none ∈ hq_tbl := List.mem_filter.mpr ⟨List.mem_of_getElem? (i := 966) (by decide +kernel), rfl⟩
theorem wi_429 : Cond.instanceMethod ym_along ∈ hq_tbl := List.mem_filter.mpr ⟨List.mem_of_getElem? (i := 984) (by decide +kernel), rfl⟩
theorem wi_430 : Cond.selects "HeapQueriesModel" ym_along ym_along ∈ hq_tbl := List.mem_filter.mpr ⟨List.mem_of_getElem? (i := 58) (by decide +kernel), rfl⟩
theorem wi_431 : Cond.code ym_along bm_along 7 none ∈ hq_tbl := List.mem_filter.mpr ⟨List.mem_of_getElem? (i := 985) (by decide +kernel), rfl⟩
theorem wi_432 : Cond.instanceMethod ym_hold ∈ hq_tbl := List.mem_filter.mpr ⟨List.mem_of_getElem? (i := 988) (by decide +kernel), rfl⟩
theorem wi_433 : Cond.selects "HeapQueriesModel" ym_hold ym_hold ∈ hq_tbl := List.mem_filter.mpr ⟨List.mem_of_getElem? (i := 59) (by decide +kernel), rfl⟩
theorem wi_434 : Cond.code ym_hold bm_hold 2 none ∈ hq_tbl := List.mem_filter.mpr ⟨List.mem_of_getElem? (i := 989) (by decide +kernel), rfl⟩
theorem wi_435 : Cond.static ym_stops ∈ hq_tbl := List.mem_filter.mpr ⟨List.mem_of_getElem? (i := 995) (by decide +kernel), rfl⟩
theorem wi_436 : Cond.code ym_stops bm_stops 2 (some .boolean) ∈ hq_tbl := List.mem_filter.mpr ⟨List.mem_of_getElem? (i := 996) (by decide +kernel), rfl⟩
theorem wi_437 : Cond.instanceMethod ym_branch ∈ hq_tbl := List.mem_filter.mpr ⟨List.mem_of_getElem? (i := 992) (by decide +kernel), rfl⟩
theorem wi_438 : Cond.selects "HeapQueriesModel" ym_branch ym_branch ∈ hq_tbl := List.mem_filter.mpr ⟨List.mem_of_getElem? (i := 60) (by decide +kernel), rfl⟩
theorem wi_439 : Cond.code ym_branch bm_branch 4 none ∈ hq_tbl := List.mem_filter.mpr ⟨List.mem_of_getElem? (i := 993) (by decide +kernel), rfl⟩
theorem wi_440 : Cond.instanceMethod ym_take ∈ hq_tbl := List.mem_filter.mpr ⟨List.mem_of_getElem? (i := 961) (by decide +kernel), rfl⟩
theorem wi_441 : Cond.selects "HeapQueriesModel" ym_take ym_take ∈ hq_tbl := List.mem_filter.mpr ⟨List.mem_of_getElem? (i := 53) (by decide +kernel), rfl⟩
theorem wi_442 : Cond.code ym_take bm_take 3 (some .boolean) ∈ hq_tbl := List.mem_filter.mpr ⟨List.mem_of_getElem? (i := 962) (by decide +kernel), rfl⟩
theorem wi_443 : Cond.instanceMethod ym_work ∈ hq_tbl := List.mem_filter.mpr ⟨List.mem_of_getElem? (i := 957) (by decide +kernel), rfl⟩
theorem wi_444 : Cond.selects "HeapQueriesModel" ym_work ym_work ∈ hq_tbl := List.mem_filter.mpr ⟨List.mem_of_getElem? (i := 52) (by decide +kernel), rfl⟩
theorem wi_445 : Cond.code ym_work bm_work 4 none ∈ hq_tbl := List.mem_filter.mpr ⟨List.mem_of_getElem? (i := 958) (by decide +kernel), rfl⟩
theorem wi_446 : Cond.instanceMethod ym_look ∈ hq_tbl := List.mem_filter.mpr ⟨List.mem_of_getElem? (i := 953) (by decide +kernel), rfl⟩
theorem wi_447 : Cond.selects "HeapQueriesModel" ym_look ym_look ∈ hq_tbl := List.mem_filter.mpr ⟨List.mem_of_getElem? (i := 51) (by decide +kernel), rfl⟩
theorem wi_448 : Cond.code ym_look bm_look 2 none ∈ hq_tbl := List.mem_filter.mpr ⟨List.mem_of_getElem? (i := 954) (by decide +kernel), rfl⟩
theorem wi_449 : Cond.instanceMethod ym_numbers ∈ hq_tbl := List.mem_filter.mpr ⟨List.mem_of_getElem? (i := 999) (by decide +kernel), rfl⟩
theorem wi_450 : Cond.selects "HeapQueriesModel" ym_numbers ym_numbers ∈ hq_tbl := List.mem_filter.mpr ⟨List.mem_of_getElem? (i := 61) (by decide +kernel), rfl⟩
theorem wi_451 : Cond.code ym_numbers bm_numbers 3 none ∈ hq_tbl := List.mem_filter.mpr ⟨List.mem_of_getElem? (i := 1000) (by decide +kernel), rfl⟩
theorem wi_452 : Cond.instanceMethod ym_retain ∈ hq_tbl := List.mem_filter.mpr ⟨List.mem_of_getElem? (i := 1003) (by decide +kernel), rfl⟩
theorem wi_453 : Cond.selects "HeapQueriesModel" ym_retain ym_retain ∈ hq_tbl := List.mem_filter.mpr ⟨List.mem_of_getElem? (i := 62) (by decide +kernel), rfl⟩
theorem wi_454 : Cond.code ym_retain bm_retain 5 none ∈ hq_tbl := List.mem_filter.mpr ⟨List.mem_of_getElem? (i := 1004) (by decide +kernel), rfl⟩
theorem wi_455 : Cond.instanceMethod ym_single ∈ hq_tbl := List.mem_filter.mpr ⟨List.mem_of_getElem? (i := 1007) (by decide +kernel), rfl⟩
theorem wi_456 : Cond.selects "HeapQueriesModel" ym_single ym_single ∈ hq_tbl := List.mem_filter.mpr ⟨List.mem_of_getElem? (i := 63) (by decide +kernel), rfl⟩
theorem wi_457 : Cond.code ym_single bm_single 6 none ∈ hq_tbl := List.mem_filter.mpr ⟨List.mem_of_getElem? (i := 1008) (by decide +kernel), rfl⟩
theorem wi_458 : Cond.instanceMethod ym_select ∈ hq_tbl := List.mem_filter.mpr ⟨List.mem_of_getElem? (i := 941) (by decide +kernel), rfl⟩
theorem wi_459 : Cond.selects "HeapQueriesModel" ym_select ym_select ∈ hq_tbl := List.mem_filter.mpr ⟨List.mem_of_getElem? (i := 48) (by decide +kernel), rfl⟩
theorem wi_460 : Cond.code ym_select bm_select 3 none ∈ hq_tbl := List.mem_filter.mpr ⟨List.mem_of_getElem? (i := 942) (by decide +kernel), rfl⟩
theorem wi_461 : Cond.instanceMethod ym_notice ∈ hq_tbl := List.mem_filter.mpr ⟨List.mem_of_getElem? (i := 937) (by decide +kernel), rfl⟩
theorem wi_462 : Cond.selects "HeapQueriesModel" ym_notice ym_notice ∈ hq_tbl := List.mem_filter.mpr ⟨List.mem_of_getElem? (i := 47) (by decide +kernel), rfl⟩
theorem wi_463 : Cond.code ym_notice bm_notice 4 none ∈ hq_tbl := List.mem_filter.mpr ⟨List.mem_of_getElem? (i := 938) (by decide +kernel), rfl⟩
theorem wi_464 : Cond.instanceMethod ym_run ∈ hq_tbl := List.mem_filter.mpr ⟨List.mem_of_getElem? (i := 932) (by decide +kernel), rfl⟩
theorem wi_465 : Cond.selects "HeapQueriesModel" ym_run ym_run ∈ hq_tbl := List.mem_filter.mpr ⟨List.mem_of_getElem? (i := 933) (by decide +kernel), rfl⟩
theorem wi_466 : Cond.code ym_run bm_run 3 (some .int) ∈ hq_tbl := List.mem_filter.mpr ⟨List.mem_of_getElem? (i := 934) (by decide +kernel), rfl⟩
theorem wi_467 : Cond.instanceMethod ym_rows ∈ hq_tbl := List.mem_filter.mpr ⟨List.mem_of_getElem? (i := 1010) (by decide +kernel), rfl⟩
theorem wi_468 : Cond.selects "HeapQueriesModel" ym_rows ym_rows ∈ hq_tbl := List.mem_filter.mpr ⟨List.mem_of_getElem? (i := 1011) (by decide +kernel), rfl⟩
theorem wi_469 : Cond.code ym_rows bm_rows 1 (some .int) ∈ hq_tbl := List.mem_filter.mpr ⟨List.mem_of_getElem? (i := 1012) (by decide +kernel), rfl⟩
theorem wi_470 : Cond.instanceMethod ym_row ∈ hq_tbl := List.mem_filter.mpr ⟨List.mem_of_getElem? (i := 1019) (by decide +kernel), rfl⟩
theorem wi_471 : Cond.selects "HeapQueriesModel" ym_row ym_row ∈ hq_tbl := List.mem_filter.mpr ⟨List.mem_of_getElem? (i := 64) (by decide +kernel), rfl⟩
theorem wi_472 : Cond.code ym_row bm_row 2 (some .boolean) ∈ hq_tbl := List.mem_filter.mpr ⟨List.mem_of_getElem? (i := 1020) (by decide +kernel), rfl⟩
theorem wi_473 : Cond.instanceMethod ym_kind ∈ hq_tbl := List.mem_filter.mpr ⟨List.mem_of_getElem? (i := 1014) (by decide +kernel), rfl⟩
theorem wi_474 : Cond.selects "HeapQueriesModel" ym_kind ym_kind ∈ hq_tbl := List.mem_filter.mpr ⟨List.mem_of_getElem? (i := 1015) (by decide +kernel), rfl⟩
theorem wi_475 : Cond.code ym_kind bm_kind 2 (some .int) ∈ hq_tbl := List.mem_filter.mpr ⟨List.mem_of_getElem? (i := 1016) (by decide +kernel), rfl⟩
theorem wi_476 : Cond.instanceMethod ym_value ∈ hq_tbl := List.mem_filter.mpr ⟨List.mem_of_getElem? (i := 1022) (by decide +kernel), rfl⟩
theorem wi_477 : Cond.selects "HeapQueriesModel" ym_value ym_value ∈ hq_tbl := List.mem_filter.mpr ⟨List.mem_of_getElem? (i := 1023) (by decide +kernel), rfl⟩
theorem wi_478 : Cond.code ym_value bm_value 2 (some .int) ∈ hq_tbl := List.mem_filter.mpr ⟨List.mem_of_getElem? (i := 1024) (by decide +kernel), rfl⟩
theorem wi_479 : Cond.instanceMethod ym_looked ∈ hq_tbl := List.mem_filter.mpr ⟨List.mem_of_getElem? (i := 1026) (by decide +kernel), rfl⟩
theorem wi_480 : Cond.selects "HeapQueriesModel" ym_looked ym_looked ∈ hq_tbl := List.mem_filter.mpr ⟨List.mem_of_getElem? (i := 1027) (by decide +kernel), rfl⟩
theorem wi_481 : Cond.code ym_looked bm_looked 1 (some .int) ∈ hq_tbl := List.mem_filter.mpr ⟨List.mem_of_getElem? (i := 1028) (by decide +kernel), rfl⟩
theorem wi_482 : Cond.static yxc_valueOfLeaf ∈ hq_tbl := List.mem_filter.mpr ⟨List.mem_of_getElem? (i := 602) (by decide +kernel), rfl⟩
theorem wi_483 : Cond.initialized "HeapQueries$Calculator" ∈ hq_tbl := List.mem_filter.mpr ⟨List.mem_of_getElem? (i := 77) (by decide +kernel), rfl⟩
theorem wi_484 : Cond.code yxc_valueOfLeaf bxc_valueOfLeaf 2 (some .long) ∈ hq_tbl := List.mem_filter.mpr ⟨List.mem_of_getElem? (i := 603) (by decide +kernel), rfl⟩
theorem wi_485 : Cond.static yxv_isError ∈ hq_tbl := List.mem_filter.mpr ⟨List.mem_of_getElem? (i := 608) (by decide +kernel), rfl⟩
theorem wi_486 : Cond.code yxv_isError bxv_isError 2 (some .boolean) ∈ hq_tbl := List.mem_filter.mpr ⟨List.mem_of_getElem? (i := 609) (by decide +kernel), rfl⟩
theorem wi_487 : Cond.static yxv_error ∈ hq_tbl := List.mem_filter.mpr ⟨List.mem_of_getElem? (i := 620) (by decide +kernel), rfl⟩
theorem wi_488 : Cond.code yxv_error bxv_error 1 (some .long) ∈ hq_tbl := List.mem_filter.mpr ⟨List.mem_of_getElem? (i := 621) (by decide +kernel), rfl⟩
theorem wi_489 : Cond.static yxv_flag ∈ hq_tbl := List.mem_filter.mpr ⟨List.mem_of_getElem? (i := 624) (by decide +kernel), rfl⟩
theorem wi_490 : Cond.code yxv_flag bxv_flag 1 (some .long) ∈ hq_tbl := List.mem_filter.mpr ⟨List.mem_of_getElem? (i := 625) (by decide +kernel), rfl⟩
theorem wi_491 : Cond.static yxv_truthOf ∈ hq_tbl := List.mem_filter.mpr ⟨List.mem_of_getElem? (i := 615) (by decide +kernel), rfl⟩
theorem wi_492 : Cond.code yxv_truthOf bxv_truthOf 2 (some .long) ∈ hq_tbl := List.mem_filter.mpr ⟨List.mem_of_getElem? (i := 616) (by decide +kernel), rfl⟩
theorem wi_493 : Cond.static yxv_isEmpty ∈ hq_tbl := List.mem_filter.mpr ⟨List.mem_of_getElem? (i := 590) (by decide +kernel), rfl⟩
theorem wi_494 : Cond.code yxv_isEmpty bxv_isEmpty 2 (some .boolean) ∈ hq_tbl := List.mem_filter.mpr ⟨List.mem_of_getElem? (i := 591) (by decide +kernel), rfl⟩
theorem wi_495 : Cond.instanceMethod yxh_classOf ∈ hq_tbl := List.mem_filter.mpr ⟨List.mem_of_getElem? (i := 569) (by decide +kernel), rfl⟩
theorem wi_496 : Cond.selects "HeapQueries$Heap" yxh_classOf yxh_classOf ∈ hq_tbl := List.mem_filter.mpr ⟨List.mem_of_getElem? (i := 570) (by decide +kernel), rfl⟩
theorem wi_497 : Cond.code yxh_classOf bxh_classOf 2 (some .int) ∈ hq_tbl := List.mem_filter.mpr ⟨List.mem_of_getElem? (i := 571) (by decide +kernel), rfl⟩
theorem wi_498 : Cond.instanceMethod yxs_linkCountOf ∈ hq_tbl := List.mem_filter.mpr ⟨List.mem_of_getElem? (i := 643) (by decide +kernel), rfl⟩
theorem wi_499 : Cond.selects "HeapQueries$Survey" yxs_linkCountOf yxs_linkCountOf ∈ hq_tbl := List.mem_filter.mpr ⟨List.mem_of_getElem? (i := 644) (by decide +kernel), rfl⟩
theorem wi_500 : Cond.code yxs_linkCountOf bxs_linkCountOf 2 (some .int) ∈ hq_tbl := List.mem_filter.mpr ⟨List.mem_of_getElem? (i := 645) (by decide +kernel), rfl⟩
theorem wi_501 : Cond.static yxc_factOf ∈ hq_tbl := List.mem_filter.mpr ⟨List.mem_of_getElem? (i := 636) (by decide +kernel), rfl⟩
theorem wi_502 : Cond.code yxc_factOf bxc_factOf 4 (some .long) ∈ hq_tbl := List.mem_filter.mpr ⟨List.mem_of_getElem? (i := 637) (by decide +kernel), rfl⟩
theorem wi_503 : Cond.static yxc_valueOfUnary ∈ hq_tbl := List.mem_filter.mpr ⟨List.mem_of_getElem? (i := 612) (by decide +kernel), rfl⟩
theorem wi_504 : Cond.code yxc_valueOfUnary bxc_valueOfUnary 6 (some .long) ∈ hq_tbl := List.mem_filter.mpr ⟨List.mem_of_getElem? (i := 613) (by decide +kernel), rfl⟩
theorem wi_505 : Cond.static yxc_settles ∈ hq_tbl := List.mem_filter.mpr ⟨List.mem_of_getElem? (i := 647) (by decide +kernel), rfl⟩
theorem wi_506 : Cond.code yxc_settles bxc_settles 5 (some .boolean) ∈ hq_tbl := List.mem_filter.mpr ⟨List.mem_of_getElem? (i := 648) (by decide +kernel), rfl⟩
theorem wi_507 : Cond.static yxc_valueOfArithmetic ∈ hq_tbl := List.mem_filter.mpr ⟨List.mem_of_getElem? (i := 654) (by decide +kernel), rfl⟩
theorem wi_508 : Cond.code yxc_valueOfArithmetic bxc_valueOfArithmetic 7 (some .long) ∈ hq_tbl := List.mem_filter.mpr ⟨List.mem_of_getElem? (i := 655) (by decide +kernel), rfl⟩
theorem wi_509 : Cond.static yxc_valueOfBinary ∈ hq_tbl := List.mem_filter.mpr ⟨List.mem_of_getElem? (i := 651) (by decide +kernel), rfl⟩
theorem wi_510 : Cond.code yxc_valueOfBinary bxc_valueOfBinary 5 (some .long) ∈ hq_tbl := List.mem_filter.mpr ⟨List.mem_of_getElem? (i := 652) (by decide +kernel), rfl⟩
theorem wi_511 : Cond.instanceMethod yxh_isInstance ∈ hq_tbl := List.mem_filter.mpr ⟨List.mem_of_getElem? (i := 565) (by decide +kernel), rfl⟩
theorem wi_512 : Cond.selects "HeapQueries$Heap" yxh_isInstance yxh_isInstance ∈ hq_tbl := List.mem_filter.mpr ⟨List.mem_of_getElem? (i := 566) (by decide +kernel), rfl⟩
theorem wi_513 : Cond.code yxh_isInstance bxh_isInstance 5 (some .boolean) ∈ hq_tbl := List.mem_filter.mpr ⟨List.mem_of_getElem? (i := 567) (by decide +kernel), rfl⟩
theorem wi_514 : Cond.instanceMethod yxt_codeAt ∈ hq_tbl := List.mem_filter.mpr ⟨List.mem_of_getElem? (i := 469) (by decide +kernel), rfl⟩
theorem wi_515 : Cond.selects "HeapQueries$Text" yxt_codeAt yxt_codeAt ∈ hq_tbl := List.mem_filter.mpr ⟨List.mem_of_getElem? (i := 470) (by decide +kernel), rfl⟩
theorem wi_516 : Cond.code yxt_codeAt bxt_codeAt 2 (some .int) ∈ hq_tbl := List.mem_filter.mpr ⟨List.mem_of_getElem? (i := 471) (by decide +kernel), rfl⟩
theorem wi_517 : Cond.instanceMethod yxt_numberAt ∈ hq_tbl := List.mem_filter.mpr ⟨List.mem_of_getElem? (i := 508) (by decide +kernel), rfl⟩
theorem wi_518 : Cond.selects "HeapQueries$Text" yxt_numberAt yxt_numberAt ∈ hq_tbl := List.mem_filter.mpr ⟨List.mem_of_getElem? (i := 509) (by decide +kernel), rfl⟩
theorem wi_519 : Cond.code yxt_numberAt bxt_numberAt 2 (some .int) ∈ hq_tbl := List.mem_filter.mpr ⟨List.mem_of_getElem? (i := 510) (by decide +kernel), rfl⟩
theorem wi_520 : Cond.instanceMethod yxt_forget ∈ hq_tbl := List.mem_filter.mpr ⟨List.mem_of_getElem? (i := 536) (by decide +kernel), rfl⟩
theorem wi_521 : Cond.selects "HeapQueries$Text" yxt_forget yxt_forget ∈ hq_tbl := List.mem_filter.mpr ⟨List.mem_of_getElem? (i := 537) (by decide +kernel), rfl⟩
theorem wi_522 : Cond.code yxt_forget bxt_forget 1 none ∈ hq_tbl := List.mem_filter.mpr ⟨List.mem_of_getElem? (i := 538) (by decide +kernel), rfl⟩
theorem wi_523 : Cond.instanceMethod yxt_placeInS ∈ hq_tbl := List.mem_filter.mpr ⟨List.mem_of_getElem? (i := 366) (by decide +kernel), rfl⟩
theorem wi_524 : Cond.selects "HeapQueries$Text" yxt_placeInS yxt_placeInS ∈ hq_tbl := List.mem_filter.mpr ⟨List.mem_of_getElem? (i := 8) (by decide +kernel), rfl⟩
theorem wi_525 : Cond.code yxt_placeInS bxt_placeInS 2 (some .int) ∈ hq_tbl := List.mem_filter.mpr ⟨List.mem_of_getElem? (i := 367) (by decide +kernel), rfl⟩
theorem wi_526 : Cond.instanceMethod yxt_placeAfterDistinct ∈ hq_tbl := List.mem_filter.mpr ⟨List.mem_of_getElem? (i := 362) (by decide +kernel), rfl⟩
theorem wi_527 : Cond.selects "HeapQueries$Text" yxt_placeAfterDistinct yxt_placeAfterDistinct ∈ hq_tbl := List.mem_filter.mpr ⟨List.mem_of_getElem? (i := 7) (by decide +kernel), rfl⟩
theorem wi_528 : Cond.code yxt_placeAfterDistinct bxt_placeAfterDistinct 2 (some .int) ∈ hq_tbl := List.mem_filter.mpr ⟨List.mem_of_getElem? (i := 363) (by decide +kernel), rfl⟩
theorem wi_529 : Cond.instanceMethod yxt_isInsideE ∈ hq_tbl := List.mem_filter.mpr ⟨List.mem_of_getElem? (i := 378) (by decide +kernel), rfl⟩
theorem wi_530 : Cond.selects "HeapQueries$Text" yxt_isInsideE yxt_isInsideE ∈ hq_tbl := List.mem_filter.mpr ⟨List.mem_of_getElem? (i := 11) (by decide +kernel), rfl⟩
theorem wi_531 : Cond.code yxt_isInsideE bxt_isInsideE 1 (some .boolean) ∈ hq_tbl := List.mem_filter.mpr ⟨List.mem_of_getElem? (i := 379) (by decide +kernel), rfl⟩
theorem wi_532 : Cond.instanceMethod yxt_placeAfterWholeSelect ∈ hq_tbl := List.mem_filter.mpr ⟨List.mem_of_getElem? (i := 382) (by decide +kernel), rfl⟩
theorem wi_533 : Cond.selects "HeapQueries$Text" yxt_placeAfterWholeSelect yxt_placeAfterWholeSelect ∈ hq_tbl := List.mem_filter.mpr ⟨List.mem_of_getElem? (i := 12) (by decide +kernel), rfl⟩
theorem wi_534 : Cond.code yxt_placeAfterWholeSelect bxt_placeAfterWholeSelect 2 (some .int) ∈ hq_tbl := List.mem_filter.mpr ⟨List.mem_of_getElem? (i := 383) (by decide +kernel), rfl⟩
theorem wi_535 : Cond.instanceMethod yxt_placeAfterE ∈ hq_tbl := List.mem_filter.mpr ⟨List.mem_of_getElem? (i := 374) (by decide +kernel), rfl⟩
theorem wi_536 : Cond.selects "HeapQueries$Text" yxt_placeAfterE yxt_placeAfterE ∈ hq_tbl := List.mem_filter.mpr ⟨List.mem_of_getElem? (i := 10) (by decide +kernel), rfl⟩
theorem wi_537 : Cond.code yxt_placeAfterE bxt_placeAfterE 2 (some .int) ∈ hq_tbl := List.mem_filter.mpr ⟨List.mem_of_getElem? (i := 375) (by decide +kernel), rfl⟩
theorem wi_538 : Cond.instanceMethod yxt_placeAfterU ∈ hq_tbl := List.mem_filter.mpr ⟨List.mem_of_getElem? (i := 370) (by decide +kernel), rfl⟩
theorem wi_539 : Cond.selects "HeapQueries$Text" yxt_placeAfterU yxt_placeAfterU ∈ hq_tbl := List.mem_filter.mpr ⟨List.mem_of_getElem? (i := 9) (by decide +kernel), rfl⟩
theorem wi_540 : Cond.code yxt_placeAfterU bxt_placeAfterU 2 (some .int) ∈ hq_tbl := List.mem_filter.mpr ⟨List.mem_of_getElem? (i := 371) (by decide +kernel), rfl⟩
theorem wi_541 : Cond.instanceMethod yxt_placeInSource ∈ hq_tbl := List.mem_filter.mpr ⟨List.mem_of_getElem? (i := 386) (by decide +kernel), rfl⟩
theorem wi_542 : Cond.selects "HeapQueries$Text" yxt_placeInSource yxt_placeInSource ∈ hq_tbl := List.mem_filter.mpr ⟨List.mem_of_getElem? (i := 13) (by decide +kernel), rfl⟩
theorem wi_543 : Cond.code yxt_placeInSource bxt_placeInSource 2 (some .int) ∈ hq_tbl := List.mem_filter.mpr ⟨List.mem_of_getElem? (i := 387) (by decide +kernel), rfl⟩
theorem wi_544 : Cond.instanceMethod yxt_placeAfter ∈ hq_tbl := List.mem_filter.mpr ⟨List.mem_of_getElem? (i := 358) (by decide +kernel), rfl⟩
theorem wi_545 : Cond.selects "HeapQueries$Text" yxt_placeAfter yxt_placeAfter ∈ hq_tbl := List.mem_filter.mpr ⟨List.mem_of_getElem? (i := 6) (by decide +kernel), rfl⟩
theorem wi_546 : Cond.code yxt_placeAfter bxt_placeAfter 2 (some .int) ∈ hq_tbl := List.mem_filter.mpr ⟨List.mem_of_getElem? (i := 359) (by decide +kernel), rfl⟩
theorem wi_547 : Cond.instanceMethod yxt_openBracket ∈ hq_tbl := List.mem_filter.mpr ⟨List.mem_of_getElem? (i := 394) (by decide +kernel), rfl⟩
theorem wi_548 : Cond.selects "HeapQueries$Text" yxt_openBracket yxt_openBracket ∈ hq_tbl := List.mem_filter.mpr ⟨List.mem_of_getElem? (i := 15) (by decide +kernel), rfl⟩
theorem wi_549 : Cond.code yxt_openBracket bxt_openBracket 2 none ∈ hq_tbl := List.mem_filter.mpr ⟨List.mem_of_getElem? (i := 395) (by decide +kernel), rfl⟩
theorem wi_550 : Cond.instanceMethod yxt_closeBracket ∈ hq_tbl := List.mem_filter.mpr ⟨List.mem_of_getElem? (i := 398) (by decide +kernel), rfl⟩
theorem wi_551 : Cond.selects "HeapQueries$Text" yxt_closeBracket yxt_closeBracket ∈ hq_tbl := List.mem_filter.mpr ⟨List.mem_of_getElem? (i := 16) (by decide +kernel), rfl⟩
theorem wi_552 : Cond.code yxt_closeBracket bxt_closeBracket 1 none ∈ hq_tbl := List.mem_filter.mpr ⟨List.mem_of_getElem? (i := 399) (by decide +kernel), rfl⟩
theorem wi_553 : Cond.instanceMethod yxt_remember ∈ hq_tbl := List.mem_filter.mpr ⟨List.mem_of_getElem? (i := 390) (by decide +kernel), rfl⟩
theorem wi_554 : Cond.selects "HeapQueries$Text" yxt_remember yxt_remember ∈ hq_tbl := List.mem_filter.mpr ⟨List.mem_of_getElem? (i := 14) (by decide +kernel), rfl⟩
theorem wi_555 : Cond.code yxt_remember bxt_remember 2 none ∈ hq_tbl := List.mem_filter.mpr ⟨List.mem_of_getElem? (i := 391) (by decide +kernel), rfl⟩
theorem wi_556 : Cond.instanceMethod yxt_take ∈ hq_tbl := List.mem_filter.mpr ⟨List.mem_of_getElem? (i := 353) (by decide +kernel), rfl⟩
theorem wi_557 : Cond.selects "HeapQueries$Text" yxt_take yxt_take ∈ hq_tbl := List.mem_filter.mpr ⟨List.mem_of_getElem? (i := 354) (by decide +kernel), rfl⟩
theorem wi_558 : Cond.code yxt_take bxt_take 4 (some .boolean) ∈ hq_tbl := List.mem_filter.mpr ⟨List.mem_of_getElem? (i := 355) (by decide +kernel), rfl⟩
theorem wi_559 : Cond.static yxv_isNumber ∈ hq_tbl := List.mem_filter.mpr ⟨List.mem_of_getElem? (i := 583) (by decide +kernel), rfl⟩
theorem wi_560 : Cond.code yxv_isNumber bxv_isNumber 2 (some .boolean) ∈ hq_tbl := List.mem_filter.mpr ⟨List.mem_of_getElem? (i := 584) (by decide +kernel), rfl⟩
theorem wi_561 : Cond.instanceMethod yxw_begin ∈ hq_tbl := List.mem_filter.mpr ⟨List.mem_of_getElem? (i := 544) (by decide +kernel), rfl⟩
theorem wi_562 : Cond.selects "HeapQueries$Worker" yxw_begin yxw_begin ∈ hq_tbl := List.mem_filter.mpr ⟨List.mem_of_getElem? (i := 545) (by decide +kernel), rfl⟩
theorem wi_563 : Cond.code yxw_begin bxw_begin 1 none ∈ hq_tbl := List.mem_filter.mpr ⟨List.mem_of_getElem? (i := 546) (by decide +kernel), rfl⟩
theorem wi_564 : Cond.instanceMethod yxw_dropRows ∈ hq_tbl := List.mem_filter.mpr ⟨List.mem_of_getElem? (i := 674) (by decide +kernel), rfl⟩
theorem wi_565 : Cond.selects "HeapQueries$Worker" yxw_dropRows yxw_dropRows ∈ hq_tbl := List.mem_filter.mpr ⟨List.mem_of_getElem? (i := 675) (by decide +kernel), rfl⟩
theorem wi_566 : Cond.code yxw_dropRows bxw_dropRows 1 none ∈ hq_tbl := List.mem_filter.mpr ⟨List.mem_of_getElem? (i := 676) (by decide +kernel), rfl⟩
theorem wi_567 : Cond.instanceMethod yxw_add ∈ hq_tbl := List.mem_filter.mpr ⟨List.mem_of_getElem? (i := 575) (by decide +kernel), rfl⟩
theorem wi_568 : Cond.selects "HeapQueries$Worker" yxw_add yxw_add ∈ hq_tbl := List.mem_filter.mpr ⟨List.mem_of_getElem? (i := 26) (by decide +kernel), rfl⟩
theorem wi_569 : Cond.code yxw_add bxw_add 3 none ∈ hq_tbl := List.mem_filter.mpr ⟨List.mem_of_getElem? (i := 576) (by decide +kernel), rfl⟩
theorem wi_570 : Cond.instanceMethod yxw_addObjectsOfClass ∈ hq_tbl := List.mem_filter.mpr ⟨List.mem_of_getElem? (i := 561) (by decide +kernel), rfl⟩
theorem wi_571 : Cond.selects "HeapQueries$Worker" yxw_addObjectsOfClass yxw_addObjectsOfClass ∈ hq_tbl := List.mem_filter.mpr ⟨List.mem_of_getElem? (i := 25) (by decide +kernel), rfl⟩
theorem wi_572 : Cond.code yxw_addObjectsOfClass bxw_addObjectsOfClass 5 none ∈ hq_tbl := List.mem_filter.mpr ⟨List.mem_of_getElem? (i := 562) (by decide +kernel), rfl⟩
theorem wi_573 : Cond.instanceMethod yxw_hasNumber ∈ hq_tbl := List.mem_filter.mpr ⟨List.mem_of_getElem? (i := 580) (by decide +kernel), rfl⟩
theorem wi_574 : Cond.selects "HeapQueries$Worker" yxw_hasNumber yxw_hasNumber ∈ hq_tbl := List.mem_filter.mpr ⟨List.mem_of_getElem? (i := 27) (by decide +kernel), rfl⟩
theorem wi_575 : Cond.code yxw_hasNumber bxw_hasNumber 3 (some .boolean) ∈ hq_tbl := List.mem_filter.mpr ⟨List.mem_of_getElem? (i := 581) (by decide +kernel), rfl⟩
theorem wi_576 : Cond.instanceMethod yxw_turnIntoRetained ∈ hq_tbl := List.mem_filter.mpr ⟨List.mem_of_getElem? (i := 661) (by decide +kernel), rfl⟩
theorem wi_577 : Cond.selects "HeapQueries$Worker" yxw_turnIntoRetained yxw_turnIntoRetained ∈ hq_tbl := List.mem_filter.mpr ⟨List.mem_of_getElem? (i := 30) (by decide +kernel), rfl⟩
theorem wi_578 : Cond.code yxw_turnIntoRetained bxw_turnIntoRetained 6 (some .int) ∈ hq_tbl := List.mem_filter.mpr ⟨List.mem_of_getElem? (i := 662) (by decide +kernel), rfl⟩
theorem wi_579 : Cond.instanceMethod yxw_hasRowSince ∈ hq_tbl := List.mem_filter.mpr ⟨List.mem_of_getElem? (i := 671) (by decide +kernel), rfl⟩
theorem wi_580 : Cond.selects "HeapQueries$Worker" yxw_hasRowSince yxw_hasRowSince ∈ hq_tbl := List.mem_filter.mpr ⟨List.mem_of_getElem? (i := 32) (by decide +kernel), rfl⟩
theorem wi_581 : Cond.code yxw_hasRowSince bxw_hasRowSince 5 (some .boolean) ∈ hq_tbl := List.mem_filter.mpr ⟨List.mem_of_getElem? (i := 672) (by decide +kernel), rfl⟩
theorem wi_582 : Cond.instanceMethod yxw_leaveOutRepeated ∈ hq_tbl := List.mem_filter.mpr ⟨List.mem_of_getElem? (i := 667) (by decide +kernel), rfl⟩
theorem wi_583 : Cond.selects "HeapQueries$Worker" yxw_leaveOutRepeated yxw_leaveOutRepeated ∈ hq_tbl := List.mem_filter.mpr ⟨List.mem_of_getElem? (i := 31) (by decide +kernel), rfl⟩
theorem wi_584 : Cond.code yxw_leaveOutRepeated bxw_leaveOutRepeated 4 none ∈ hq_tbl := List.mem_filter.mpr ⟨List.mem_of_getElem? (i := 668) (by decide +kernel), rfl⟩
theorem wi_585 : Cond.instanceMethod yxw_leaveOutEmpty ∈ hq_tbl := List.mem_filter.mpr ⟨List.mem_of_getElem? (i := 587) (by decide +kernel), rfl⟩
theorem wi_586 : Cond.selects "HeapQueries$Worker" yxw_leaveOutEmpty yxw_leaveOutEmpty ∈ hq_tbl := List.mem_filter.mpr ⟨List.mem_of_getElem? (i := 28) (by decide +kernel), rfl⟩
theorem wi_587 : Cond.code yxw_leaveOutEmpty bxw_leaveOutEmpty 4 none ∈ hq_tbl := List.mem_filter.mpr ⟨List.mem_of_getElem? (i := 588) (by decide +kernel), rfl⟩
end
section
def kF : Nat := 100000
def hq_I (i : Int32) (n : Nat) : Bool := decide (0 ≤ i.toInt ∧ i.toInt < n)
def sxh_hasClass (l1 : Int32) (hf_classCount : Int32) : Int32 :=
  if l1 < 0 then
    0
  else
    if hf_classCount ≤ l1 then
      0
    else
      1
def sxh_makeClass_J24 (l1 : Int32) (ha_parents : Nat → Int32) (hf_classCount : Int32) : Option (Int32 × (Nat → Int32) × Int32) :=
  if hq_I hf_classCount 8 = true then
    some (((hf_classCount + 1) - 1, upd ha_parents hf_classCount.toNatClampNeg l1, hf_classCount + 1))
  else none
def sxh_makeClass (l1 : Int32) (ha_parents : Nat → Int32) (hf_classCount : Int32) : Option (Int32 × (Nat → Int32) × Int32) :=
  if 8 ≤ hf_classCount then
    some (((-1), ha_parents, hf_classCount))
  else
    if l1 = (-1) then
      sxh_makeClass_J24 l1 ha_parents hf_classCount
    else
      if (sxh_hasClass l1 hf_classCount) = 0 then
        some (((-1), ha_parents, hf_classCount))
      else
        sxh_makeClass_J24 l1 ha_parents hf_classCount
def sxq_addClass (l1 : Int32) (ha_parents : Nat → Int32) (hf_classCount : Int32) : Option (Int32 × (Nat → Int32) × Int32) :=
  (sxh_makeClass l1 ha_parents hf_classCount).bind fun v5 =>
    some (v5.1, v5.2.1, v5.2.2)
def sxh_makeObject (l1 : Int32) (l2 : Int32) (hf_classCount : Int32) (ha_classes : Nat → Int32) (ha_sizes : Nat → Int32) (hf_objectCount : Int32) (hf_changed : Int32) : Option (Int32 × (Nat → Int32) × (Nat → Int32) × Int32 × Int32) :=
  if 24 ≤ hf_objectCount then
    some (((-1), ha_classes, ha_sizes, hf_objectCount, hf_changed))
  else
    if (sxh_hasClass l1 hf_classCount) = 0 then
      some (((-1), ha_classes, ha_sizes, hf_objectCount, hf_changed))
    else
      if l2 < 1 then
        some (((-1), ha_classes, ha_sizes, hf_objectCount, hf_changed))
      else
        if l2 ≤ 1000 then
          if hq_I hf_objectCount 24 = true then
            if hq_I hf_objectCount 24 = true then
              some (((hf_objectCount + 1) - 1, upd ha_classes hf_objectCount.toNatClampNeg l1, upd ha_sizes hf_objectCount.toNatClampNeg l2, hf_objectCount + 1, 1))
            else none
          else none
        else
          some (((-1), ha_classes, ha_sizes, hf_objectCount, hf_changed))
def sxq_addObject (l1 : Int32) (l2 : Int32) (hf_classCount : Int32) (ha_classes : Nat → Int32) (ha_sizes : Nat → Int32) (hf_objectCount : Int32) (hf_changed : Int32) : Option (Int32 × (Nat → Int32) × (Nat → Int32) × Int32 × Int32) :=
  (sxh_makeObject l1 l2 hf_classCount ha_classes ha_sizes hf_objectCount hf_changed).bind fun v6 =>
    some (v6.1, v6.2.1, v6.2.2.1, v6.2.2.2.1, v6.2.2.2.2)
def sxh_hasObject (l1 : Int32) (hf_objectCount : Int32) : Int32 :=
  if l1 < 0 then
    0
  else
    if hf_objectCount ≤ l1 then
      0
    else
      1
def sxh_putField (l1 : Int32) (l2 : Int32) (l3 : Int64) (ha_fields : Nat → Int64) (hf_changed : Int32) : Option ((Nat → Int64) × Int32) :=
  if hq_I ((l1 * 4) + l2) 96 = true then
    some ((vp_updL ha_fields ((l1 * 4) + l2).toNatClampNeg l3, 1))
  else none
def sxv_number (l0 : Int32) : Int64 :=
  4294967296 ||| (l0.toInt64 &&& 4294967295)
def sxv_link (l0 : Int32) : Int64 :=
  8589934592 ||| (l0.toInt64 &&& 4294967295)
def sxq_set (l1 : Int32) (l2 : Int32) (l3 : Int32) (l4 : Int32) (ha_fields : Nat → Int64) (hf_objectCount : Int32) (hf_changed : Int32) : Option (Int32 × (Nat → Int64) × Int32) :=
  if (sxh_hasObject l1 hf_objectCount) = 0 then
    some (0, ha_fields, hf_changed)
  else
    if l2 < 0 then
      some (0, ha_fields, hf_changed)
    else
      if l2 < 4 then
        if l3 = 0 then
          (sxh_putField l1 l2 0 ha_fields hf_changed).bind fun v55 =>
            some (1, v55.1, v55.2)
        else
          if l3 = 1 then
            (sxh_putField l1 l2 (sxv_number l4) ha_fields hf_changed).bind fun v71 =>
              some (1, v71.1, v71.2)
          else
            if l3 = 2 then
              if (sxh_hasObject l4 hf_objectCount) = 0 then
                some (0, ha_fields, hf_changed)
              else
                (sxh_putField l1 l2 (sxv_link l4) ha_fields hf_changed).bind fun v101 =>
                  some (1, v101.1, v101.2)
            else
              some (0, ha_fields, hf_changed)
      else
        some (0, ha_fields, hf_changed)
def sxh_markRoot (l1 : Int32) (l2 : Int32) (hf_roots : Int32) (hf_changed : Int32) : Int32 × Int32 :=
  if l2 = 0 then
    (hf_roots &&& (((1 : Int32) <<< (l1 &&& 31)) ^^^ (-1)), 1)
  else
    (hf_roots ||| ((1 : Int32) <<< (l1 &&& 31)), 1)
def sxq_setRoot (l1 : Int32) (l2 : Int32) (hf_objectCount : Int32) (hf_roots : Int32) (hf_changed : Int32) : Int32 × Int32 × Int32 :=
  if (sxh_hasObject l1 hf_objectCount) = 0 then
    (0, hf_roots, hf_changed)
  else
    (1, (sxh_markRoot l1 l2 hf_roots hf_changed).1, (sxh_markRoot l1 l2 hf_roots hf_changed).2)
def sxh_size (hf_objectCount : Int32) : Int32 :=
  hf_objectCount
def sxh_roots (hf_roots : Int32) : Int32 :=
  hf_roots
def sxh_fieldOf (l1 : Int32) (l2 : Int32) (ha_fields : Nat → Int64) : Option (Int64) :=
  if hq_I ((l1 * 4) + l2) 96 = true then
    some (ha_fields ((l1 * 4) + l2).toNatClampNeg)
  else none
def sxv_isLink (l0 : Int64) : Int32 :=
  if (lg_cmp ((l0.toUInt64 >>> ((32 : Int32).toInt64.toUInt64 &&& Int64.toUInt64 63)).toInt64) 2) = 0 then
    1
  else
    0
def sxv_contentOf (l0 : Int64) : Int32 :=
  l0.toInt32
def sxs_findLinks_L42_B (rec : Int32 → Int32 → (Nat → Int64) → (Nat → Int32) → (Nat → Int32) → Option ((Nat → Int32) × (Nat → Int32))) (l2 : Int32) (l3 : Int32) (ha_fields : Nat → Int64) (sa_linkedFrom : Nat → Int32) (sa_linkCounts : Nat → Int32) : Option ((Nat → Int32) × (Nat → Int32)) :=
  if 4 ≤ l3 then
    some (sa_linkedFrom, sa_linkCounts)
  else
    (sxh_fieldOf l2 l3 ha_fields).bind fun v50 =>
      if (sxv_isLink v50) = 0 then
        rec l2 (l3 + 1) ha_fields sa_linkedFrom sa_linkCounts
      else
        if hq_I l2 24 = true then
          if hq_I l2 24 = true then
            if hq_I (sxv_contentOf v50) 24 = true then
              if hq_I (sxv_contentOf v50) 24 = true then
                rec l2 (l3 + 1) ha_fields (upd sa_linkedFrom l2.toNatClampNeg ((sa_linkedFrom l2.toNatClampNeg) ||| ((1 : Int32) <<< ((sxv_contentOf v50) &&& 31)))) (upd sa_linkCounts (sxv_contentOf v50).toNatClampNeg ((sa_linkCounts (sxv_contentOf v50).toNatClampNeg) + 1))
              else none
            else none
          else none
        else none
def sxs_findLinks_L42 : Nat → Int32 → Int32 → (Nat → Int64) → (Nat → Int32) → (Nat → Int32) → Option ((Nat → Int32) × (Nat → Int32))
  | 0 => fun _ _ _ _ _ => none
  | n + 1 => sxs_findLinks_L42_B (sxs_findLinks_L42 n)
def sxs_findLinks_L32_B (rec : Int32 → (Nat → Int64) → (Nat → Int32) → (Nat → Int32) → Int32 → Option ((Nat → Int32) × (Nat → Int32))) (l2 : Int32) (ha_fields : Nat → Int64) (sa_linkedFrom : Nat → Int32) (sa_linkCounts : Nat → Int32) (sf_objectCount : Int32) : Option ((Nat → Int32) × (Nat → Int32)) :=
  if sf_objectCount ≤ l2 then
    some (sa_linkedFrom, sa_linkCounts)
  else
    (sxs_findLinks_L42 kF l2 0 ha_fields sa_linkedFrom sa_linkCounts).bind fun u42 =>
      rec (l2 + 1) ha_fields u42.1 u42.2 sf_objectCount
def sxs_findLinks_L32 : Nat → Int32 → (Nat → Int64) → (Nat → Int32) → (Nat → Int32) → Int32 → Option ((Nat → Int32) × (Nat → Int32))
  | 0 => fun _ _ _ _ _ => none
  | n + 1 => sxs_findLinks_L32_B (sxs_findLinks_L32 n)
def sxs_findLinks_L2_B (rec : Int32 → (Nat → Int32) → (Nat → Int32) → Int32 → Option ((Nat → Int32) × (Nat → Int32))) (l2 : Int32) (sa_linkedFrom : Nat → Int32) (sa_linkCounts : Nat → Int32) (sf_objectCount : Int32) : Option ((Nat → Int32) × (Nat → Int32)) :=
  if sf_objectCount ≤ l2 then
    some (sa_linkedFrom, sa_linkCounts)
  else
    if hq_I l2 24 = true then
      if hq_I l2 24 = true then
        rec (l2 + 1) (upd sa_linkedFrom l2.toNatClampNeg 0) (upd sa_linkCounts l2.toNatClampNeg 0) sf_objectCount
      else none
    else none
def sxs_findLinks_L2 : Nat → Int32 → (Nat → Int32) → (Nat → Int32) → Int32 → Option ((Nat → Int32) × (Nat → Int32))
  | 0 => fun _ _ _ _ => none
  | n + 1 => sxs_findLinks_L2_B (sxs_findLinks_L2 n)
def sxs_findLinks (ha_fields : Nat → Int64) (sa_linkedFrom : Nat → Int32) (sa_linkCounts : Nat → Int32) (sf_objectCount : Int32) : Option ((Nat → Int32) × (Nat → Int32)) :=
  (sxs_findLinks_L2 kF 0 sa_linkedFrom sa_linkCounts sf_objectCount).bind fun u2 =>
    (sxs_findLinks_L32 kF 0 ha_fields u2.1 u2.2 sf_objectCount).bind fun u32 =>
      some (u32.1, u32.2)
def sjn_numberOfTrailingZeros_J74 (l0 : Int32) (l1 : Int32) : Int32 :=
  l1 + ((l0.toUInt32 >>> ((1 : Int32).toUInt32 &&& Int32.toUInt32 31)).toInt32)
def sjn_numberOfTrailingZeros_J62 (l0 : Int32) (l1 : Int32) : Int32 :=
  if l0 ≤ 4 then
    sjn_numberOfTrailingZeros_J74 l0 l1
  else
    sjn_numberOfTrailingZeros_J74 ((l0.toUInt32 >>> ((2 : Int32).toUInt32 &&& Int32.toUInt32 31)).toInt32) (l1 + 2)
def sjn_numberOfTrailingZeros_J49 (l0 : Int32) (l1 : Int32) : Int32 :=
  if l0 ≤ 16 then
    sjn_numberOfTrailingZeros_J62 l0 l1
  else
    sjn_numberOfTrailingZeros_J62 ((l0.toUInt32 >>> ((4 : Int32).toUInt32 &&& Int32.toUInt32 31)).toInt32) (l1 + 4)
def sjn_numberOfTrailingZeros_J34 (l0 : Int32) (l1 : Int32) : Int32 :=
  if l0 ≤ 256 then
    sjn_numberOfTrailingZeros_J49 l0 l1
  else
    sjn_numberOfTrailingZeros_J49 ((l0.toUInt32 >>> ((8 : Int32).toUInt32 &&& Int32.toUInt32 31)).toInt32) (l1 + 8)
def sjn_numberOfTrailingZeros (l0 : Int32) : Int32 :=
  if 0 < ((l0 ^^^ (-1)) &&& (l0 - 1)) then
    if ((l0 ^^^ (-1)) &&& (l0 - 1)) ≤ 65536 then
      sjn_numberOfTrailingZeros_J34 ((l0 ^^^ (-1)) &&& (l0 - 1)) 1
    else
      sjn_numberOfTrailingZeros_J34 ((((l0 ^^^ (-1)) &&& (l0 - 1)).toUInt32 >>> ((16 : Int32).toUInt32 &&& Int32.toUInt32 31)).toInt32) (1 + 16)
  else
    ((l0 ^^^ (-1)) &&& (l0 - 1)) &&& 32
def sxs_reachableWithout_L14_B (rec : Int32 → Int32 → Int32 → Int32 → (Nat → Int32) → Option (Int32)) (l1 : Int32) (l2 : Int32) (l3 : Int32) (l4 : Int32) (sa_linkedFrom : Nat → Int32) : Option (Int32) :=
  if 24 ≤ l4 then
    some l2
  else
    if l3 = 0 then
      some l2
    else
      if hq_I (sjn_numberOfTrailingZeros l3) 24 = true then
        rec l1 (l2 ||| (((sa_linkedFrom (sjn_numberOfTrailingZeros l3).toNatClampNeg) &&& (l1 ^^^ (-1))) &&& (l2 ^^^ (-1)))) ((l3 &&& (((1 : Int32) <<< ((sjn_numberOfTrailingZeros l3) &&& 31)) ^^^ (-1))) ||| (((sa_linkedFrom (sjn_numberOfTrailingZeros l3).toNatClampNeg) &&& (l1 ^^^ (-1))) &&& (l2 ^^^ (-1)))) (l4 + 1) sa_linkedFrom
      else none
def sxs_reachableWithout_L14 : Nat → Int32 → Int32 → Int32 → Int32 → (Nat → Int32) → Option (Int32)
  | 0 => fun _ _ _ _ _ => none
  | n + 1 => sxs_reachableWithout_L14_B (sxs_reachableWithout_L14 n)
def sxs_reachableWithout (l1 : Int32) (sa_linkedFrom : Nat → Int32) (sf_roots : Int32) : Option (Int32) :=
  (sxs_reachableWithout_L14 kF l1 (sf_roots &&& (l1 ^^^ (-1))) (sf_roots &&& (l1 ^^^ (-1))) 0 sa_linkedFrom).bind fun u14 =>
    some u14
def sxs_retainedBy (l1 : Int32) (sa_linkedFrom : Nat → Int32) (sf_roots : Int32) (sf_reachable : Int32) : Option (Int32) :=
  (sxs_reachableWithout l1 sa_linkedFrom sf_roots).bind fun v6 =>
    some (sf_reachable &&& (v6 ^^^ (-1)))
def sxh_sizeOf (l1 : Int32) (ha_sizes : Nat → Int32) : Option (Int32) :=
  if hq_I l1 24 = true then
    some (ha_sizes l1.toNatClampNeg)
  else none
def sxs_sizeOfSet_L5_B (rec : Int32 → Int32 → Int32 → (Nat → Int32) → Int32 → Option (Int32)) (l2 : Int32) (l3 : Int32) (l4 : Int32) (ha_sizes : Nat → Int32) (sf_objectCount : Int32) : Option (Int32) :=
  if sf_objectCount ≤ l4 then
    some l3
  else
    if (l2 &&& ((1 : Int32) <<< (l4 &&& 31))) = 0 then
      rec l2 l3 (l4 + 1) ha_sizes sf_objectCount
    else
      (sxh_sizeOf l4 ha_sizes).bind fun v27 =>
        rec l2 (l3 + v27) (l4 + 1) ha_sizes sf_objectCount
def sxs_sizeOfSet_L5 : Nat → Int32 → Int32 → Int32 → (Nat → Int32) → Int32 → Option (Int32)
  | 0 => fun _ _ _ _ _ => none
  | n + 1 => sxs_sizeOfSet_L5_B (sxs_sizeOfSet_L5 n)
def sxs_sizeOfSet (l2 : Int32) (ha_sizes : Nat → Int32) (sf_objectCount : Int32) : Option (Int32) :=
  (sxs_sizeOfSet_L5 kF l2 0 0 ha_sizes sf_objectCount).bind fun u5 =>
    some u5
def sxs_findDominators_L4_B (rec : Int32 → Int32 → Int32 → (Nat → Int32) → Int32 → Option (Int32)) (l1 : Int32) (l2 : Int32) (l3 : Int32) (sa_retainedSets : Nat → Int32) (sf_objectCount : Int32) : Option (Int32) :=
  if sf_objectCount ≤ l3 then
    some l2
  else
    if l3 = l1 then
      rec l1 l2 (l3 + 1) sa_retainedSets sf_objectCount
    else
      if hq_I l3 24 = true then
        if ((sa_retainedSets l3.toNatClampNeg) &&& ((1 : Int32) <<< (l1 &&& 31))) = 0 then
          rec l1 l2 (l3 + 1) sa_retainedSets sf_objectCount
        else
          rec l1 (l2 ||| ((1 : Int32) <<< (l3 &&& 31))) (l3 + 1) sa_retainedSets sf_objectCount
      else none
def sxs_findDominators_L4 : Nat → Int32 → Int32 → Int32 → (Nat → Int32) → Int32 → Option (Int32)
  | 0 => fun _ _ _ _ _ => none
  | n + 1 => sxs_findDominators_L4_B (sxs_findDominators_L4 n)
def sxs_findDominators (l1 : Int32) (sa_retainedSets : Nat → Int32) (sf_objectCount : Int32) : Option (Int32) :=
  (sxs_findDominators_L4 kF l1 0 0 sa_retainedSets sf_objectCount).bind fun u4 =>
    some u4
def sxs_findImmediateDominator_L9_B (rec : Int32 → Int32 → (Nat → Int32) → Int32 → Option (Int32)) (l2 : Int32) (l3 : Int32) (sa_dominators : Nat → Int32) (sf_objectCount : Int32) : Option (Int32) :=
  if sf_objectCount ≤ l3 then
    some (-1)
  else
    if (l2 &&& (((1 : Int32) <<< (l3 &&& 31)) ^^^ (-1))) = l2 then
      rec l2 (l3 + 1) sa_dominators sf_objectCount
    else
      if hq_I l3 24 = true then
        if ((l2 &&& (((1 : Int32) <<< (l3 &&& 31)) ^^^ (-1))) &&& ((sa_dominators l3.toNatClampNeg) ^^^ (-1))) = 0 then
          some l3
        else
          rec l2 (l3 + 1) sa_dominators sf_objectCount
      else none
def sxs_findImmediateDominator_L9 : Nat → Int32 → Int32 → (Nat → Int32) → Int32 → Option (Int32)
  | 0 => fun _ _ _ _ => none
  | n + 1 => sxs_findImmediateDominator_L9_B (sxs_findImmediateDominator_L9 n)
def sxs_findImmediateDominator (l1 : Int32) (sa_dominators : Nat → Int32) (sf_objectCount : Int32) : Option (Int32) :=
  if hq_I l1 24 = true then
    sxs_findImmediateDominator_L9 kF (sa_dominators l1.toNatClampNeg) 0 sa_dominators sf_objectCount
  else none
def sxs_takeOf_L105_B (rec : Int32 → (Nat → Int32) → (Nat → Int32) → Int32 → Option (Nat → Int32)) (l2 : Int32) (sa_dominators : Nat → Int32) (sa_immediateDominators : Nat → Int32) (sf_objectCount : Int32) : Option (Nat → Int32) :=
  if sf_objectCount ≤ l2 then
    some sa_immediateDominators
  else
    (sxs_findImmediateDominator l2 sa_dominators sf_objectCount).bind fun v120 =>
      if hq_I l2 24 = true then
        rec (l2 + 1) sa_dominators (upd sa_immediateDominators l2.toNatClampNeg v120) sf_objectCount
      else none
def sxs_takeOf_L105 : Nat → Int32 → (Nat → Int32) → (Nat → Int32) → Int32 → Option (Nat → Int32)
  | 0 => fun _ _ _ _ => none
  | n + 1 => sxs_takeOf_L105_B (sxs_takeOf_L105 n)
def sxs_takeOf_L78_B (rec : Int32 → (Nat → Int32) → (Nat → Int32) → Int32 → Option (Nat → Int32)) (l2 : Int32) (sa_retainedSets : Nat → Int32) (sa_dominators : Nat → Int32) (sf_objectCount : Int32) : Option (Nat → Int32) :=
  if sf_objectCount ≤ l2 then
    some sa_dominators
  else
    (sxs_findDominators l2 sa_retainedSets sf_objectCount).bind fun v93 =>
      if hq_I l2 24 = true then
        rec (l2 + 1) sa_retainedSets (upd sa_dominators l2.toNatClampNeg v93) sf_objectCount
      else none
def sxs_takeOf_L78 : Nat → Int32 → (Nat → Int32) → (Nat → Int32) → Int32 → Option (Nat → Int32)
  | 0 => fun _ _ _ _ => none
  | n + 1 => sxs_takeOf_L78_B (sxs_takeOf_L78 n)
def sxs_takeOf_L32_B (rec : Int32 → (Nat → Int32) → (Nat → Int32) → (Nat → Int32) → (Nat → Int32) → Int32 → Int32 → Int32 → Option ((Nat → Int32) × (Nat → Int32))) (l2 : Int32) (ha_sizes : Nat → Int32) (sa_linkedFrom : Nat → Int32) (sa_retainedSets : Nat → Int32) (sa_retainedSizes : Nat → Int32) (sf_objectCount : Int32) (sf_roots : Int32) (sf_reachable : Int32) : Option ((Nat → Int32) × (Nat → Int32)) :=
  if sf_objectCount ≤ l2 then
    some (sa_retainedSets, sa_retainedSizes)
  else
    (sxs_retainedBy ((1 : Int32) <<< (l2 &&& 31)) sa_linkedFrom sf_roots sf_reachable).bind fun v49 =>
      if hq_I l2 24 = true then
        if hq_I l2 24 = true then
          (sxs_sizeOfSet ((upd sa_retainedSets l2.toNatClampNeg v49) l2.toNatClampNeg) ha_sizes sf_objectCount).bind fun v66 =>
            if hq_I l2 24 = true then
              rec (l2 + 1) ha_sizes sa_linkedFrom (upd sa_retainedSets l2.toNatClampNeg v49) (upd sa_retainedSizes l2.toNatClampNeg v66) sf_objectCount sf_roots sf_reachable
            else none
        else none
      else none
def sxs_takeOf_L32 : Nat → Int32 → (Nat → Int32) → (Nat → Int32) → (Nat → Int32) → (Nat → Int32) → Int32 → Int32 → Int32 → Option ((Nat → Int32) × (Nat → Int32))
  | 0 => fun _ _ _ _ _ _ _ _ => none
  | n + 1 => sxs_takeOf_L32_B (sxs_takeOf_L32 n)
def sxs_takeOf (ha_sizes : Nat → Int32) (ha_fields : Nat → Int64) (hf_objectCount : Int32) (hf_roots : Int32) (sa_linkedFrom : Nat → Int32) (sa_linkCounts : Nat → Int32) (sa_retainedSets : Nat → Int32) (sa_retainedSizes : Nat → Int32) (sa_dominators : Nat → Int32) (sa_immediateDominators : Nat → Int32) (sf_objectCount : Int32) (sf_roots : Int32) (sf_reachable : Int32) : Option ((Nat → Int32) × (Nat → Int32) × (Nat → Int32) × (Nat → Int32) × (Nat → Int32) × (Nat → Int32) × Int32 × Int32 × Int32) :=
  (sxs_findLinks ha_fields sa_linkedFrom sa_linkCounts (sxh_size hf_objectCount)).bind fun v18 =>
    (sxs_reachableWithout 0 v18.1 (sxh_roots hf_roots)).bind fun v24 =>
      (sxs_takeOf_L32 kF 0 ha_sizes v18.1 sa_retainedSets sa_retainedSizes (sxh_size hf_objectCount) (sxh_roots hf_roots) v24).bind fun u32 =>
        (sxs_takeOf_L78 kF 0 u32.1 sa_dominators (sxh_size hf_objectCount)).bind fun u78 =>
          (sxs_takeOf_L105 kF 0 u78 sa_immediateDominators (sxh_size hf_objectCount)).bind fun u105 =>
            some ((v18.1, v18.2, u32.1, u32.2, u78, u105, (sxh_size hf_objectCount), (sxh_roots hf_roots), v24))
def sxh_refreshSurvey (ha_sizes : Nat → Int32) (ha_fields : Nat → Int64) (hf_objectCount : Int32) (hf_roots : Int32) (hf_changed : Int32) (sa_linkedFrom : Nat → Int32) (sa_linkCounts : Nat → Int32) (sa_retainedSets : Nat → Int32) (sa_retainedSizes : Nat → Int32) (sa_dominators : Nat → Int32) (sa_immediateDominators : Nat → Int32) (sf_objectCount : Int32) (sf_roots : Int32) (sf_reachable : Int32) : Option (Int32 × (Nat → Int32) × (Nat → Int32) × (Nat → Int32) × (Nat → Int32) × (Nat → Int32) × (Nat → Int32) × Int32 × Int32 × Int32) :=
  if hf_changed = 0 then
    some (hf_changed, sa_linkedFrom, sa_linkCounts, sa_retainedSets, sa_retainedSizes, sa_dominators, sa_immediateDominators, sf_objectCount, sf_roots, sf_reachable)
  else
    (sxs_takeOf ha_sizes ha_fields hf_objectCount hf_roots sa_linkedFrom sa_linkCounts sa_retainedSets sa_retainedSizes sa_dominators sa_immediateDominators sf_objectCount sf_roots sf_reachable).bind fun v12 =>
      some (0, v12.1, v12.2.1, v12.2.2.1, v12.2.2.2.1, v12.2.2.2.2.1, v12.2.2.2.2.2.1, v12.2.2.2.2.2.2.1, v12.2.2.2.2.2.2.2.1, v12.2.2.2.2.2.2.2.2)
def sxs_immediateDominatorOf (l1 : Int32) (sa_immediateDominators : Nat → Int32) : Option (Int32) :=
  if hq_I l1 24 = true then
    some (sa_immediateDominators l1.toNatClampNeg)
  else none
def sxq_dominator (l1 : Int32) (ha_sizes : Nat → Int32) (ha_fields : Nat → Int64) (hf_objectCount : Int32) (hf_roots : Int32) (hf_changed : Int32) (sa_linkedFrom : Nat → Int32) (sa_linkCounts : Nat → Int32) (sa_retainedSets : Nat → Int32) (sa_retainedSizes : Nat → Int32) (sa_dominators : Nat → Int32) (sa_immediateDominators : Nat → Int32) (sf_objectCount : Int32) (sf_roots : Int32) (sf_reachable : Int32) : Option (Int32 × Int32 × (Nat → Int32) × (Nat → Int32) × (Nat → Int32) × (Nat → Int32) × (Nat → Int32) × (Nat → Int32) × Int32 × Int32 × Int32) :=
  if (sxh_hasObject l1 hf_objectCount) = 0 then
    some (((-2), hf_changed, sa_linkedFrom, sa_linkCounts, sa_retainedSets, sa_retainedSizes, sa_dominators, sa_immediateDominators, sf_objectCount, sf_roots, sf_reachable))
  else
    (sxh_refreshSurvey ha_sizes ha_fields hf_objectCount hf_roots hf_changed sa_linkedFrom sa_linkCounts sa_retainedSets sa_retainedSizes sa_dominators sa_immediateDominators sf_objectCount sf_roots sf_reachable).bind fun v18 =>
      (sxs_immediateDominatorOf l1 v18.2.2.2.2.2.2.1).bind fun v29 =>
        some (v29, v18.1, v18.2.1, v18.2.2.1, v18.2.2.2.1, v18.2.2.2.2.1, v18.2.2.2.2.2.1, v18.2.2.2.2.2.2.1, v18.2.2.2.2.2.2.2.1, v18.2.2.2.2.2.2.2.2.1, v18.2.2.2.2.2.2.2.2.2)
def sxs_retainedSizeOf (l1 : Int32) (sa_retainedSizes : Nat → Int32) : Option (Int32) :=
  if hq_I l1 24 = true then
    some (sa_retainedSizes l1.toNatClampNeg)
  else none
def sxq_retained (l1 : Int32) (ha_sizes : Nat → Int32) (ha_fields : Nat → Int64) (hf_objectCount : Int32) (hf_roots : Int32) (hf_changed : Int32) (sa_linkedFrom : Nat → Int32) (sa_linkCounts : Nat → Int32) (sa_retainedSets : Nat → Int32) (sa_retainedSizes : Nat → Int32) (sa_dominators : Nat → Int32) (sa_immediateDominators : Nat → Int32) (sf_objectCount : Int32) (sf_roots : Int32) (sf_reachable : Int32) : Option (Int32 × Int32 × (Nat → Int32) × (Nat → Int32) × (Nat → Int32) × (Nat → Int32) × (Nat → Int32) × (Nat → Int32) × Int32 × Int32 × Int32) :=
  if (sxh_hasObject l1 hf_objectCount) = 0 then
    some (((-1), hf_changed, sa_linkedFrom, sa_linkCounts, sa_retainedSets, sa_retainedSizes, sa_dominators, sa_immediateDominators, sf_objectCount, sf_roots, sf_reachable))
  else
    (sxh_refreshSurvey ha_sizes ha_fields hf_objectCount hf_roots hf_changed sa_linkedFrom sa_linkCounts sa_retainedSets sa_retainedSizes sa_dominators sa_immediateDominators sf_objectCount sf_roots sf_reachable).bind fun v17 =>
      (sxs_retainedSizeOf l1 v17.2.2.2.2.1).bind fun v28 =>
        some (v28, v17.1, v17.2.1, v17.2.2.1, v17.2.2.2.1, v17.2.2.2.2.1, v17.2.2.2.2.2.1, v17.2.2.2.2.2.2.1, v17.2.2.2.2.2.2.2.1, v17.2.2.2.2.2.2.2.2.1, v17.2.2.2.2.2.2.2.2.2)
def sxq_isNumberAllowed (l1 : Int32) (l2 : Int32) (hf_classCount : Int32) : Option (Int32) :=
  if l1 = 8 then
    if (sxh_hasClass l2 hf_classCount) = 0 ∨ (sxh_hasClass l2 hf_classCount) = 1 then
      some (sxh_hasClass l2 hf_classCount)
    else none
  else
    if l1 = 9 then
      if (sxh_hasClass l2 hf_classCount) = 0 ∨ (sxh_hasClass l2 hf_classCount) = 1 then
        some (sxh_hasClass l2 hf_classCount)
      else none
    else
      if l1 = 10 then
        some 1
      else
        if l1 = 11 then
          some 1
        else
          if l1 = 12 then
            some 1
          else
            if l1 = 13 then
              if l2 < 0 then
                some 0
              else
                if 4 ≤ l2 then
                  some 0
                else
                  some 1
            else
              if l1 = 14 then
                if l2 < 0 then
                  some 0
                else
                  if 6 ≤ l2 then
                    some 0
                  else
                    some 1
              else
                some 1
def sxt_length (tf_count : Int32) : Int32 :=
  tf_count
def sxq_tokens (tf_count : Int32) : Int32 :=
  (sxt_length tf_count)
def sxt_openBrackets (tf_bracketCount : Int32) : Int32 :=
  tf_bracketCount
def sxq_depth (tf_bracketCount : Int32) : Int32 :=
  (sxt_openBrackets tf_bracketCount)
def sxw_rowCount (wf_count : Int32) : Int32 :=
  wf_count
def sxq_rows (wf_count : Int32) : Int32 :=
  (sxw_rowCount wf_count)
def sxw_hasRow (l1 : Int32) (wf_count : Int32) : Int32 :=
  if l1 < 0 then
    0
  else
    if wf_count ≤ l1 then
      0
    else
      1
def sxw_row (l1 : Int32) (wa_rows : Nat → Int64) : Option (Int64) :=
  if hq_I l1 192 = true then
    some (wa_rows l1.toNatClampNeg)
  else none
def sxv_kindOf (l0 : Int64) : Int32 :=
  ((l0.toUInt64 >>> ((32 : Int32).toInt64.toUInt64 &&& Int64.toUInt64 63)).toInt64).toInt32
def sxq_kind (l1 : Int32) (wa_rows : Nat → Int64) (wf_count : Int32) : Option (Int32) :=
  if (sxw_hasRow l1 wf_count) = 0 then
    some (-1)
  else
    (sxw_row l1 wa_rows).bind fun v16 =>
      some (sxv_kindOf v16)
def sxq_value (l1 : Int32) (wa_rows : Nat → Int64) (wf_count : Int32) : Option (Int32) :=
  if (sxw_hasRow l1 wf_count) = 0 then
    some 0
  else
    (sxw_row l1 wa_rows).bind fun v16 =>
      some (sxv_contentOf v16)
def sxw_lookCount (wf_looks : Int32) : Int32 :=
  wf_looks
def sxq_looked (wf_looks : Int32) : Int32 :=
  (sxw_lookCount wf_looks)
def sm_addClass (l1 : Int32) (f_classes : Int32) (a_parent : Nat → Int32) : Option (Int32 × Int32 × (Nat → Int32)) :=
  if l1 < (-1) then
    some (((-1), f_classes, a_parent))
  else
    if f_classes ≤ l1 then
      some (((-1), f_classes, a_parent))
    else
      if f_classes < 8 then
        if hq_I f_classes 8 = true then
          some (((f_classes + 1) - 1, f_classes + 1, upd a_parent f_classes.toNatClampNeg l1))
        else none
      else
        some (((-1), f_classes, a_parent))
def sm_addObject (l1 : Int32) (l2 : Int32) (f_classes : Int32) (f_objects : Int32) (a_kindOf : Nat → Int32) (a_size : Nat → Int32) : Option (Int32 × Int32 × (Nat → Int32) × (Nat → Int32)) :=
  if l1 < 0 then
    some (((-1), f_objects, a_kindOf, a_size))
  else
    if f_classes ≤ l1 then
      some (((-1), f_objects, a_kindOf, a_size))
    else
      if l2 < 1 then
        some (((-1), f_objects, a_kindOf, a_size))
      else
        if 1000 < l2 then
          some (((-1), f_objects, a_kindOf, a_size))
        else
          if f_objects < 24 then
            if hq_I f_objects 24 = true then
              if hq_I f_objects 24 = true then
                some (((f_objects + 1) - 1, f_objects + 1, upd a_kindOf f_objects.toNatClampNeg l1, upd a_size f_objects.toNatClampNeg l2))
              else none
            else none
          else
            some (((-1), f_objects, a_kindOf, a_size))
def sm_there (l1 : Int32) (f_objects : Int32) : Int32 :=
  if l1 < 0 then
    0
  else
    if f_objects ≤ l1 then
      0
    else
      1
def sm_set_J42 (l1 : Int32) (l2 : Int32) (l3 : Int32) (l4 : Int32) (f_objects : Int32) (a_slotKind : Nat → Int32) (a_slot : Nat → Int32) : Option (Int32 × (Nat → Int32) × (Nat → Int32)) :=
  if hq_I ((4 * l1) + l2) 96 = true then
    if l3 = 0 then
      if hq_I ((4 * l1) + l2) 96 = true then
        some ((1, upd a_slotKind ((4 * l1) + l2).toNatClampNeg l3, upd a_slot ((4 * l1) + l2).toNatClampNeg 0))
      else none
    else
      if hq_I ((4 * l1) + l2) 96 = true then
        some ((1, upd a_slotKind ((4 * l1) + l2).toNatClampNeg l3, upd a_slot ((4 * l1) + l2).toNatClampNeg l4))
      else none
  else none
def sm_set (l1 : Int32) (l2 : Int32) (l3 : Int32) (l4 : Int32) (f_objects : Int32) (a_slotKind : Nat → Int32) (a_slot : Nat → Int32) : Option (Int32 × (Nat → Int32) × (Nat → Int32)) :=
  if (sm_there l1 f_objects) = 0 then
    some (0, a_slotKind, a_slot)
  else
    if l2 < 0 then
      some (0, a_slotKind, a_slot)
    else
      if 3 < l2 then
        some (0, a_slotKind, a_slot)
      else
        if l3 < 0 then
          some (0, a_slotKind, a_slot)
        else
          if 2 < l3 then
            some (0, a_slotKind, a_slot)
          else
            if l3 = 2 then
              if (sm_there l4 f_objects) = 0 then
                some (0, a_slotKind, a_slot)
              else
                sm_set_J42 l1 l2 l3 l4 f_objects a_slotKind a_slot
            else
              sm_set_J42 l1 l2 l3 l4 f_objects a_slotKind a_slot
def sm_setRoot (l1 : Int32) (l2 : Int32) (f_objects : Int32) (a_root : Nat → Int32) : Option (Int32 × (Nat → Int32)) :=
  if (sm_there l1 f_objects) = 0 then
    some (0, a_root)
  else
    if hq_I l1 24 = true then
      if l2 = 0 ∨ l2 = 1 then
        some (1, upd a_root l1.toNatClampNeg l2)
      else none
    else none
def sm_reach_L87_B (rec : Int32 → Int32 → Int32 → Int32 → Int32 → Int32 → (Nat → Int32) → (Nat → Int32) → Option (Int32)) (l1 : Int32) (l2 : Int32) (l4 : Int32) (l5 : Int32) (l6 : Int32) (l8 : Int32) (a_slotKind : Nat → Int32) (a_slot : Nat → Int32) : Option (Int32) :=
  if ((4 * l6) + 4) ≤ l8 then
    some l2
  else
    if hq_I l8 96 = true then
      if (a_slotKind l8.toNatClampNeg) = 2 then
        if hq_I l8 96 = true then
          if ((l1 >>> ((a_slot l8.toNatClampNeg) &&& 31)) &&& 1) = 0 then
            if hq_I l8 96 = true then
              rec l1 (l2 ||| ((1 : Int32) <<< ((a_slot l8.toNatClampNeg) &&& 31))) l4 l5 l6 (l8 + 1) a_slotKind a_slot
            else none
          else
            rec l1 l2 l4 l5 l6 (l8 + 1) a_slotKind a_slot
        else none
      else
        rec l1 l2 l4 l5 l6 (l8 + 1) a_slotKind a_slot
    else none
def sm_reach_L87 : Nat → Int32 → Int32 → Int32 → Int32 → Int32 → Int32 → (Nat → Int32) → (Nat → Int32) → Option (Int32)
  | 0 => fun _ _ _ _ _ _ _ _ => none
  | n + 1 => sm_reach_L87_B (sm_reach_L87 n)
def sm_reach_J58 (rec : Int32 → Int32 → Int32 → Int32 → Int32 → Int32 → (Nat → Int32) → (Nat → Int32) → (Nat → Int32) → Option (Int32)) (l1 : Int32) (l2 : Int32) (l4 : Int32) (l5 : Int32) (l6 : Int32) (s0 : Int32) (f_objects : Int32) (a_root : Nat → Int32) (a_slotKind : Nat → Int32) (a_slot : Nat → Int32) : Option (Int32) :=
  if s0 = 0 then
    rec l1 l2 l4 l5 (l6 + 1) f_objects a_root a_slotKind a_slot
  else
    if ((l1 >>> (l6 &&& 31)) &&& 1) = 0 then
      (sm_reach_L87 kF l1 (l2 ||| ((1 : Int32) <<< (l6 &&& 31))) l4 l5 l6 (4 * l6) a_slotKind a_slot).bind fun u87 =>
        rec l1 u87 l4 l5 (l6 + 1) f_objects a_root a_slotKind a_slot
    else
      rec l1 l2 l4 l5 (l6 + 1) f_objects a_root a_slotKind a_slot
def sm_reach_J53 (rec : Int32 → Int32 → Int32 → Int32 → Int32 → Int32 → (Nat → Int32) → (Nat → Int32) → (Nat → Int32) → Option (Int32)) (l1 : Int32) (l2 : Int32) (l4 : Int32) (l5 : Int32) (l6 : Int32) (f_objects : Int32) (a_root : Nat → Int32) (a_slotKind : Nat → Int32) (a_slot : Nat → Int32) : Option (Int32) :=
  sm_reach_J58 rec l1 l2 l4 l5 l6 1 f_objects a_root a_slotKind a_slot
def sm_reach_L24_B (rec : Int32 → Int32 → Int32 → Int32 → Int32 → Int32 → (Nat → Int32) → (Nat → Int32) → (Nat → Int32) → Option (Int32)) (l1 : Int32) (l2 : Int32) (l4 : Int32) (l5 : Int32) (l6 : Int32) (f_objects : Int32) (a_root : Nat → Int32) (a_slotKind : Nat → Int32) (a_slot : Nat → Int32) : Option (Int32) :=
  if f_objects ≤ l6 then
    some l2
  else
    if hq_I l6 24 = true then
      if (a_root l6.toNatClampNeg) = 0 then
        if ((l2 >>> (l6 &&& 31)) &&& 1) = 1 then
          sm_reach_J53 rec l1 l2 l4 l5 l6 f_objects a_root a_slotKind a_slot
        else
          sm_reach_J58 rec l1 l2 l4 l5 l6 0 f_objects a_root a_slotKind a_slot
      else
        sm_reach_J53 rec l1 l2 l4 l5 l6 f_objects a_root a_slotKind a_slot
    else none
def sm_reach_L24 : Nat → Int32 → Int32 → Int32 → Int32 → Int32 → Int32 → (Nat → Int32) → (Nat → Int32) → (Nat → Int32) → Option (Int32)
  | 0 => fun _ _ _ _ _ _ _ _ _ => none
  | n + 1 => sm_reach_L24_B (sm_reach_L24 n)
def sm_reach_L7_B (rec : Int32 → Int32 → Int32 → Int32 → Int32 → (Nat → Int32) → (Nat → Int32) → (Nat → Int32) → Option (Int32)) (l1 : Int32) (l2 : Int32) (l3 : Int32) (l4 : Int32) (f_objects : Int32) (a_root : Nat → Int32) (a_slotKind : Nat → Int32) (a_slot : Nat → Int32) : Option (Int32) :=
  if 24 < l4 then
    some l2
  else
    if l3 = 0 then
      some l2
    else
      (sm_reach_L24 kF l1 l2 l4 l2 0 f_objects a_root a_slotKind a_slot).bind fun u24 =>
        if u24 = l2 then
          rec l1 u24 0 (l4 + 1) f_objects a_root a_slotKind a_slot
        else
          rec l1 u24 1 (l4 + 1) f_objects a_root a_slotKind a_slot
def sm_reach_L7 : Nat → Int32 → Int32 → Int32 → Int32 → Int32 → (Nat → Int32) → (Nat → Int32) → (Nat → Int32) → Option (Int32)
  | 0 => fun _ _ _ _ _ _ _ _ => none
  | n + 1 => sm_reach_L7_B (sm_reach_L7 n)
def sm_reach (l1 : Int32) (f_objects : Int32) (a_root : Nat → Int32) (a_slotKind : Nat → Int32) (a_slot : Nat → Int32) : Option (Int32) :=
  (sm_reach_L7 kF l1 0 1 0 f_objects a_root a_slotKind a_slot).bind fun u7 =>
    some u7
def sm_keepSets_L8_B (rec : Int32 → Int32 → Int32 → (Nat → Int32) → (Nat → Int32) → (Nat → Int32) → (Nat → Int32) → Option (Nat → Int32)) (l1 : Int32) (l2 : Int32) (f_objects : Int32) (a_root : Nat → Int32) (a_slotKind : Nat → Int32) (a_slot : Nat → Int32) (a_kept : Nat → Int32) : Option (Nat → Int32) :=
  if f_objects ≤ l2 then
    some a_kept
  else
    (sm_reach ((1 : Int32) <<< (l2 &&& 31)) f_objects a_root a_slotKind a_slot).bind fun v26 =>
      if hq_I l2 24 = true then
        rec l1 (l2 + 1) f_objects a_root a_slotKind a_slot (upd a_kept l2.toNatClampNeg (l1 &&& (v26 ^^^ (-1))))
      else none
def sm_keepSets_L8 : Nat → Int32 → Int32 → Int32 → (Nat → Int32) → (Nat → Int32) → (Nat → Int32) → (Nat → Int32) → Option (Nat → Int32)
  | 0 => fun _ _ _ _ _ _ _ => none
  | n + 1 => sm_keepSets_L8_B (sm_keepSets_L8 n)
def sm_keepSets (f_objects : Int32) (a_root : Nat → Int32) (a_slotKind : Nat → Int32) (a_slot : Nat → Int32) (a_kept : Nat → Int32) : Option (Nat → Int32) :=
  (sm_reach 0 f_objects a_root a_slotKind a_slot).bind fun v2 =>
    (sm_keepSets_L8 kF v2 0 f_objects a_root a_slotKind a_slot a_kept).bind fun u8 =>
      some u8
def sm_sum_L4_B (rec : Int32 → Int32 → Int32 → Int32 → (Nat → Int32) → Option (Int32)) (l1 : Int32) (l2 : Int32) (l3 : Int32) (f_objects : Int32) (a_size : Nat → Int32) : Option (Int32) :=
  if f_objects ≤ l3 then
    some l2
  else
    if ((l1 >>> (l3 &&& 31)) &&& 1) = 1 then
      if hq_I l3 24 = true then
        rec l1 (l2 + (a_size l3.toNatClampNeg)) (l3 + 1) f_objects a_size
      else none
    else
      rec l1 l2 (l3 + 1) f_objects a_size
def sm_sum_L4 : Nat → Int32 → Int32 → Int32 → Int32 → (Nat → Int32) → Option (Int32)
  | 0 => fun _ _ _ _ _ => none
  | n + 1 => sm_sum_L4_B (sm_sum_L4 n)
def sm_sum (l1 : Int32) (f_objects : Int32) (a_size : Nat → Int32) : Option (Int32) :=
  (sm_sum_L4 kF l1 0 0 f_objects a_size).bind fun u4 =>
    some u4
def sm_dominates (l1 : Int32) (l2 : Int32) (a_kept : Nat → Int32) : Option (Int32) :=
  if l1 = l2 then
    some 0
  else
    if hq_I l1 24 = true then
      if (((a_kept l1.toNatClampNeg) >>> (l2 &&& 31)) &&& 1) = 1 then
        some 1
      else
        some 0
    else none
def sm_immediate_L20_B (rec : Int32 → Int32 → Int32 → Int32 → Int32 → (Nat → Int32) → Option (Int32)) (l1 : Int32) (l2 : Int32) (l3 : Int32) (l4 : Int32) (f_objects : Int32) (a_kept : Nat → Int32) : Option (Int32) :=
  if f_objects ≤ l4 then
    some l3
  else
    if l3 = 0 then
      some l3
    else
      if l4 = l2 then
        rec l1 l2 1 (l4 + 1) f_objects a_kept
      else
        (sm_dominates l4 l1 a_kept).bind fun v43 =>
          if v43 = 0 then
            rec l1 l2 1 (l4 + 1) f_objects a_kept
          else
            (sm_dominates l4 l2 a_kept).bind fun v53 =>
              if v53 = 0 then
                rec l1 l2 0 (l4 + 1) f_objects a_kept
              else
                rec l1 l2 1 (l4 + 1) f_objects a_kept
def sm_immediate_L20 : Nat → Int32 → Int32 → Int32 → Int32 → Int32 → (Nat → Int32) → Option (Int32)
  | 0 => fun _ _ _ _ _ _ => none
  | n + 1 => sm_immediate_L20_B (sm_immediate_L20 n)
def sm_immediate_J71 (rec : Int32 → Int32 → Int32 → (Nat → Int32) → Option (Int32)) (l1 : Int32) (l2 : Int32) (l3 : Int32) (f_objects : Int32) (a_kept : Nat → Int32) : Option (Int32) :=
  if l3 = 0 then
    rec l1 (l2 + 1) f_objects a_kept
  else
    some l2
def sm_immediate_L2_B (rec : Int32 → Int32 → Int32 → (Nat → Int32) → Option (Int32)) (l1 : Int32) (l2 : Int32) (f_objects : Int32) (a_kept : Nat → Int32) : Option (Int32) :=
  if f_objects ≤ l2 then
    some (-1)
  else
    (sm_dominates l2 l1 a_kept).bind fun v13 =>
      (sm_immediate_L20 kF l1 l2 v13 0 f_objects a_kept).bind fun u20 =>
        sm_immediate_J71 rec l1 l2 u20 f_objects a_kept
def sm_immediate_L2 : Nat → Int32 → Int32 → Int32 → (Nat → Int32) → Option (Int32)
  | 0 => fun _ _ _ _ => none
  | n + 1 => sm_immediate_L2_B (sm_immediate_L2 n)
def sm_immediate (l1 : Int32) (f_objects : Int32) (a_kept : Nat → Int32) : Option (Int32) :=
  sm_immediate_L2 kF l1 0 f_objects a_kept
def sm_dominator (l1 : Int32) (f_objects : Int32) (a_root : Nat → Int32) (a_slotKind : Nat → Int32) (a_slot : Nat → Int32) (a_kept : Nat → Int32) : Option (Int32 × (Nat → Int32)) :=
  if (sm_there l1 f_objects) = 0 then
    some (((-2), a_kept))
  else
    (sm_keepSets f_objects a_root a_slotKind a_slot a_kept).bind fun v12 =>
      (sm_immediate l1 f_objects v12).bind fun v17 =>
        some (v17, v12)
def sm_retained (l1 : Int32) (f_objects : Int32) (a_size : Nat → Int32) (a_root : Nat → Int32) (a_slotKind : Nat → Int32) (a_slot : Nat → Int32) : Option (Int32) :=
  if (sm_there l1 f_objects) = 0 then
    some (-1)
  else
    (sm_reach 0 f_objects a_root a_slotKind a_slot).bind fun v13 =>
      (sm_reach ((1 : Int32) <<< (l1 &&& 31)) f_objects a_root a_slotKind a_slot).bind fun v20 =>
        (sm_sum (v13 &&& (v20 ^^^ (-1))) f_objects a_size).bind fun v26 =>
          some v26
def sm_start (f_want : Int32) (f_compared : Int32) (f_open : Int32) : Int32 × Int32 × Int32 :=
  (0, 0, 0)
def sm_push (l1 : Int32) (f_open : Int32) (a_opened : Nat → Int32) : Option (Int32 × (Nat → Int32)) :=
  if hq_I f_open 41 = true then
    some (f_open + 1, upd a_opened f_open.toNatClampNeg l1)
  else none
def sm_becomes (l1 : Int32) (f_want : Int32) : Int32 × Int32 :=
  (1, l1)
def sm_operand_J91 (s1 : Int32) (f_want : Int32) (f_compared : Int32) (f_open : Int32) (a_opened : Nat → Int32) : Option (Int32 × Int32 × Int32 × Int32 × (Nat → Int32)) :=
  (sm_push s1 f_open a_opened).bind fun v91 =>
    if ((sm_becomes 3 f_want).1) = 0 ∨ ((sm_becomes 3 f_want).1) = 1 then
      some (((sm_becomes 3 f_want).1, (sm_becomes 3 f_want).2, 0, v91.1, v91.2))
    else none
def sm_operand_J70 (l1 : Int32) (f_want : Int32) (f_compared : Int32) (f_open : Int32) (a_opened : Nat → Int32) : Option (Int32 × Int32 × Int32 × Int32 × (Nat → Int32)) :=
  if l1 = 6 then
    if f_compared = 0 then
      sm_operand_J91 2 f_want f_compared f_open a_opened
    else
      sm_operand_J91 4 f_want f_compared f_open a_opened
  else
    some (0, f_want, f_compared, f_open, a_opened)
def sm_operand_J52 (l1 : Int32) (f_want : Int32) (f_compared : Int32) (f_open : Int32) (a_opened : Nat → Int32) : Option (Int32 × Int32 × Int32 × Int32 × (Nat → Int32)) :=
  if l1 < 10 then
    sm_operand_J70 l1 f_want f_compared f_open a_opened
  else
    if 12 < l1 then
      sm_operand_J70 l1 f_want f_compared f_open a_opened
    else
      if ((sm_becomes 5 f_want).1) = 0 ∨ ((sm_becomes 5 f_want).1) = 1 then
        some (((sm_becomes 5 f_want).1, (sm_becomes 5 f_want).2, f_compared, f_open, a_opened))
      else none
def sm_operand_J32 (l1 : Int32) (f_want : Int32) (f_compared : Int32) (f_open : Int32) (a_opened : Nat → Int32) : Option (Int32 × Int32 × Int32 × Int32 × (Nat → Int32)) :=
  if l1 = 17 then
    if 3 < f_want then
      sm_operand_J52 l1 f_want f_compared f_open a_opened
    else
      if ((sm_becomes 3 f_want).1) = 0 ∨ ((sm_becomes 3 f_want).1) = 1 then
        some (((sm_becomes 3 f_want).1, (sm_becomes 3 f_want).2, f_compared, f_open, a_opened))
      else none
  else
    sm_operand_J52 l1 f_want f_compared f_open a_opened
def sm_operand_J19 (l1 : Int32) (f_want : Int32) (f_compared : Int32) (f_open : Int32) (a_opened : Nat → Int32) : Option (Int32 × Int32 × Int32 × Int32 × (Nat → Int32)) :=
  if l1 = 2 then
    if f_want ≤ 2 then
      if ((sm_becomes 3 f_want).1) = 0 ∨ ((sm_becomes 3 f_want).1) = 1 then
        some (((sm_becomes 3 f_want).1, (sm_becomes 3 f_want).2, f_compared, f_open, a_opened))
      else none
    else
      sm_operand_J32 l1 f_want f_compared f_open a_opened
  else
    sm_operand_J32 l1 f_want f_compared f_open a_opened
def sm_operand (l1 : Int32) (f_want : Int32) (f_compared : Int32) (f_open : Int32) (a_opened : Nat → Int32) : Option (Int32 × Int32 × Int32 × Int32 × (Nat → Int32)) :=
  if l1 = 1 then
    if f_want = 1 then
      if ((sm_becomes 2 f_want).1) = 0 ∨ ((sm_becomes 2 f_want).1) = 1 then
        some (((sm_becomes 2 f_want).1, (sm_becomes 2 f_want).2, f_compared, f_open, a_opened))
      else none
    else
      sm_operand_J19 l1 f_want f_compared f_open a_opened
  else
    sm_operand_J19 l1 f_want f_compared f_open a_opened
def sm_ends_J56 (l1 : Int32) (f_want : Int32) (f_open : Int32) (a_opened : Nat → Int32) : Option (Int32 × Int32 × Int32) :=
  if l1 = 24 then
    if f_open = 0 then
      if ((sm_becomes 8 f_want).1) = 0 then
        some ((0, (sm_becomes 8 f_want).2, f_open))
      else
        some ((1, (sm_becomes 8 f_want).2, f_open))
    else
      some (0, f_want, f_open)
  else
    some (0, f_want, f_open)
def sm_ends (l1 : Int32) (f_want : Int32) (f_open : Int32) (a_opened : Nat → Int32) : Option (Int32 × Int32 × Int32) :=
  if l1 = 5 then
    if ((sm_becomes 0 f_want).1) = 0 ∨ ((sm_becomes 0 f_want).1) = 1 then
      some (((sm_becomes 0 f_want).1, (sm_becomes 0 f_want).2, f_open))
    else none
  else
    if l1 = 7 then
      if f_open ≤ 0 then
        sm_ends_J56 l1 f_want f_open a_opened
      else
        if hq_I (f_open - 1) 41 = true then
          if (a_opened (f_open - 1).toNatClampNeg) = 3 then
            if ((sm_becomes 7 f_want).1) = 0 ∨ ((sm_becomes 7 f_want).1) = 1 then
              some (((sm_becomes 7 f_want).1, (sm_becomes 7 f_want).2, f_open - 1))
            else none
          else
            sm_ends_J56 l1 f_want f_open a_opened
        else none
    else
      sm_ends_J56 l1 f_want f_open a_opened
def sm_behind_J165 (l1 : Int32) (l2 : Int32) (f_want : Int32) (f_compared : Int32) (f_open : Int32) (a_opened : Nat → Int32) : Option (Int32 × Int32 × Int32 × Int32) :=
  if l2 = 1 then
    (sm_ends l1 f_want (f_open - 1) a_opened).bind fun v184 =>
      if v184.1 = 0 ∨ v184.1 = 1 then
        some (v184.1, v184.2.1, f_compared, v184.2.2)
      else none
  else
    some (0, f_want, f_compared, f_open)
def sm_behind_J139 (l1 : Int32) (l2 : Int32) (f_want : Int32) (f_compared : Int32) (f_open : Int32) (a_opened : Nat → Int32) : Option (Int32 × Int32 × Int32 × Int32) :=
  if l1 = 3 then
    if l2 = 0 then
      if ((sm_becomes 6 f_want).1) = 0 ∨ ((sm_becomes 6 f_want).1) = 1 then
        some (((sm_becomes 6 f_want).1, (sm_becomes 6 f_want).2, f_compared, f_open - 1))
      else none
    else
      sm_behind_J165 l1 l2 f_want f_compared f_open a_opened
  else
    sm_behind_J165 l1 l2 f_want f_compared f_open a_opened
def sm_behind_J113 (l2 : Int32) (f_want : Int32) (f_compared : Int32) (f_open : Int32) (a_opened : Nat → Int32) : Option (Int32 × Int32 × Int32 × Int32) :=
  if l2 = 4 then
    some (1, f_want, 1, f_open - 1)
  else
    some (1, f_want, 0, f_open - 1)
def sm_behind_J86 (f_want : Int32) (f_compared : Int32) (f_open : Int32) (a_opened : Nat → Int32) : Option (Int32 × Int32 × Int32 × Int32) :=
  if ((sm_becomes 3 f_want).1) = 0 ∨ ((sm_becomes 3 f_want).1) = 1 then
    some (((sm_becomes 3 f_want).1, (sm_becomes 3 f_want).2, 0, f_open))
  else none
def sm_behind_J74 (l1 : Int32) (l2 : Int32) (f_want : Int32) (f_compared : Int32) (f_open : Int32) (a_opened : Nat → Int32) : Option (Int32 × Int32 × Int32 × Int32) :=
  if l1 = 15 then
    sm_behind_J86 f_want f_compared f_open a_opened
  else
    if l1 = 16 then
      sm_behind_J86 f_want f_compared f_open a_opened
    else
      if l1 = 7 then
        if l2 = 2 then
          sm_behind_J113 l2 f_want f_compared f_open a_opened
        else
          if l2 = 4 then
            sm_behind_J113 l2 f_want f_compared f_open a_opened
          else
            sm_behind_J139 l1 l2 f_want f_compared f_open a_opened
      else
        sm_behind_J139 l1 l2 f_want f_compared f_open a_opened
def sm_behind_J44 (l1 : Int32) (l2 : Int32) (f_want : Int32) (f_compared : Int32) (f_open : Int32) (a_opened : Nat → Int32) : Option (Int32 × Int32 × Int32 × Int32) :=
  if l1 < 18 then
    sm_behind_J74 l1 l2 f_want f_compared f_open a_opened
  else
    if 20 < l1 then
      sm_behind_J74 l1 l2 f_want f_compared f_open a_opened
    else
      if f_compared = 0 then
        if ((sm_becomes 4 f_want).1) = 0 ∨ ((sm_becomes 4 f_want).1) = 1 then
          some (((sm_becomes 4 f_want).1, (sm_becomes 4 f_want).2, 1, f_open))
        else none
      else
        sm_behind_J74 l1 l2 f_want f_compared f_open a_opened
def sm_behind (l1 : Int32) (f_want : Int32) (f_compared : Int32) (f_open : Int32) (a_opened : Nat → Int32) : Option (Int32 × Int32 × Int32 × Int32) :=
  if hq_I (f_open - 1) 41 = true then
    if l1 = 13 then
      some (1, f_want, f_compared, f_open)
    else
      if l1 = 14 then
        some (1, f_want, f_compared, f_open)
      else
        if l1 < 21 then
          sm_behind_J44 l1 (a_opened (f_open - 1).toNatClampNeg) f_want f_compared f_open a_opened
        else
          if 23 < l1 then
            sm_behind_J44 l1 (a_opened (f_open - 1).toNatClampNeg) f_want f_compared f_open a_opened
          else
            if ((sm_becomes 4 f_want).1) = 0 ∨ ((sm_becomes 4 f_want).1) = 1 then
              some (((sm_becomes 4 f_want).1, (sm_becomes 4 f_want).2, f_compared, f_open))
            else none
  else none
def sm_step_J147 (l1 : Int32) (f_want : Int32) (f_compared : Int32) (f_open : Int32) (a_opened : Nat → Int32) : Option (Int32 × Int32 × Int32 × Int32 × (Nat → Int32)) :=
  if f_want = 7 then
    (sm_ends l1 f_want f_open a_opened).bind fun v158 =>
      if v158.1 = 0 then
        some (0, v158.2.1, f_compared, v158.2.2, a_opened)
      else
        some (1, v158.2.1, f_compared, v158.2.2, a_opened)
  else
    some (0, f_want, f_compared, f_open, a_opened)
def sm_step_J117 (l1 : Int32) (f_want : Int32) (f_compared : Int32) (f_open : Int32) (a_opened : Nat → Int32) : Option (Int32 × Int32 × Int32 × Int32 × (Nat → Int32)) :=
  if f_want = 7 then
    if l1 = 4 then
      (sm_push 1 f_open a_opened).bind fun v133 =>
        if ((sm_becomes 3 f_want).1) = 0 ∨ ((sm_becomes 3 f_want).1) = 1 then
          some (((sm_becomes 3 f_want).1, (sm_becomes 3 f_want).2, 0, v133.1, v133.2))
        else none
    else
      sm_step_J147 l1 f_want f_compared f_open a_opened
  else
    sm_step_J147 l1 f_want f_compared f_open a_opened
def sm_step_J89 (l1 : Int32) (f_want : Int32) (f_compared : Int32) (f_open : Int32) (a_opened : Nat → Int32) : Option (Int32 × Int32 × Int32 × Int32 × (Nat → Int32)) :=
  if f_want = 6 then
    if l1 = 8 then
      if ((sm_becomes 7 f_want).1) = 0 ∨ ((sm_becomes 7 f_want).1) = 1 then
        some (((sm_becomes 7 f_want).1, (sm_becomes 7 f_want).2, f_compared, f_open, a_opened))
      else none
    else
      if l1 = 9 then
        if ((sm_becomes 7 f_want).1) = 0 ∨ ((sm_becomes 7 f_want).1) = 1 then
          some (((sm_becomes 7 f_want).1, (sm_becomes 7 f_want).2, f_compared, f_open, a_opened))
        else none
      else
        sm_step_J117 l1 f_want f_compared f_open a_opened
  else
    sm_step_J117 l1 f_want f_compared f_open a_opened
def sm_step_J49 (l1 : Int32) (f_want : Int32) (f_compared : Int32) (f_open : Int32) (a_opened : Nat → Int32) : Option (Int32 × Int32 × Int32 × Int32 × (Nat → Int32)) :=
  if f_want = 5 then
    (sm_behind l1 f_want f_compared f_open a_opened).bind fun v59 =>
      if v59.1 = 0 ∨ v59.1 = 1 then
        some (v59.1, v59.2.1, v59.2.2.1, v59.2.2.2, a_opened)
      else none
  else
    if f_want = 6 then
      if l1 = 6 then
        (sm_push 3 f_open a_opened).bind fun v80 =>
          if ((sm_becomes 0 f_want).1) = 0 ∨ ((sm_becomes 0 f_want).1) = 1 then
            some (((sm_becomes 0 f_want).1, (sm_becomes 0 f_want).2, f_compared, v80.1, v80.2))
          else none
      else
        sm_step_J89 l1 f_want f_compared f_open a_opened
    else
      sm_step_J89 l1 f_want f_compared f_open a_opened
def sm_step_J27 (l1 : Int32) (f_want : Int32) (f_compared : Int32) (f_open : Int32) (a_opened : Nat → Int32) : Option (Int32 × Int32 × Int32 × Int32 × (Nat → Int32)) :=
  if f_want < 1 then
    sm_step_J49 l1 f_want f_compared f_open a_opened
  else
    if 4 < f_want then
      sm_step_J49 l1 f_want f_compared f_open a_opened
    else
      (sm_operand l1 f_want f_compared f_open a_opened).bind fun v45 =>
        if v45.1 = 0 ∨ v45.1 = 1 then
          some (v45.1, v45.2.1, v45.2.2.1, v45.2.2.2.1, v45.2.2.2.2)
        else none
def sm_step (l1 : Int32) (f_want : Int32) (f_compared : Int32) (f_open : Int32) (a_opened : Nat → Int32) : Option (Int32 × Int32 × Int32 × Int32 × (Nat → Int32)) :=
  if f_want = 0 then
    if l1 = 0 then
      (sm_push 0 f_open a_opened).bind fun v13 =>
        if ((sm_becomes 1 f_want).1) = 0 ∨ ((sm_becomes 1 f_want).1) = 1 then
          some (((sm_becomes 1 f_want).1, (sm_becomes 1 f_want).2, 0, v13.1, v13.2))
        else none
    else
      sm_step_J27 l1 f_want f_compared f_open a_opened
  else
    sm_step_J27 l1 f_want f_compared f_open a_opened
def sm_fits_J42 (l1 : Int32) (l2 : Int32) (f_classes : Int32) : Int32 :=
  if l2 < 0 then
    0
  else
    if l1 = 13 then
      if 3 < l2 then
        0
      else
        1
    else
      if 5 < l2 then
        0
      else
        1
def sm_fits_J12 (l2 : Int32) (f_classes : Int32) : Int32 :=
  if l2 < 0 then
    0
  else
    if f_classes ≤ l2 then
      0
    else
      1
def sm_fits (l1 : Int32) (l2 : Int32) (f_classes : Int32) : Int32 :=
  if l1 = 8 then
    sm_fits_J12 l2 f_classes
  else
    if l1 = 9 then
      sm_fits_J12 l2 f_classes
    else
      if l1 = 13 then
        sm_fits_J42 l1 l2 f_classes
      else
        if l1 = 14 then
          sm_fits_J42 l1 l2 f_classes
        else
          1
def sm_token_J90 (l3 : Int32) (f_classes : Int32) (f_count : Int32) (a_code : Nat → Int32) (a_number : Nat → Int32) (f_want : Int32) (f_compared : Int32) (f_open : Int32) (a_opened : Nat → Int32) : Option (Int32 × Int32 × (Nat → Int32) × (Nat → Int32) × Int32 × Int32 × Int32 × (Nat → Int32)) :=
  if l3 = 0 then
    if l3 = 0 ∨ l3 = 1 then
      some (l3, f_count, a_code, a_number, f_want, f_compared, f_open, a_opened)
    else none
  else
    if l3 = 0 ∨ l3 = 1 then
      some (l3, f_count + 1, a_code, a_number, f_want, f_compared, f_open, a_opened)
    else none
def sm_token_L59_B (rec : Int32 → Int32 → Int32 → (Nat → Int32) → Int32 → Int32 → Int32 → (Nat → Int32) → Option (Int32 × Int32 × Int32 × Int32 × (Nat → Int32))) (l3 : Int32) (l4 : Int32) (f_count : Int32) (a_code : Nat → Int32) (f_want : Int32) (f_compared : Int32) (f_open : Int32) (a_opened : Nat → Int32) : Option (Int32 × Int32 × Int32 × Int32 × (Nat → Int32)) :=
  if f_count < l4 then
    some (l3, f_want, f_compared, f_open, a_opened)
  else
    if l3 = 0 then
      some (l3, f_want, f_compared, f_open, a_opened)
    else
      if hq_I l4 40 = true then
        (sm_step (a_code l4.toNatClampNeg) f_want f_compared f_open a_opened).bind fun v80 =>
          rec v80.1 (l4 + 1) f_count a_code v80.2.1 v80.2.2.1 v80.2.2.2.1 v80.2.2.2.2
      else none
def sm_token_L59 : Nat → Int32 → Int32 → Int32 → (Nat → Int32) → Int32 → Int32 → Int32 → (Nat → Int32) → Option (Int32 × Int32 × Int32 × Int32 × (Nat → Int32))
  | 0 => fun _ _ _ _ _ _ _ _ => none
  | n + 1 => sm_token_L59_B (sm_token_L59 n)
def sm_token (l1 : Int32) (l2 : Int32) (f_classes : Int32) (f_count : Int32) (a_code : Nat → Int32) (a_number : Nat → Int32) (f_want : Int32) (f_compared : Int32) (f_open : Int32) (a_opened : Nat → Int32) : Option (Int32 × Int32 × (Nat → Int32) × (Nat → Int32) × Int32 × Int32 × Int32 × (Nat → Int32)) :=
  if l1 < 0 then
    some (0, f_count, a_code, a_number, f_want, f_compared, f_open, a_opened)
  else
    if 24 < l1 then
      some (0, f_count, a_code, a_number, f_want, f_compared, f_open, a_opened)
    else
      if 40 ≤ f_count then
        some (0, f_count, a_code, a_number, f_want, f_compared, f_open, a_opened)
      else
        if (sm_fits l1 l2 f_classes) = 0 then
          some (0, f_count, a_code, a_number, f_want, f_compared, f_open, a_opened)
        else
          if hq_I f_count 40 = true then
            if hq_I f_count 40 = true then
              (sm_token_L59 kF 1 0 f_count (upd a_code f_count.toNatClampNeg l1) ((sm_start f_want f_compared f_open).1) ((sm_start f_want f_compared f_open).2.1) ((sm_start f_want f_compared f_open).2.2) a_opened).bind fun u59 =>
                sm_token_J90 u59.1 f_classes f_count (upd a_code f_count.toNatClampNeg l1) (upd a_number f_count.toNatClampNeg l2) u59.2.1 u59.2.2.1 u59.2.2.2.1 u59.2.2.2.2
            else none
          else none
def sm_tokens (f_count : Int32) : Int32 :=
  f_count
def sm_depth_L4_B (rec : Int32 → Int32 → Int32 → (Nat → Int32) → Option (Int32)) (l1 : Int32) (l2 : Int32) (f_count : Int32) (a_code : Nat → Int32) : Option (Int32) :=
  if f_count ≤ l2 then
    some l1
  else
    if hq_I l2 40 = true then
      if (a_code l2.toNatClampNeg) = 6 then
        rec (l1 + 1) (l2 + 1) f_count a_code
      else
        if hq_I l2 40 = true then
          if (a_code l2.toNatClampNeg) = 7 then
            rec (l1 - 1) (l2 + 1) f_count a_code
          else
            rec l1 (l2 + 1) f_count a_code
        else none
    else none
def sm_depth_L4 : Nat → Int32 → Int32 → Int32 → (Nat → Int32) → Option (Int32)
  | 0 => fun _ _ _ _ => none
  | n + 1 => sm_depth_L4_B (sm_depth_L4 n)
def sm_depth (f_count : Int32) (a_code : Nat → Int32) : Option (Int32) :=
  (sm_depth_L4 kF 0 0 f_count a_code).bind fun u4 =>
    some u4
def sm_clear (f_count : Int32) : Int32 :=
  0
def sm_under_J34 (l2 : Int32) (l3 : Int32) (a_parent : Nat → Int32) : Option (Int32) :=
  if l3 = l2 then
    some 1
  else
    some 0
def sm_under_L5_B (rec : Int32 → Int32 → Int32 → (Nat → Int32) → Option (Int32)) (l2 : Int32) (l3 : Int32) (l4 : Int32) (a_parent : Nat → Int32) : Option (Int32) :=
  if 8 ≤ l4 then
    some l3
  else
    if l3 < 0 then
      some l3
    else
      if l3 = l2 then
        some l3
      else
        if hq_I l3 8 = true then
          rec l2 (a_parent l3.toNatClampNeg) (l4 + 1) a_parent
        else none
def sm_under_L5 : Nat → Int32 → Int32 → Int32 → (Nat → Int32) → Option (Int32)
  | 0 => fun _ _ _ _ => none
  | n + 1 => sm_under_L5_B (sm_under_L5 n)
def sm_under (l1 : Int32) (l2 : Int32) (a_parent : Nat → Int32) : Option (Int32) :=
  (sm_under_L5 kF l2 l1 0 a_parent).bind fun u5 =>
    sm_under_J34 l2 u5 a_parent
def sm_gather_J163 (rec : Int32 → Int32 → (Nat → Int32) → Int32 → (Nat → Int32) → (Nat → Int32) → (Nat → Int32) → Int32 → (Nat → Int32) → Option (Int32 × (Nat → Int32))) (l1 : Int32) (l2 : Int32) (s0 : Int32) (a_parent : Nat → Int32) (f_objects : Int32) (a_kindOf : Nat → Int32) (a_code : Nat → Int32) (a_number : Nat → Int32) (f_many : Int32) (a_list : Nat → Int32) : Option (Int32 × (Nat → Int32)) :=
  if hq_I f_many 200 = true then
    if s0 = 0 then
      rec l1 (l2 + 1) a_parent f_objects a_kindOf a_code a_number f_many (upd a_list f_many.toNatClampNeg l2)
    else
      rec l1 (l2 + 1) a_parent f_objects a_kindOf a_code a_number (f_many + 1) (upd a_list f_many.toNatClampNeg l2)
  else none
def sm_gather_L105_B (rec : Int32 → Int32 → (Nat → Int32) → Int32 → (Nat → Int32) → (Nat → Int32) → (Nat → Int32) → Int32 → (Nat → Int32) → Option (Int32 × (Nat → Int32))) (l1 : Int32) (l2 : Int32) (a_parent : Nat → Int32) (f_objects : Int32) (a_kindOf : Nat → Int32) (a_code : Nat → Int32) (a_number : Nat → Int32) (f_many : Int32) (a_list : Nat → Int32) : Option (Int32 × (Nat → Int32)) :=
  if f_objects ≤ l2 then
    some (f_many, a_list)
  else
    if hq_I l1 40 = true then
      if (a_code l1.toNatClampNeg) = 8 then
        if hq_I l2 24 = true then
          if hq_I l1 40 = true then
            if (a_kindOf l2.toNatClampNeg) = (a_number l1.toNatClampNeg) then
              sm_gather_J163 rec l1 l2 1 a_parent f_objects a_kindOf a_code a_number f_many a_list
            else
              sm_gather_J163 rec l1 l2 0 a_parent f_objects a_kindOf a_code a_number f_many a_list
          else none
        else none
      else
        if hq_I l2 24 = true then
          if hq_I l1 40 = true then
            (sm_under (a_kindOf l2.toNatClampNeg) (a_number l1.toNatClampNeg) a_parent).bind fun v160 =>
              sm_gather_J163 rec l1 l2 v160 a_parent f_objects a_kindOf a_code a_number f_many a_list
          else none
        else none
    else none
def sm_gather_L105 : Nat → Int32 → Int32 → (Nat → Int32) → Int32 → (Nat → Int32) → (Nat → Int32) → (Nat → Int32) → Int32 → (Nat → Int32) → Option (Int32 × (Nat → Int32))
  | 0 => fun _ _ _ _ _ _ _ _ _ => none
  | n + 1 => sm_gather_L105_B (sm_gather_L105 n)
def sm_gather_L31_B (rec : Int32 → Int32 → (Nat → Int32) → (Nat → Int32) → Int32 → (Nat → Int32) → Option (Int32 × (Nat → Int32))) (l2 : Int32) (f_rowCount : Int32) (a_rowKind : Nat → Int32) (a_rowValue : Nat → Int32) (f_many : Int32) (a_list : Nat → Int32) : Option (Int32 × (Nat → Int32)) :=
  if f_rowCount ≤ l2 then
    some (f_many, a_list)
  else
    if hq_I l2 200 = true then
      if hq_I f_many 200 = true then
        if hq_I l2 200 = true then
          if (a_rowKind l2.toNatClampNeg) = 2 then
            rec (l2 + 1) f_rowCount a_rowKind a_rowValue (f_many + 1) (upd a_list f_many.toNatClampNeg (a_rowValue l2.toNatClampNeg))
          else
            rec (l2 + 1) f_rowCount a_rowKind a_rowValue f_many (upd a_list f_many.toNatClampNeg (a_rowValue l2.toNatClampNeg))
        else none
      else none
    else none
def sm_gather_L31 : Nat → Int32 → Int32 → (Nat → Int32) → (Nat → Int32) → Int32 → (Nat → Int32) → Option (Int32 × (Nat → Int32))
  | 0 => fun _ _ _ _ _ _ => none
  | n + 1 => sm_gather_L31_B (sm_gather_L31 n)
def sm_gather (a_parent : Nat → Int32) (f_objects : Int32) (a_kindOf : Nat → Int32) (a_code : Nat → Int32) (a_number : Nat → Int32) (f_rowCount : Int32) (a_rowKind : Nat → Int32) (a_rowValue : Nat → Int32) (f_many : Int32) (a_list : Nat → Int32) (f_level : Int32) (a_from : Nat → Int32) (a_source : Nat → Int32) : Option (Int32 × Int32 × (Nat → Int32)) :=
  if hq_I f_level 41 = true then
    if 0 ≤ (a_source f_level.toNatClampNeg) then
      (sm_gather_L105 kF (a_source f_level.toNatClampNeg) 0 a_parent f_objects a_kindOf a_code a_number 0 a_list).bind fun u105 =>
        some (f_rowCount, u105.1, u105.2)
    else
      if hq_I (f_level + 1) 41 = true then
        (sm_gather_L31 kF (a_from (f_level + 1).toNatClampNeg) f_rowCount a_rowKind a_rowValue 0 a_list).bind fun u31 =>
          if hq_I (f_level + 1) 41 = true then
            some ((a_from (f_level + 1).toNatClampNeg, u31.1, u31.2))
          else none
      else none
  else none
def sm_rank (l0 : Int32) : Int32 :=
  if 17 < l0 then
    if 20 < l0 then
      if 22 < l0 then
        6
      else
        5
    else
      4
  else
    l0 - 14
def sm_give_J37 (s1 : Int32) (s2 : Int32) (f_values : Int32) (a_vKind : Nat → Int32) (a_v : Nat → Int32) : Option (Int32 × (Nat → Int32) × (Nat → Int32)) :=
  if hq_I s1 41 = true then
    some (f_values + 1, a_vKind, upd a_v s1.toNatClampNeg s2)
  else none
def sm_give (l1 : Int32) (l2 : Int32) (l3 : Int32) (f_values : Int32) (a_vKind : Nat → Int32) (a_v : Nat → Int32) : Option (Int32 × (Nat → Int32) × (Nat → Int32)) :=
  if hq_I (f_values - l3) 41 = true then
    if l1 = 0 then
      sm_give_J37 (f_values - l3) 0 (f_values - l3) (upd a_vKind (f_values - l3).toNatClampNeg l1) a_v
    else
      sm_give_J37 (f_values - l3) l2 (f_values - l3) (upd a_vKind (f_values - l3).toNatClampNeg l1) a_v
  else none
def sm_truth (l1 : Int32) (f_fail : Int32) (f_values : Int32) (a_vKind : Nat → Int32) (a_v : Nat → Int32) : Option (Int32 × Int32 × (Nat → Int32) × (Nat → Int32)) :=
  if hq_I (f_values - 1) 41 = true then
    if (a_vKind (f_values - 1).toNatClampNeg) = 2 then
      some (((-3), f_values, a_vKind, a_v))
    else
      if hq_I (f_values - 1) 41 = true then
        if (a_v (f_values - 1).toNatClampNeg) = 0 then
          (sm_give 1 l1 1 f_values a_vKind a_v).bind fun v46 =>
            some (f_fail, v46.1, v46.2.1, v46.2.2)
        else
          (sm_give 1 (1 - l1) 1 f_values a_vKind a_v).bind fun v46 =>
            some (f_fail, v46.1, v46.2.1, v46.2.2)
      else none
  else none
def sm_pair_J90 (s1 : Int32) (s2 : Int32) (s3 : Int32) (f_fail : Int32) (f_values : Int32) (a_vKind : Nat → Int32) (a_v : Nat → Int32) : Option (Int32 × Int32 × (Nat → Int32) × (Nat → Int32)) :=
  if s2 = s3 then
    (sm_give s1 1 2 f_values a_vKind a_v).bind fun v99 =>
      some (f_fail, v99.1, v99.2.1, v99.2.2)
  else
    (sm_give s1 0 2 f_values a_vKind a_v).bind fun v99 =>
      some (f_fail, v99.1, v99.2.1, v99.2.2)
def sm_pair_J73 (l1 : Int32) (s0 : Int32) (f_fail : Int32) (f_values : Int32) (a_vKind : Nat → Int32) (a_v : Nat → Int32) : Option (Int32 × Int32 × (Nat → Int32) × (Nat → Int32)) :=
  if l1 = 18 then
    sm_pair_J90 1 s0 1 f_fail f_values a_vKind a_v
  else
    sm_pair_J90 1 s0 0 f_fail f_values a_vKind a_v
def sm_pair_J72 (l1 : Int32) (f_fail : Int32) (f_values : Int32) (a_vKind : Nat → Int32) (a_v : Nat → Int32) : Option (Int32 × Int32 × (Nat → Int32) × (Nat → Int32)) :=
  sm_pair_J73 l1 0 f_fail f_values a_vKind a_v
def sm_pair (l1 : Int32) (f_fail : Int32) (f_values : Int32) (a_vKind : Nat → Int32) (a_v : Nat → Int32) : Option (Int32 × Int32 × (Nat → Int32) × (Nat → Int32)) :=
  if hq_I (f_values - 2) 41 = true then
    if hq_I (f_values - 1) 41 = true then
      if hq_I (f_values - 2) 41 = true then
        if hq_I (f_values - 1) 41 = true then
          if 19 < l1 then
            if (a_vKind (f_values - 2).toNatClampNeg) = 2 then
              some (((-3), f_values, a_vKind, a_v))
            else
              if (a_vKind (f_values - 1).toNatClampNeg) = 2 then
                some (((-3), f_values, a_vKind, a_v))
              else
                if l1 = 20 then
                  if (a_vKind (f_values - 2).toNatClampNeg) = 1 then
                    if (a_vKind (f_values - 1).toNatClampNeg) = 1 then
                      if (a_v (f_values - 1).toNatClampNeg) ≤ (a_v (f_values - 2).toNatClampNeg) then
                        (sm_give 1 0 2 f_values a_vKind a_v).bind fun v155 =>
                          some (f_fail, v155.1, v155.2.1, v155.2.2)
                      else
                        (sm_give 1 1 2 f_values a_vKind a_v).bind fun v155 =>
                          some (f_fail, v155.1, v155.2.1, v155.2.2)
                    else
                      (sm_give 1 0 2 f_values a_vKind a_v).bind fun v155 =>
                        some (f_fail, v155.1, v155.2.1, v155.2.2)
                  else
                    (sm_give 1 0 2 f_values a_vKind a_v).bind fun v155 =>
                      some (f_fail, v155.1, v155.2.1, v155.2.2)
                else
                  if l1 = 21 then
                    (sm_give ((a_vKind (f_values - 2).toNatClampNeg) * (a_vKind (f_values - 1).toNatClampNeg)) ((a_v (f_values - 2).toNatClampNeg) + (a_v (f_values - 1).toNatClampNeg)) 2 f_values a_vKind a_v).bind fun v199 =>
                      some (f_fail, v199.1, v199.2.1, v199.2.2)
                  else
                    if l1 = 22 then
                      (sm_give ((a_vKind (f_values - 2).toNatClampNeg) * (a_vKind (f_values - 1).toNatClampNeg)) ((a_v (f_values - 2).toNatClampNeg) - (a_v (f_values - 1).toNatClampNeg)) 2 f_values a_vKind a_v).bind fun v199 =>
                        some (f_fail, v199.1, v199.2.1, v199.2.2)
                    else
                      (sm_give ((a_vKind (f_values - 2).toNatClampNeg) * (a_vKind (f_values - 1).toNatClampNeg)) ((a_v (f_values - 2).toNatClampNeg) * (a_v (f_values - 1).toNatClampNeg)) 2 f_values a_vKind a_v).bind fun v199 =>
                        some (f_fail, v199.1, v199.2.1, v199.2.2)
          else
            if (a_vKind (f_values - 2).toNatClampNeg) = (a_vKind (f_values - 1).toNatClampNeg) then
              if (a_v (f_values - 2).toNatClampNeg) = (a_v (f_values - 1).toNatClampNeg) then
                sm_pair_J73 l1 1 f_fail f_values a_vKind a_v
              else
                sm_pair_J72 l1 f_fail f_values a_vKind a_v
            else
              sm_pair_J72 l1 f_fail f_values a_vKind a_v
        else none
      else none
    else none
  else none
def sm_apply_L0_B (rec : Int32 → Int32 → Int32 → (Nat → Int32) → (Nat → Int32) → Int32 → (Nat → Int32) → Option (Int32 × Int32 × (Nat → Int32) × (Nat → Int32) × Int32)) (l1 : Int32) (f_fail : Int32) (f_values : Int32) (a_vKind : Nat → Int32) (a_v : Nat → Int32) (f_waiting : Int32) (a_waits : Nat → Int32) : Option (Int32 × Int32 × (Nat → Int32) × (Nat → Int32) × Int32) :=
  if f_waiting ≤ 0 then
    some (f_fail, f_values, a_vKind, a_v, f_waiting)
  else
    if f_fail = 0 then
      if hq_I (f_waiting - 1) 41 = true then
        if (a_waits (f_waiting - 1).toNatClampNeg) = 6 then
          some (f_fail, f_values, a_vKind, a_v, f_waiting)
        else
          if hq_I (f_waiting - 1) 41 = true then
            if ((sm_rank (a_waits (f_waiting - 1).toNatClampNeg))) < l1 then
              some (f_fail, f_values, a_vKind, a_v, f_waiting)
            else
              if hq_I (f_waiting - 1) 41 = true then
                if 17 < (a_waits (f_waiting - 1).toNatClampNeg) then
                  (sm_pair (a_waits (f_waiting - 1).toNatClampNeg) f_fail f_values a_vKind a_v).bind fun v94 =>
                    rec l1 v94.1 v94.2.1 v94.2.2.1 v94.2.2.2 (f_waiting - 1) a_waits
                else
                  if (a_waits (f_waiting - 1).toNatClampNeg) = 17 then
                    (sm_truth 1 f_fail f_values a_vKind a_v).bind fun v86 =>
                      rec l1 v86.1 v86.2.1 v86.2.2.1 v86.2.2.2 (f_waiting - 1) a_waits
                  else
                    (sm_truth 0 f_fail f_values a_vKind a_v).bind fun v86 =>
                      rec l1 v86.1 v86.2.1 v86.2.2.1 v86.2.2.2 (f_waiting - 1) a_waits
              else none
          else none
      else none
    else
      some (f_fail, f_values, a_vKind, a_v, f_waiting)
def sm_apply_L0 : Nat → Int32 → Int32 → Int32 → (Nat → Int32) → (Nat → Int32) → Int32 → (Nat → Int32) → Option (Int32 × Int32 × (Nat → Int32) × (Nat → Int32) × Int32)
  | 0 => fun _ _ _ _ _ _ _ => none
  | n + 1 => sm_apply_L0_B (sm_apply_L0 n)
def sm_apply (l1 : Int32) (f_fail : Int32) (f_values : Int32) (a_vKind : Nat → Int32) (a_v : Nat → Int32) (f_waiting : Int32) (a_waits : Nat → Int32) : Option (Int32 × Int32 × (Nat → Int32) × (Nat → Int32) × Int32) :=
  if f_waiting ≤ 0 then
    some (f_fail, f_values, a_vKind, a_v, f_waiting)
  else
    if f_fail = 0 then
      if hq_I (f_waiting - 1) 41 = true then
        if (a_waits (f_waiting - 1).toNatClampNeg) = 6 then
          some (f_fail, f_values, a_vKind, a_v, f_waiting)
        else
          if hq_I (f_waiting - 1) 41 = true then
            if ((sm_rank (a_waits (f_waiting - 1).toNatClampNeg))) < l1 then
              some (f_fail, f_values, a_vKind, a_v, f_waiting)
            else
              if hq_I (f_waiting - 1) 41 = true then
                if 17 < (a_waits (f_waiting - 1).toNatClampNeg) then
                  (sm_pair (a_waits (f_waiting - 1).toNatClampNeg) f_fail f_values a_vKind a_v).bind fun v94 =>
                    (sm_apply_L0 kF l1 v94.1 v94.2.1 v94.2.2.1 v94.2.2.2 (f_waiting - 1) a_waits).bind fun u0 =>
                      some (u0.1, u0.2.1, u0.2.2.1, u0.2.2.2.1, u0.2.2.2.2)
                else
                  if (a_waits (f_waiting - 1).toNatClampNeg) = 17 then
                    (sm_truth 1 f_fail f_values a_vKind a_v).bind fun v86 =>
                      (sm_apply_L0 kF l1 v86.1 v86.2.1 v86.2.2.1 v86.2.2.2 (f_waiting - 1) a_waits).bind fun u0 =>
                        some (u0.1, u0.2.1, u0.2.2.1, u0.2.2.2.1, u0.2.2.2.2)
                  else
                    (sm_truth 0 f_fail f_values a_vKind a_v).bind fun v86 =>
                      (sm_apply_L0 kF l1 v86.1 v86.2.1 v86.2.2.1 v86.2.2.2 (f_waiting - 1) a_waits).bind fun u0 =>
                        some (u0.1, u0.2.1, u0.2.2.1, u0.2.2.2.1, u0.2.2.2.2)
              else none
          else none
      else none
    else
      some (f_fail, f_values, a_vKind, a_v, f_waiting)
def sm_along_L122_B (rec : Int32 → Int32 → Int32 → Int32 → (Nat → Int32) → (Nat → Int32) → Option (Int32)) (l4 : Int32) (l5 : Int32) (l6 : Int32) (f_objects : Int32) (a_slotKind : Nat → Int32) (a_slot : Nat → Int32) : Option (Int32) :=
  if (4 * f_objects) ≤ l6 then
    some l5
  else
    if hq_I l6 96 = true then
      if (a_slotKind l6.toNatClampNeg) = 2 then
        if hq_I l6 96 = true then
          if (a_slot l6.toNatClampNeg) = l4 then
            rec l4 (l5 + 1) (l6 + 1) f_objects a_slotKind a_slot
          else
            rec l4 l5 (l6 + 1) f_objects a_slotKind a_slot
        else none
      else
        rec l4 l5 (l6 + 1) f_objects a_slotKind a_slot
    else none
def sm_along_L122 : Nat → Int32 → Int32 → Int32 → Int32 → (Nat → Int32) → (Nat → Int32) → Option (Int32)
  | 0 => fun _ _ _ _ _ _ => none
  | n + 1 => sm_along_L122_B (sm_along_L122 n)
def sm_along_J36 (l1 : Int32) (l2 : Int32) (l3 : Int32) (l4 : Int32) (f_objects : Int32) (a_kindOf : Nat → Int32) (a_size : Nat → Int32) (a_slotKind : Nat → Int32) (a_slot : Nat → Int32) (a_kept : Nat → Int32) (f_fail : Int32) (f_values : Int32) (a_vKind : Nat → Int32) (a_v : Nat → Int32) : Option (Int32 × Int32 × (Nat → Int32) × (Nat → Int32)) :=
  if l3 = 2 then
    if l1 = 13 then
      if hq_I ((4 * l4) + l2) 96 = true then
        if hq_I ((4 * l4) + l2) 96 = true then
          (sm_give (a_slotKind ((4 * l4) + l2).toNatClampNeg) (a_slot ((4 * l4) + l2).toNatClampNeg) 1 f_values a_vKind a_v).bind fun v72 =>
            some (f_fail, v72.1, v72.2.1, v72.2.2)
        else none
      else none
    else
      if l2 = 4 then
        (sm_immediate l4 f_objects a_kept).bind fun v86 =>
          if 0 ≤ v86 then
            (sm_give 2 v86 1 f_values a_vKind a_v).bind fun v105 =>
              some (f_fail, v105.1, v105.2.1, v105.2.2)
          else
            (sm_give 0 v86 1 f_values a_vKind a_v).bind fun v105 =>
              some (f_fail, v105.1, v105.2.1, v105.2.2)
      else
        if l2 = 5 then
          (sm_along_L122 kF l4 0 0 f_objects a_slotKind a_slot).bind fun u122 =>
            (sm_give 1 u122 1 f_values a_vKind a_v).bind fun v178 =>
              some (f_fail, v178.1, v178.2.1, v178.2.2)
        else
          if l2 = 0 then
            (sm_give 1 l4 1 f_values a_vKind a_v).bind fun v237 =>
              some (f_fail, v237.1, v237.2.1, v237.2.2)
          else
            if l2 = 1 then
              if hq_I l4 24 = true then
                (sm_give 1 (a_kindOf l4.toNatClampNeg) 1 f_values a_vKind a_v).bind fun v237 =>
                  some (f_fail, v237.1, v237.2.1, v237.2.2)
              else none
            else
              if l2 = 2 then
                if hq_I l4 24 = true then
                  (sm_give 1 (a_size l4.toNatClampNeg) 1 f_values a_vKind a_v).bind fun v237 =>
                    some (f_fail, v237.1, v237.2.1, v237.2.2)
                else none
              else
                if hq_I l4 24 = true then
                  (sm_sum (a_kept l4.toNatClampNeg) f_objects a_size).bind fun v233 =>
                    (sm_give 1 v233 1 f_values a_vKind a_v).bind fun v237 =>
                      some (f_fail, v237.1, v237.2.1, v237.2.2)
                else none
  else
    some (f_fail, f_values, a_vKind, a_v)
def sm_along (l1 : Int32) (l2 : Int32) (f_objects : Int32) (a_kindOf : Nat → Int32) (a_size : Nat → Int32) (a_slotKind : Nat → Int32) (a_slot : Nat → Int32) (a_kept : Nat → Int32) (f_fail : Int32) (f_values : Int32) (a_vKind : Nat → Int32) (a_v : Nat → Int32) : Option (Int32 × Int32 × (Nat → Int32) × (Nat → Int32)) :=
  if hq_I (f_values - 1) 41 = true then
    if hq_I (f_values - 1) 41 = true then
      if (a_vKind (f_values - 1).toNatClampNeg) = 1 then
        sm_along_J36 l1 l2 (a_vKind (f_values - 1).toNatClampNeg) (a_v (f_values - 1).toNatClampNeg) f_objects a_kindOf a_size a_slotKind a_slot a_kept (-2) f_values a_vKind a_v
      else
        sm_along_J36 l1 l2 (a_vKind (f_values - 1).toNatClampNeg) (a_v (f_values - 1).toNatClampNeg) f_objects a_kindOf a_size a_slotKind a_slot a_kept f_fail f_values a_vKind a_v
    else none
  else none
def sm_hold (l1 : Int32) (f_waiting : Int32) (a_waits : Nat → Int32) : Option (Int32 × (Nat → Int32)) :=
  if hq_I f_waiting 41 = true then
    some (f_waiting + 1, upd a_waits f_waiting.toNatClampNeg l1)
  else none
def sm_stops (l0 : Int32) (l1 : Int32) : Int32 :=
  if l0 = 3 then
    1
  else
    if l0 = 5 then
      1
    else
      if l0 = 7 then
        1
      else
        if l0 = 24 then
          1
        else
          if l0 = 15 then
            1
          else
            if l0 = 16 then
              if l1 = 16 then
                1
              else
                0
            else
              0
def sm_branch_J185 (rec : Int32 → Int32 → Int32 → (Nat → Int32) → Int32 → Option (Int32)) (l1 : Int32) (s0 : Int32) (f_count : Int32) (a_code : Nat → Int32) (f_at : Int32) : Option (Int32) :=
  rec l1 s0 f_count a_code (f_at + 1)
def sm_branch_J144 (rec : Int32 → Int32 → Int32 → (Nat → Int32) → Int32 → Option (Int32)) (l1 : Int32) (l3 : Int32) (f_count : Int32) (a_code : Nat → Int32) (f_at : Int32) : Option (Int32) :=
  if hq_I f_at 40 = true then
    if (a_code f_at.toNatClampNeg) = 6 then
      sm_branch_J185 rec l1 (l3 + 1) f_count a_code f_at
    else
      if hq_I f_at 40 = true then
        if (a_code f_at.toNatClampNeg) = 7 then
          sm_branch_J185 rec l1 (l3 - 1) f_count a_code f_at
        else
          sm_branch_J185 rec l1 l3 f_count a_code f_at
      else none
  else none
def sm_branch_L113_B (rec : Int32 → Int32 → Int32 → (Nat → Int32) → Int32 → Option (Int32)) (l1 : Int32) (l3 : Int32) (f_count : Int32) (a_code : Nat → Int32) (f_at : Int32) : Option (Int32) :=
  if f_count ≤ f_at then
    some f_at
  else
    if 0 < l3 then
      sm_branch_J144 rec l1 l3 f_count a_code f_at
    else
      if hq_I f_at 40 = true then
        if ((sm_stops (a_code f_at.toNatClampNeg) l1)) = 0 then
          sm_branch_J144 rec l1 l3 f_count a_code f_at
        else
          some f_at
      else none
def sm_branch_L113 : Nat → Int32 → Int32 → Int32 → (Nat → Int32) → Int32 → Option (Int32)
  | 0 => fun _ _ _ _ _ => none
  | n + 1 => sm_branch_L113_B (sm_branch_L113 n)
def sm_branch_J77 (l1 : Int32) (l2 : Int32) (s0 : Int32) (s1 : Int32) (f_count : Int32) (a_code : Nat → Int32) (f_fail : Int32) (f_at : Int32) (f_values : Int32) (a_vKind : Nat → Int32) (a_v : Nat → Int32) (f_waiting : Int32) (a_waits : Nat → Int32) : Option (Int32 × Int32 × Int32 × (Nat → Int32) × (Nat → Int32) × Int32 × (Nat → Int32)) :=
  if s0 = s1 then
    (sm_hold l1 f_waiting a_waits).bind fun v92 =>
      some (f_fail, f_at, f_values - 1, a_vKind, a_v, v92.1, v92.2)
  else
    if l2 = 0 then
      (sm_give 1 0 1 f_values a_vKind a_v).bind fun v108 =>
        (sm_branch_L113 kF l1 0 f_count a_code f_at).bind fun u113 =>
          some (f_fail, u113, v108.1, v108.2.1, v108.2.2, f_waiting, a_waits)
    else
      (sm_give 1 1 1 f_values a_vKind a_v).bind fun v108 =>
        (sm_branch_L113 kF l1 0 f_count a_code f_at).bind fun u113 =>
          some (f_fail, u113, v108.1, v108.2.1, v108.2.2, f_waiting, a_waits)
def sm_branch_J64 (l1 : Int32) (s0 : Int32) (f_count : Int32) (a_code : Nat → Int32) (f_fail : Int32) (f_at : Int32) (f_values : Int32) (a_vKind : Nat → Int32) (a_v : Nat → Int32) (f_waiting : Int32) (a_waits : Nat → Int32) : Option (Int32 × Int32 × Int32 × (Nat → Int32) × (Nat → Int32) × Int32 × (Nat → Int32)) :=
  if l1 = 16 then
    sm_branch_J77 l1 s0 s0 1 f_count a_code f_fail f_at f_values a_vKind a_v f_waiting a_waits
  else
    sm_branch_J77 l1 s0 s0 0 f_count a_code f_fail f_at f_values a_vKind a_v f_waiting a_waits
def sm_branch_J12 (l1 : Int32) (s1 : Int32) (f_count : Int32) (a_code : Nat → Int32) (f_fail : Int32) (f_at : Int32) (f_values : Int32) (a_vKind : Nat → Int32) (a_v : Nat → Int32) (f_waiting : Int32) (a_waits : Nat → Int32) : Option (Int32 × Int32 × Int32 × (Nat → Int32) × (Nat → Int32) × Int32 × (Nat → Int32)) :=
  (sm_apply s1 f_fail f_values a_vKind a_v f_waiting a_waits).bind fun v12 =>
    if v12.1 = 0 then
      if hq_I (v12.2.1 - 1) 41 = true then
        if (v12.2.2.1 (v12.2.1 - 1).toNatClampNeg) = 2 then
          some (((-3), f_at, v12.2.1, v12.2.2.1, v12.2.2.2.1, v12.2.2.2.2, a_waits))
        else
          if hq_I (v12.2.1 - 1) 41 = true then
            if (v12.2.2.2.1 (v12.2.1 - 1).toNatClampNeg) = 0 then
              sm_branch_J64 l1 0 f_count a_code v12.1 f_at v12.2.1 v12.2.2.1 v12.2.2.2.1 v12.2.2.2.2 a_waits
            else
              sm_branch_J64 l1 1 f_count a_code v12.1 f_at v12.2.1 v12.2.2.1 v12.2.2.2.1 v12.2.2.2.2 a_waits
          else none
      else none
    else
      some (v12.1, f_at, v12.2.1, v12.2.2.1, v12.2.2.2.1, v12.2.2.2.2, a_waits)
def sm_branch (l1 : Int32) (f_count : Int32) (a_code : Nat → Int32) (f_fail : Int32) (f_at : Int32) (f_values : Int32) (a_vKind : Nat → Int32) (a_v : Nat → Int32) (f_waiting : Int32) (a_waits : Nat → Int32) : Option (Int32 × Int32 × Int32 × (Nat → Int32) × (Nat → Int32) × Int32 × (Nat → Int32)) :=
  if l1 = 16 then
    sm_branch_J12 l1 2 f_count a_code f_fail f_at f_values a_vKind a_v f_waiting a_waits
  else
    sm_branch_J12 l1 1 f_count a_code f_fail f_at f_values a_vKind a_v f_waiting a_waits
def sm_take_J196 (l1 : Int32) (f_objects : Int32) (a_kindOf : Nat → Int32) (a_size : Nat → Int32) (a_slotKind : Nat → Int32) (a_slot : Nat → Int32) (a_kept : Nat → Int32) (f_count : Int32) (a_code : Nat → Int32) (f_fail : Int32) (f_at : Int32) (f_self : Int32) (f_brackets : Int32) (f_values : Int32) (a_vKind : Nat → Int32) (a_v : Nat → Int32) (f_waiting : Int32) (a_waits : Nat → Int32) : Option (Int32 × Int32 × Int32 × Int32 × Int32 × (Nat → Int32) × (Nat → Int32) × Int32 × (Nat → Int32)) :=
  (sm_branch l1 f_count a_code f_fail f_at f_values a_vKind a_v f_waiting a_waits).bind fun v198 =>
    some (1, v198.1, v198.2.1, f_brackets, v198.2.2.1, v198.2.2.2.1, v198.2.2.2.2.1, v198.2.2.2.2.2.1, v198.2.2.2.2.2.2)
def sm_take_J103 (l1 : Int32) (l2 : Int32) (f_objects : Int32) (a_kindOf : Nat → Int32) (a_size : Nat → Int32) (a_slotKind : Nat → Int32) (a_slot : Nat → Int32) (a_kept : Nat → Int32) (f_count : Int32) (a_code : Nat → Int32) (f_fail : Int32) (f_at : Int32) (f_self : Int32) (f_brackets : Int32) (f_values : Int32) (a_vKind : Nat → Int32) (a_v : Nat → Int32) (f_waiting : Int32) (a_waits : Nat → Int32) : Option (Int32 × Int32 × Int32 × Int32 × Int32 × (Nat → Int32) × (Nat → Int32) × Int32 × (Nat → Int32)) :=
  (sm_along l1 l2 f_objects a_kindOf a_size a_slotKind a_slot a_kept f_fail f_values a_vKind a_v).bind fun v106 =>
    some (1, v106.1, f_at, f_brackets, v106.2.1, v106.2.2.1, v106.2.2.2, f_waiting, a_waits)
def sm_take_J91 (l1 : Int32) (l2 : Int32) (f_objects : Int32) (a_kindOf : Nat → Int32) (a_size : Nat → Int32) (a_slotKind : Nat → Int32) (a_slot : Nat → Int32) (a_kept : Nat → Int32) (f_count : Int32) (a_code : Nat → Int32) (f_fail : Int32) (f_at : Int32) (f_self : Int32) (f_brackets : Int32) (f_values : Int32) (a_vKind : Nat → Int32) (a_v : Nat → Int32) (f_waiting : Int32) (a_waits : Nat → Int32) : Option (Int32 × Int32 × Int32 × Int32 × Int32 × (Nat → Int32) × (Nat → Int32) × Int32 × (Nat → Int32)) :=
  if l1 = 13 then
    sm_take_J103 l1 l2 f_objects a_kindOf a_size a_slotKind a_slot a_kept f_count a_code f_fail f_at f_self f_brackets f_values a_vKind a_v f_waiting a_waits
  else
    if l1 = 14 then
      sm_take_J103 l1 l2 f_objects a_kindOf a_size a_slotKind a_slot a_kept f_count a_code f_fail f_at f_self f_brackets f_values a_vKind a_v f_waiting a_waits
    else
      if l1 = 6 then
        (sm_hold l1 f_waiting a_waits).bind fun v130 =>
          some (1, f_fail, f_at, f_brackets + 1, f_values, a_vKind, a_v, v130.1, v130.2)
      else
        if l1 = 7 then
          (sm_apply 0 f_fail f_values a_vKind a_v f_waiting a_waits).bind fun v144 =>
            some (1, v144.1, f_at, f_brackets - 1, v144.2.1, v144.2.2.1, v144.2.2.2.1, v144.2.2.2.2 - 1, a_waits)
        else
          if l1 = 17 then
            (sm_hold l1 f_waiting a_waits).bind fun v178 =>
              some (1, f_fail, f_at, f_brackets, f_values, a_vKind, a_v, v178.1, v178.2)
          else
            if l1 = 15 then
              sm_take_J196 l1 f_objects a_kindOf a_size a_slotKind a_slot a_kept f_count a_code f_fail f_at f_self f_brackets f_values a_vKind a_v f_waiting a_waits
            else
              if l1 = 16 then
                sm_take_J196 l1 f_objects a_kindOf a_size a_slotKind a_slot a_kept f_count a_code f_fail f_at f_self f_brackets f_values a_vKind a_v f_waiting a_waits
              else
                (sm_apply (sm_rank l1) f_fail f_values a_vKind a_v f_waiting a_waits).bind fun v209 =>
                  (sm_hold l1 v209.2.2.2.2 a_waits).bind fun v214 =>
                    some (1, v209.1, f_at, f_brackets, v209.2.1, v209.2.2.1, v209.2.2.2.1, v214.1, v214.2)
def sm_take_J70 (l1 : Int32) (l2 : Int32) (s1 : Int32) (f_objects : Int32) (a_kindOf : Nat → Int32) (a_size : Nat → Int32) (a_slotKind : Nat → Int32) (a_slot : Nat → Int32) (a_kept : Nat → Int32) (f_count : Int32) (a_code : Nat → Int32) (f_fail : Int32) (f_at : Int32) (f_self : Int32) (f_brackets : Int32) (f_values : Int32) (a_vKind : Nat → Int32) (a_v : Nat → Int32) (f_waiting : Int32) (a_waits : Nat → Int32) : Option (Int32 × Int32 × Int32 × Int32 × Int32 × (Nat → Int32) × (Nat → Int32) × Int32 × (Nat → Int32)) :=
  if l1 = 10 then
    (sm_give s1 l2 0 f_values a_vKind a_v).bind fun v85 =>
      some (1, f_fail, f_at, f_brackets, v85.1, v85.2.1, v85.2.2, f_waiting, a_waits)
  else
    (sm_give s1 f_self 0 f_values a_vKind a_v).bind fun v85 =>
      some (1, f_fail, f_at, f_brackets, v85.1, v85.2.1, v85.2.2, f_waiting, a_waits)
def sm_take_J36 (l1 : Int32) (l2 : Int32) (f_objects : Int32) (a_kindOf : Nat → Int32) (a_size : Nat → Int32) (a_slotKind : Nat → Int32) (a_slot : Nat → Int32) (a_kept : Nat → Int32) (f_count : Int32) (a_code : Nat → Int32) (f_fail : Int32) (f_at : Int32) (f_self : Int32) (f_brackets : Int32) (f_values : Int32) (a_vKind : Nat → Int32) (a_v : Nat → Int32) (f_waiting : Int32) (a_waits : Nat → Int32) : Option (Int32 × Int32 × Int32 × Int32 × Int32 × (Nat → Int32) × (Nat → Int32) × Int32 × (Nat → Int32)) :=
  if l1 < 10 then
    sm_take_J91 l1 l2 f_objects a_kindOf a_size a_slotKind a_slot a_kept f_count a_code f_fail f_at f_self f_brackets f_values a_vKind a_v f_waiting a_waits
  else
    if 12 < l1 then
      sm_take_J91 l1 l2 f_objects a_kindOf a_size a_slotKind a_slot a_kept f_count a_code f_fail f_at f_self f_brackets f_values a_vKind a_v f_waiting a_waits
    else
      if l1 = 10 then
        sm_take_J70 l1 l2 1 f_objects a_kindOf a_size a_slotKind a_slot a_kept f_count a_code f_fail f_at f_self f_brackets f_values a_vKind a_v f_waiting a_waits
      else
        if l1 = 11 then
          sm_take_J70 l1 l2 0 f_objects a_kindOf a_size a_slotKind a_slot a_kept f_count a_code f_fail f_at f_self f_brackets f_values a_vKind a_v f_waiting a_waits
        else
          sm_take_J70 l1 l2 2 f_objects a_kindOf a_size a_slotKind a_slot a_kept f_count a_code f_fail f_at f_self f_brackets f_values a_vKind a_v f_waiting a_waits
def sm_take (l1 : Int32) (l2 : Int32) (f_objects : Int32) (a_kindOf : Nat → Int32) (a_size : Nat → Int32) (a_slotKind : Nat → Int32) (a_slot : Nat → Int32) (a_kept : Nat → Int32) (f_count : Int32) (a_code : Nat → Int32) (f_fail : Int32) (f_at : Int32) (f_self : Int32) (f_brackets : Int32) (f_values : Int32) (a_vKind : Nat → Int32) (a_v : Nat → Int32) (f_waiting : Int32) (a_waits : Nat → Int32) : Option (Int32 × Int32 × Int32 × Int32 × Int32 × (Nat → Int32) × (Nat → Int32) × Int32 × (Nat → Int32)) :=
  if l1 = 3 then
    (sm_apply 0 f_fail f_values a_vKind a_v f_waiting a_waits).bind fun v31 =>
      some (0, v31.1, f_at, f_brackets, v31.2.1, v31.2.2.1, v31.2.2.2.1, v31.2.2.2.2, a_waits)
  else
    if l1 = 5 then
      (sm_apply 0 f_fail f_values a_vKind a_v f_waiting a_waits).bind fun v31 =>
        some (0, v31.1, f_at, f_brackets, v31.2.1, v31.2.2.1, v31.2.2.2.1, v31.2.2.2.2, a_waits)
    else
      if l1 = 24 then
        (sm_apply 0 f_fail f_values a_vKind a_v f_waiting a_waits).bind fun v31 =>
          some (0, v31.1, f_at, f_brackets, v31.2.1, v31.2.2.1, v31.2.2.2.1, v31.2.2.2.2, a_waits)
      else
        if l1 = 7 then
          if f_brackets = 0 then
            (sm_apply 0 f_fail f_values a_vKind a_v f_waiting a_waits).bind fun v31 =>
              some (0, v31.1, f_at, f_brackets, v31.2.1, v31.2.2.1, v31.2.2.2.1, v31.2.2.2.2, a_waits)
          else
            sm_take_J36 l1 l2 f_objects a_kindOf a_size a_slotKind a_slot a_kept f_count a_code f_fail f_at f_self f_brackets f_values a_vKind a_v f_waiting a_waits
        else
          sm_take_J36 l1 l2 f_objects a_kindOf a_size a_slotKind a_slot a_kept f_count a_code f_fail f_at f_self f_brackets f_values a_vKind a_v f_waiting a_waits
def sm_work_L27_B (rec : Int32 → Int32 → (Nat → Int32) → (Nat → Int32) → (Nat → Int32) → (Nat → Int32) → (Nat → Int32) → Int32 → (Nat → Int32) → (Nat → Int32) → Int32 → Int32 → Int32 → Int32 → Int32 → (Nat → Int32) → (Nat → Int32) → Int32 → (Nat → Int32) → Option (Int32 × Int32 × Int32 × Int32 × (Nat → Int32) × (Nat → Int32) × Int32 × (Nat → Int32))) (l3 : Int32) (f_objects : Int32) (a_kindOf : Nat → Int32) (a_size : Nat → Int32) (a_slotKind : Nat → Int32) (a_slot : Nat → Int32) (a_kept : Nat → Int32) (f_count : Int32) (a_code : Nat → Int32) (a_number : Nat → Int32) (f_fail : Int32) (f_at : Int32) (f_self : Int32) (f_brackets : Int32) (f_values : Int32) (a_vKind : Nat → Int32) (a_v : Nat → Int32) (f_waiting : Int32) (a_waits : Nat → Int32) : Option (Int32 × Int32 × Int32 × Int32 × (Nat → Int32) × (Nat → Int32) × Int32 × (Nat → Int32)) :=
  if l3 = 0 then
    some (f_fail, f_at, f_brackets, f_values, a_vKind, a_v, f_waiting, a_waits)
  else
    if f_fail = 0 then
      if f_count ≤ f_at then
        some (f_fail, f_at, f_brackets, f_values, a_vKind, a_v, f_waiting, a_waits)
      else
        if hq_I ((f_at + 1) - 1) 40 = true then
          if hq_I ((f_at + 1) - 1) 40 = true then
            (sm_take (a_code ((f_at + 1) - 1).toNatClampNeg) (a_number ((f_at + 1) - 1).toNatClampNeg) f_objects a_kindOf a_size a_slotKind a_slot a_kept f_count a_code f_fail (f_at + 1) f_self f_brackets f_values a_vKind a_v f_waiting a_waits).bind fun v82 =>
              rec v82.1 f_objects a_kindOf a_size a_slotKind a_slot a_kept f_count a_code a_number v82.2.1 v82.2.2.1 f_self v82.2.2.2.1 v82.2.2.2.2.1 v82.2.2.2.2.2.1 v82.2.2.2.2.2.2.1 v82.2.2.2.2.2.2.2.1 v82.2.2.2.2.2.2.2.2
          else none
        else none
    else
      some (f_fail, f_at, f_brackets, f_values, a_vKind, a_v, f_waiting, a_waits)
def sm_work_L27 : Nat → Int32 → Int32 → (Nat → Int32) → (Nat → Int32) → (Nat → Int32) → (Nat → Int32) → (Nat → Int32) → Int32 → (Nat → Int32) → (Nat → Int32) → Int32 → Int32 → Int32 → Int32 → Int32 → (Nat → Int32) → (Nat → Int32) → Int32 → (Nat → Int32) → Option (Int32 × Int32 × Int32 × Int32 × (Nat → Int32) × (Nat → Int32) × Int32 × (Nat → Int32))
  | 0 => fun _ _ _ _ _ _ _ _ _ _ _ _ _ _ _ _ _ _ _ => none
  | n + 1 => sm_work_L27_B (sm_work_L27 n)
def sm_work (l1 : Int32) (l2 : Int32) (f_objects : Int32) (a_kindOf : Nat → Int32) (a_size : Nat → Int32) (a_slotKind : Nat → Int32) (a_slot : Nat → Int32) (a_kept : Nat → Int32) (f_count : Int32) (a_code : Nat → Int32) (a_number : Nat → Int32) (f_fail : Int32) (f_at : Int32) (f_self : Int32) (f_brackets : Int32) (f_values : Int32) (a_vKind : Nat → Int32) (a_v : Nat → Int32) (f_waiting : Int32) (a_waits : Nat → Int32) : Option (Int32 × Int32 × Int32 × Int32 × Int32 × (Nat → Int32) × (Nat → Int32) × Int32 × (Nat → Int32)) :=
  (sm_work_L27 kF 1 f_objects a_kindOf a_size a_slotKind a_slot a_kept f_count a_code a_number f_fail l1 l2 0 0 a_vKind a_v 0 a_waits).bind fun u27 =>
    some (u27.1, u27.2.1, l2, u27.2.2.1, u27.2.2.2.1, u27.2.2.2.2.1, u27.2.2.2.2.2.1, u27.2.2.2.2.2.2.1, u27.2.2.2.2.2.2.2)
def sm_look_J83 (l1 : Int32) (f_objects : Int32) (a_kindOf : Nat → Int32) (a_size : Nat → Int32) (a_slotKind : Nat → Int32) (a_slot : Nat → Int32) (a_kept : Nat → Int32) (f_count : Int32) (a_code : Nat → Int32) (a_number : Nat → Int32) (f_rowCount : Int32) (a_rowKind : Nat → Int32) (a_rowValue : Nat → Int32) (f_seen : Int32) (f_fail : Int32) (f_level : Int32) (a_eAt : Nat → Int32) (a_whereAt : Nat → Int32) (f_at : Int32) (f_self : Int32) (f_brackets : Int32) (f_values : Int32) (a_vKind : Nat → Int32) (a_v : Nat → Int32) (f_waiting : Int32) (a_waits : Nat → Int32) : Option (Int32 × (Nat → Int32) × (Nat → Int32) × Int32 × Int32 × Int32 × Int32 × Int32 × Int32 × (Nat → Int32) × (Nat → Int32) × Int32 × (Nat → Int32)) :=
  if hq_I f_level 41 = true then
    (sm_work (a_eAt f_level.toNatClampNeg) l1 f_objects a_kindOf a_size a_slotKind a_slot a_kept f_count a_code a_number f_fail f_at f_self f_brackets f_values a_vKind a_v f_waiting a_waits).bind fun v94 =>
      if hq_I 0 41 = true then
        if hq_I f_rowCount 200 = true then
          if hq_I 0 41 = true then
            if hq_I f_rowCount 200 = true then
              some ((f_rowCount + 1, upd a_rowKind f_rowCount.toNatClampNeg (v94.2.2.2.2.2.1 (0 : Int32).toNatClampNeg), upd a_rowValue f_rowCount.toNatClampNeg (v94.2.2.2.2.2.2.1 (0 : Int32).toNatClampNeg), f_seen, v94.1, v94.2.1, v94.2.2.1, v94.2.2.2.1, v94.2.2.2.2.1, v94.2.2.2.2.2.1, v94.2.2.2.2.2.2.1, v94.2.2.2.2.2.2.2.1, v94.2.2.2.2.2.2.2.2))
            else none
          else none
        else none
      else none
  else none
def sm_look_J63 (l1 : Int32) (s1 : Int32) (f_objects : Int32) (a_kindOf : Nat → Int32) (a_size : Nat → Int32) (a_slotKind : Nat → Int32) (a_slot : Nat → Int32) (a_kept : Nat → Int32) (f_count : Int32) (a_code : Nat → Int32) (a_number : Nat → Int32) (f_rowCount : Int32) (a_rowKind : Nat → Int32) (a_rowValue : Nat → Int32) (f_seen : Int32) (f_fail : Int32) (f_level : Int32) (a_eAt : Nat → Int32) (a_whereAt : Nat → Int32) (f_at : Int32) (f_self : Int32) (f_brackets : Int32) (f_values : Int32) (a_vKind : Nat → Int32) (a_v : Nat → Int32) (f_waiting : Int32) (a_waits : Nat → Int32) : Option (Int32 × (Nat → Int32) × (Nat → Int32) × Int32 × Int32 × Int32 × Int32 × Int32 × Int32 × (Nat → Int32) × (Nat → Int32) × Int32 × (Nat → Int32)) :=
  if s1 = 0 then
    if hq_I 0 41 = true then
      if (a_v (0 : Int32).toNatClampNeg) = 0 then
        some (f_rowCount, a_rowKind, a_rowValue, f_seen, s1, f_at, f_self, f_brackets, f_values, a_vKind, a_v, f_waiting, a_waits)
      else
        sm_look_J83 l1 f_objects a_kindOf a_size a_slotKind a_slot a_kept f_count a_code a_number f_rowCount a_rowKind a_rowValue f_seen s1 f_level a_eAt a_whereAt f_at f_self f_brackets f_values a_vKind a_v f_waiting a_waits
    else none
  else
    some (f_rowCount, a_rowKind, a_rowValue, f_seen, s1, f_at, f_self, f_brackets, f_values, a_vKind, a_v, f_waiting, a_waits)
def sm_look_J59 (l1 : Int32) (f_objects : Int32) (a_kindOf : Nat → Int32) (a_size : Nat → Int32) (a_slotKind : Nat → Int32) (a_slot : Nat → Int32) (a_kept : Nat → Int32) (f_count : Int32) (a_code : Nat → Int32) (a_number : Nat → Int32) (f_rowCount : Int32) (a_rowKind : Nat → Int32) (a_rowValue : Nat → Int32) (f_seen : Int32) (f_fail : Int32) (f_level : Int32) (a_eAt : Nat → Int32) (a_whereAt : Nat → Int32) (f_at : Int32) (f_self : Int32) (f_brackets : Int32) (f_values : Int32) (a_vKind : Nat → Int32) (a_v : Nat → Int32) (f_waiting : Int32) (a_waits : Nat → Int32) : Option (Int32 × (Nat → Int32) × (Nat → Int32) × Int32 × Int32 × Int32 × Int32 × Int32 × Int32 × (Nat → Int32) × (Nat → Int32) × Int32 × (Nat → Int32)) :=
  sm_look_J63 l1 f_fail f_objects a_kindOf a_size a_slotKind a_slot a_kept f_count a_code a_number f_rowCount a_rowKind a_rowValue f_seen f_fail f_level a_eAt a_whereAt f_at f_self f_brackets f_values a_vKind a_v f_waiting a_waits
def sm_look (l1 : Int32) (f_objects : Int32) (a_kindOf : Nat → Int32) (a_size : Nat → Int32) (a_slotKind : Nat → Int32) (a_slot : Nat → Int32) (a_kept : Nat → Int32) (f_count : Int32) (a_code : Nat → Int32) (a_number : Nat → Int32) (f_rowCount : Int32) (a_rowKind : Nat → Int32) (a_rowValue : Nat → Int32) (f_seen : Int32) (f_fail : Int32) (f_level : Int32) (a_eAt : Nat → Int32) (a_whereAt : Nat → Int32) (f_at : Int32) (f_self : Int32) (f_brackets : Int32) (f_values : Int32) (a_vKind : Nat → Int32) (a_v : Nat → Int32) (f_waiting : Int32) (a_waits : Nat → Int32) : Option (Int32 × (Nat → Int32) × (Nat → Int32) × Int32 × Int32 × Int32 × Int32 × Int32 × Int32 × (Nat → Int32) × (Nat → Int32) × Int32 × (Nat → Int32)) :=
  if hq_I f_level 41 = true then
    if (a_whereAt f_level.toNatClampNeg) < 0 then
      sm_look_J83 l1 f_objects a_kindOf a_size a_slotKind a_slot a_kept f_count a_code a_number f_rowCount a_rowKind a_rowValue (f_seen + 1) f_fail f_level a_eAt a_whereAt f_at f_self f_brackets f_values a_vKind a_v f_waiting a_waits
    else
      if hq_I f_level 41 = true then
        (sm_work (a_whereAt f_level.toNatClampNeg) l1 f_objects a_kindOf a_size a_slotKind a_slot a_kept f_count a_code a_number f_fail f_at f_self f_brackets f_values a_vKind a_v f_waiting a_waits).bind fun v33 =>
          if v33.1 = 0 then
            if hq_I 0 41 = true then
              if (v33.2.2.2.2.2.1 (0 : Int32).toNatClampNeg) = 2 then
                sm_look_J63 l1 (-3) f_objects a_kindOf a_size a_slotKind a_slot a_kept f_count a_code a_number f_rowCount a_rowKind a_rowValue (f_seen + 1) v33.1 f_level a_eAt a_whereAt v33.2.1 v33.2.2.1 v33.2.2.2.1 v33.2.2.2.2.1 v33.2.2.2.2.2.1 v33.2.2.2.2.2.2.1 v33.2.2.2.2.2.2.2.1 v33.2.2.2.2.2.2.2.2
              else
                sm_look_J59 l1 f_objects a_kindOf a_size a_slotKind a_slot a_kept f_count a_code a_number f_rowCount a_rowKind a_rowValue (f_seen + 1) v33.1 f_level a_eAt a_whereAt v33.2.1 v33.2.2.1 v33.2.2.2.1 v33.2.2.2.2.1 v33.2.2.2.2.2.1 v33.2.2.2.2.2.2.1 v33.2.2.2.2.2.2.2.1 v33.2.2.2.2.2.2.2.2
            else none
          else
            sm_look_J59 l1 f_objects a_kindOf a_size a_slotKind a_slot a_kept f_count a_code a_number f_rowCount a_rowKind a_rowValue (f_seen + 1) v33.1 f_level a_eAt a_whereAt v33.2.1 v33.2.2.1 v33.2.2.2.1 v33.2.2.2.2.1 v33.2.2.2.2.2.1 v33.2.2.2.2.2.2.1 v33.2.2.2.2.2.2.2.1 v33.2.2.2.2.2.2.2.2
      else none
  else none
def sm_numbers_L2_B (rec : Int32 → Int32 → (Nat → Int32) → Int32 → Option (Int32)) (l2 : Int32) (f_rowCount : Int32) (a_rowKind : Nat → Int32) (f_fail : Int32) : Option (Int32) :=
  if f_rowCount ≤ l2 then
    some f_fail
  else
    if f_fail = 0 then
      if hq_I l2 200 = true then
        if (a_rowKind l2.toNatClampNeg) = 1 then
          rec (l2 + 1) f_rowCount a_rowKind (-4)
        else
          rec (l2 + 1) f_rowCount a_rowKind 0
      else none
    else
      some f_fail
def sm_numbers_L2 : Nat → Int32 → Int32 → (Nat → Int32) → Int32 → Option (Int32)
  | 0 => fun _ _ _ _ => none
  | n + 1 => sm_numbers_L2_B (sm_numbers_L2 n)
def sm_numbers (l1 : Int32) (f_rowCount : Int32) (a_rowKind : Nat → Int32) (f_fail : Int32) : Option (Int32) :=
  (sm_numbers_L2 kF l1 f_rowCount a_rowKind f_fail).bind fun u2 =>
    some u2
def sm_retain_L65_B (rec : Int32 → Int32 → Int32 → Int32 → (Nat → Int32) → (Nat → Int32) → Option (Int32 × (Nat → Int32) × (Nat → Int32))) (l3 : Int32) (l4 : Int32) (f_objects : Int32) (f_rowCount : Int32) (a_rowKind : Nat → Int32) (a_rowValue : Nat → Int32) : Option (Int32 × (Nat → Int32) × (Nat → Int32)) :=
  if f_objects ≤ l4 then
    some (f_rowCount, a_rowKind, a_rowValue)
  else
    if ((l3 >>> (l4 &&& 31)) &&& 1) = 1 then
      if hq_I f_rowCount 200 = true then
        if hq_I f_rowCount 200 = true then
          rec l3 (l4 + 1) f_objects (f_rowCount + 1) (upd a_rowKind f_rowCount.toNatClampNeg 2) (upd a_rowValue f_rowCount.toNatClampNeg l4)
        else none
      else none
    else
      rec l3 (l4 + 1) f_objects f_rowCount a_rowKind a_rowValue
def sm_retain_L65 : Nat → Int32 → Int32 → Int32 → Int32 → (Nat → Int32) → (Nat → Int32) → Option (Int32 × (Nat → Int32) × (Nat → Int32))
  | 0 => fun _ _ _ _ _ _ => none
  | n + 1 => sm_retain_L65_B (sm_retain_L65 n)
def sm_retain_L4_B (rec : Int32 → Int32 → Int32 → Int32 → (Nat → Int32) → (Nat → Int32) → Option (Int32)) (l1 : Int32) (l2 : Int32) (l3 : Int32) (f_rowCount : Int32) (a_rowKind : Nat → Int32) (a_rowValue : Nat → Int32) : Option (Int32) :=
  if f_rowCount ≤ l3 then
    some l2
  else
    if hq_I l3 200 = true then
      if (a_rowKind l3.toNatClampNeg) = 2 then
        if hq_I l3 200 = true then
          rec l1 (l2 ||| ((1 : Int32) <<< ((a_rowValue l3.toNatClampNeg) &&& 31))) (l3 + 1) f_rowCount a_rowKind a_rowValue
        else none
      else
        rec l1 l2 (l3 + 1) f_rowCount a_rowKind a_rowValue
    else none
def sm_retain_L4 : Nat → Int32 → Int32 → Int32 → Int32 → (Nat → Int32) → (Nat → Int32) → Option (Int32)
  | 0 => fun _ _ _ _ _ _ => none
  | n + 1 => sm_retain_L4_B (sm_retain_L4 n)
def sm_retain (l1 : Int32) (f_objects : Int32) (a_root : Nat → Int32) (a_slotKind : Nat → Int32) (a_slot : Nat → Int32) (f_rowCount : Int32) (a_rowKind : Nat → Int32) (a_rowValue : Nat → Int32) : Option (Int32 × (Nat → Int32) × (Nat → Int32)) :=
  (sm_retain_L4 kF l1 0 l1 f_rowCount a_rowKind a_rowValue).bind fun u4 =>
    (sm_reach 0 f_objects a_root a_slotKind a_slot).bind fun v45 =>
      (sm_reach u4 f_objects a_root a_slotKind a_slot).bind fun v50 =>
        (sm_retain_L65 kF (v45 &&& (v50 ^^^ (-1))) 0 f_objects l1 a_rowKind a_rowValue).bind fun u65 =>
          some (u65.1, u65.2.1, u65.2.2)
def sm_single_L18_B (rec : Int32 → Int32 → Int32 → Int32 → Int32 → (Nat → Int32) → (Nat → Int32) → Option (Int32)) (l1 : Int32) (l2 : Int32) (l3 : Int32) (l4 : Int32) (l5 : Int32) (a_rowKind : Nat → Int32) (a_rowValue : Nat → Int32) : Option (Int32) :=
  if l2 ≤ l5 then
    some l4
  else
    if l4 = 0 then
      rec l1 l2 l3 0 (l5 + 1) a_rowKind a_rowValue
    else
      if hq_I l5 200 = true then
        if hq_I l3 200 = true then
          if (a_rowKind l5.toNatClampNeg) = (a_rowKind l3.toNatClampNeg) then
            if hq_I l5 200 = true then
              if hq_I l3 200 = true then
                if (a_rowValue l5.toNatClampNeg) = (a_rowValue l3.toNatClampNeg) then
                  rec l1 l2 l3 0 (l5 + 1) a_rowKind a_rowValue
                else
                  rec l1 l2 l3 1 (l5 + 1) a_rowKind a_rowValue
              else none
            else none
          else
            rec l1 l2 l3 1 (l5 + 1) a_rowKind a_rowValue
        else none
      else none
def sm_single_L18 : Nat → Int32 → Int32 → Int32 → Int32 → Int32 → (Nat → Int32) → (Nat → Int32) → Option (Int32)
  | 0 => fun _ _ _ _ _ _ _ => none
  | n + 1 => sm_single_L18_B (sm_single_L18 n)
def sm_single_L4_B (rec : Int32 → Int32 → Int32 → Int32 → (Nat → Int32) → (Nat → Int32) → Option (Int32 × (Nat → Int32) × (Nat → Int32))) (l1 : Int32) (l2 : Int32) (l3 : Int32) (f_rowCount : Int32) (a_rowKind : Nat → Int32) (a_rowValue : Nat → Int32) : Option (Int32 × (Nat → Int32) × (Nat → Int32)) :=
  if f_rowCount ≤ l3 then
    some (l2, a_rowKind, a_rowValue)
  else
    (sm_single_L18 kF l1 l2 l3 1 l1 a_rowKind a_rowValue).bind fun u18 =>
      if hq_I l3 200 = true then
        if hq_I l2 200 = true then
          if hq_I l3 200 = true then
            if hq_I l2 200 = true then
              if u18 = 0 then
                rec l1 l2 (l3 + 1) f_rowCount (upd a_rowKind l2.toNatClampNeg (a_rowKind l3.toNatClampNeg)) (upd a_rowValue l2.toNatClampNeg (a_rowValue l3.toNatClampNeg))
              else
                rec l1 (l2 + 1) (l3 + 1) f_rowCount (upd a_rowKind l2.toNatClampNeg (a_rowKind l3.toNatClampNeg)) (upd a_rowValue l2.toNatClampNeg (a_rowValue l3.toNatClampNeg))
            else none
          else none
        else none
      else none
def sm_single_L4 : Nat → Int32 → Int32 → Int32 → Int32 → (Nat → Int32) → (Nat → Int32) → Option (Int32 × (Nat → Int32) × (Nat → Int32))
  | 0 => fun _ _ _ _ _ _ => none
  | n + 1 => sm_single_L4_B (sm_single_L4 n)
def sm_single (l1 : Int32) (f_rowCount : Int32) (a_rowKind : Nat → Int32) (a_rowValue : Nat → Int32) : Option (Int32 × (Nat → Int32) × (Nat → Int32)) :=
  (sm_single_L4 kF l1 l1 l1 f_rowCount a_rowKind a_rowValue).bind fun u4 =>
    some (u4.1, u4.2.1, u4.2.2)
def sm_select_J74 (l1 : Int32) (a_parent : Nat → Int32) (f_objects : Int32) (a_kindOf : Nat → Int32) (a_size : Nat → Int32) (a_root : Nat → Int32) (a_slotKind : Nat → Int32) (a_slot : Nat → Int32) (a_kept : Nat → Int32) (f_count : Int32) (a_code : Nat → Int32) (a_number : Nat → Int32) (f_rowCount : Int32) (a_rowKind : Nat → Int32) (a_rowValue : Nat → Int32) (f_many : Int32) (a_list : Nat → Int32) (f_seen : Int32) (f_fail : Int32) (f_level : Int32) (a_from : Nat → Int32) (a_eAt : Nat → Int32) (a_whereAt : Nat → Int32) (a_source : Nat → Int32) (a_distinct : Nat → Int32) (a_keeps : Nat → Int32) (f_at : Int32) (f_self : Int32) (f_brackets : Int32) (f_values : Int32) (a_vKind : Nat → Int32) (a_v : Nat → Int32) (f_waiting : Int32) (a_waits : Nat → Int32) : Option (Int32 × (Nat → Int32) × (Nat → Int32) × Int32 × (Nat → Int32) × Int32 × Int32 × Int32 × Int32 × Int32 × Int32 × (Nat → Int32) × (Nat → Int32) × Int32 × (Nat → Int32)) :=
  if f_fail = 0 then
    if hq_I f_level 41 = true then
      if (a_distinct f_level.toNatClampNeg) = 0 then
        some (f_rowCount, a_rowKind, a_rowValue, f_many, a_list, f_seen, f_fail, f_at, f_self, f_brackets, f_values, a_vKind, a_v, f_waiting, a_waits)
      else
        (sm_single l1 f_rowCount a_rowKind a_rowValue).bind fun v95 =>
          some (v95.1, v95.2.1, v95.2.2, f_many, a_list, f_seen, f_fail, f_at, f_self, f_brackets, f_values, a_vKind, a_v, f_waiting, a_waits)
    else none
  else
    some (f_rowCount, a_rowKind, a_rowValue, f_many, a_list, f_seen, f_fail, f_at, f_self, f_brackets, f_values, a_vKind, a_v, f_waiting, a_waits)
def sm_select_J42 (l1 : Int32) (a_parent : Nat → Int32) (f_objects : Int32) (a_kindOf : Nat → Int32) (a_size : Nat → Int32) (a_root : Nat → Int32) (a_slotKind : Nat → Int32) (a_slot : Nat → Int32) (a_kept : Nat → Int32) (f_count : Int32) (a_code : Nat → Int32) (a_number : Nat → Int32) (f_rowCount : Int32) (a_rowKind : Nat → Int32) (a_rowValue : Nat → Int32) (f_many : Int32) (a_list : Nat → Int32) (f_seen : Int32) (f_fail : Int32) (f_level : Int32) (a_from : Nat → Int32) (a_eAt : Nat → Int32) (a_whereAt : Nat → Int32) (a_source : Nat → Int32) (a_distinct : Nat → Int32) (a_keeps : Nat → Int32) (f_at : Int32) (f_self : Int32) (f_brackets : Int32) (f_values : Int32) (a_vKind : Nat → Int32) (a_v : Nat → Int32) (f_waiting : Int32) (a_waits : Nat → Int32) : Option (Int32 × (Nat → Int32) × (Nat → Int32) × Int32 × (Nat → Int32) × Int32 × Int32 × Int32 × Int32 × Int32 × Int32 × (Nat → Int32) × (Nat → Int32) × Int32 × (Nat → Int32)) :=
  if f_fail = 0 then
    if hq_I f_level 41 = true then
      if (a_keeps f_level.toNatClampNeg) = 0 then
        sm_select_J74 l1 a_parent f_objects a_kindOf a_size a_root a_slotKind a_slot a_kept f_count a_code a_number f_rowCount a_rowKind a_rowValue f_many a_list f_seen f_fail f_level a_from a_eAt a_whereAt a_source a_distinct a_keeps f_at f_self f_brackets f_values a_vKind a_v f_waiting a_waits
      else
        (sm_numbers l1 f_rowCount a_rowKind f_fail).bind fun v63 =>
          (sm_retain l1 f_objects a_root a_slotKind a_slot f_rowCount a_rowKind a_rowValue).bind fun v68 =>
            some (v68.1, v68.2.1, v68.2.2, f_many, a_list, f_seen, v63, f_at, f_self, f_brackets, f_values, a_vKind, a_v, f_waiting, a_waits)
    else none
  else
    sm_select_J74 l1 a_parent f_objects a_kindOf a_size a_root a_slotKind a_slot a_kept f_count a_code a_number f_rowCount a_rowKind a_rowValue f_many a_list f_seen f_fail f_level a_from a_eAt a_whereAt a_source a_distinct a_keeps f_at f_self f_brackets f_values a_vKind a_v f_waiting a_waits
def sm_select_L11_B (rec : Int32 → Int32 → Int32 → (Nat → Int32) → (Nat → Int32) → (Nat → Int32) → (Nat → Int32) → (Nat → Int32) → Int32 → (Nat → Int32) → (Nat → Int32) → Int32 → (Nat → Int32) → (Nat → Int32) → Int32 → (Nat → Int32) → Int32 → Int32 → Int32 → (Nat → Int32) → (Nat → Int32) → Int32 → Int32 → Int32 → Int32 → (Nat → Int32) → (Nat → Int32) → Int32 → (Nat → Int32) → Option (Int32 × (Nat → Int32) × (Nat → Int32) × Int32 × Int32 × Int32 × Int32 × Int32 × Int32 × (Nat → Int32) × (Nat → Int32) × Int32 × (Nat → Int32))) (l1 : Int32) (l2 : Int32) (f_objects : Int32) (a_kindOf : Nat → Int32) (a_size : Nat → Int32) (a_slotKind : Nat → Int32) (a_slot : Nat → Int32) (a_kept : Nat → Int32) (f_count : Int32) (a_code : Nat → Int32) (a_number : Nat → Int32) (f_rowCount : Int32) (a_rowKind : Nat → Int32) (a_rowValue : Nat → Int32) (f_many : Int32) (a_list : Nat → Int32) (f_seen : Int32) (f_fail : Int32) (f_level : Int32) (a_eAt : Nat → Int32) (a_whereAt : Nat → Int32) (f_at : Int32) (f_self : Int32) (f_brackets : Int32) (f_values : Int32) (a_vKind : Nat → Int32) (a_v : Nat → Int32) (f_waiting : Int32) (a_waits : Nat → Int32) : Option (Int32 × (Nat → Int32) × (Nat → Int32) × Int32 × Int32 × Int32 × Int32 × Int32 × Int32 × (Nat → Int32) × (Nat → Int32) × Int32 × (Nat → Int32)) :=
  if f_many ≤ l2 then
    some (f_rowCount, a_rowKind, a_rowValue, f_seen, f_fail, f_at, f_self, f_brackets, f_values, a_vKind, a_v, f_waiting, a_waits)
  else
    if f_fail = 0 then
      if hq_I l2 200 = true then
        (sm_look (a_list l2.toNatClampNeg) f_objects a_kindOf a_size a_slotKind a_slot a_kept f_count a_code a_number f_rowCount a_rowKind a_rowValue f_seen f_fail f_level a_eAt a_whereAt f_at f_self f_brackets f_values a_vKind a_v f_waiting a_waits).bind fun v33 =>
          rec l1 (l2 + 1) f_objects a_kindOf a_size a_slotKind a_slot a_kept f_count a_code a_number v33.1 v33.2.1 v33.2.2.1 f_many a_list v33.2.2.2.1 v33.2.2.2.2.1 f_level a_eAt a_whereAt v33.2.2.2.2.2.1 v33.2.2.2.2.2.2.1 v33.2.2.2.2.2.2.2.1 v33.2.2.2.2.2.2.2.2.1 v33.2.2.2.2.2.2.2.2.2.1 v33.2.2.2.2.2.2.2.2.2.2.1 v33.2.2.2.2.2.2.2.2.2.2.2.1 v33.2.2.2.2.2.2.2.2.2.2.2.2
      else none
    else
      some (f_rowCount, a_rowKind, a_rowValue, f_seen, f_fail, f_at, f_self, f_brackets, f_values, a_vKind, a_v, f_waiting, a_waits)
def sm_select_L11 : Nat → Int32 → Int32 → Int32 → (Nat → Int32) → (Nat → Int32) → (Nat → Int32) → (Nat → Int32) → (Nat → Int32) → Int32 → (Nat → Int32) → (Nat → Int32) → Int32 → (Nat → Int32) → (Nat → Int32) → Int32 → (Nat → Int32) → Int32 → Int32 → Int32 → (Nat → Int32) → (Nat → Int32) → Int32 → Int32 → Int32 → Int32 → (Nat → Int32) → (Nat → Int32) → Int32 → (Nat → Int32) → Option (Int32 × (Nat → Int32) × (Nat → Int32) × Int32 × Int32 × Int32 × Int32 × Int32 × Int32 × (Nat → Int32) × (Nat → Int32) × Int32 × (Nat → Int32))
  | 0 => fun _ _ _ _ _ _ _ _ _ _ _ _ _ _ _ _ _ _ _ _ _ _ _ _ _ _ _ _ _ => none
  | n + 1 => sm_select_L11_B (sm_select_L11 n)
def sm_select (a_parent : Nat → Int32) (f_objects : Int32) (a_kindOf : Nat → Int32) (a_size : Nat → Int32) (a_root : Nat → Int32) (a_slotKind : Nat → Int32) (a_slot : Nat → Int32) (a_kept : Nat → Int32) (f_count : Int32) (a_code : Nat → Int32) (a_number : Nat → Int32) (f_rowCount : Int32) (a_rowKind : Nat → Int32) (a_rowValue : Nat → Int32) (f_many : Int32) (a_list : Nat → Int32) (f_seen : Int32) (f_fail : Int32) (f_level : Int32) (a_from : Nat → Int32) (a_eAt : Nat → Int32) (a_whereAt : Nat → Int32) (a_source : Nat → Int32) (a_distinct : Nat → Int32) (a_keeps : Nat → Int32) (f_at : Int32) (f_self : Int32) (f_brackets : Int32) (f_values : Int32) (a_vKind : Nat → Int32) (a_v : Nat → Int32) (f_waiting : Int32) (a_waits : Nat → Int32) : Option (Int32 × (Nat → Int32) × (Nat → Int32) × Int32 × (Nat → Int32) × Int32 × Int32 × Int32 × Int32 × Int32 × Int32 × (Nat → Int32) × (Nat → Int32) × Int32 × (Nat → Int32)) :=
  (sm_gather a_parent f_objects a_kindOf a_code a_number f_rowCount a_rowKind a_rowValue f_many a_list f_level a_from a_source).bind fun v1 =>
    (sm_select_L11 kF v1.1 0 f_objects a_kindOf a_size a_slotKind a_slot a_kept f_count a_code a_number v1.1 a_rowKind a_rowValue v1.2.1 v1.2.2 f_seen f_fail f_level a_eAt a_whereAt f_at f_self f_brackets f_values a_vKind a_v f_waiting a_waits).bind fun u11 =>
      sm_select_J42 v1.1 a_parent f_objects a_kindOf a_size a_root a_slotKind a_slot a_kept f_count a_code a_number u11.1 u11.2.1 u11.2.2.1 v1.2.1 v1.2.2 u11.2.2.2.1 u11.2.2.2.2.1 f_level a_from a_eAt a_whereAt a_source a_distinct a_keeps u11.2.2.2.2.2.1 u11.2.2.2.2.2.2.1 u11.2.2.2.2.2.2.2.1 u11.2.2.2.2.2.2.2.2.1 u11.2.2.2.2.2.2.2.2.2.1 u11.2.2.2.2.2.2.2.2.2.2.1 u11.2.2.2.2.2.2.2.2.2.2.2.1 u11.2.2.2.2.2.2.2.2.2.2.2.2
def sm_notice_J236 (l3 : Int32) (a_parent : Nat → Int32) (f_objects : Int32) (a_kindOf : Nat → Int32) (a_size : Nat → Int32) (a_root : Nat → Int32) (a_slotKind : Nat → Int32) (a_slot : Nat → Int32) (a_kept : Nat → Int32) (f_count : Int32) (a_code : Nat → Int32) (a_number : Nat → Int32) (f_want : Int32) (f_rowCount : Int32) (a_rowKind : Nat → Int32) (a_rowValue : Nat → Int32) (f_many : Int32) (a_list : Nat → Int32) (f_seen : Int32) (f_fail : Int32) (f_level : Int32) (a_from : Nat → Int32) (a_eAt : Nat → Int32) (a_whereAt : Nat → Int32) (a_source : Nat → Int32) (a_distinct : Nat → Int32) (a_keeps : Nat → Int32) (f_at : Int32) (f_self : Int32) (f_brackets : Int32) (f_values : Int32) (a_vKind : Nat → Int32) (a_v : Nat → Int32) (f_waiting : Int32) (a_waits : Nat → Int32) : Option (Int32 × (Nat → Int32) × (Nat → Int32) × Int32 × (Nat → Int32) × Int32 × Int32 × Int32 × (Nat → Int32) × (Nat → Int32) × (Nat → Int32) × (Nat → Int32) × (Nat → Int32) × (Nat → Int32) × Int32 × Int32 × Int32 × Int32 × (Nat → Int32) × (Nat → Int32) × Int32 × (Nat → Int32)) :=
  (sm_select a_parent f_objects a_kindOf a_size a_root a_slotKind a_slot a_kept f_count a_code a_number f_rowCount a_rowKind a_rowValue f_many a_list f_seen f_fail f_level a_from a_eAt a_whereAt a_source a_distinct a_keeps f_at f_self f_brackets f_values a_vKind a_v f_waiting a_waits).bind fun v237 =>
    if l3 = 7 then
      if hq_I f_level 41 = true then
        (sm_numbers (a_from f_level.toNatClampNeg) v237.1 v237.2.1 v237.2.2.2.2.2.2.1).bind fun v256 =>
          some (v237.1, v237.2.1, v237.2.2.1, v237.2.2.2.1, v237.2.2.2.2.1, v237.2.2.2.2.2.1, v256, f_level - 1, a_from, a_eAt, a_whereAt, a_source, a_distinct, a_keeps, v237.2.2.2.2.2.2.2.1, v237.2.2.2.2.2.2.2.2.1, v237.2.2.2.2.2.2.2.2.2.1, v237.2.2.2.2.2.2.2.2.2.2.1, v237.2.2.2.2.2.2.2.2.2.2.2.1, v237.2.2.2.2.2.2.2.2.2.2.2.2.1, v237.2.2.2.2.2.2.2.2.2.2.2.2.2.1, v237.2.2.2.2.2.2.2.2.2.2.2.2.2.2)
      else none
    else
      some (v237.1, v237.2.1, v237.2.2.1, v237.2.2.2.1, v237.2.2.2.2.1, v237.2.2.2.2.2.1, v237.2.2.2.2.2.2.1, f_level, a_from, a_eAt, a_whereAt, a_source, a_distinct, a_keeps, v237.2.2.2.2.2.2.2.1, v237.2.2.2.2.2.2.2.2.1, v237.2.2.2.2.2.2.2.2.2.1, v237.2.2.2.2.2.2.2.2.2.2.1, v237.2.2.2.2.2.2.2.2.2.2.2.1, v237.2.2.2.2.2.2.2.2.2.2.2.2.1, v237.2.2.2.2.2.2.2.2.2.2.2.2.2.1, v237.2.2.2.2.2.2.2.2.2.2.2.2.2.2)
def sm_notice_J220 (l3 : Int32) (a_parent : Nat → Int32) (f_objects : Int32) (a_kindOf : Nat → Int32) (a_size : Nat → Int32) (a_root : Nat → Int32) (a_slotKind : Nat → Int32) (a_slot : Nat → Int32) (a_kept : Nat → Int32) (f_count : Int32) (a_code : Nat → Int32) (a_number : Nat → Int32) (f_want : Int32) (f_rowCount : Int32) (a_rowKind : Nat → Int32) (a_rowValue : Nat → Int32) (f_many : Int32) (a_list : Nat → Int32) (f_seen : Int32) (f_fail : Int32) (f_level : Int32) (a_from : Nat → Int32) (a_eAt : Nat → Int32) (a_whereAt : Nat → Int32) (a_source : Nat → Int32) (a_distinct : Nat → Int32) (a_keeps : Nat → Int32) (f_at : Int32) (f_self : Int32) (f_brackets : Int32) (f_values : Int32) (a_vKind : Nat → Int32) (a_v : Nat → Int32) (f_waiting : Int32) (a_waits : Nat → Int32) : Option (Int32 × (Nat → Int32) × (Nat → Int32) × Int32 × (Nat → Int32) × Int32 × Int32 × Int32 × (Nat → Int32) × (Nat → Int32) × (Nat → Int32) × (Nat → Int32) × (Nat → Int32) × (Nat → Int32) × Int32 × Int32 × Int32 × Int32 × (Nat → Int32) × (Nat → Int32) × Int32 × (Nat → Int32)) :=
  if f_want = 0 then
    sm_notice_J236 l3 a_parent f_objects a_kindOf a_size a_root a_slotKind a_slot a_kept f_count a_code a_number f_want f_rowCount a_rowKind a_rowValue f_many a_list f_seen f_fail f_level a_from a_eAt a_whereAt a_source a_distinct a_keeps f_at f_self f_brackets f_values a_vKind a_v f_waiting a_waits
  else
    if f_want < 7 then
      some (f_rowCount, a_rowKind, a_rowValue, f_many, a_list, f_seen, f_fail, f_level, a_from, a_eAt, a_whereAt, a_source, a_distinct, a_keeps, f_at, f_self, f_brackets, f_values, a_vKind, a_v, f_waiting, a_waits)
    else
      sm_notice_J236 l3 a_parent f_objects a_kindOf a_size a_root a_slotKind a_slot a_kept f_count a_code a_number f_want f_rowCount a_rowKind a_rowValue f_many a_list f_seen f_fail f_level a_from a_eAt a_whereAt a_source a_distinct a_keeps f_at f_self f_brackets f_values a_vKind a_v f_waiting a_waits
def sm_notice_J161 (l3 : Int32) (s1 : Int32) (s2 : Int32) (a_parent : Nat → Int32) (f_objects : Int32) (a_kindOf : Nat → Int32) (a_size : Nat → Int32) (a_root : Nat → Int32) (a_slotKind : Nat → Int32) (a_slot : Nat → Int32) (a_kept : Nat → Int32) (f_count : Int32) (a_code : Nat → Int32) (a_number : Nat → Int32) (f_want : Int32) (f_rowCount : Int32) (a_rowKind : Nat → Int32) (a_rowValue : Nat → Int32) (f_many : Int32) (a_list : Nat → Int32) (f_seen : Int32) (f_fail : Int32) (f_level : Int32) (a_from : Nat → Int32) (a_eAt : Nat → Int32) (a_whereAt : Nat → Int32) (a_source : Nat → Int32) (a_distinct : Nat → Int32) (a_keeps : Nat → Int32) (f_at : Int32) (f_self : Int32) (f_brackets : Int32) (f_values : Int32) (a_vKind : Nat → Int32) (a_v : Nat → Int32) (f_waiting : Int32) (a_waits : Nat → Int32) : Option (Int32 × (Nat → Int32) × (Nat → Int32) × Int32 × (Nat → Int32) × Int32 × Int32 × Int32 × (Nat → Int32) × (Nat → Int32) × (Nat → Int32) × (Nat → Int32) × (Nat → Int32) × (Nat → Int32) × Int32 × Int32 × Int32 × Int32 × (Nat → Int32) × (Nat → Int32) × Int32 × (Nat → Int32)) :=
  if hq_I s1 41 = true then
    if l3 = 6 then
      if hq_I (f_level + 1) 41 = true then
        some ((f_rowCount, a_rowKind, a_rowValue, f_many, a_list, f_seen, f_fail, f_level + 1, upd a_from (f_level + 1).toNatClampNeg f_rowCount, a_eAt, a_whereAt, upd a_source s1.toNatClampNeg s2, a_distinct, a_keeps, f_at, f_self, f_brackets, f_values, a_vKind, a_v, f_waiting, a_waits))
      else none
    else
      some (f_rowCount, a_rowKind, a_rowValue, f_many, a_list, f_seen, f_fail, f_level, a_from, a_eAt, a_whereAt, upd a_source s1.toNatClampNeg s2, a_distinct, a_keeps, f_at, f_self, f_brackets, f_values, a_vKind, a_v, f_waiting, a_waits)
  else none
def sm_notice_J136 (l1 : Int32) (l2 : Int32) (l3 : Int32) (a_parent : Nat → Int32) (f_objects : Int32) (a_kindOf : Nat → Int32) (a_size : Nat → Int32) (a_root : Nat → Int32) (a_slotKind : Nat → Int32) (a_slot : Nat → Int32) (a_kept : Nat → Int32) (f_count : Int32) (a_code : Nat → Int32) (a_number : Nat → Int32) (f_want : Int32) (f_rowCount : Int32) (a_rowKind : Nat → Int32) (a_rowValue : Nat → Int32) (f_many : Int32) (a_list : Nat → Int32) (f_seen : Int32) (f_fail : Int32) (f_level : Int32) (a_from : Nat → Int32) (a_eAt : Nat → Int32) (a_whereAt : Nat → Int32) (a_source : Nat → Int32) (a_distinct : Nat → Int32) (a_keeps : Nat → Int32) (f_at : Int32) (f_self : Int32) (f_brackets : Int32) (f_values : Int32) (a_vKind : Nat → Int32) (a_v : Nat → Int32) (f_waiting : Int32) (a_waits : Nat → Int32) : Option (Int32 × (Nat → Int32) × (Nat → Int32) × Int32 × (Nat → Int32) × Int32 × Int32 × Int32 × (Nat → Int32) × (Nat → Int32) × (Nat → Int32) × (Nat → Int32) × (Nat → Int32) × (Nat → Int32) × Int32 × Int32 × Int32 × Int32 × (Nat → Int32) × (Nat → Int32) × Int32 × (Nat → Int32)) :=
  if l2 = 6 then
    if l3 = 6 then
      sm_notice_J161 l3 f_level (-1) a_parent f_objects a_kindOf a_size a_root a_slotKind a_slot a_kept f_count a_code a_number f_want f_rowCount a_rowKind a_rowValue f_many a_list f_seen f_fail f_level a_from a_eAt a_whereAt a_source a_distinct a_keeps f_at f_self f_brackets f_values a_vKind a_v f_waiting a_waits
    else
      sm_notice_J161 l3 f_level l1 a_parent f_objects a_kindOf a_size a_root a_slotKind a_slot a_kept f_count a_code a_number f_want f_rowCount a_rowKind a_rowValue f_many a_list f_seen f_fail f_level a_from a_eAt a_whereAt a_source a_distinct a_keeps f_at f_self f_brackets f_values a_vKind a_v f_waiting a_waits
  else
    if l2 = 7 then
      if l3 = 4 then
        if hq_I f_level 41 = true then
          some ((f_rowCount, a_rowKind, a_rowValue, f_many, a_list, f_seen, f_fail, f_level, a_from, a_eAt, upd a_whereAt f_level.toNatClampNeg (l1 + 1), a_source, a_distinct, a_keeps, f_at, f_self, f_brackets, f_values, a_vKind, a_v, f_waiting, a_waits))
        else none
      else
        sm_notice_J220 l3 a_parent f_objects a_kindOf a_size a_root a_slotKind a_slot a_kept f_count a_code a_number f_want f_rowCount a_rowKind a_rowValue f_many a_list f_seen f_fail f_level a_from a_eAt a_whereAt a_source a_distinct a_keeps f_at f_self f_brackets f_values a_vKind a_v f_waiting a_waits
    else
      sm_notice_J220 l3 a_parent f_objects a_kindOf a_size a_root a_slotKind a_slot a_kept f_count a_code a_number f_want f_rowCount a_rowKind a_rowValue f_many a_list f_seen f_fail f_level a_from a_eAt a_whereAt a_source a_distinct a_keeps f_at f_self f_brackets f_values a_vKind a_v f_waiting a_waits
def sm_notice_J120 (l1 : Int32) (s1 : Int32) (s2 : Int32) (a_parent : Nat → Int32) (f_objects : Int32) (a_kindOf : Nat → Int32) (a_size : Nat → Int32) (a_root : Nat → Int32) (a_slotKind : Nat → Int32) (a_slot : Nat → Int32) (a_kept : Nat → Int32) (f_count : Int32) (a_code : Nat → Int32) (a_number : Nat → Int32) (f_want : Int32) (f_rowCount : Int32) (a_rowKind : Nat → Int32) (a_rowValue : Nat → Int32) (f_many : Int32) (a_list : Nat → Int32) (f_seen : Int32) (f_fail : Int32) (f_level : Int32) (a_from : Nat → Int32) (a_eAt : Nat → Int32) (a_whereAt : Nat → Int32) (a_source : Nat → Int32) (a_distinct : Nat → Int32) (a_keeps : Nat → Int32) (f_at : Int32) (f_self : Int32) (f_brackets : Int32) (f_values : Int32) (a_vKind : Nat → Int32) (a_v : Nat → Int32) (f_waiting : Int32) (a_waits : Nat → Int32) : Option (Int32 × (Nat → Int32) × (Nat → Int32) × Int32 × (Nat → Int32) × Int32 × Int32 × Int32 × (Nat → Int32) × (Nat → Int32) × (Nat → Int32) × (Nat → Int32) × (Nat → Int32) × (Nat → Int32) × Int32 × Int32 × Int32 × Int32 × (Nat → Int32) × (Nat → Int32) × Int32 × (Nat → Int32)) :=
  if hq_I s1 41 = true then
    if s2 = 0 ∨ s2 = 1 then
      if hq_I f_level 41 = true then
        some ((f_rowCount, a_rowKind, a_rowValue, f_many, a_list, f_seen, f_fail, f_level, a_from, upd a_eAt f_level.toNatClampNeg (l1 + 1), a_whereAt, a_source, a_distinct, upd a_keeps s1.toNatClampNeg s2, f_at, f_self, f_brackets, f_values, a_vKind, a_v, f_waiting, a_waits))
      else none
    else none
  else none
def sm_notice_J101 (l1 : Int32) (l3 : Int32) (s1 : Int32) (s2 : Int32) (a_parent : Nat → Int32) (f_objects : Int32) (a_kindOf : Nat → Int32) (a_size : Nat → Int32) (a_root : Nat → Int32) (a_slotKind : Nat → Int32) (a_slot : Nat → Int32) (a_kept : Nat → Int32) (f_count : Int32) (a_code : Nat → Int32) (a_number : Nat → Int32) (f_want : Int32) (f_rowCount : Int32) (a_rowKind : Nat → Int32) (a_rowValue : Nat → Int32) (f_many : Int32) (a_list : Nat → Int32) (f_seen : Int32) (f_fail : Int32) (f_level : Int32) (a_from : Nat → Int32) (a_eAt : Nat → Int32) (a_whereAt : Nat → Int32) (a_source : Nat → Int32) (a_distinct : Nat → Int32) (a_keeps : Nat → Int32) (f_at : Int32) (f_self : Int32) (f_brackets : Int32) (f_values : Int32) (a_vKind : Nat → Int32) (a_v : Nat → Int32) (f_waiting : Int32) (a_waits : Nat → Int32) : Option (Int32 × (Nat → Int32) × (Nat → Int32) × Int32 × (Nat → Int32) × Int32 × Int32 × Int32 × (Nat → Int32) × (Nat → Int32) × (Nat → Int32) × (Nat → Int32) × (Nat → Int32) × (Nat → Int32) × Int32 × Int32 × Int32 × Int32 × (Nat → Int32) × (Nat → Int32) × Int32 × (Nat → Int32)) :=
  if hq_I s1 41 = true then
    if s2 = 0 ∨ s2 = 1 then
      if l3 = 2 then
        sm_notice_J120 l1 f_level 1 a_parent f_objects a_kindOf a_size a_root a_slotKind a_slot a_kept f_count a_code a_number f_want f_rowCount a_rowKind a_rowValue f_many a_list f_seen f_fail f_level a_from a_eAt a_whereAt a_source (upd a_distinct s1.toNatClampNeg s2) a_keeps f_at f_self f_brackets f_values a_vKind a_v f_waiting a_waits
      else
        sm_notice_J120 l1 f_level 0 a_parent f_objects a_kindOf a_size a_root a_slotKind a_slot a_kept f_count a_code a_number f_want f_rowCount a_rowKind a_rowValue f_many a_list f_seen f_fail f_level a_from a_eAt a_whereAt a_source (upd a_distinct s1.toNatClampNeg s2) a_keeps f_at f_self f_brackets f_values a_vKind a_v f_waiting a_waits
    else none
  else none
def sm_notice_J96 (l1 : Int32) (l3 : Int32) (s1 : Int32) (a_parent : Nat → Int32) (f_objects : Int32) (a_kindOf : Nat → Int32) (a_size : Nat → Int32) (a_root : Nat → Int32) (a_slotKind : Nat → Int32) (a_slot : Nat → Int32) (a_kept : Nat → Int32) (f_count : Int32) (a_code : Nat → Int32) (a_number : Nat → Int32) (f_want : Int32) (f_rowCount : Int32) (a_rowKind : Nat → Int32) (a_rowValue : Nat → Int32) (f_many : Int32) (a_list : Nat → Int32) (f_seen : Int32) (f_fail : Int32) (f_level : Int32) (a_from : Nat → Int32) (a_eAt : Nat → Int32) (a_whereAt : Nat → Int32) (a_source : Nat → Int32) (a_distinct : Nat → Int32) (a_keeps : Nat → Int32) (f_at : Int32) (f_self : Int32) (f_brackets : Int32) (f_values : Int32) (a_vKind : Nat → Int32) (a_v : Nat → Int32) (f_waiting : Int32) (a_waits : Nat → Int32) : Option (Int32 × (Nat → Int32) × (Nat → Int32) × Int32 × (Nat → Int32) × Int32 × Int32 × Int32 × (Nat → Int32) × (Nat → Int32) × (Nat → Int32) × (Nat → Int32) × (Nat → Int32) × (Nat → Int32) × Int32 × Int32 × Int32 × Int32 × (Nat → Int32) × (Nat → Int32) × Int32 × (Nat → Int32)) :=
  sm_notice_J101 l1 l3 s1 1 a_parent f_objects a_kindOf a_size a_root a_slotKind a_slot a_kept f_count a_code a_number f_want f_rowCount a_rowKind a_rowValue f_many a_list f_seen f_fail f_level a_from a_eAt a_whereAt a_source a_distinct a_keeps f_at f_self f_brackets f_values a_vKind a_v f_waiting a_waits
def sm_notice_J71 (l1 : Int32) (l3 : Int32) (a_parent : Nat → Int32) (f_objects : Int32) (a_kindOf : Nat → Int32) (a_size : Nat → Int32) (a_root : Nat → Int32) (a_slotKind : Nat → Int32) (a_slot : Nat → Int32) (a_kept : Nat → Int32) (f_count : Int32) (a_code : Nat → Int32) (a_number : Nat → Int32) (f_want : Int32) (f_rowCount : Int32) (a_rowKind : Nat → Int32) (a_rowValue : Nat → Int32) (f_many : Int32) (a_list : Nat → Int32) (f_seen : Int32) (f_fail : Int32) (f_level : Int32) (a_from : Nat → Int32) (a_eAt : Nat → Int32) (a_whereAt : Nat → Int32) (a_source : Nat → Int32) (a_distinct : Nat → Int32) (a_keeps : Nat → Int32) (f_at : Int32) (f_self : Int32) (f_brackets : Int32) (f_values : Int32) (a_vKind : Nat → Int32) (a_v : Nat → Int32) (f_waiting : Int32) (a_waits : Nat → Int32) : Option (Int32 × (Nat → Int32) × (Nat → Int32) × Int32 × (Nat → Int32) × Int32 × Int32 × Int32 × (Nat → Int32) × (Nat → Int32) × (Nat → Int32) × (Nat → Int32) × (Nat → Int32) × (Nat → Int32) × Int32 × Int32 × Int32 × Int32 × (Nat → Int32) × (Nat → Int32) × Int32 × (Nat → Int32)) :=
  if hq_I f_level 41 = true then
    if (a_distinct f_level.toNatClampNeg) = 0 then
      if l3 = 1 then
        sm_notice_J96 l1 l3 f_level a_parent f_objects a_kindOf a_size a_root a_slotKind a_slot a_kept f_count a_code a_number f_want f_rowCount a_rowKind a_rowValue f_many a_list f_seen f_fail f_level a_from a_eAt a_whereAt a_source a_distinct a_keeps f_at f_self f_brackets f_values a_vKind a_v f_waiting a_waits
      else
        sm_notice_J101 l1 l3 f_level 0 a_parent f_objects a_kindOf a_size a_root a_slotKind a_slot a_kept f_count a_code a_number f_want f_rowCount a_rowKind a_rowValue f_many a_list f_seen f_fail f_level a_from a_eAt a_whereAt a_source a_distinct a_keeps f_at f_self f_brackets f_values a_vKind a_v f_waiting a_waits
    else
      sm_notice_J96 l1 l3 f_level a_parent f_objects a_kindOf a_size a_root a_slotKind a_slot a_kept f_count a_code a_number f_want f_rowCount a_rowKind a_rowValue f_many a_list f_seen f_fail f_level a_from a_eAt a_whereAt a_source a_distinct a_keeps f_at f_self f_brackets f_values a_vKind a_v f_waiting a_waits
  else none
def sm_notice (l1 : Int32) (l2 : Int32) (a_parent : Nat → Int32) (f_objects : Int32) (a_kindOf : Nat → Int32) (a_size : Nat → Int32) (a_root : Nat → Int32) (a_slotKind : Nat → Int32) (a_slot : Nat → Int32) (a_kept : Nat → Int32) (f_count : Int32) (a_code : Nat → Int32) (a_number : Nat → Int32) (f_want : Int32) (f_rowCount : Int32) (a_rowKind : Nat → Int32) (a_rowValue : Nat → Int32) (f_many : Int32) (a_list : Nat → Int32) (f_seen : Int32) (f_fail : Int32) (f_level : Int32) (a_from : Nat → Int32) (a_eAt : Nat → Int32) (a_whereAt : Nat → Int32) (a_source : Nat → Int32) (a_distinct : Nat → Int32) (a_keeps : Nat → Int32) (f_at : Int32) (f_self : Int32) (f_brackets : Int32) (f_values : Int32) (a_vKind : Nat → Int32) (a_v : Nat → Int32) (f_waiting : Int32) (a_waits : Nat → Int32) : Option (Int32 × (Nat → Int32) × (Nat → Int32) × Int32 × (Nat → Int32) × Int32 × Int32 × Int32 × (Nat → Int32) × (Nat → Int32) × (Nat → Int32) × (Nat → Int32) × (Nat → Int32) × (Nat → Int32) × Int32 × Int32 × Int32 × Int32 × (Nat → Int32) × (Nat → Int32) × Int32 × (Nat → Int32)) :=
  if hq_I l1 40 = true then
    if l2 = 0 then
      if hq_I f_level 41 = true then
        if hq_I f_level 41 = true then
          if hq_I f_level 41 = true then
            if hq_I f_level 41 = true then
              some ((f_rowCount, a_rowKind, a_rowValue, f_many, a_list, f_seen, f_fail, f_level, a_from, upd a_eAt f_level.toNatClampNeg (l1 + 1), upd a_whereAt f_level.toNatClampNeg (-1), a_source, upd a_distinct f_level.toNatClampNeg 0, upd a_keeps f_level.toNatClampNeg 0, f_at, f_self, f_brackets, f_values, a_vKind, a_v, f_waiting, a_waits))
            else none
          else none
        else none
      else none
    else
      if 2 < l2 then
        sm_notice_J136 l1 l2 (a_code l1.toNatClampNeg) a_parent f_objects a_kindOf a_size a_root a_slotKind a_slot a_kept f_count a_code a_number f_want f_rowCount a_rowKind a_rowValue f_many a_list f_seen f_fail f_level a_from a_eAt a_whereAt a_source a_distinct a_keeps f_at f_self f_brackets f_values a_vKind a_v f_waiting a_waits
      else
        if (a_code l1.toNatClampNeg) = 1 then
          sm_notice_J71 l1 (a_code l1.toNatClampNeg) a_parent f_objects a_kindOf a_size a_root a_slotKind a_slot a_kept f_count a_code a_number f_want f_rowCount a_rowKind a_rowValue f_many a_list f_seen f_fail f_level a_from a_eAt a_whereAt a_source a_distinct a_keeps f_at f_self f_brackets f_values a_vKind a_v f_waiting a_waits
        else
          if (a_code l1.toNatClampNeg) = 2 then
            sm_notice_J71 l1 (a_code l1.toNatClampNeg) a_parent f_objects a_kindOf a_size a_root a_slotKind a_slot a_kept f_count a_code a_number f_want f_rowCount a_rowKind a_rowValue f_many a_list f_seen f_fail f_level a_from a_eAt a_whereAt a_source a_distinct a_keeps f_at f_self f_brackets f_values a_vKind a_v f_waiting a_waits
          else
            sm_notice_J136 l1 l2 (a_code l1.toNatClampNeg) a_parent f_objects a_kindOf a_size a_root a_slotKind a_slot a_kept f_count a_code a_number f_want f_rowCount a_rowKind a_rowValue f_many a_list f_seen f_fail f_level a_from a_eAt a_whereAt a_source a_distinct a_keeps f_at f_self f_brackets f_values a_vKind a_v f_waiting a_waits
  else none
def sm_run_J121 (s1 : Int32) (a_parent : Nat → Int32) (f_objects : Int32) (a_kindOf : Nat → Int32) (a_size : Nat → Int32) (a_root : Nat → Int32) (a_slotKind : Nat → Int32) (a_slot : Nat → Int32) (a_kept : Nat → Int32) (f_count : Int32) (a_code : Nat → Int32) (a_number : Nat → Int32) (f_want : Int32) (f_compared : Int32) (f_open : Int32) (a_opened : Nat → Int32) (f_rowCount : Int32) (a_rowKind : Nat → Int32) (a_rowValue : Nat → Int32) (f_many : Int32) (a_list : Nat → Int32) (f_seen : Int32) (f_fail : Int32) (f_level : Int32) (a_from : Nat → Int32) (a_eAt : Nat → Int32) (a_whereAt : Nat → Int32) (a_source : Nat → Int32) (a_distinct : Nat → Int32) (a_keeps : Nat → Int32) (f_at : Int32) (f_self : Int32) (f_brackets : Int32) (f_values : Int32) (a_vKind : Nat → Int32) (a_v : Nat → Int32) (f_waiting : Int32) (a_waits : Nat → Int32) : Option (Int32 × (Nat → Int32) × Int32 × Int32 × Int32 × (Nat → Int32) × Int32 × (Nat → Int32) × (Nat → Int32) × Int32 × (Nat → Int32) × Int32 × Int32 × Int32 × (Nat → Int32) × (Nat → Int32) × (Nat → Int32) × (Nat → Int32) × (Nat → Int32) × (Nat → Int32) × Int32 × Int32 × Int32 × Int32 × (Nat → Int32) × (Nat → Int32) × Int32 × (Nat → Int32)) :=
  if f_fail = 0 then
    some (s1, a_kept, f_want, f_compared, f_open, a_opened, s1, a_rowKind, a_rowValue, f_many, a_list, f_seen, f_fail, f_level, a_from, a_eAt, a_whereAt, a_source, a_distinct, a_keeps, f_at, f_self, f_brackets, f_values, a_vKind, a_v, f_waiting, a_waits)
  else
    some (f_fail, a_kept, f_want, f_compared, f_open, a_opened, s1, a_rowKind, a_rowValue, f_many, a_list, f_seen, f_fail, f_level, a_from, a_eAt, a_whereAt, a_source, a_distinct, a_keeps, f_at, f_self, f_brackets, f_values, a_vKind, a_v, f_waiting, a_waits)
def sm_run_J105 (a_parent : Nat → Int32) (f_objects : Int32) (a_kindOf : Nat → Int32) (a_size : Nat → Int32) (a_root : Nat → Int32) (a_slotKind : Nat → Int32) (a_slot : Nat → Int32) (a_kept : Nat → Int32) (f_count : Int32) (a_code : Nat → Int32) (a_number : Nat → Int32) (f_want : Int32) (f_compared : Int32) (f_open : Int32) (a_opened : Nat → Int32) (f_rowCount : Int32) (a_rowKind : Nat → Int32) (a_rowValue : Nat → Int32) (f_many : Int32) (a_list : Nat → Int32) (f_seen : Int32) (f_fail : Int32) (f_level : Int32) (a_from : Nat → Int32) (a_eAt : Nat → Int32) (a_whereAt : Nat → Int32) (a_source : Nat → Int32) (a_distinct : Nat → Int32) (a_keeps : Nat → Int32) (f_at : Int32) (f_self : Int32) (f_brackets : Int32) (f_values : Int32) (a_vKind : Nat → Int32) (a_v : Nat → Int32) (f_waiting : Int32) (a_waits : Nat → Int32) : Option (Int32 × (Nat → Int32) × Int32 × Int32 × Int32 × (Nat → Int32) × Int32 × (Nat → Int32) × (Nat → Int32) × Int32 × (Nat → Int32) × Int32 × Int32 × Int32 × (Nat → Int32) × (Nat → Int32) × (Nat → Int32) × (Nat → Int32) × (Nat → Int32) × (Nat → Int32) × Int32 × Int32 × Int32 × Int32 × (Nat → Int32) × (Nat → Int32) × Int32 × (Nat → Int32)) :=
  if f_fail = 0 then
    sm_run_J121 f_rowCount a_parent f_objects a_kindOf a_size a_root a_slotKind a_slot a_kept f_count a_code a_number f_want f_compared f_open a_opened f_rowCount a_rowKind a_rowValue f_many a_list f_seen f_fail f_level a_from a_eAt a_whereAt a_source a_distinct a_keeps f_at f_self f_brackets f_values a_vKind a_v f_waiting a_waits
  else
    sm_run_J121 0 a_parent f_objects a_kindOf a_size a_root a_slotKind a_slot a_kept f_count a_code a_number f_want f_compared f_open a_opened f_rowCount a_rowKind a_rowValue f_many a_list f_seen f_fail f_level a_from a_eAt a_whereAt a_source a_distinct a_keeps f_at f_self f_brackets f_values a_vKind a_v f_waiting a_waits
def sm_run_L62_B (rec : Int32 → (Nat → Int32) → Int32 → (Nat → Int32) → (Nat → Int32) → (Nat → Int32) → (Nat → Int32) → (Nat → Int32) → (Nat → Int32) → Int32 → (Nat → Int32) → (Nat → Int32) → Int32 → Int32 → Int32 → (Nat → Int32) → Int32 → (Nat → Int32) → (Nat → Int32) → Int32 → (Nat → Int32) → Int32 → Int32 → Int32 → (Nat → Int32) → (Nat → Int32) → (Nat → Int32) → (Nat → Int32) → (Nat → Int32) → (Nat → Int32) → Int32 → Int32 → Int32 → Int32 → (Nat → Int32) → (Nat → Int32) → Int32 → (Nat → Int32) → Option (Int32 × Int32 × Int32 × (Nat → Int32) × Int32 × (Nat → Int32) × (Nat → Int32) × Int32 × (Nat → Int32) × Int32 × Int32 × Int32 × (Nat → Int32) × (Nat → Int32) × (Nat → Int32) × (Nat → Int32) × (Nat → Int32) × (Nat → Int32) × Int32 × Int32 × Int32 × Int32 × (Nat → Int32) × (Nat → Int32) × Int32 × (Nat → Int32))) (l1 : Int32) (a_parent : Nat → Int32) (f_objects : Int32) (a_kindOf : Nat → Int32) (a_size : Nat → Int32) (a_root : Nat → Int32) (a_slotKind : Nat → Int32) (a_slot : Nat → Int32) (a_kept : Nat → Int32) (f_count : Int32) (a_code : Nat → Int32) (a_number : Nat → Int32) (f_want : Int32) (f_compared : Int32) (f_open : Int32) (a_opened : Nat → Int32) (f_rowCount : Int32) (a_rowKind : Nat → Int32) (a_rowValue : Nat → Int32) (f_many : Int32) (a_list : Nat → Int32) (f_seen : Int32) (f_fail : Int32) (f_level : Int32) (a_from : Nat → Int32) (a_eAt : Nat → Int32) (a_whereAt : Nat → Int32) (a_source : Nat → Int32) (a_distinct : Nat → Int32) (a_keeps : Nat → Int32) (f_at : Int32) (f_self : Int32) (f_brackets : Int32) (f_values : Int32) (a_vKind : Nat → Int32) (a_v : Nat → Int32) (f_waiting : Int32) (a_waits : Nat → Int32) : Option (Int32 × Int32 × Int32 × (Nat → Int32) × Int32 × (Nat → Int32) × (Nat → Int32) × Int32 × (Nat → Int32) × Int32 × Int32 × Int32 × (Nat → Int32) × (Nat → Int32) × (Nat → Int32) × (Nat → Int32) × (Nat → Int32) × (Nat → Int32) × Int32 × Int32 × Int32 × Int32 × (Nat → Int32) × (Nat → Int32) × Int32 × (Nat → Int32)) :=
  if f_count ≤ l1 then
    some (f_want, f_compared, f_open, a_opened, f_rowCount, a_rowKind, a_rowValue, f_many, a_list, f_seen, f_fail, f_level, a_from, a_eAt, a_whereAt, a_source, a_distinct, a_keeps, f_at, f_self, f_brackets, f_values, a_vKind, a_v, f_waiting, a_waits)
  else
    if f_fail = 0 then
      if hq_I l1 40 = true then
        (sm_step (a_code l1.toNatClampNeg) f_want f_compared f_open a_opened).bind fun v89 =>
          (sm_notice l1 f_want a_parent f_objects a_kindOf a_size a_root a_slotKind a_slot a_kept f_count a_code a_number v89.2.1 f_rowCount a_rowKind a_rowValue f_many a_list f_seen f_fail f_level a_from a_eAt a_whereAt a_source a_distinct a_keeps f_at f_self f_brackets f_values a_vKind a_v f_waiting a_waits).bind fun v96 =>
            rec (l1 + 1) a_parent f_objects a_kindOf a_size a_root a_slotKind a_slot a_kept f_count a_code a_number v89.2.1 v89.2.2.1 v89.2.2.2.1 v89.2.2.2.2 v96.1 v96.2.1 v96.2.2.1 v96.2.2.2.1 v96.2.2.2.2.1 v96.2.2.2.2.2.1 v96.2.2.2.2.2.2.1 v96.2.2.2.2.2.2.2.1 v96.2.2.2.2.2.2.2.2.1 v96.2.2.2.2.2.2.2.2.2.1 v96.2.2.2.2.2.2.2.2.2.2.1 v96.2.2.2.2.2.2.2.2.2.2.2.1 v96.2.2.2.2.2.2.2.2.2.2.2.2.1 v96.2.2.2.2.2.2.2.2.2.2.2.2.2.1 v96.2.2.2.2.2.2.2.2.2.2.2.2.2.2.1 v96.2.2.2.2.2.2.2.2.2.2.2.2.2.2.2.1 v96.2.2.2.2.2.2.2.2.2.2.2.2.2.2.2.2.1 v96.2.2.2.2.2.2.2.2.2.2.2.2.2.2.2.2.2.1 v96.2.2.2.2.2.2.2.2.2.2.2.2.2.2.2.2.2.2.1 v96.2.2.2.2.2.2.2.2.2.2.2.2.2.2.2.2.2.2.2.1 v96.2.2.2.2.2.2.2.2.2.2.2.2.2.2.2.2.2.2.2.2.1 v96.2.2.2.2.2.2.2.2.2.2.2.2.2.2.2.2.2.2.2.2.2
      else none
    else
      some (f_want, f_compared, f_open, a_opened, f_rowCount, a_rowKind, a_rowValue, f_many, a_list, f_seen, f_fail, f_level, a_from, a_eAt, a_whereAt, a_source, a_distinct, a_keeps, f_at, f_self, f_brackets, f_values, a_vKind, a_v, f_waiting, a_waits)
def sm_run_L62 : Nat → Int32 → (Nat → Int32) → Int32 → (Nat → Int32) → (Nat → Int32) → (Nat → Int32) → (Nat → Int32) → (Nat → Int32) → (Nat → Int32) → Int32 → (Nat → Int32) → (Nat → Int32) → Int32 → Int32 → Int32 → (Nat → Int32) → Int32 → (Nat → Int32) → (Nat → Int32) → Int32 → (Nat → Int32) → Int32 → Int32 → Int32 → (Nat → Int32) → (Nat → Int32) → (Nat → Int32) → (Nat → Int32) → (Nat → Int32) → (Nat → Int32) → Int32 → Int32 → Int32 → Int32 → (Nat → Int32) → (Nat → Int32) → Int32 → (Nat → Int32) → Option (Int32 × Int32 × Int32 × (Nat → Int32) × Int32 × (Nat → Int32) × (Nat → Int32) × Int32 × (Nat → Int32) × Int32 × Int32 × Int32 × (Nat → Int32) × (Nat → Int32) × (Nat → Int32) × (Nat → Int32) × (Nat → Int32) × (Nat → Int32) × Int32 × Int32 × Int32 × Int32 × (Nat → Int32) × (Nat → Int32) × Int32 × (Nat → Int32))
  | 0 => fun _ _ _ _ _ _ _ _ _ _ _ _ _ _ _ _ _ _ _ _ _ _ _ _ _ _ _ _ _ _ _ _ _ _ _ _ _ _ => none
  | n + 1 => sm_run_L62_B (sm_run_L62 n)
def sm_run (a_parent : Nat → Int32) (f_objects : Int32) (a_kindOf : Nat → Int32) (a_size : Nat → Int32) (a_root : Nat → Int32) (a_slotKind : Nat → Int32) (a_slot : Nat → Int32) (a_kept : Nat → Int32) (f_count : Int32) (a_code : Nat → Int32) (a_number : Nat → Int32) (f_want : Int32) (f_compared : Int32) (f_open : Int32) (a_opened : Nat → Int32) (f_rowCount : Int32) (a_rowKind : Nat → Int32) (a_rowValue : Nat → Int32) (f_many : Int32) (a_list : Nat → Int32) (f_seen : Int32) (f_fail : Int32) (f_level : Int32) (a_from : Nat → Int32) (a_eAt : Nat → Int32) (a_whereAt : Nat → Int32) (a_source : Nat → Int32) (a_distinct : Nat → Int32) (a_keeps : Nat → Int32) (f_at : Int32) (f_self : Int32) (f_brackets : Int32) (f_values : Int32) (a_vKind : Nat → Int32) (a_v : Nat → Int32) (f_waiting : Int32) (a_waits : Nat → Int32) : Option (Int32 × (Nat → Int32) × Int32 × Int32 × Int32 × (Nat → Int32) × Int32 × (Nat → Int32) × (Nat → Int32) × Int32 × (Nat → Int32) × Int32 × Int32 × Int32 × (Nat → Int32) × (Nat → Int32) × (Nat → Int32) × (Nat → Int32) × (Nat → Int32) × (Nat → Int32) × Int32 × Int32 × Int32 × Int32 × (Nat → Int32) × (Nat → Int32) × Int32 × (Nat → Int32)) :=
  if f_count = 0 then
    some (((-1), a_kept, f_want, f_compared, f_open, a_opened, f_rowCount, a_rowKind, a_rowValue, f_many, a_list, f_seen, f_fail, f_level, a_from, a_eAt, a_whereAt, a_source, a_distinct, a_keeps, f_at, f_self, f_brackets, f_values, a_vKind, a_v, f_waiting, a_waits))
  else
    if hq_I (f_count - 1) 40 = true then
      if (a_code (f_count - 1).toNatClampNeg) = 24 then
        if hq_I (0 : Int32) 41 = true then
          (sm_keepSets f_objects a_root a_slotKind a_slot a_kept).bind fun v53 =>
            (sm_run_L62 kF 0 a_parent f_objects a_kindOf a_size a_root a_slotKind a_slot v53 f_count a_code a_number ((sm_start f_want f_compared f_open).1) ((sm_start f_want f_compared f_open).2.1) ((sm_start f_want f_compared f_open).2.2) a_opened 0 a_rowKind a_rowValue f_many a_list 0 0 0 (upd a_from (0 : Int32).toNatClampNeg 0) a_eAt a_whereAt a_source a_distinct a_keeps f_at f_self f_brackets f_values a_vKind a_v f_waiting a_waits).bind fun u62 =>
              sm_run_J105 a_parent f_objects a_kindOf a_size a_root a_slotKind a_slot v53 f_count a_code a_number u62.1 u62.2.1 u62.2.2.1 u62.2.2.2.1 u62.2.2.2.2.1 u62.2.2.2.2.2.1 u62.2.2.2.2.2.2.1 u62.2.2.2.2.2.2.2.1 u62.2.2.2.2.2.2.2.2.1 u62.2.2.2.2.2.2.2.2.2.1 u62.2.2.2.2.2.2.2.2.2.2.1 u62.2.2.2.2.2.2.2.2.2.2.2.1 u62.2.2.2.2.2.2.2.2.2.2.2.2.1 u62.2.2.2.2.2.2.2.2.2.2.2.2.2.1 u62.2.2.2.2.2.2.2.2.2.2.2.2.2.2.1 u62.2.2.2.2.2.2.2.2.2.2.2.2.2.2.2.1 u62.2.2.2.2.2.2.2.2.2.2.2.2.2.2.2.2.1 u62.2.2.2.2.2.2.2.2.2.2.2.2.2.2.2.2.2.1 u62.2.2.2.2.2.2.2.2.2.2.2.2.2.2.2.2.2.2.1 u62.2.2.2.2.2.2.2.2.2.2.2.2.2.2.2.2.2.2.2.1 u62.2.2.2.2.2.2.2.2.2.2.2.2.2.2.2.2.2.2.2.2.1 u62.2.2.2.2.2.2.2.2.2.2.2.2.2.2.2.2.2.2.2.2.2.1 u62.2.2.2.2.2.2.2.2.2.2.2.2.2.2.2.2.2.2.2.2.2.2.1 u62.2.2.2.2.2.2.2.2.2.2.2.2.2.2.2.2.2.2.2.2.2.2.2.1 u62.2.2.2.2.2.2.2.2.2.2.2.2.2.2.2.2.2.2.2.2.2.2.2.2.1 u62.2.2.2.2.2.2.2.2.2.2.2.2.2.2.2.2.2.2.2.2.2.2.2.2.2
        else none
      else
        some (((-1), a_kept, f_want, f_compared, f_open, a_opened, f_rowCount, a_rowKind, a_rowValue, f_many, a_list, f_seen, f_fail, f_level, a_from, a_eAt, a_whereAt, a_source, a_distinct, a_keeps, f_at, f_self, f_brackets, f_values, a_vKind, a_v, f_waiting, a_waits))
    else none
def sm_rows (f_rowCount : Int32) : Int32 :=
  f_rowCount
def sm_row (l1 : Int32) (f_rowCount : Int32) : Int32 :=
  if l1 < 0 then
    0
  else
    if f_rowCount ≤ l1 then
      0
    else
      1
def sm_kind (l1 : Int32) (f_rowCount : Int32) (a_rowKind : Nat → Int32) : Option (Int32) :=
  if (sm_row l1 f_rowCount) = 0 then
    some (-1)
  else
    if hq_I l1 200 = true then
      some (a_rowKind l1.toNatClampNeg)
    else none
def sm_value (l1 : Int32) (f_rowCount : Int32) (a_rowValue : Nat → Int32) : Option (Int32) :=
  if (sm_row l1 f_rowCount) = 0 then
    some 0
  else
    if hq_I l1 200 = true then
      some (a_rowValue l1.toNatClampNeg)
    else none
def sm_looked (f_seen : Int32) : Int32 :=
  f_seen
def sxc_valueOfLeaf (l1 : Int32) (n_code : Int32) (n_number : Int32) : Int64 :=
  if n_code = 10 then
    (sxv_number n_number)
  else
    if n_code = 12 then
      (sxv_link l1)
    else
      0
def sxv_isError (l0 : Int64) : Int32 :=
  if (lg_cmp ((l0.toUInt64 >>> ((32 : Int32).toInt64.toUInt64 &&& Int64.toUInt64 63)).toInt64) 3) = 0 then
    1
  else
    0
def sxv_error (l0 : Int32) : Int64 :=
  12884901888 ||| (l0.toInt64 &&& 4294967295)
def sxv_flag (l0 : Int32) : Int64 :=
  if l0 = 0 then
    4294967296
  else
    4294967297
def sxv_truthOf (l0 : Int64) : Int64 :=
  if (sxv_isError l0) = 0 then
    if (sxv_isLink l0) = 0 then
      if (lg_cmp l0 0) = 0 then
        (sxv_flag 0)
      else
        if (lg_cmp l0 4294967296) = 0 then
          (sxv_flag 0)
        else
          (sxv_flag 1)
    else
      (sxv_error (-3))
  else
    l0
def sxv_isEmpty (l0 : Int64) : Int32 :=
  if (lg_cmp l0 0) = 0 then
    1
  else
    0
def sxh_classOf (l1 : Int32) (ha_classes : Nat → Int32) : Option (Int32) :=
  if hq_I l1 24 = true then
    some (ha_classes l1.toNatClampNeg)
  else none
def sxs_linkCountOf (l1 : Int32) (sa_linkCounts : Nat → Int32) : Option (Int32) :=
  if hq_I l1 24 = true then
    some (sa_linkCounts l1.toNatClampNeg)
  else none
def sxc_factOf (l1 : Int32) (l2 : Int32) (ha_classes : Nat → Int32) (ha_sizes : Nat → Int32) (sa_linkCounts : Nat → Int32) (sa_retainedSizes : Nat → Int32) (sa_immediateDominators : Nat → Int32) : Option (Int64) :=
  if l2 = 0 then
    some (sxv_number l1)
  else
    if l2 = 1 then
      (sxh_classOf l1 ha_classes).bind fun v47 =>
        some (sxv_number v47)
    else
      if l2 = 2 then
        (sxh_sizeOf l1 ha_sizes).bind fun v56 =>
          some (sxv_number v56)
      else
        if l2 = 3 then
          (sxs_retainedSizeOf l1 sa_retainedSizes).bind fun v68 =>
            some (sxv_number v68)
        else
          if l2 = 4 then
            (sxs_immediateDominatorOf l1 sa_immediateDominators).bind fun v80 =>
              if v80 = (-1) then
                some 0
              else
                some (sxv_link v80)
          else
            if l2 = 5 then
              (sxs_linkCountOf l1 sa_linkCounts).bind fun v103 =>
                some (sxv_number v103)
            else
              some 0
def sxc_valueOfUnary (l2 : Int64) (ha_classes : Nat → Int32) (ha_sizes : Nat → Int32) (ha_fields : Nat → Int64) (hf_objectCount : Int32) (sa_linkCounts : Nat → Int32) (sa_retainedSizes : Nat → Int32) (sa_immediateDominators : Nat → Int32) (n_code : Int32) (n_number : Int32) : Option (Int64) :=
  if n_code = 17 then
    if ((sxv_isError (sxv_truthOf l2))) = 0 then
      if (lg_cmp (sxv_truthOf l2) 4294967296) = 0 then
        some (sxv_flag 1)
      else
        some (sxv_flag 0)
    else
      some (sxv_truthOf l2)
  else
    if (sxv_isEmpty l2) = 0 then
      if (sxv_isLink l2) = 0 then
        some ((sxv_error (-2)))
      else
        if ((sxh_hasObject (sxv_contentOf l2) hf_objectCount)) = 0 then
          some ((sxv_error (-2)))
        else
          if n_code = 13 then
            (sxh_fieldOf (sxv_contentOf l2) n_number ha_fields).bind fun v99 =>
              some v99
          else
            (sxc_factOf (sxv_contentOf l2) n_number ha_classes ha_sizes sa_linkCounts sa_retainedSizes sa_immediateDominators).bind fun v112 =>
              some v112
    else
      some 0
def sxc_settles_J42 (s0 : Int64) (s1 : Int64) : Int32 :=
  if (lg_cmp s0 s1) = 0 then
    1
  else
    0
def sxc_settles_J14 (l0 : Int32) (l1 : Int64) : Int32 :=
  if ((sxv_isError (sxv_truthOf l1))) = 0 then
    if l0 = 15 then
      sxc_settles_J42 (sxv_truthOf l1) 4294967297
    else
      sxc_settles_J42 (sxv_truthOf l1) 4294967296
  else
    1
def sxc_settles (l0 : Int32) (l1 : Int64) : Int32 :=
  if l0 = 16 then
    sxc_settles_J14 l0 l1
  else
    if l0 = 15 then
      sxc_settles_J14 l0 l1
    else
      0
def sxc_valueOfArithmetic_J34 (l0 : Int32) : Int64 :=
  if l0 = 20 then
    4294967296
  else
    0
def sxc_valueOfArithmetic (l0 : Int32) (l1 : Int64) (l3 : Int64) : Int64 :=
  if (sxv_isLink l1) = 0 then
    if (sxv_isLink l3) = 0 then
      if (sxv_isEmpty l1) = 0 then
        if (sxv_isEmpty l3) = 0 then
          if l0 = 20 then
            if (sxv_contentOf l3) ≤ (sxv_contentOf l1) then
              (sxv_flag 0)
            else
              (sxv_flag 1)
          else
            if l0 = 21 then
              (sxv_number ((sxv_contentOf l1) + (sxv_contentOf l3)))
            else
              if l0 = 22 then
                (sxv_number ((sxv_contentOf l1) - (sxv_contentOf l3)))
              else
                (sxv_number ((sxv_contentOf l1) * (sxv_contentOf l3)))
        else
          sxc_valueOfArithmetic_J34 l0
      else
        sxc_valueOfArithmetic_J34 l0
    else
      (sxv_error (-3))
  else
    (sxv_error (-3))
def sxc_valueOfBinary (l0 : Int32) (l1 : Int64) (l3 : Int64) : Int64 :=
  if l0 = 15 then
    (sxv_truthOf l3)
  else
    if l0 = 16 then
      (sxv_truthOf l3)
    else
      if l0 = 17 then
        (sxc_valueOfArithmetic l0 l1 l3)
      else
        if l0 = 18 then
          if (lg_cmp l1 l3) = 0 then
            (sxv_flag 1)
          else
            (sxv_flag 0)
        else
          if l0 = 19 then
            if (lg_cmp l1 l3) = 0 then
              (sxv_flag 0)
            else
              (sxv_flag 1)
          else
            (sxc_valueOfArithmetic l0 l1 l3)
def sxh_isInstance_L10_B (rec : Int32 → Int32 → Int32 → (Nat → Int32) → (Nat → Int32) → Option (Int32)) (l2 : Int32) (l3 : Int32) (l4 : Int32) (ha_parents : Nat → Int32) (ha_classes : Nat → Int32) : Option (Int32) :=
  if 8 ≤ l4 then
    some 0
  else
    if l3 = (-1) then
      some 0
    else
      if l3 = l2 then
        some 1
      else
        if hq_I l3 8 = true then
          rec l2 (ha_parents l3.toNatClampNeg) (l4 + 1) ha_parents ha_classes
        else none
def sxh_isInstance_L10 : Nat → Int32 → Int32 → Int32 → (Nat → Int32) → (Nat → Int32) → Option (Int32)
  | 0 => fun _ _ _ _ _ => none
  | n + 1 => sxh_isInstance_L10_B (sxh_isInstance_L10 n)
def sxh_isInstance (l1 : Int32) (l2 : Int32) (ha_parents : Nat → Int32) (ha_classes : Nat → Int32) : Option (Int32) :=
  if hq_I l1 24 = true then
    sxh_isInstance_L10 kF l2 (ha_classes l1.toNatClampNeg) 0 ha_parents ha_classes
  else none
def sxt_codeAt (l1 : Int32) (ta_codes : Nat → Int32) (tf_count : Int32) : Option (Int32) :=
  if l1 < 0 then
    some 24
  else
    if tf_count ≤ l1 then
      some 24
    else
      if hq_I l1 40 = true then
        some (ta_codes l1.toNatClampNeg)
      else none
def sxt_numberAt (l1 : Int32) (ta_numbers : Nat → Int32) (tf_count : Int32) : Option (Int32) :=
  if l1 < 0 then
    some 0
  else
    if tf_count ≤ l1 then
      some 0
    else
      if hq_I l1 40 = true then
        some (ta_numbers l1.toNatClampNeg)
      else none
def sxt_forget (tf_count : Int32) (tf_bracketCount : Int32) (tf_place : Int32) : Int32 × Int32 × Int32 :=
  (0, 0, 0)
def sxt_placeInS (l1 : Int32) : Int32 :=
  if l1 = 6 then
    3
  else
    if l1 = 7 then
      (-1)
    else
      if l1 = 8 then
        (-1)
      else
        if l1 = 9 then
          (-1)
        else
          if l1 = 10 then
            5
          else
            if l1 = 11 then
              5
            else
              if l1 = 12 then
                5
              else
                (-1)
def sxt_placeAfterDistinct (l1 : Int32) : Int32 :=
  if l1 = 2 then
    3
  else
    if l1 = 17 then
      3
    else
      (sxt_placeInS l1)
def sxt_isInsideE (ta_brackets : Nat → Int32) (tf_bracketCount : Int32) : Option (Int32) :=
  if tf_bracketCount ≤ 0 then
    some 0
  else
    if hq_I (tf_bracketCount - 1) 40 = true then
      if (ta_brackets (tf_bracketCount - 1).toNatClampNeg) = 0 then
        some 0
      else
        some 1
    else none
def sxt_placeAfterWholeSelect (l1 : Int32) (tf_bracketCount : Int32) : Int32 :=
  if l1 = 5 then
    0
  else
    if l1 = 7 then
      if tf_bracketCount ≤ 0 then
        (-1)
      else
        7
    else
      if l1 = 24 then
        if tf_bracketCount = 0 then
          8
        else
          (-1)
      else
        (-1)
def sxt_placeAfterE (l1 : Int32) (ta_brackets : Nat → Int32) (tf_bracketCount : Int32) (tf_inWhere : Int32) : Option (Int32) :=
  (sxt_isInsideE ta_brackets tf_bracketCount).bind fun v1 =>
    if v1 = 0 then
      if tf_inWhere = 0 then
        if l1 = 3 then
          some 6
        else
          some (-1)
      else
        some (sxt_placeAfterWholeSelect l1 tf_bracketCount)
    else
      if l1 = 7 then
        some 5
      else
        some (-1)
def sxt_placeAfterU_J64 (ta_brackets : Nat → Int32) (tf_bracketCount : Int32) (tf_inWhere : Int32) (tf_compared : Int32) : Option (Int32) :=
  if tf_compared = 0 then
    some 4
  else
    some (-1)
def sxt_placeAfterU (l1 : Int32) (ta_brackets : Nat → Int32) (tf_bracketCount : Int32) (tf_inWhere : Int32) (tf_compared : Int32) : Option (Int32) :=
  if l1 = 13 then
    some 5
  else
    if l1 = 14 then
      some 5
    else
      if l1 = 15 then
        some 3
      else
        if l1 = 16 then
          some 3
        else
          if l1 = 17 then
            (sxt_placeAfterE l1 ta_brackets tf_bracketCount tf_inWhere).bind fun v81 =>
              some v81
          else
            if l1 = 18 then
              sxt_placeAfterU_J64 ta_brackets tf_bracketCount tf_inWhere tf_compared
            else
              if l1 = 19 then
                sxt_placeAfterU_J64 ta_brackets tf_bracketCount tf_inWhere tf_compared
              else
                if l1 = 20 then
                  sxt_placeAfterU_J64 ta_brackets tf_bracketCount tf_inWhere tf_compared
                else
                  if l1 = 21 then
                    some 4
                  else
                    if l1 = 22 then
                      some 4
                    else
                      if l1 = 23 then
                        some 4
                      else
                        (sxt_placeAfterE l1 ta_brackets tf_bracketCount tf_inWhere).bind fun v81 =>
                          some v81
def sxt_placeInSource (l1 : Int32) : Int32 :=
  if l1 = 6 then
    0
  else
    if l1 = 7 then
      (-1)
    else
      if l1 = 8 then
        7
      else
        if l1 = 9 then
          7
        else
          (-1)
def sxt_placeAfter (l1 : Int32) (ta_brackets : Nat → Int32) (tf_bracketCount : Int32) (tf_place : Int32) (tf_inWhere : Int32) (tf_compared : Int32) : Option (Int32) :=
  if tf_place = 0 then
    if l1 = 0 then
      some 1
    else
      some (-1)
  else
    if tf_place = 1 then
      if l1 = 1 then
        some 2
      else
        some (sxt_placeAfterDistinct l1)
    else
      if tf_place = 2 then
        some (sxt_placeAfterDistinct l1)
      else
        if tf_place = 3 then
          if l1 = 17 then
            some 3
          else
            some (sxt_placeInS l1)
        else
          if tf_place = 4 then
            some (sxt_placeInS l1)
          else
            if tf_place = 5 then
              (sxt_placeAfterU l1 ta_brackets tf_bracketCount tf_inWhere tf_compared).bind fun v107 =>
                some v107
            else
              if tf_place = 6 then
                some (sxt_placeInSource l1)
              else
                if tf_place = 7 then
                  if l1 = 4 then
                    some 3
                  else
                    some (sxt_placeAfterWholeSelect l1 tf_bracketCount)
                else
                  some (-1)
def sxt_openBracket_J45 (s1 : Int32) (s2 : Int32) (ta_brackets : Nat → Int32) (tf_bracketCount : Int32) (tf_place : Int32) (tf_compared : Int32) : Option ((Nat → Int32) × Int32 × Int32) :=
  if hq_I s1 40 = true then
    some (upd ta_brackets s1.toNatClampNeg s2, tf_bracketCount + 1, 0)
  else none
def sxt_openBracket_J22 (s0 : Int32) (ta_brackets : Nat → Int32) (tf_bracketCount : Int32) (tf_place : Int32) (tf_compared : Int32) : Option ((Nat → Int32) × Int32 × Int32) :=
  if tf_place = 6 then
    sxt_openBracket_J45 tf_bracketCount 0 ta_brackets tf_bracketCount tf_place tf_compared
  else
    sxt_openBracket_J45 tf_bracketCount s0 ta_brackets tf_bracketCount tf_place tf_compared
def sxt_openBracket (ta_brackets : Nat → Int32) (tf_bracketCount : Int32) (tf_place : Int32) (tf_compared : Int32) : Option ((Nat → Int32) × Int32 × Int32) :=
  if tf_bracketCount < 40 then
    if tf_compared = 0 then
      sxt_openBracket_J22 1 ta_brackets tf_bracketCount tf_place tf_compared
    else
      sxt_openBracket_J22 2 ta_brackets tf_bracketCount tf_place tf_compared
  else
    some (ta_brackets, tf_bracketCount, tf_compared)
def sxt_closeBracket (ta_brackets : Nat → Int32) (tf_bracketCount : Int32) (tf_compared : Int32) : Option (Int32 × Int32) :=
  if 0 < tf_bracketCount then
    if hq_I (tf_bracketCount - 1) 40 = true then
      if (ta_brackets (tf_bracketCount - 1).toNatClampNeg) = 2 then
        some (tf_bracketCount - 1, 1)
      else
        some (tf_bracketCount - 1, 0)
    else none
  else
    some (tf_bracketCount, tf_compared)
def sxt_remember_J111 (s1 : Int32) (ta_brackets : Nat → Int32) (tf_bracketCount : Int32) (tf_place : Int32) (tf_inWhere : Int32) (tf_compared : Int32) : Option ((Nat → Int32) × Int32 × Int32 × Int32) :=
  if s1 = 0 ∨ s1 = 1 then
    some (ta_brackets, tf_bracketCount, s1, 0)
  else none
def sxt_remember_J100 (l1 : Int32) (ta_brackets : Nat → Int32) (tf_bracketCount : Int32) (tf_place : Int32) (tf_inWhere : Int32) (tf_compared : Int32) : Option ((Nat → Int32) × Int32 × Int32 × Int32) :=
  if l1 = 4 then
    sxt_remember_J111 1 ta_brackets tf_bracketCount tf_place tf_inWhere tf_compared
  else
    sxt_remember_J111 0 ta_brackets tf_bracketCount tf_place tf_inWhere tf_compared
def sxt_remember (l1 : Int32) (ta_brackets : Nat → Int32) (tf_bracketCount : Int32) (tf_place : Int32) (tf_inWhere : Int32) (tf_compared : Int32) : Option ((Nat → Int32) × Int32 × Int32 × Int32) :=
  if l1 = 0 then
    sxt_remember_J100 l1 ta_brackets tf_bracketCount tf_place tf_inWhere tf_compared
  else
    if l1 = 1 then
      some (ta_brackets, tf_bracketCount, tf_inWhere, tf_compared)
    else
      if l1 = 2 then
        some (ta_brackets, tf_bracketCount, tf_inWhere, tf_compared)
      else
        if l1 = 3 then
          some (ta_brackets, tf_bracketCount, tf_inWhere, tf_compared)
        else
          if l1 = 4 then
            sxt_remember_J100 l1 ta_brackets tf_bracketCount tf_place tf_inWhere tf_compared
          else
            if l1 = 5 then
              some (ta_brackets, tf_bracketCount, tf_inWhere, tf_compared)
            else
              if l1 = 6 then
                (sxt_openBracket ta_brackets tf_bracketCount tf_place tf_compared).bind fun v139 =>
                  some (v139.1, v139.2.1, tf_inWhere, v139.2.2)
              else
                if l1 = 7 then
                  (sxt_closeBracket ta_brackets tf_bracketCount tf_compared).bind fun v146 =>
                    some (ta_brackets, v146.1, tf_inWhere, v146.2)
                else
                  if l1 = 8 then
                    some (ta_brackets, tf_bracketCount, tf_inWhere, tf_compared)
                  else
                    if l1 = 9 then
                      some (ta_brackets, tf_bracketCount, tf_inWhere, tf_compared)
                    else
                      if l1 = 10 then
                        some (ta_brackets, tf_bracketCount, tf_inWhere, tf_compared)
                      else
                        if l1 = 11 then
                          some (ta_brackets, tf_bracketCount, tf_inWhere, tf_compared)
                        else
                          if l1 = 12 then
                            some (ta_brackets, tf_bracketCount, tf_inWhere, tf_compared)
                          else
                            if l1 = 13 then
                              some (ta_brackets, tf_bracketCount, tf_inWhere, tf_compared)
                            else
                              if l1 = 14 then
                                some (ta_brackets, tf_bracketCount, tf_inWhere, tf_compared)
                              else
                                if l1 = 15 then
                                  some (ta_brackets, tf_bracketCount, tf_inWhere, 0)
                                else
                                  if l1 = 16 then
                                    some (ta_brackets, tf_bracketCount, tf_inWhere, 0)
                                  else
                                    if l1 = 17 then
                                      some (ta_brackets, tf_bracketCount, tf_inWhere, tf_compared)
                                    else
                                      if l1 = 18 then
                                        some (ta_brackets, tf_bracketCount, tf_inWhere, 1)
                                      else
                                        if l1 = 19 then
                                          some (ta_brackets, tf_bracketCount, tf_inWhere, 1)
                                        else
                                          if l1 = 20 then
                                            some (ta_brackets, tf_bracketCount, tf_inWhere, 1)
                                          else
                                            some (ta_brackets, tf_bracketCount, tf_inWhere, tf_compared)
def sxt_take (l1 : Int32) (l2 : Int32) (ta_codes : Nat → Int32) (ta_numbers : Nat → Int32) (tf_count : Int32) (ta_brackets : Nat → Int32) (tf_bracketCount : Int32) (tf_place : Int32) (tf_inWhere : Int32) (tf_compared : Int32) : Option (Int32 × (Nat → Int32) × (Nat → Int32) × Int32 × (Nat → Int32) × Int32 × Int32 × Int32 × Int32) :=
  (sxt_placeAfter l1 ta_brackets tf_bracketCount tf_place tf_inWhere tf_compared).bind fun v2 =>
    if 40 ≤ tf_count then
      some (0, ta_codes, ta_numbers, tf_count, ta_brackets, tf_bracketCount, tf_place, tf_inWhere, tf_compared)
    else
      if v2 = (-1) then
        some (0, ta_codes, ta_numbers, tf_count, ta_brackets, tf_bracketCount, tf_place, tf_inWhere, tf_compared)
      else
        if hq_I tf_count 40 = true then
          if hq_I tf_count 40 = true then
            (sxt_remember l1 ta_brackets tf_bracketCount tf_place tf_inWhere tf_compared).bind fun v54 =>
              some (1, upd ta_codes tf_count.toNatClampNeg l1, upd ta_numbers tf_count.toNatClampNeg l2, tf_count + 1, v54.1, v54.2.1, v2, v54.2.2.1, v54.2.2.2)
          else none
        else none
def sxv_isNumber (l0 : Int64) : Int32 :=
  if (lg_cmp ((l0.toUInt64 >>> ((32 : Int32).toInt64.toUInt64 &&& Int64.toUInt64 63)).toInt64) 1) = 0 then
    1
  else
    0
def sxw_begin (wf_count : Int32) (wf_looks : Int32) : Int32 × Int32 :=
  (0, 0)
def sxw_dropRows (wf_count : Int32) : Int32 :=
  0
def sxw_add (l1 : Int64) (wa_rows : Nat → Int64) (wf_count : Int32) : Option ((Nat → Int64) × Int32) :=
  if 192 ≤ wf_count then
    some (wa_rows, wf_count)
  else
    if hq_I wf_count 192 = true then
      some (vp_updL wa_rows wf_count.toNatClampNeg l1, wf_count + 1)
    else none
def sxw_addObjectsOfClass_J47 (rec : Int32 → Int32 → (Nat → Int32) → (Nat → Int32) → Int32 → (Nat → Int64) → Int32 → Int32 → Option ((Nat → Int64) × Int32)) (l3 : Int32) (l4 : Int32) (ha_parents : Nat → Int32) (ha_classes : Nat → Int32) (hf_objectCount : Int32) (wa_rows : Nat → Int64) (wf_count : Int32) (s_withDescendants : Int32) : Option ((Nat → Int64) × Int32) :=
  (sxw_add (sxv_link l4) wa_rows wf_count).bind fun v53 =>
    rec l3 (l4 + 1) ha_parents ha_classes hf_objectCount v53.1 v53.2 s_withDescendants
def sxw_addObjectsOfClass_L8_B (rec : Int32 → Int32 → (Nat → Int32) → (Nat → Int32) → Int32 → (Nat → Int64) → Int32 → Int32 → Option ((Nat → Int64) × Int32)) (l3 : Int32) (l4 : Int32) (ha_parents : Nat → Int32) (ha_classes : Nat → Int32) (hf_objectCount : Int32) (wa_rows : Nat → Int64) (wf_count : Int32) (s_withDescendants : Int32) : Option ((Nat → Int64) × Int32) :=
  if (sxh_size hf_objectCount) ≤ l4 then
    some (wa_rows, wf_count)
  else
    if s_withDescendants = 0 then
      (sxh_classOf l4 ha_classes).bind fun v40 =>
        if v40 = l3 then
          sxw_addObjectsOfClass_J47 rec l3 l4 ha_parents ha_classes hf_objectCount wa_rows wf_count s_withDescendants
        else
          rec l3 (l4 + 1) ha_parents ha_classes hf_objectCount wa_rows wf_count s_withDescendants
    else
      (sxh_isInstance l4 l3 ha_parents ha_classes).bind fun v28 =>
        if v28 = 0 then
          rec l3 (l4 + 1) ha_parents ha_classes hf_objectCount wa_rows wf_count s_withDescendants
        else
          sxw_addObjectsOfClass_J47 rec l3 l4 ha_parents ha_classes hf_objectCount wa_rows wf_count s_withDescendants
def sxw_addObjectsOfClass_L8 : Nat → Int32 → Int32 → (Nat → Int32) → (Nat → Int32) → Int32 → (Nat → Int64) → Int32 → Int32 → Option ((Nat → Int64) × Int32)
  | 0 => fun _ _ _ _ _ _ _ _ => none
  | n + 1 => sxw_addObjectsOfClass_L8_B (sxw_addObjectsOfClass_L8 n)
def sxw_addObjectsOfClass (ha_parents : Nat → Int32) (ha_classes : Nat → Int32) (hf_objectCount : Int32) (wa_rows : Nat → Int64) (wf_count : Int32) (s_sourceClass : Int32) (s_withDescendants : Int32) : Option ((Nat → Int64) × Int32) :=
  (sxw_addObjectsOfClass_L8 kF s_sourceClass 0 ha_parents ha_classes hf_objectCount wa_rows wf_count s_withDescendants).bind fun u8 =>
    some (u8.1, u8.2)
def sxw_hasNumber_L2_B (rec : Int32 → (Nat → Int64) → Int32 → Option (Int32)) (l2 : Int32) (wa_rows : Nat → Int64) (wf_count : Int32) : Option (Int32) :=
  if wf_count ≤ l2 then
    some 0
  else
    if hq_I l2 192 = true then
      if ((sxv_isNumber (wa_rows l2.toNatClampNeg))) = 0 then
        rec (l2 + 1) wa_rows wf_count
      else
        some 1
    else none
def sxw_hasNumber_L2 : Nat → Int32 → (Nat → Int64) → Int32 → Option (Int32)
  | 0 => fun _ _ _ => none
  | n + 1 => sxw_hasNumber_L2_B (sxw_hasNumber_L2 n)
def sxw_hasNumber (l1 : Int32) (wa_rows : Nat → Int64) (wf_count : Int32) : Option (Int32) :=
  sxw_hasNumber_L2 kF l1 wa_rows wf_count
def sxw_turnIntoRetained_L77_B (rec : Int32 → Int32 → Int32 → (Nat → Int64) → Int32 → Option ((Nat → Int64) × Int32)) (l4 : Int32) (l5 : Int32) (hf_objectCount : Int32) (wa_rows : Nat → Int64) (wf_count : Int32) : Option ((Nat → Int64) × Int32) :=
  if (sxh_size hf_objectCount) ≤ l5 then
    some (wa_rows, wf_count)
  else
    if (l4 &&& ((1 : Int32) <<< (l5 &&& 31))) = 0 then
      rec l4 (l5 + 1) hf_objectCount wa_rows wf_count
    else
      (sxw_add (sxv_link l5) wa_rows wf_count).bind fun v102 =>
        rec l4 (l5 + 1) hf_objectCount v102.1 v102.2
def sxw_turnIntoRetained_L77 : Nat → Int32 → Int32 → Int32 → (Nat → Int64) → Int32 → Option ((Nat → Int64) × Int32)
  | 0 => fun _ _ _ _ _ => none
  | n + 1 => sxw_turnIntoRetained_L77_B (sxw_turnIntoRetained_L77 n)
def sxw_turnIntoRetained_L16_B (rec : Int32 → Int32 → Int32 → (Nat → Int64) → Int32 → Option (Int32)) (l2 : Int32) (l3 : Int32) (l4 : Int32) (wa_rows : Nat → Int64) (wf_count : Int32) : Option (Int32) :=
  if wf_count ≤ l4 then
    some l3
  else
    if hq_I l4 192 = true then
      if ((sxv_isLink (wa_rows l4.toNatClampNeg))) = 0 then
        rec l2 l3 (l4 + 1) wa_rows wf_count
      else
        if hq_I l4 192 = true then
          rec l2 (l3 ||| ((1 : Int32) <<< (((sxv_contentOf (wa_rows l4.toNatClampNeg))) &&& 31))) (l4 + 1) wa_rows wf_count
        else none
    else none
def sxw_turnIntoRetained_L16 : Nat → Int32 → Int32 → Int32 → (Nat → Int64) → Int32 → Option (Int32)
  | 0 => fun _ _ _ _ _ => none
  | n + 1 => sxw_turnIntoRetained_L16_B (sxw_turnIntoRetained_L16 n)
def sxw_turnIntoRetained (l2 : Int32) (hf_objectCount : Int32) (sa_linkedFrom : Nat → Int32) (sf_roots : Int32) (sf_reachable : Int32) (wa_rows : Nat → Int64) (wf_count : Int32) : Option (Int32 × (Nat → Int64) × Int32) :=
  (sxw_hasNumber l2 wa_rows wf_count).bind fun v2 =>
    if v2 = 0 then
      (sxw_turnIntoRetained_L16 kF l2 0 l2 wa_rows wf_count).bind fun u16 =>
        (sxs_retainedBy u16 sa_linkedFrom sf_roots sf_reachable).bind fun v64 =>
          (sxw_turnIntoRetained_L77 kF v64 0 hf_objectCount wa_rows l2).bind fun u77 =>
            some (0, u77.1, u77.2)
    else
      some (((-4), wa_rows, wf_count))
def sxw_hasRowSince_L3_B (rec : Int64 → Int32 → (Nat → Int64) → Int32 → Option (Int32)) (l2 : Int64) (l4 : Int32) (wa_rows : Nat → Int64) (wf_count : Int32) : Option (Int32) :=
  if wf_count ≤ l4 then
    some 0
  else
    if hq_I l4 192 = true then
      if (lg_cmp (wa_rows l4.toNatClampNeg) l2) = 0 then
        some 1
      else
        rec l2 (l4 + 1) wa_rows wf_count
    else none
def sxw_hasRowSince_L3 : Nat → Int64 → Int32 → (Nat → Int64) → Int32 → Option (Int32)
  | 0 => fun _ _ _ _ => none
  | n + 1 => sxw_hasRowSince_L3_B (sxw_hasRowSince_L3 n)
def sxw_hasRowSince (l1 : Int32) (l2 : Int64) (wa_rows : Nat → Int64) (wf_count : Int32) : Option (Int32) :=
  sxw_hasRowSince_L3 kF l2 l1 wa_rows wf_count
def sxw_leaveOutRepeated_L12_B (rec : Int32 → Int32 → Int32 → (Nat → Int64) → Int32 → Option ((Nat → Int64) × Int32)) (l1 : Int32) (l2 : Int32) (l3 : Int32) (wa_rows : Nat → Int64) (wf_count : Int32) : Option ((Nat → Int64) × Int32) :=
  if l2 ≤ l3 then
    some (wa_rows, wf_count)
  else
    if hq_I l3 192 = true then
      (sxw_hasRowSince l1 (wa_rows l3.toNatClampNeg) wa_rows wf_count).bind fun v25 =>
        if v25 = 0 then
          if hq_I l3 192 = true then
            (sxw_add (wa_rows l3.toNatClampNeg) wa_rows wf_count).bind fun v38 =>
              rec l1 l2 (l3 + 1) v38.1 v38.2
          else none
        else
          rec l1 l2 (l3 + 1) wa_rows wf_count
    else none
def sxw_leaveOutRepeated_L12 : Nat → Int32 → Int32 → Int32 → (Nat → Int64) → Int32 → Option ((Nat → Int64) × Int32)
  | 0 => fun _ _ _ _ _ => none
  | n + 1 => sxw_leaveOutRepeated_L12_B (sxw_leaveOutRepeated_L12 n)
def sxw_leaveOutRepeated (l1 : Int32) (wa_rows : Nat → Int64) (wf_count : Int32) : Option ((Nat → Int64) × Int32) :=
  (sxw_leaveOutRepeated_L12 kF l1 wf_count l1 wa_rows l1).bind fun u12 =>
    some (u12.1, u12.2)
def sxw_leaveOutEmpty_L12_B (rec : Int32 → Int32 → (Nat → Int64) → Int32 → Option ((Nat → Int64) × Int32)) (l2 : Int32) (l3 : Int32) (wa_rows : Nat → Int64) (wf_count : Int32) : Option ((Nat → Int64) × Int32) :=
  if l2 ≤ l3 then
    some (wa_rows, wf_count)
  else
    if hq_I l3 192 = true then
      if ((sxv_isEmpty (wa_rows l3.toNatClampNeg))) = 0 then
        if hq_I l3 192 = true then
          (sxw_add (wa_rows l3.toNatClampNeg) wa_rows wf_count).bind fun v36 =>
            rec l2 (l3 + 1) v36.1 v36.2
        else none
      else
        rec l2 (l3 + 1) wa_rows wf_count
    else none
def sxw_leaveOutEmpty_L12 : Nat → Int32 → Int32 → (Nat → Int64) → Int32 → Option ((Nat → Int64) × Int32)
  | 0 => fun _ _ _ _ => none
  | n + 1 => sxw_leaveOutEmpty_L12_B (sxw_leaveOutEmpty_L12 n)
def sxw_leaveOutEmpty (l1 : Int32) (wa_rows : Nat → Int64) (wf_count : Int32) : Option ((Nat → Int64) × Int32) :=
  (sxw_leaveOutEmpty_L12 kF wf_count l1 wa_rows l1).bind fun u12 =>
    some (u12.1, u12.2)
end
section
/-! hq_: options; contracts over one world that is never cut; a method's beginning and ends; calls -/
theorem hq_bind {α β : Type} {o : Option α} {k : α → Option β} {r : β} (h : o.bind k = some r) : ∃ x, o = some x ∧ k x = some r := by
  cases o with
  | none => cases h
  | some x => exact ⟨x, rfl, h⟩
theorem hq_ok {α : Type} {c : Prop} [Decidable c] {x : Option α} {r : α} (h : (if c then x else none) = some r) : c ∧ x = some r := by
  by_cases hc : c
  · exact ⟨hc, (if_pos hc).symm.trans h⟩
  · rw [if_neg hc] at h; cases h
theorem hq_in {i : Int32} {n : Nat} (h : hq_I i n = true) : vp_in i n := vp_in_iff.mpr (of_decide_eq_true h)
theorem hq_idx {α : Type} {i : Int32} {n : Nat} {x : Option α} {r : α} (h : (if hq_I i n = true then x else none) = some r) : vp_in i n ∧ x = some r := by
  obtain ⟨h1, h2⟩ := hq_ok h
  exact ⟨hq_in h1, h2⟩
/-! words: every word of hq_tbl is good -/
theorem hq_good {w : Cond} (h : w ∈ hq_tbl) : (w.onTables && w.keeps) = true ∨ ∃ ty, w = .arrayClass ty := good_of_word (List.mem_filter.mp h).2
theorem hq_sub {ws : List Cond} (h : ∀ w ∈ ws, w ∈ hq_tbl) : GoodIn hq_tbl ws := fun w hw => ⟨h w hw, hq_good (h w hw)⟩
/-! contracts -/
def hq_tys (cI cZ cL : ClassId) : List (ClassId × FieldType) := [(cI, .int), (cZ, .boolean), (cL, .long)]
def hq_Pc (D : va_G) (tys : List (ClassId × FieldType)) (A : Nat → Prop) (w0 : va_W) (av : List Value) : Array Value → State → Prop :=
  va_Pc av (fun U => va_P D hq_cl w0 U.heap ∧ va_K D hq_cl tys U ∧ va_D A w0)
def hq_Q (D : va_G) (tys : List (ClassId × FieldType)) (A : Nat → Prop) (w1 : va_W) (o : Option Value) : Array Value → State → Outcome → State → Prop :=
  fun _ st oc t => oc = .returned o ∧ va_P D hq_cl w1 t.heap ∧ va_K D hq_cl tys t ∧ va_D A w1 ∧ va_F A st t
def hq_Ct (l : Launch) (y : MethodName) (bc : ByteArray) (nL : Nat) (ret : Option FieldType) (rm : Room) (D : va_G) (tys : List (ClassId × FieldType)) (A : Nat → Prop) (av : List Value) (w0 w1 : va_W) (o : Option Value) (mc ms : Nat) : Prop :=
  Met l y (Cond.code y bc nL ret :: hq_tbl) rm (hq_Pc D tys A w0 av) (hq_Q D tys A w1 o) mc ms A
theorem hq_blind {D : va_G} {tys : List (ClassId × FieldType)} {A : Nat → Prop} {w0 : va_W} {av : List Value} : FrameBlind (hq_Pc D tys A w0 av) := fun a U g mk q => by
  obtain ⟨q0, qP, qK, qD⟩ := q
  exact ⟨q0, qP, va_K.moved (u := U) (U := U.calling g mk a) (Vm.Alike.refl U.vm) qK, qD⟩
section HQ
variable {p : Program} {l : Launch} {e : Env} {R : Room} {s : State} {m : MethodId} {args : Array Value} {below : List Frame} {meth : Method} {c : Code} {H H0 : Heap} {locs : List Loc} {cells slots : Nat} {Q : State → Prop}
variable {cc bc : ByteArray} {pc nL k nC idx mc ms : Nat} {ls : Array Slot} {rest st0 As av : List Value} {D : va_G} {tys : List (ClassId × FieldType)} {A : Nat → Prop} {w w0 w1 : va_W} {o : Option Value} {y : MethodName} {ret : Option FieldType} {rm : Room} {own C : String} {b : Nat} {a : Array Value}
/-- a method's beginning -/
theorem hq_of (hy : plainName y.cls = true)
    (body : ∀ p e s m below meth c R args Q, R = rm → Q = MQ below (hq_Q D tys A w1 o) args s mc ms A → p.tables.exec = Jvm.exec → c.code = bc → meth.sig.returnType = ret → c.maxLocals = nL → (∀ x ∈ hq_tbl, x.before args s = true) → s.vm.findClass y.cls = some m.cls → meth.locks = false → meth.name = y.name → va_P D hq_cl w0 s.heap → va_K D hq_cl tys s → va_D A w0 →
      ∀ ls, lv_has ls nL (lv_args 0 av) → va_S A s.heap s.heap [] → W p l e R s m args below meth c s.heap [] 0 0 Q (F0 m 0 ls [])) (hn : (lg_sl av).length ≤ nL) : hq_Ct l y bc nL ret rm D tys A av w0 w1 o mc ms := by
  refine Met.ofW (cc := bc) (maxL := nL) (ret := ret) hy rfl ?_
  intro p e s m args below meth c s₁ B hml hv
  obtain ⟨rfl, hP, hK, hD⟩ := hv
  have hts := atoms_spec (ws := Cond.code y bc nL ret :: hq_tbl) B.pre
  have hl := lv_entry av (n := nL) hn
  rw [lg_entry_eq]
  exact body p e s m below meth c _ _ _ rfl rfl B.exec B.bytes B.returns hml (fun x hx => hts x (List.mem_cons_of_mem _ hx)) (findClass_of_methodNamed B.named) B.notSynchronized (name_of_methodNamed B.named B.method).1 hP hK hD _ hl va_S.rf
/-- a method's ends -/
theorem hq_iret {v : Int32} (hx : p.tables.exec = Jvm.exec) (hb : c.code = cc) (hr : meth.sig.returnType = some .int) (hlocks : meth.locks = false) (hQ : Q = MQ below (hq_Q D tys A w1 o) args s cells slots A) (hK : va_K D hq_cl tys s) (hP : va_P D hq_cl w H) (hD : va_D A w) (hS : va_S A s.heap H locs) (eo : o = some (.int v)) (ew : w1 = w) (hdg : decode cc pc = .ok (.ireturn, 1)) :
    W p l e R s m args below meth c H locs cells slots Q (F0 m pc ls [.int v]) := by
  subst eo; subst ew; subst hQ
  exact W.iret hx hb hr (fun t ht hW => ⟨rfl, by rw [ht]; exact hP, va_K.moved hW.alike hK, hD, hS.F ht⟩) hS.2.2 hdg hlocks
theorem hq_zret {v : Int32} (hx : p.tables.exec = Jvm.exec) (hb : c.code = cc) (hr : meth.sig.returnType = some .boolean) (hlocks : meth.locks = false) (hQ : Q = MQ below (hq_Q D tys A w1 o) args s cells slots A) (hK : va_K D hq_cl tys s) (hP : va_P D hq_cl w H) (hD : va_D A w) (hS : va_S A s.heap H locs) (hz : v = 0 ∨ v = 1) (eo : o = some (.int v)) (ew : w1 = w) (hdg : decode cc pc = .ok (.ireturn, 1)) :
    W p l e R s m args below meth c H locs cells slots Q (F0 m pc ls [.int v]) := by
  subst eo; subst ew; subst hQ
  exact W.zret hx hb hr (by rcases hz with rfl | rfl <;> rfl) (fun t ht hW => ⟨rfl, by rw [ht]; exact hP, va_K.moved hW.alike hK, hD, hS.F ht⟩) hS.2.2 hdg hlocks
theorem hq_lret {v : Int64} (hx : p.tables.exec = Jvm.exec) (hb : c.code = cc) (hr : meth.sig.returnType = some .long) (hlocks : meth.locks = false) (hQ : Q = MQ below (hq_Q D tys A w1 o) args s cells slots A) (hK : va_K D hq_cl tys s) (hP : va_P D hq_cl w H) (hD : va_D A w) (hS : va_S A s.heap H locs) (eo : o = some (.long v)) (ew : w1 = w) (hdg : decode cc pc = .ok (.lreturn, 1)) :
    W p l e R s m args below meth c H locs cells slots Q (F0 m pc ls [.long v]) := by
  subst eo; subst ew; subst hQ
  exact W.lret hx hb hr (fun t ht hW => ⟨rfl, by rw [ht]; exact hP, va_K.moved hW.alike hK, hD, hS.F ht⟩) hS.2.2 hdg hlocks
theorem hq_vret (hx : p.tables.exec = Jvm.exec) (hb : c.code = cc) (hr : meth.sig.returnType = none) (hlocks : meth.locks = false) (hQ : Q = MQ below (hq_Q D tys A w1 o) args s cells slots A) (hK : va_K D hq_cl tys s) (hP : va_P D hq_cl w H) (hD : va_D A w) (hS : va_S A s.heap H locs) (eo : o = none) (ew : w1 = w) (hdg : decode cc pc = .ok (.return_, 1)) :
    W p l e R s m args below meth c H locs cells slots Q (F0 m pc ls []) := by
  subst eo; subst ew; subst hQ
  exact W.vret hx hb hr (fun t ht hW => ⟨rfl, by rw [ht]; exact hP, va_K.moved hW.alike hK, hD, hS.F ht⟩) hS.2.2 hdg hlocks
/-- behind a call -/
theorem hq_go (hr : va_Run p l e R s m args below meth c H locs cells slots mc ms (F0 m pc ls st0) rest (hq_Q D tys A w1 o a) A) (hS : va_S A H0 H locs)
    (kk : ∀ (H1 : Heap) (locs1 : List Loc), va_P D hq_cl w1 H1 → va_D A w1 → va_S A H0 H1 locs1 → W p l e R s m args below meth c H1 locs1 (cells + mc) (slots + ms) Q (F0 m (pc + 3) ls (o.toList ++ rest))) : W p l e R s m args below meth c H locs cells slots Q (F0 m pc ls st0) := by
  intro T hT X
  obtain ⟨v, st₀, t, T', L, h0, X', hL, e1, e2, ⟨hv, hp, hk0, hd, hz, hk⟩, st⟩ := hr T hT X
  cases hv
  rw [h0] at hz hk
  obtain ⟨t2, a1, b1⟩ := kk T'.heap (locs ++ L) (by rw [e1]; exact hp) hd ⟨Nat.le_trans hS.1 (by rw [e1]; exact hz), fun q h1 h2 => by rw [e1, hk q (Nat.lt_of_lt_of_le h1 hS.1) h2]; exact hS.2.1 q h1 h2, fun q hq => by
      rcases List.mem_append.mp hq with h | h
      · exact hS.2.2 q h
      · exact hL q h⟩ T' rfl X'
  exact ⟨t2, st t2 a1, b1⟩
theorem hq_callV {fs : List Value} {ci q0 : Nat} {T : u_T} {N : Nat} (hx : p.tables.exec = Jvm.exec) (hb : c.code = cc) (hml : c.maxLocals = nC) (hown : s.vm.findClass own = some m.cls) (hts : ∀ x ∈ hq_tbl, x.before args s = true) (hK : va_K D hq_cl tys s) (hP : va_P D hq_cl w0 H) (hD : va_D A w0) (hS : va_S A H0 H locs)
    (hM : hq_Ct l y bc nL ret rm D tys A (.ref b :: As) w0 w1 o mc ms) (he : w0[q0]? = some (b, .inr (ci, fs))) (hc : hq_cl[ci]? = some (y.cls, T, N))
    (h1 : Cond.methodLink own idx y ∈ hq_tbl) (h2 : Cond.instanceMethod y ∈ hq_tbl) (h3 : Cond.selects y.cls y y ∈ hq_tbl) (h4 : Cond.initialized y.cls ∈ hq_tbl) (h5 : Cond.code y bc nL ret ∈ hq_tbl)
    (nA : Nat) (hnA : As.length = nA) (hd : y.cls ≠ "java/lang/invoke/MethodHandle" ∧ y.cls ≠ "java/lang/invoke/VarHandle" ∧ (parseMethodDescriptor y.desc).map (fun d => d.parameters.length) = some nA) (hrm : rm.cells = mc ∧ rm.slots = ms) (hR : rm.frames + 1 ≤ R.frames ∧ 8 + (nL + 11) + rm.locals ≤ R.locals) (hls : ls.size = nC) (hst : st0 = As.reverse ++ .ref b :: rest) (hW : (rest.map fun v => v.category).sum ≤ 8) (hdg : decode cc pc = .ok (.invokevirtual idx, 3)) (hf : cells + mc ≤ R.cells ∧ slots + ms ≤ R.slots)
    (kk : ∀ (H1 : Heap) (locs1 : List Loc), va_P D hq_cl w1 H1 → va_D A w1 → va_S A H0 H1 locs1 → W p l e R s m args below meth c H1 locs1 (cells + mc) (slots + ms) Q (F0 m (pc + 3) ls (o.toList ++ rest))) : W p l e R s m args below meth c H locs cells slots Q (F0 m pc ls st0) := by
  subst hnA
  refine hq_go (va_runV (n := As.length) (Ts := hq_tbl) (As := As) ⟨hx, hb, hml, hown, hts⟩ hM (cwV As.length hts (hq_sub fun x hx => ?_) rfl hrm.1 hrm.2 ⟨rfl, hd⟩ hR) ⟨hq_blind, va_recv hK hP hc he, fun U hU hW => ⟨rfl, by rw [hU]; exact hP, va_K.moved hW.alike hK, hD⟩⟩ rfl rfl hls hst (lv_room hW) hdg hf) hS kk
  simp only [wsV, List.cons_append, List.nil_append, List.mem_cons] at hx
  rcases hx with rfl | rfl | rfl | rfl | rfl | hx
  · exact h1
  · exact h2
  · exact h3
  · exact h4
  · exact h5
  · exact hx
theorem hq_callS (hx : p.tables.exec = Jvm.exec) (hb : c.code = cc) (hml : c.maxLocals = nC) (hown : s.vm.findClass own = some m.cls) (hts : ∀ x ∈ hq_tbl, x.before args s = true) (hK : va_K D hq_cl tys s) (hP : va_P D hq_cl w0 H) (hD : va_D A w0) (hS : va_S A H0 H locs)
    (hM : hq_Ct l y bc nL ret rm D tys A As w0 w1 o mc ms)
    (h1 : Cond.methodLink own idx y ∈ hq_tbl) (h2 : Cond.static y ∈ hq_tbl) (h4 : Cond.initialized y.cls ∈ hq_tbl) (h5 : Cond.code y bc nL ret ∈ hq_tbl)
    (nA : Nat) (hnA : As.length = nA) (hd : y.cls ≠ "java/lang/invoke/MethodHandle" ∧ y.cls ≠ "java/lang/invoke/VarHandle" ∧ (parseMethodDescriptor y.desc).map (fun d => d.parameters.length) = some nA) (hrm : rm.cells = mc ∧ rm.slots = ms) (hR : rm.frames + 1 ≤ R.frames ∧ 8 + (nL + 11) + rm.locals ≤ R.locals) (hls : ls.size = nC) (hst : st0 = As.reverse ++ rest) (hW : (rest.map fun v => v.category).sum ≤ 8) (hdg : decode cc pc = .ok (.invokestatic idx, 3)) (hf : cells + mc ≤ R.cells ∧ slots + ms ≤ R.slots)
    (kk : ∀ (H1 : Heap) (locs1 : List Loc), va_P D hq_cl w1 H1 → va_D A w1 → va_S A H0 H1 locs1 → W p l e R s m args below meth c H1 locs1 (cells + mc) (slots + ms) Q (F0 m (pc + 3) ls (o.toList ++ rest))) : W p l e R s m args below meth c H locs cells slots Q (F0 m pc ls st0) := by
  subst hnA
  refine hq_go (va_runS (n := As.length) (Ts := hq_tbl) (As := As) ⟨hx, hb, hml, hown, hts⟩ hM (va_cwS As.length hts (hq_sub fun x hx => ?_) rfl hrm.1 hrm.2 hd hR) ⟨hq_blind, fun U hU hW => ⟨rfl, by rw [hU]; exact hP, va_K.moved hW.alike hK, hD⟩⟩ rfl rfl hls hst (lv_room hW) hdg hf) hS kk
  simp only [va_wsS, List.cons_append, List.nil_append, List.mem_cons] at hx
  rcases hx with rfl | rfl | rfl | rfl | hx
  · exact h1
  · exact h2
  · exact h4
  · exact h5
  · exact hx
/-- storing into a boolean array a value that is 0 or 1 -/
theorem hq_zast (hx : p.tables.exec = Jvm.exec) (hb : c.code = cc) (hK : va_K D hq_cl tys s) (hP : va_P D hq_cl w H) (hD : va_D A w) (hS : va_S A H0 H locs) (q0 t0 : Nat) {b : Nat} {cA : ClassId} {n : Nat} {f : Nat → Int32} (ha : w[q0]? = some (b, .inl (cA, n, .inl f))) (ht : tys[t0]? = some (cA, .boolean)) {i x : Int32} (hin : vp_in i n) (hz : x = 0 ∨ x = 1) (hdg : decode cc pc = .ok (.bastore, 1))
    (kk : ∀ (H1 : Heap) (locs1 : List Loc), va_P D hq_cl (w.set q0 (b, .inl (cA, n, .inl (upd f i.toNatClampNeg x)))) H1 → va_D A (w.set q0 (b, .inl (cA, n, .inl (upd f i.toNatClampNeg x)))) → va_S A H0 H1 locs1 → W p l e R s m args below meth c H1 locs1 cells slots Q (F0 m (pc + 1) ls rest)) : W p l e R s m args below meth c H locs cells slots Q (F0 m pc ls (.int x :: .int i :: .ref b :: rest)) := by
  have hn : vp_nar .boolean x = x := by rcases hz with rfl | rfl <;> rfl
  refine va_zast hx hb hK hP hD hS q0 t0 ha ht hin hdg ?_
  rw [hn]
  exact kk
/-- references that may be null -/
theorem hq_app {w z : va_W} {n k : Nat} {e : Nat × va_E} (hl : w.length = n) (h : z[k]? = some e) : (w ++ z)[n + k]? = some e := by
  subst hl
  rw [List.getElem?_append_right (Nat.le_add_right _ _), Nat.add_sub_cancel_left]
  exact h
theorem hq_null (hx : p.tables.exec = Jvm.exec) (hb : c.code = cc) (hdg : decode cc pc = .ok (.aconst_null, 1)) (kk : W p l e R s m args below meth c H locs cells slots Q (F0 m (pc + 1) ls (va_rf none :: rest))) : W p l e R s m args below meth c H locs cells slots Q (F0 m pc ls rest) := lv_null hx hb hdg kk
theorem hq_aload_n (hx : p.tables.exec = Jvm.exec) (hb : c.code = cc) {k : Fin 4} {i : Nat} {r : Option Nat} (hdg : decode cc pc = .ok (.aload_n k, 1)) (hi : (k : Nat) = i) (hl : ls[i]? = some (.val (va_rf r)))
    (kk : W p l e R s m args below meth c H locs cells slots Q (F0 m (pc + 1) ls (va_rf r :: rest))) : W p l e R s m args below meth c H locs cells slots Q (F0 m pc ls rest) := by
  cases r with
  | none => exact lv_aload_nN hx hb hdg hi hl kk
  | some a => exact lv_aload_n hx hb hdg hi hl kk
theorem hq_aload (hx : p.tables.exec = Jvm.exec) (hb : c.code = cc) {i : Nat} {r : Option Nat} (hdg : decode cc pc = .ok (.aload i, 2)) (hl : ls[i]? = some (.val (va_rf r)))
    (kk : W p l e R s m args below meth c H locs cells slots Q (F0 m (pc + 2) ls (va_rf r :: rest))) : W p l e R s m args below meth c H locs cells slots Q (F0 m pc ls rest) := by
  cases r with
  | none => exact lv_aloadN hx hb hdg hl kk
  | some a => exact lv_aload hx hb hdg hl kk
theorem hq_astore_n (hx : p.tables.exec = Jvm.exec) (hb : c.code = cc) {k : Fin 4} {i nL : Nat} {r : Option Nat} {lv lv' : List (Nat × Value)} (hdg : decode cc pc = .ok (.astore_n k, 1)) (hi : (k : Nat) = i) (h : lv_has ls nL lv) (hn : i < nL) (hl : (i, va_rf r) :: lv.filter (fun q => !(q.1 == i) && !(q.1 + 1 == i && q.2.category == 2)) = lv')
    (kk : ∀ ls' : Array Slot, lv_has ls' nL lv' → W p l e R s m args below meth c H locs cells slots Q (F0 m (pc + 1) ls' rest)) : W p l e R s m args below meth c H locs cells slots Q (F0 m pc ls (va_rf r :: rest)) := by
  cases r with
  | none => exact lv_astore_nN hx hb hdg hi h hn hl kk
  | some a => exact lv_astore_n hx hb hdg hi h hn hl kk
theorem hq_astore (hx : p.tables.exec = Jvm.exec) (hb : c.code = cc) {i nL : Nat} {r : Option Nat} {lv lv' : List (Nat × Value)} (hdg : decode cc pc = .ok (.astore i, 2)) (h : lv_has ls nL lv) (hn : i < nL) (hl : (i, va_rf r) :: lv.filter (fun q => !(q.1 == i) && !(q.1 + 1 == i && q.2.category == 2)) = lv')
    (kk : ∀ ls' : Array Slot, lv_has ls' nL lv' → W p l e R s m args below meth c H locs cells slots Q (F0 m (pc + 2) ls' rest)) : W p l e R s m args below meth c H locs cells slots Q (F0 m pc ls (va_rf r :: rest)) := by
  cases r with
  | none => exact lv_astoreN hx hb hdg h hn hl kk
  | some a => exact lv_astore hx hb hdg h hn hl kk
theorem hq_ifnull (hx : p.tables.exec = Jvm.exec) (hb : c.code = cc) {r : Option Nat} {off : Int} {tgt : Nat} (hdg : decode cc pc = .ok (.ifnull off, 3)) (ht : (pc : Int) + off = (tgt : Int))
    (kt : r = none → W p l e R s m args below meth c H locs cells slots Q (F0 m tgt ls rest)) (kf : ¬ r = none → W p l e R s m args below meth c H locs cells slots Q (F0 m (pc + 3) ls rest)) : W p l e R s m args below meth c H locs cells slots Q (F0 m pc ls (va_rf r :: rest)) := by
  cases r with
  | none => exact lv_ifnullN hx hb hdg ht (kt rfl)
  | some a => exact lv_ifnull hx hb hdg (kf (fun h => by cases h))
theorem hq_ifnonnull (hx : p.tables.exec = Jvm.exec) (hb : c.code = cc) {r : Option Nat} {off : Int} {tgt : Nat} (hdg : decode cc pc = .ok (.ifnonnull off, 3)) (ht : (pc : Int) + off = (tgt : Int))
    (kt : r = none → W p l e R s m args below meth c H locs cells slots Q (F0 m (pc + 3) ls rest)) (kf : ¬ r = none → W p l e R s m args below meth c H locs cells slots Q (F0 m tgt ls rest)) : W p l e R s m args below meth c H locs cells slots Q (F0 m pc ls (va_rf r :: rest)) := by
  cases r with
  | none => exact lv_ifnonnullN hx hb hdg (kt rfl)
  | some a => exact lv_ifnonnull hx hb hdg ht (kf (fun h => by cases h))
theorem hq_aret {r : Option Nat} {C : String} (hx : p.tables.exec = Jvm.exec) (hb : c.code = cc) (hr : meth.sig.returnType = some (.object C)) (hlocks : meth.locks = false) (hQ : Q = MQ below (hq_Q D tys A w1 o) args s cells slots A) (hK : va_K D hq_cl tys s) (hP : va_P D hq_cl w H) (hD : va_D A w) (hS : va_S A s.heap H locs) (eo : o = some (va_rf r)) (ew : w1 = w) (hdg : decode cc pc = .ok (.areturn, 1)) :
    W p l e R s m args below meth c H locs cells slots Q (F0 m pc ls [va_rf r]) := by
  subst eo; subst ew; subst hQ
  exact W.aret hx hb hr (Or.inl ⟨C, rfl⟩) (by cases r with
    | none => exact Or.inl rfl
    | some a => exact Or.inr ⟨a, rfl⟩) (fun t ht hW => ⟨rfl, by rw [ht]; exact hP, va_K.moved hW.alike hK, hD, hS.F ht⟩) hS.2.2 hdg hlocks
end HQ
end
section
def hm_w (q : Nat → Nat) (cI cZ cL : ClassId) (f_classes : Int32) (a_parent : Nat → Int32) (f_objects : Int32) (a_kindOf : Nat → Int32) (a_size : Nat → Int32) (a_root : Nat → Int32) (a_slotKind : Nat → Int32) (a_slot : Nat → Int32) (a_kept : Nat → Int32) (f_count : Int32) (a_code : Nat → Int32) (a_number : Nat → Int32) (f_want : Int32) (f_compared : Int32) (f_open : Int32) (a_opened : Nat → Int32) (f_rowCount : Int32) (a_rowKind : Nat → Int32) (a_rowValue : Nat → Int32) (f_many : Int32) (a_list : Nat → Int32) (f_seen : Int32) (f_fail : Int32) (f_level : Int32) (a_from : Nat → Int32) (a_eAt : Nat → Int32) (a_whereAt : Nat → Int32) (a_source : Nat → Int32) (a_distinct : Nat → Int32) (a_keeps : Nat → Int32) (f_at : Int32) (f_self : Int32) (f_brackets : Int32) (f_values : Int32) (a_vKind : Nat → Int32) (a_v : Nat → Int32) (f_waiting : Int32) (a_waits : Nat → Int32) : va_W := [(q 0, .inr (0, [.int f_classes, .ref (q 1), .int f_objects, .ref (q 2), .ref (q 3), .ref (q 4), .ref (q 5), .ref (q 6), .ref (q 7), .int f_count, .ref (q 8), .ref (q 9), .int f_want, .int f_compared, .int f_open, .ref (q 10), .int f_rowCount, .ref (q 11), .ref (q 12), .int f_many, .ref (q 13), .int f_seen, .int f_fail, .int f_level, .ref (q 14), .ref (q 15), .ref (q 16), .ref (q 17), .ref (q 18), .ref (q 19), .int f_at, .int f_self, .int f_brackets, .int f_values, .ref (q 20), .ref (q 21), .int f_waiting, .ref (q 22)])), (q 1, .inl (cI, 8, .inl a_parent)), (q 2, .inl (cI, 24, .inl a_kindOf)), (q 3, .inl (cI, 24, .inl a_size)), (q 4, .inl (cZ, 24, .inl a_root)), (q 5, .inl (cI, 96, .inl a_slotKind)), (q 6, .inl (cI, 96, .inl a_slot)), (q 7, .inl (cI, 24, .inl a_kept)), (q 8, .inl (cI, 40, .inl a_code)), (q 9, .inl (cI, 40, .inl a_number)), (q 10, .inl (cI, 41, .inl a_opened)), (q 11, .inl (cI, 200, .inl a_rowKind)), (q 12, .inl (cI, 200, .inl a_rowValue)), (q 13, .inl (cI, 200, .inl a_list)), (q 14, .inl (cI, 41, .inl a_from)), (q 15, .inl (cI, 41, .inl a_eAt)), (q 16, .inl (cI, 41, .inl a_whereAt)), (q 17, .inl (cI, 41, .inl a_source)), (q 18, .inl (cZ, 41, .inl a_distinct)), (q 19, .inl (cZ, 41, .inl a_keeps)), (q 20, .inl (cI, 41, .inl a_vKind)), (q 21, .inl (cI, 41, .inl a_v)), (q 22, .inl (cI, 41, .inl a_waits))]
def hx_w (q : Nat → Nat) (cI cZ cL : ClassId) (xq_query : Option Nat) (ha_parents : Nat → Int32) (hf_classCount : Int32) (ha_classes : Nat → Int32) (ha_sizes : Nat → Int32) (ha_fields : Nat → Int64) (hf_objectCount : Int32) (hf_roots : Int32) (hf_changed : Int32) (sa_linkedFrom : Nat → Int32) (sa_linkCounts : Nat → Int32) (sa_retainedSets : Nat → Int32) (sa_retainedSizes : Nat → Int32) (sa_dominators : Nat → Int32) (sa_immediateDominators : Nat → Int32) (sf_objectCount : Int32) (sf_roots : Int32) (sf_reachable : Int32) (ta_codes : Nat → Int32) (ta_numbers : Nat → Int32) (tf_count : Int32) (ta_brackets : Nat → Int32) (tf_bracketCount : Int32) (tf_place : Int32) (tf_inWhere : Int32) (tf_compared : Int32) (wa_rows : Nat → Int64) (wf_count : Int32) (wf_looks : Int32) : va_W := [(q 0, .inr (1, [.ref (q 1), .ref (q 3), .ref (q 4), va_rf xq_query])), (q 1, .inr (2, [.ref (q 5), .int hf_classCount, .ref (q 6), .ref (q 7), .ref (q 8), .int hf_objectCount, .int hf_roots, .ref (q 2), .int hf_changed])), (q 2, .inr (3, [.ref (q 9), .ref (q 10), .ref (q 11), .ref (q 12), .ref (q 13), .ref (q 14), .int sf_objectCount, .int sf_roots, .int sf_reachable])), (q 3, .inr (4, [.ref (q 15), .ref (q 16), .int tf_count, .ref (q 17), .int tf_bracketCount, .int tf_place, .int tf_inWhere, .int tf_compared])), (q 4, .inr (5, [.ref (q 18), .int wf_count, .int wf_looks])), (q 5, .inl (cI, 8, .inl ha_parents)), (q 6, .inl (cI, 24, .inl ha_classes)), (q 7, .inl (cI, 24, .inl ha_sizes)), (q 8, .inl (cL, 96, .inr (.inl ha_fields))), (q 9, .inl (cI, 24, .inl sa_linkedFrom)), (q 10, .inl (cI, 24, .inl sa_linkCounts)), (q 11, .inl (cI, 24, .inl sa_retainedSets)), (q 12, .inl (cI, 24, .inl sa_retainedSizes)), (q 13, .inl (cI, 24, .inl sa_dominators)), (q 14, .inl (cI, 24, .inl sa_immediateDominators)), (q 15, .inl (cI, 40, .inl ta_codes)), (q 16, .inl (cI, 40, .inl ta_numbers)), (q 17, .inl (cI, 40, .inl ta_brackets)), (q 18, .inl (cL, 192, .inr (.inl wa_rows)))]
section
variable {p : Program} {l : Launch} {e : Env} {R : Room} {s : State} {m : MethodId} {args : Array Value} {below : List Frame} {meth : Method} {c : Code} {H H0 : Heap} {locs : List Loc} {cells slots : Nat} {Q : State → Prop}
variable {cc : ByteArray} {pc idx nC : Nat} {ls : Array Slot} {rest : List Value} {D : va_G} {A : Nat → Prop} {own : String} {q : Nat → Nat} {cI cZ cL : ClassId} {z w : va_W}
variable {f_classes f_objects f_count f_want f_compared f_open f_rowCount f_many f_seen f_fail f_level f_at f_self f_brackets f_values f_waiting : Int32}
variable {a_parent a_kindOf a_size a_root a_slotKind a_slot a_kept a_code a_number a_opened a_rowKind a_rowValue a_list a_from a_eAt a_whereAt a_source a_distinct a_keeps a_vKind a_v a_waits : Nat → Int32}
theorem gm_0_classes (hx : p.tables.exec = Jvm.exec) (hb : c.code = cc) (hts : ∀ x ∈ hq_tbl, x.before args s = true) (hown : s.vm.findClass own = some m.cls) (hK : va_K D hq_cl (hq_tys cI cZ cL) s) (hP : va_P D hq_cl (hm_w q cI cZ cL f_classes a_parent f_objects a_kindOf a_size a_root a_slotKind a_slot a_kept f_count a_code a_number f_want f_compared f_open a_opened f_rowCount a_rowKind a_rowValue f_many a_list f_seen f_fail f_level a_from a_eAt a_whereAt a_source a_distinct a_keeps f_at f_self f_brackets f_values a_vKind a_v f_waiting a_waits ++ z) H) (hw : Cond.fieldLink own idx "HeapQueriesModel" "classes" "I" ∈ hq_tbl) (hdg : decode cc pc = .ok (.getfield idx, 3)) (kk : W p l e R s m args below meth c H locs cells slots Q (F0 m (pc + 3) ls (.int f_classes :: rest))) : W p l e R s m args below meth c H locs cells slots Q (F0 m pc ls (.ref (q 0) :: rest)) :=
  va_get hx hb hts hin_m hown hK hP 0 rfl rfl 0 (by decide) (hts _ hw) (fun _ h9 => h9) rfl hdg kk
theorem pm_0_classes {v : Int32} (hx : p.tables.exec = Jvm.exec) (hb : c.code = cc) (hts : ∀ x ∈ hq_tbl, x.before args s = true) (hown : s.vm.findClass own = some m.cls) (hK : va_K D hq_cl (hq_tys cI cZ cL) s) (hP : va_P D hq_cl (hm_w q cI cZ cL f_classes a_parent f_objects a_kindOf a_size a_root a_slotKind a_slot a_kept f_count a_code a_number f_want f_compared f_open a_opened f_rowCount a_rowKind a_rowValue f_many a_list f_seen f_fail f_level a_from a_eAt a_whereAt a_source a_distinct a_keeps f_at f_self f_brackets f_values a_vKind a_v f_waiting a_waits ++ z) H) (hD : va_D A (hm_w q cI cZ cL f_classes a_parent f_objects a_kindOf a_size a_root a_slotKind a_slot a_kept f_count a_code a_number f_want f_compared f_open a_opened f_rowCount a_rowKind a_rowValue f_many a_list f_seen f_fail f_level a_from a_eAt a_whereAt a_source a_distinct a_keeps f_at f_self f_brackets f_values a_vKind a_v f_waiting a_waits ++ z)) (hS : va_S A H0 H locs) (hw : Cond.fieldLink own idx "HeapQueriesModel" "classes" "I" ∈ hq_tbl) (hdg : decode cc pc = .ok (.putfield idx, 3)) (kk : ∀ (H1 : Heap) (locs1 : List Loc), va_P D hq_cl (hm_w q cI cZ cL v a_parent f_objects a_kindOf a_size a_root a_slotKind a_slot a_kept f_count a_code a_number f_want f_compared f_open a_opened f_rowCount a_rowKind a_rowValue f_many a_list f_seen f_fail f_level a_from a_eAt a_whereAt a_source a_distinct a_keeps f_at f_self f_brackets f_values a_vKind a_v f_waiting a_waits ++ z) H1 → va_D A (hm_w q cI cZ cL v a_parent f_objects a_kindOf a_size a_root a_slotKind a_slot a_kept f_count a_code a_number f_want f_compared f_open a_opened f_rowCount a_rowKind a_rowValue f_many a_list f_seen f_fail f_level a_from a_eAt a_whereAt a_source a_distinct a_keeps f_at f_self f_brackets f_values a_vKind a_v f_waiting a_waits ++ z) → va_S A H0 H1 locs1 → W p l e R s m args below meth c H1 locs1 cells slots Q (F0 m (pc + 3) ls rest)) : W p l e R s m args below meth c H locs cells slots Q (F0 m pc ls (.int v :: .ref (q 0) :: rest)) :=
  va_put (ty := .int) hx hb hts hin_m hty_m hty_m_ok hnm_m hown hK hP hD hS 0 rfl rfl 0 (by decide) (hts _ hw) (fun _ h9 => h9) rfl (by decide +kernel) rfl rfl (Nat.le_of_ble_eq_true rfl) hdg kk
theorem gm_0_parent (hx : p.tables.exec = Jvm.exec) (hb : c.code = cc) (hts : ∀ x ∈ hq_tbl, x.before args s = true) (hown : s.vm.findClass own = some m.cls) (hK : va_K D hq_cl (hq_tys cI cZ cL) s) (hP : va_P D hq_cl (hm_w q cI cZ cL f_classes a_parent f_objects a_kindOf a_size a_root a_slotKind a_slot a_kept f_count a_code a_number f_want f_compared f_open a_opened f_rowCount a_rowKind a_rowValue f_many a_list f_seen f_fail f_level a_from a_eAt a_whereAt a_source a_distinct a_keeps f_at f_self f_brackets f_values a_vKind a_v f_waiting a_waits ++ z) H) (hw : Cond.fieldLink own idx "HeapQueriesModel" "parent" "[I" ∈ hq_tbl) (hdg : decode cc pc = .ok (.getfield idx, 3)) (kk : W p l e R s m args below meth c H locs cells slots Q (F0 m (pc + 3) ls (.ref (q 1) :: rest))) : W p l e R s m args below meth c H locs cells slots Q (F0 m pc ls (.ref (q 0) :: rest)) :=
  va_get hx hb hts hin_m hown hK hP 0 rfl rfl 1 (by decide) (hts _ hw) (fun _ h9 => h9) rfl hdg kk
theorem gm_0_objects (hx : p.tables.exec = Jvm.exec) (hb : c.code = cc) (hts : ∀ x ∈ hq_tbl, x.before args s = true) (hown : s.vm.findClass own = some m.cls) (hK : va_K D hq_cl (hq_tys cI cZ cL) s) (hP : va_P D hq_cl (hm_w q cI cZ cL f_classes a_parent f_objects a_kindOf a_size a_root a_slotKind a_slot a_kept f_count a_code a_number f_want f_compared f_open a_opened f_rowCount a_rowKind a_rowValue f_many a_list f_seen f_fail f_level a_from a_eAt a_whereAt a_source a_distinct a_keeps f_at f_self f_brackets f_values a_vKind a_v f_waiting a_waits ++ z) H) (hw : Cond.fieldLink own idx "HeapQueriesModel" "objects" "I" ∈ hq_tbl) (hdg : decode cc pc = .ok (.getfield idx, 3)) (kk : W p l e R s m args below meth c H locs cells slots Q (F0 m (pc + 3) ls (.int f_objects :: rest))) : W p l e R s m args below meth c H locs cells slots Q (F0 m pc ls (.ref (q 0) :: rest)) :=
  va_get hx hb hts hin_m hown hK hP 0 rfl rfl 2 (by decide) (hts _ hw) (fun _ h9 => h9) rfl hdg kk
theorem pm_0_objects {v : Int32} (hx : p.tables.exec = Jvm.exec) (hb : c.code = cc) (hts : ∀ x ∈ hq_tbl, x.before args s = true) (hown : s.vm.findClass own = some m.cls) (hK : va_K D hq_cl (hq_tys cI cZ cL) s) (hP : va_P D hq_cl (hm_w q cI cZ cL f_classes a_parent f_objects a_kindOf a_size a_root a_slotKind a_slot a_kept f_count a_code a_number f_want f_compared f_open a_opened f_rowCount a_rowKind a_rowValue f_many a_list f_seen f_fail f_level a_from a_eAt a_whereAt a_source a_distinct a_keeps f_at f_self f_brackets f_values a_vKind a_v f_waiting a_waits ++ z) H) (hD : va_D A (hm_w q cI cZ cL f_classes a_parent f_objects a_kindOf a_size a_root a_slotKind a_slot a_kept f_count a_code a_number f_want f_compared f_open a_opened f_rowCount a_rowKind a_rowValue f_many a_list f_seen f_fail f_level a_from a_eAt a_whereAt a_source a_distinct a_keeps f_at f_self f_brackets f_values a_vKind a_v f_waiting a_waits ++ z)) (hS : va_S A H0 H locs) (hw : Cond.fieldLink own idx "HeapQueriesModel" "objects" "I" ∈ hq_tbl) (hdg : decode cc pc = .ok (.putfield idx, 3)) (kk : ∀ (H1 : Heap) (locs1 : List Loc), va_P D hq_cl (hm_w q cI cZ cL f_classes a_parent v a_kindOf a_size a_root a_slotKind a_slot a_kept f_count a_code a_number f_want f_compared f_open a_opened f_rowCount a_rowKind a_rowValue f_many a_list f_seen f_fail f_level a_from a_eAt a_whereAt a_source a_distinct a_keeps f_at f_self f_brackets f_values a_vKind a_v f_waiting a_waits ++ z) H1 → va_D A (hm_w q cI cZ cL f_classes a_parent v a_kindOf a_size a_root a_slotKind a_slot a_kept f_count a_code a_number f_want f_compared f_open a_opened f_rowCount a_rowKind a_rowValue f_many a_list f_seen f_fail f_level a_from a_eAt a_whereAt a_source a_distinct a_keeps f_at f_self f_brackets f_values a_vKind a_v f_waiting a_waits ++ z) → va_S A H0 H1 locs1 → W p l e R s m args below meth c H1 locs1 cells slots Q (F0 m (pc + 3) ls rest)) : W p l e R s m args below meth c H locs cells slots Q (F0 m pc ls (.int v :: .ref (q 0) :: rest)) :=
  va_put (ty := .int) hx hb hts hin_m hty_m hty_m_ok hnm_m hown hK hP hD hS 0 rfl rfl 2 (by decide) (hts _ hw) (fun _ h9 => h9) rfl (by decide +kernel) rfl rfl (Nat.le_of_ble_eq_true rfl) hdg kk
theorem gm_0_kindOf (hx : p.tables.exec = Jvm.exec) (hb : c.code = cc) (hts : ∀ x ∈ hq_tbl, x.before args s = true) (hown : s.vm.findClass own = some m.cls) (hK : va_K D hq_cl (hq_tys cI cZ cL) s) (hP : va_P D hq_cl (hm_w q cI cZ cL f_classes a_parent f_objects a_kindOf a_size a_root a_slotKind a_slot a_kept f_count a_code a_number f_want f_compared f_open a_opened f_rowCount a_rowKind a_rowValue f_many a_list f_seen f_fail f_level a_from a_eAt a_whereAt a_source a_distinct a_keeps f_at f_self f_brackets f_values a_vKind a_v f_waiting a_waits ++ z) H) (hw : Cond.fieldLink own idx "HeapQueriesModel" "kindOf" "[I" ∈ hq_tbl) (hdg : decode cc pc = .ok (.getfield idx, 3)) (kk : W p l e R s m args below meth c H locs cells slots Q (F0 m (pc + 3) ls (.ref (q 2) :: rest))) : W p l e R s m args below meth c H locs cells slots Q (F0 m pc ls (.ref (q 0) :: rest)) :=
  va_get hx hb hts hin_m hown hK hP 0 rfl rfl 3 (by decide) (hts _ hw) (fun _ h9 => h9) rfl hdg kk
theorem gm_0_size (hx : p.tables.exec = Jvm.exec) (hb : c.code = cc) (hts : ∀ x ∈ hq_tbl, x.before args s = true) (hown : s.vm.findClass own = some m.cls) (hK : va_K D hq_cl (hq_tys cI cZ cL) s) (hP : va_P D hq_cl (hm_w q cI cZ cL f_classes a_parent f_objects a_kindOf a_size a_root a_slotKind a_slot a_kept f_count a_code a_number f_want f_compared f_open a_opened f_rowCount a_rowKind a_rowValue f_many a_list f_seen f_fail f_level a_from a_eAt a_whereAt a_source a_distinct a_keeps f_at f_self f_brackets f_values a_vKind a_v f_waiting a_waits ++ z) H) (hw : Cond.fieldLink own idx "HeapQueriesModel" "size" "[I" ∈ hq_tbl) (hdg : decode cc pc = .ok (.getfield idx, 3)) (kk : W p l e R s m args below meth c H locs cells slots Q (F0 m (pc + 3) ls (.ref (q 3) :: rest))) : W p l e R s m args below meth c H locs cells slots Q (F0 m pc ls (.ref (q 0) :: rest)) :=
  va_get hx hb hts hin_m hown hK hP 0 rfl rfl 4 (by decide) (hts _ hw) (fun _ h9 => h9) rfl hdg kk
theorem gm_0_root (hx : p.tables.exec = Jvm.exec) (hb : c.code = cc) (hts : ∀ x ∈ hq_tbl, x.before args s = true) (hown : s.vm.findClass own = some m.cls) (hK : va_K D hq_cl (hq_tys cI cZ cL) s) (hP : va_P D hq_cl (hm_w q cI cZ cL f_classes a_parent f_objects a_kindOf a_size a_root a_slotKind a_slot a_kept f_count a_code a_number f_want f_compared f_open a_opened f_rowCount a_rowKind a_rowValue f_many a_list f_seen f_fail f_level a_from a_eAt a_whereAt a_source a_distinct a_keeps f_at f_self f_brackets f_values a_vKind a_v f_waiting a_waits ++ z) H) (hw : Cond.fieldLink own idx "HeapQueriesModel" "root" "[Z" ∈ hq_tbl) (hdg : decode cc pc = .ok (.getfield idx, 3)) (kk : W p l e R s m args below meth c H locs cells slots Q (F0 m (pc + 3) ls (.ref (q 4) :: rest))) : W p l e R s m args below meth c H locs cells slots Q (F0 m pc ls (.ref (q 0) :: rest)) :=
  va_get hx hb hts hin_m hown hK hP 0 rfl rfl 5 (by decide) (hts _ hw) (fun _ h9 => h9) rfl hdg kk
theorem gm_0_slotKind (hx : p.tables.exec = Jvm.exec) (hb : c.code = cc) (hts : ∀ x ∈ hq_tbl, x.before args s = true) (hown : s.vm.findClass own = some m.cls) (hK : va_K D hq_cl (hq_tys cI cZ cL) s) (hP : va_P D hq_cl (hm_w q cI cZ cL f_classes a_parent f_objects a_kindOf a_size a_root a_slotKind a_slot a_kept f_count a_code a_number f_want f_compared f_open a_opened f_rowCount a_rowKind a_rowValue f_many a_list f_seen f_fail f_level a_from a_eAt a_whereAt a_source a_distinct a_keeps f_at f_self f_brackets f_values a_vKind a_v f_waiting a_waits ++ z) H) (hw : Cond.fieldLink own idx "HeapQueriesModel" "slotKind" "[I" ∈ hq_tbl) (hdg : decode cc pc = .ok (.getfield idx, 3)) (kk : W p l e R s m args below meth c H locs cells slots Q (F0 m (pc + 3) ls (.ref (q 5) :: rest))) : W p l e R s m args below meth c H locs cells slots Q (F0 m pc ls (.ref (q 0) :: rest)) :=
  va_get hx hb hts hin_m hown hK hP 0 rfl rfl 6 (by decide) (hts _ hw) (fun _ h9 => h9) rfl hdg kk
theorem gm_0_slot (hx : p.tables.exec = Jvm.exec) (hb : c.code = cc) (hts : ∀ x ∈ hq_tbl, x.before args s = true) (hown : s.vm.findClass own = some m.cls) (hK : va_K D hq_cl (hq_tys cI cZ cL) s) (hP : va_P D hq_cl (hm_w q cI cZ cL f_classes a_parent f_objects a_kindOf a_size a_root a_slotKind a_slot a_kept f_count a_code a_number f_want f_compared f_open a_opened f_rowCount a_rowKind a_rowValue f_many a_list f_seen f_fail f_level a_from a_eAt a_whereAt a_source a_distinct a_keeps f_at f_self f_brackets f_values a_vKind a_v f_waiting a_waits ++ z) H) (hw : Cond.fieldLink own idx "HeapQueriesModel" "slot" "[I" ∈ hq_tbl) (hdg : decode cc pc = .ok (.getfield idx, 3)) (kk : W p l e R s m args below meth c H locs cells slots Q (F0 m (pc + 3) ls (.ref (q 6) :: rest))) : W p l e R s m args below meth c H locs cells slots Q (F0 m pc ls (.ref (q 0) :: rest)) :=
  va_get hx hb hts hin_m hown hK hP 0 rfl rfl 7 (by decide) (hts _ hw) (fun _ h9 => h9) rfl hdg kk
theorem gm_0_kept (hx : p.tables.exec = Jvm.exec) (hb : c.code = cc) (hts : ∀ x ∈ hq_tbl, x.before args s = true) (hown : s.vm.findClass own = some m.cls) (hK : va_K D hq_cl (hq_tys cI cZ cL) s) (hP : va_P D hq_cl (hm_w q cI cZ cL f_classes a_parent f_objects a_kindOf a_size a_root a_slotKind a_slot a_kept f_count a_code a_number f_want f_compared f_open a_opened f_rowCount a_rowKind a_rowValue f_many a_list f_seen f_fail f_level a_from a_eAt a_whereAt a_source a_distinct a_keeps f_at f_self f_brackets f_values a_vKind a_v f_waiting a_waits ++ z) H) (hw : Cond.fieldLink own idx "HeapQueriesModel" "kept" "[I" ∈ hq_tbl) (hdg : decode cc pc = .ok (.getfield idx, 3)) (kk : W p l e R s m args below meth c H locs cells slots Q (F0 m (pc + 3) ls (.ref (q 7) :: rest))) : W p l e R s m args below meth c H locs cells slots Q (F0 m pc ls (.ref (q 0) :: rest)) :=
  va_get hx hb hts hin_m hown hK hP 0 rfl rfl 8 (by decide) (hts _ hw) (fun _ h9 => h9) rfl hdg kk
theorem gm_0_count (hx : p.tables.exec = Jvm.exec) (hb : c.code = cc) (hts : ∀ x ∈ hq_tbl, x.before args s = true) (hown : s.vm.findClass own = some m.cls) (hK : va_K D hq_cl (hq_tys cI cZ cL) s) (hP : va_P D hq_cl (hm_w q cI cZ cL f_classes a_parent f_objects a_kindOf a_size a_root a_slotKind a_slot a_kept f_count a_code a_number f_want f_compared f_open a_opened f_rowCount a_rowKind a_rowValue f_many a_list f_seen f_fail f_level a_from a_eAt a_whereAt a_source a_distinct a_keeps f_at f_self f_brackets f_values a_vKind a_v f_waiting a_waits ++ z) H) (hw : Cond.fieldLink own idx "HeapQueriesModel" "count" "I" ∈ hq_tbl) (hdg : decode cc pc = .ok (.getfield idx, 3)) (kk : W p l e R s m args below meth c H locs cells slots Q (F0 m (pc + 3) ls (.int f_count :: rest))) : W p l e R s m args below meth c H locs cells slots Q (F0 m pc ls (.ref (q 0) :: rest)) :=
  va_get hx hb hts hin_m hown hK hP 0 rfl rfl 9 (by decide) (hts _ hw) (fun _ h9 => h9) rfl hdg kk
theorem pm_0_count {v : Int32} (hx : p.tables.exec = Jvm.exec) (hb : c.code = cc) (hts : ∀ x ∈ hq_tbl, x.before args s = true) (hown : s.vm.findClass own = some m.cls) (hK : va_K D hq_cl (hq_tys cI cZ cL) s) (hP : va_P D hq_cl (hm_w q cI cZ cL f_classes a_parent f_objects a_kindOf a_size a_root a_slotKind a_slot a_kept f_count a_code a_number f_want f_compared f_open a_opened f_rowCount a_rowKind a_rowValue f_many a_list f_seen f_fail f_level a_from a_eAt a_whereAt a_source a_distinct a_keeps f_at f_self f_brackets f_values a_vKind a_v f_waiting a_waits ++ z) H) (hD : va_D A (hm_w q cI cZ cL f_classes a_parent f_objects a_kindOf a_size a_root a_slotKind a_slot a_kept f_count a_code a_number f_want f_compared f_open a_opened f_rowCount a_rowKind a_rowValue f_many a_list f_seen f_fail f_level a_from a_eAt a_whereAt a_source a_distinct a_keeps f_at f_self f_brackets f_values a_vKind a_v f_waiting a_waits ++ z)) (hS : va_S A H0 H locs) (hw : Cond.fieldLink own idx "HeapQueriesModel" "count" "I" ∈ hq_tbl) (hdg : decode cc pc = .ok (.putfield idx, 3)) (kk : ∀ (H1 : Heap) (locs1 : List Loc), va_P D hq_cl (hm_w q cI cZ cL f_classes a_parent f_objects a_kindOf a_size a_root a_slotKind a_slot a_kept v a_code a_number f_want f_compared f_open a_opened f_rowCount a_rowKind a_rowValue f_many a_list f_seen f_fail f_level a_from a_eAt a_whereAt a_source a_distinct a_keeps f_at f_self f_brackets f_values a_vKind a_v f_waiting a_waits ++ z) H1 → va_D A (hm_w q cI cZ cL f_classes a_parent f_objects a_kindOf a_size a_root a_slotKind a_slot a_kept v a_code a_number f_want f_compared f_open a_opened f_rowCount a_rowKind a_rowValue f_many a_list f_seen f_fail f_level a_from a_eAt a_whereAt a_source a_distinct a_keeps f_at f_self f_brackets f_values a_vKind a_v f_waiting a_waits ++ z) → va_S A H0 H1 locs1 → W p l e R s m args below meth c H1 locs1 cells slots Q (F0 m (pc + 3) ls rest)) : W p l e R s m args below meth c H locs cells slots Q (F0 m pc ls (.int v :: .ref (q 0) :: rest)) :=
  va_put (ty := .int) hx hb hts hin_m hty_m hty_m_ok hnm_m hown hK hP hD hS 0 rfl rfl 9 (by decide) (hts _ hw) (fun _ h9 => h9) rfl (by decide +kernel) rfl rfl (Nat.le_of_ble_eq_true rfl) hdg kk
theorem gm_0_code (hx : p.tables.exec = Jvm.exec) (hb : c.code = cc) (hts : ∀ x ∈ hq_tbl, x.before args s = true) (hown : s.vm.findClass own = some m.cls) (hK : va_K D hq_cl (hq_tys cI cZ cL) s) (hP : va_P D hq_cl (hm_w q cI cZ cL f_classes a_parent f_objects a_kindOf a_size a_root a_slotKind a_slot a_kept f_count a_code a_number f_want f_compared f_open a_opened f_rowCount a_rowKind a_rowValue f_many a_list f_seen f_fail f_level a_from a_eAt a_whereAt a_source a_distinct a_keeps f_at f_self f_brackets f_values a_vKind a_v f_waiting a_waits ++ z) H) (hw : Cond.fieldLink own idx "HeapQueriesModel" "code" "[I" ∈ hq_tbl) (hdg : decode cc pc = .ok (.getfield idx, 3)) (kk : W p l e R s m args below meth c H locs cells slots Q (F0 m (pc + 3) ls (.ref (q 8) :: rest))) : W p l e R s m args below meth c H locs cells slots Q (F0 m pc ls (.ref (q 0) :: rest)) :=
  va_get hx hb hts hin_m hown hK hP 0 rfl rfl 10 (by decide) (hts _ hw) (fun _ h9 => h9) rfl hdg kk
theorem gm_0_number (hx : p.tables.exec = Jvm.exec) (hb : c.code = cc) (hts : ∀ x ∈ hq_tbl, x.before args s = true) (hown : s.vm.findClass own = some m.cls) (hK : va_K D hq_cl (hq_tys cI cZ cL) s) (hP : va_P D hq_cl (hm_w q cI cZ cL f_classes a_parent f_objects a_kindOf a_size a_root a_slotKind a_slot a_kept f_count a_code a_number f_want f_compared f_open a_opened f_rowCount a_rowKind a_rowValue f_many a_list f_seen f_fail f_level a_from a_eAt a_whereAt a_source a_distinct a_keeps f_at f_self f_brackets f_values a_vKind a_v f_waiting a_waits ++ z) H) (hw : Cond.fieldLink own idx "HeapQueriesModel" "number" "[I" ∈ hq_tbl) (hdg : decode cc pc = .ok (.getfield idx, 3)) (kk : W p l e R s m args below meth c H locs cells slots Q (F0 m (pc + 3) ls (.ref (q 9) :: rest))) : W p l e R s m args below meth c H locs cells slots Q (F0 m pc ls (.ref (q 0) :: rest)) :=
  va_get hx hb hts hin_m hown hK hP 0 rfl rfl 11 (by decide) (hts _ hw) (fun _ h9 => h9) rfl hdg kk
theorem gm_0_want (hx : p.tables.exec = Jvm.exec) (hb : c.code = cc) (hts : ∀ x ∈ hq_tbl, x.before args s = true) (hown : s.vm.findClass own = some m.cls) (hK : va_K D hq_cl (hq_tys cI cZ cL) s) (hP : va_P D hq_cl (hm_w q cI cZ cL f_classes a_parent f_objects a_kindOf a_size a_root a_slotKind a_slot a_kept f_count a_code a_number f_want f_compared f_open a_opened f_rowCount a_rowKind a_rowValue f_many a_list f_seen f_fail f_level a_from a_eAt a_whereAt a_source a_distinct a_keeps f_at f_self f_brackets f_values a_vKind a_v f_waiting a_waits ++ z) H) (hw : Cond.fieldLink own idx "HeapQueriesModel" "want" "I" ∈ hq_tbl) (hdg : decode cc pc = .ok (.getfield idx, 3)) (kk : W p l e R s m args below meth c H locs cells slots Q (F0 m (pc + 3) ls (.int f_want :: rest))) : W p l e R s m args below meth c H locs cells slots Q (F0 m pc ls (.ref (q 0) :: rest)) :=
  va_get hx hb hts hin_m hown hK hP 0 rfl rfl 12 (by decide) (hts _ hw) (fun _ h9 => h9) rfl hdg kk
theorem pm_0_want {v : Int32} (hx : p.tables.exec = Jvm.exec) (hb : c.code = cc) (hts : ∀ x ∈ hq_tbl, x.before args s = true) (hown : s.vm.findClass own = some m.cls) (hK : va_K D hq_cl (hq_tys cI cZ cL) s) (hP : va_P D hq_cl (hm_w q cI cZ cL f_classes a_parent f_objects a_kindOf a_size a_root a_slotKind a_slot a_kept f_count a_code a_number f_want f_compared f_open a_opened f_rowCount a_rowKind a_rowValue f_many a_list f_seen f_fail f_level a_from a_eAt a_whereAt a_source a_distinct a_keeps f_at f_self f_brackets f_values a_vKind a_v f_waiting a_waits ++ z) H) (hD : va_D A (hm_w q cI cZ cL f_classes a_parent f_objects a_kindOf a_size a_root a_slotKind a_slot a_kept f_count a_code a_number f_want f_compared f_open a_opened f_rowCount a_rowKind a_rowValue f_many a_list f_seen f_fail f_level a_from a_eAt a_whereAt a_source a_distinct a_keeps f_at f_self f_brackets f_values a_vKind a_v f_waiting a_waits ++ z)) (hS : va_S A H0 H locs) (hw : Cond.fieldLink own idx "HeapQueriesModel" "want" "I" ∈ hq_tbl) (hdg : decode cc pc = .ok (.putfield idx, 3)) (kk : ∀ (H1 : Heap) (locs1 : List Loc), va_P D hq_cl (hm_w q cI cZ cL f_classes a_parent f_objects a_kindOf a_size a_root a_slotKind a_slot a_kept f_count a_code a_number v f_compared f_open a_opened f_rowCount a_rowKind a_rowValue f_many a_list f_seen f_fail f_level a_from a_eAt a_whereAt a_source a_distinct a_keeps f_at f_self f_brackets f_values a_vKind a_v f_waiting a_waits ++ z) H1 → va_D A (hm_w q cI cZ cL f_classes a_parent f_objects a_kindOf a_size a_root a_slotKind a_slot a_kept f_count a_code a_number v f_compared f_open a_opened f_rowCount a_rowKind a_rowValue f_many a_list f_seen f_fail f_level a_from a_eAt a_whereAt a_source a_distinct a_keeps f_at f_self f_brackets f_values a_vKind a_v f_waiting a_waits ++ z) → va_S A H0 H1 locs1 → W p l e R s m args below meth c H1 locs1 cells slots Q (F0 m (pc + 3) ls rest)) : W p l e R s m args below meth c H locs cells slots Q (F0 m pc ls (.int v :: .ref (q 0) :: rest)) :=
  va_put (ty := .int) hx hb hts hin_m hty_m hty_m_ok hnm_m hown hK hP hD hS 0 rfl rfl 12 (by decide) (hts _ hw) (fun _ h9 => h9) rfl (by decide +kernel) rfl rfl (Nat.le_of_ble_eq_true rfl) hdg kk
theorem gm_0_compared (hx : p.tables.exec = Jvm.exec) (hb : c.code = cc) (hts : ∀ x ∈ hq_tbl, x.before args s = true) (hown : s.vm.findClass own = some m.cls) (hK : va_K D hq_cl (hq_tys cI cZ cL) s) (hP : va_P D hq_cl (hm_w q cI cZ cL f_classes a_parent f_objects a_kindOf a_size a_root a_slotKind a_slot a_kept f_count a_code a_number f_want f_compared f_open a_opened f_rowCount a_rowKind a_rowValue f_many a_list f_seen f_fail f_level a_from a_eAt a_whereAt a_source a_distinct a_keeps f_at f_self f_brackets f_values a_vKind a_v f_waiting a_waits ++ z) H) (hw : Cond.fieldLink own idx "HeapQueriesModel" "compared" "Z" ∈ hq_tbl) (hdg : decode cc pc = .ok (.getfield idx, 3)) (kk : W p l e R s m args below meth c H locs cells slots Q (F0 m (pc + 3) ls (.int f_compared :: rest))) : W p l e R s m args below meth c H locs cells slots Q (F0 m pc ls (.ref (q 0) :: rest)) :=
  va_get hx hb hts hin_m hown hK hP 0 rfl rfl 13 (by decide) (hts _ hw) (fun _ h9 => h9) rfl hdg kk
theorem pm_0_compared {v : Int32} (hx : p.tables.exec = Jvm.exec) (hb : c.code = cc) (hts : ∀ x ∈ hq_tbl, x.before args s = true) (hown : s.vm.findClass own = some m.cls) (hK : va_K D hq_cl (hq_tys cI cZ cL) s) (hP : va_P D hq_cl (hm_w q cI cZ cL f_classes a_parent f_objects a_kindOf a_size a_root a_slotKind a_slot a_kept f_count a_code a_number f_want f_compared f_open a_opened f_rowCount a_rowKind a_rowValue f_many a_list f_seen f_fail f_level a_from a_eAt a_whereAt a_source a_distinct a_keeps f_at f_self f_brackets f_values a_vKind a_v f_waiting a_waits ++ z) H) (hD : va_D A (hm_w q cI cZ cL f_classes a_parent f_objects a_kindOf a_size a_root a_slotKind a_slot a_kept f_count a_code a_number f_want f_compared f_open a_opened f_rowCount a_rowKind a_rowValue f_many a_list f_seen f_fail f_level a_from a_eAt a_whereAt a_source a_distinct a_keeps f_at f_self f_brackets f_values a_vKind a_v f_waiting a_waits ++ z)) (hS : va_S A H0 H locs) (hw : Cond.fieldLink own idx "HeapQueriesModel" "compared" "Z" ∈ hq_tbl) (hz : v = 0 ∨ v = 1) (hdg : decode cc pc = .ok (.putfield idx, 3)) (kk : ∀ (H1 : Heap) (locs1 : List Loc), va_P D hq_cl (hm_w q cI cZ cL f_classes a_parent f_objects a_kindOf a_size a_root a_slotKind a_slot a_kept f_count a_code a_number f_want v f_open a_opened f_rowCount a_rowKind a_rowValue f_many a_list f_seen f_fail f_level a_from a_eAt a_whereAt a_source a_distinct a_keeps f_at f_self f_brackets f_values a_vKind a_v f_waiting a_waits ++ z) H1 → va_D A (hm_w q cI cZ cL f_classes a_parent f_objects a_kindOf a_size a_root a_slotKind a_slot a_kept f_count a_code a_number f_want v f_open a_opened f_rowCount a_rowKind a_rowValue f_many a_list f_seen f_fail f_level a_from a_eAt a_whereAt a_source a_distinct a_keeps f_at f_self f_brackets f_values a_vKind a_v f_waiting a_waits ++ z) → va_S A H0 H1 locs1 → W p l e R s m args below meth c H1 locs1 cells slots Q (F0 m (pc + 3) ls rest)) : W p l e R s m args below meth c H locs cells slots Q (F0 m pc ls (.int v :: .ref (q 0) :: rest)) :=
  va_put (ty := .boolean) hx hb hts hin_m hty_m hty_m_ok hnm_m hown hK hP hD hS 0 rfl rfl 13 (by decide) (hts _ hw) (fun _ h9 => h9) rfl (by decide +kernel) (by rcases hz with rfl | rfl <;> rfl) (by rcases hz with rfl | rfl <;> rfl) (Nat.le_of_ble_eq_true rfl) hdg kk
theorem gm_0_open (hx : p.tables.exec = Jvm.exec) (hb : c.code = cc) (hts : ∀ x ∈ hq_tbl, x.before args s = true) (hown : s.vm.findClass own = some m.cls) (hK : va_K D hq_cl (hq_tys cI cZ cL) s) (hP : va_P D hq_cl (hm_w q cI cZ cL f_classes a_parent f_objects a_kindOf a_size a_root a_slotKind a_slot a_kept f_count a_code a_number f_want f_compared f_open a_opened f_rowCount a_rowKind a_rowValue f_many a_list f_seen f_fail f_level a_from a_eAt a_whereAt a_source a_distinct a_keeps f_at f_self f_brackets f_values a_vKind a_v f_waiting a_waits ++ z) H) (hw : Cond.fieldLink own idx "HeapQueriesModel" "open" "I" ∈ hq_tbl) (hdg : decode cc pc = .ok (.getfield idx, 3)) (kk : W p l e R s m args below meth c H locs cells slots Q (F0 m (pc + 3) ls (.int f_open :: rest))) : W p l e R s m args below meth c H locs cells slots Q (F0 m pc ls (.ref (q 0) :: rest)) :=
  va_get hx hb hts hin_m hown hK hP 0 rfl rfl 14 (by decide) (hts _ hw) (fun _ h9 => h9) rfl hdg kk
theorem pm_0_open {v : Int32} (hx : p.tables.exec = Jvm.exec) (hb : c.code = cc) (hts : ∀ x ∈ hq_tbl, x.before args s = true) (hown : s.vm.findClass own = some m.cls) (hK : va_K D hq_cl (hq_tys cI cZ cL) s) (hP : va_P D hq_cl (hm_w q cI cZ cL f_classes a_parent f_objects a_kindOf a_size a_root a_slotKind a_slot a_kept f_count a_code a_number f_want f_compared f_open a_opened f_rowCount a_rowKind a_rowValue f_many a_list f_seen f_fail f_level a_from a_eAt a_whereAt a_source a_distinct a_keeps f_at f_self f_brackets f_values a_vKind a_v f_waiting a_waits ++ z) H) (hD : va_D A (hm_w q cI cZ cL f_classes a_parent f_objects a_kindOf a_size a_root a_slotKind a_slot a_kept f_count a_code a_number f_want f_compared f_open a_opened f_rowCount a_rowKind a_rowValue f_many a_list f_seen f_fail f_level a_from a_eAt a_whereAt a_source a_distinct a_keeps f_at f_self f_brackets f_values a_vKind a_v f_waiting a_waits ++ z)) (hS : va_S A H0 H locs) (hw : Cond.fieldLink own idx "HeapQueriesModel" "open" "I" ∈ hq_tbl) (hdg : decode cc pc = .ok (.putfield idx, 3)) (kk : ∀ (H1 : Heap) (locs1 : List Loc), va_P D hq_cl (hm_w q cI cZ cL f_classes a_parent f_objects a_kindOf a_size a_root a_slotKind a_slot a_kept f_count a_code a_number f_want f_compared v a_opened f_rowCount a_rowKind a_rowValue f_many a_list f_seen f_fail f_level a_from a_eAt a_whereAt a_source a_distinct a_keeps f_at f_self f_brackets f_values a_vKind a_v f_waiting a_waits ++ z) H1 → va_D A (hm_w q cI cZ cL f_classes a_parent f_objects a_kindOf a_size a_root a_slotKind a_slot a_kept f_count a_code a_number f_want f_compared v a_opened f_rowCount a_rowKind a_rowValue f_many a_list f_seen f_fail f_level a_from a_eAt a_whereAt a_source a_distinct a_keeps f_at f_self f_brackets f_values a_vKind a_v f_waiting a_waits ++ z) → va_S A H0 H1 locs1 → W p l e R s m args below meth c H1 locs1 cells slots Q (F0 m (pc + 3) ls rest)) : W p l e R s m args below meth c H locs cells slots Q (F0 m pc ls (.int v :: .ref (q 0) :: rest)) :=
  va_put (ty := .int) hx hb hts hin_m hty_m hty_m_ok hnm_m hown hK hP hD hS 0 rfl rfl 14 (by decide) (hts _ hw) (fun _ h9 => h9) rfl (by decide +kernel) rfl rfl (Nat.le_of_ble_eq_true rfl) hdg kk
theorem gm_0_opened (hx : p.tables.exec = Jvm.exec) (hb : c.code = cc) (hts : ∀ x ∈ hq_tbl, x.before args s = true) (hown : s.vm.findClass own = some m.cls) (hK : va_K D hq_cl (hq_tys cI cZ cL) s) (hP : va_P D hq_cl (hm_w q cI cZ cL f_classes a_parent f_objects a_kindOf a_size a_root a_slotKind a_slot a_kept f_count a_code a_number f_want f_compared f_open a_opened f_rowCount a_rowKind a_rowValue f_many a_list f_seen f_fail f_level a_from a_eAt a_whereAt a_source a_distinct a_keeps f_at f_self f_brackets f_values a_vKind a_v f_waiting a_waits ++ z) H) (hw : Cond.fieldLink own idx "HeapQueriesModel" "opened" "[I" ∈ hq_tbl) (hdg : decode cc pc = .ok (.getfield idx, 3)) (kk : W p l e R s m args below meth c H locs cells slots Q (F0 m (pc + 3) ls (.ref (q 10) :: rest))) : W p l e R s m args below meth c H locs cells slots Q (F0 m pc ls (.ref (q 0) :: rest)) :=
  va_get hx hb hts hin_m hown hK hP 0 rfl rfl 15 (by decide) (hts _ hw) (fun _ h9 => h9) rfl hdg kk
theorem gm_0_rowCount (hx : p.tables.exec = Jvm.exec) (hb : c.code = cc) (hts : ∀ x ∈ hq_tbl, x.before args s = true) (hown : s.vm.findClass own = some m.cls) (hK : va_K D hq_cl (hq_tys cI cZ cL) s) (hP : va_P D hq_cl (hm_w q cI cZ cL f_classes a_parent f_objects a_kindOf a_size a_root a_slotKind a_slot a_kept f_count a_code a_number f_want f_compared f_open a_opened f_rowCount a_rowKind a_rowValue f_many a_list f_seen f_fail f_level a_from a_eAt a_whereAt a_source a_distinct a_keeps f_at f_self f_brackets f_values a_vKind a_v f_waiting a_waits ++ z) H) (hw : Cond.fieldLink own idx "HeapQueriesModel" "rowCount" "I" ∈ hq_tbl) (hdg : decode cc pc = .ok (.getfield idx, 3)) (kk : W p l e R s m args below meth c H locs cells slots Q (F0 m (pc + 3) ls (.int f_rowCount :: rest))) : W p l e R s m args below meth c H locs cells slots Q (F0 m pc ls (.ref (q 0) :: rest)) :=
  va_get hx hb hts hin_m hown hK hP 0 rfl rfl 16 (by decide) (hts _ hw) (fun _ h9 => h9) rfl hdg kk
theorem pm_0_rowCount {v : Int32} (hx : p.tables.exec = Jvm.exec) (hb : c.code = cc) (hts : ∀ x ∈ hq_tbl, x.before args s = true) (hown : s.vm.findClass own = some m.cls) (hK : va_K D hq_cl (hq_tys cI cZ cL) s) (hP : va_P D hq_cl (hm_w q cI cZ cL f_classes a_parent f_objects a_kindOf a_size a_root a_slotKind a_slot a_kept f_count a_code a_number f_want f_compared f_open a_opened f_rowCount a_rowKind a_rowValue f_many a_list f_seen f_fail f_level a_from a_eAt a_whereAt a_source a_distinct a_keeps f_at f_self f_brackets f_values a_vKind a_v f_waiting a_waits ++ z) H) (hD : va_D A (hm_w q cI cZ cL f_classes a_parent f_objects a_kindOf a_size a_root a_slotKind a_slot a_kept f_count a_code a_number f_want f_compared f_open a_opened f_rowCount a_rowKind a_rowValue f_many a_list f_seen f_fail f_level a_from a_eAt a_whereAt a_source a_distinct a_keeps f_at f_self f_brackets f_values a_vKind a_v f_waiting a_waits ++ z)) (hS : va_S A H0 H locs) (hw : Cond.fieldLink own idx "HeapQueriesModel" "rowCount" "I" ∈ hq_tbl) (hdg : decode cc pc = .ok (.putfield idx, 3)) (kk : ∀ (H1 : Heap) (locs1 : List Loc), va_P D hq_cl (hm_w q cI cZ cL f_classes a_parent f_objects a_kindOf a_size a_root a_slotKind a_slot a_kept f_count a_code a_number f_want f_compared f_open a_opened v a_rowKind a_rowValue f_many a_list f_seen f_fail f_level a_from a_eAt a_whereAt a_source a_distinct a_keeps f_at f_self f_brackets f_values a_vKind a_v f_waiting a_waits ++ z) H1 → va_D A (hm_w q cI cZ cL f_classes a_parent f_objects a_kindOf a_size a_root a_slotKind a_slot a_kept f_count a_code a_number f_want f_compared f_open a_opened v a_rowKind a_rowValue f_many a_list f_seen f_fail f_level a_from a_eAt a_whereAt a_source a_distinct a_keeps f_at f_self f_brackets f_values a_vKind a_v f_waiting a_waits ++ z) → va_S A H0 H1 locs1 → W p l e R s m args below meth c H1 locs1 cells slots Q (F0 m (pc + 3) ls rest)) : W p l e R s m args below meth c H locs cells slots Q (F0 m pc ls (.int v :: .ref (q 0) :: rest)) :=
  va_put (ty := .int) hx hb hts hin_m hty_m hty_m_ok hnm_m hown hK hP hD hS 0 rfl rfl 16 (by decide) (hts _ hw) (fun _ h9 => h9) rfl (by decide +kernel) rfl rfl (Nat.le_of_ble_eq_true rfl) hdg kk
theorem gm_0_rowKind (hx : p.tables.exec = Jvm.exec) (hb : c.code = cc) (hts : ∀ x ∈ hq_tbl, x.before args s = true) (hown : s.vm.findClass own = some m.cls) (hK : va_K D hq_cl (hq_tys cI cZ cL) s) (hP : va_P D hq_cl (hm_w q cI cZ cL f_classes a_parent f_objects a_kindOf a_size a_root a_slotKind a_slot a_kept f_count a_code a_number f_want f_compared f_open a_opened f_rowCount a_rowKind a_rowValue f_many a_list f_seen f_fail f_level a_from a_eAt a_whereAt a_source a_distinct a_keeps f_at f_self f_brackets f_values a_vKind a_v f_waiting a_waits ++ z) H) (hw : Cond.fieldLink own idx "HeapQueriesModel" "rowKind" "[I" ∈ hq_tbl) (hdg : decode cc pc = .ok (.getfield idx, 3)) (kk : W p l e R s m args below meth c H locs cells slots Q (F0 m (pc + 3) ls (.ref (q 11) :: rest))) : W p l e R s m args below meth c H locs cells slots Q (F0 m pc ls (.ref (q 0) :: rest)) :=
  va_get hx hb hts hin_m hown hK hP 0 rfl rfl 17 (by decide) (hts _ hw) (fun _ h9 => h9) rfl hdg kk
theorem gm_0_rowValue (hx : p.tables.exec = Jvm.exec) (hb : c.code = cc) (hts : ∀ x ∈ hq_tbl, x.before args s = true) (hown : s.vm.findClass own = some m.cls) (hK : va_K D hq_cl (hq_tys cI cZ cL) s) (hP : va_P D hq_cl (hm_w q cI cZ cL f_classes a_parent f_objects a_kindOf a_size a_root a_slotKind a_slot a_kept f_count a_code a_number f_want f_compared f_open a_opened f_rowCount a_rowKind a_rowValue f_many a_list f_seen f_fail f_level a_from a_eAt a_whereAt a_source a_distinct a_keeps f_at f_self f_brackets f_values a_vKind a_v f_waiting a_waits ++ z) H) (hw : Cond.fieldLink own idx "HeapQueriesModel" "rowValue" "[I" ∈ hq_tbl) (hdg : decode cc pc = .ok (.getfield idx, 3)) (kk : W p l e R s m args below meth c H locs cells slots Q (F0 m (pc + 3) ls (.ref (q 12) :: rest))) : W p l e R s m args below meth c H locs cells slots Q (F0 m pc ls (.ref (q 0) :: rest)) :=
  va_get hx hb hts hin_m hown hK hP 0 rfl rfl 18 (by decide) (hts _ hw) (fun _ h9 => h9) rfl hdg kk
theorem gm_0_many (hx : p.tables.exec = Jvm.exec) (hb : c.code = cc) (hts : ∀ x ∈ hq_tbl, x.before args s = true) (hown : s.vm.findClass own = some m.cls) (hK : va_K D hq_cl (hq_tys cI cZ cL) s) (hP : va_P D hq_cl (hm_w q cI cZ cL f_classes a_parent f_objects a_kindOf a_size a_root a_slotKind a_slot a_kept f_count a_code a_number f_want f_compared f_open a_opened f_rowCount a_rowKind a_rowValue f_many a_list f_seen f_fail f_level a_from a_eAt a_whereAt a_source a_distinct a_keeps f_at f_self f_brackets f_values a_vKind a_v f_waiting a_waits ++ z) H) (hw : Cond.fieldLink own idx "HeapQueriesModel" "many" "I" ∈ hq_tbl) (hdg : decode cc pc = .ok (.getfield idx, 3)) (kk : W p l e R s m args below meth c H locs cells slots Q (F0 m (pc + 3) ls (.int f_many :: rest))) : W p l e R s m args below meth c H locs cells slots Q (F0 m pc ls (.ref (q 0) :: rest)) :=
  va_get hx hb hts hin_m hown hK hP 0 rfl rfl 19 (by decide) (hts _ hw) (fun _ h9 => h9) rfl hdg kk
theorem pm_0_many {v : Int32} (hx : p.tables.exec = Jvm.exec) (hb : c.code = cc) (hts : ∀ x ∈ hq_tbl, x.before args s = true) (hown : s.vm.findClass own = some m.cls) (hK : va_K D hq_cl (hq_tys cI cZ cL) s) (hP : va_P D hq_cl (hm_w q cI cZ cL f_classes a_parent f_objects a_kindOf a_size a_root a_slotKind a_slot a_kept f_count a_code a_number f_want f_compared f_open a_opened f_rowCount a_rowKind a_rowValue f_many a_list f_seen f_fail f_level a_from a_eAt a_whereAt a_source a_distinct a_keeps f_at f_self f_brackets f_values a_vKind a_v f_waiting a_waits ++ z) H) (hD : va_D A (hm_w q cI cZ cL f_classes a_parent f_objects a_kindOf a_size a_root a_slotKind a_slot a_kept f_count a_code a_number f_want f_compared f_open a_opened f_rowCount a_rowKind a_rowValue f_many a_list f_seen f_fail f_level a_from a_eAt a_whereAt a_source a_distinct a_keeps f_at f_self f_brackets f_values a_vKind a_v f_waiting a_waits ++ z)) (hS : va_S A H0 H locs) (hw : Cond.fieldLink own idx "HeapQueriesModel" "many" "I" ∈ hq_tbl) (hdg : decode cc pc = .ok (.putfield idx, 3)) (kk : ∀ (H1 : Heap) (locs1 : List Loc), va_P D hq_cl (hm_w q cI cZ cL f_classes a_parent f_objects a_kindOf a_size a_root a_slotKind a_slot a_kept f_count a_code a_number f_want f_compared f_open a_opened f_rowCount a_rowKind a_rowValue v a_list f_seen f_fail f_level a_from a_eAt a_whereAt a_source a_distinct a_keeps f_at f_self f_brackets f_values a_vKind a_v f_waiting a_waits ++ z) H1 → va_D A (hm_w q cI cZ cL f_classes a_parent f_objects a_kindOf a_size a_root a_slotKind a_slot a_kept f_count a_code a_number f_want f_compared f_open a_opened f_rowCount a_rowKind a_rowValue v a_list f_seen f_fail f_level a_from a_eAt a_whereAt a_source a_distinct a_keeps f_at f_self f_brackets f_values a_vKind a_v f_waiting a_waits ++ z) → va_S A H0 H1 locs1 → W p l e R s m args below meth c H1 locs1 cells slots Q (F0 m (pc + 3) ls rest)) : W p l e R s m args below meth c H locs cells slots Q (F0 m pc ls (.int v :: .ref (q 0) :: rest)) :=
  va_put (ty := .int) hx hb hts hin_m hty_m hty_m_ok hnm_m hown hK hP hD hS 0 rfl rfl 19 (by decide) (hts _ hw) (fun _ h9 => h9) rfl (by decide +kernel) rfl rfl (Nat.le_of_ble_eq_true rfl) hdg kk
theorem gm_0_list (hx : p.tables.exec = Jvm.exec) (hb : c.code = cc) (hts : ∀ x ∈ hq_tbl, x.before args s = true) (hown : s.vm.findClass own = some m.cls) (hK : va_K D hq_cl (hq_tys cI cZ cL) s) (hP : va_P D hq_cl (hm_w q cI cZ cL f_classes a_parent f_objects a_kindOf a_size a_root a_slotKind a_slot a_kept f_count a_code a_number f_want f_compared f_open a_opened f_rowCount a_rowKind a_rowValue f_many a_list f_seen f_fail f_level a_from a_eAt a_whereAt a_source a_distinct a_keeps f_at f_self f_brackets f_values a_vKind a_v f_waiting a_waits ++ z) H) (hw : Cond.fieldLink own idx "HeapQueriesModel" "list" "[I" ∈ hq_tbl) (hdg : decode cc pc = .ok (.getfield idx, 3)) (kk : W p l e R s m args below meth c H locs cells slots Q (F0 m (pc + 3) ls (.ref (q 13) :: rest))) : W p l e R s m args below meth c H locs cells slots Q (F0 m pc ls (.ref (q 0) :: rest)) :=
  va_get hx hb hts hin_m hown hK hP 0 rfl rfl 20 (by decide) (hts _ hw) (fun _ h9 => h9) rfl hdg kk
theorem gm_0_seen (hx : p.tables.exec = Jvm.exec) (hb : c.code = cc) (hts : ∀ x ∈ hq_tbl, x.before args s = true) (hown : s.vm.findClass own = some m.cls) (hK : va_K D hq_cl (hq_tys cI cZ cL) s) (hP : va_P D hq_cl (hm_w q cI cZ cL f_classes a_parent f_objects a_kindOf a_size a_root a_slotKind a_slot a_kept f_count a_code a_number f_want f_compared f_open a_opened f_rowCount a_rowKind a_rowValue f_many a_list f_seen f_fail f_level a_from a_eAt a_whereAt a_source a_distinct a_keeps f_at f_self f_brackets f_values a_vKind a_v f_waiting a_waits ++ z) H) (hw : Cond.fieldLink own idx "HeapQueriesModel" "seen" "I" ∈ hq_tbl) (hdg : decode cc pc = .ok (.getfield idx, 3)) (kk : W p l e R s m args below meth c H locs cells slots Q (F0 m (pc + 3) ls (.int f_seen :: rest))) : W p l e R s m args below meth c H locs cells slots Q (F0 m pc ls (.ref (q 0) :: rest)) :=
  va_get hx hb hts hin_m hown hK hP 0 rfl rfl 21 (by decide) (hts _ hw) (fun _ h9 => h9) rfl hdg kk
theorem pm_0_seen {v : Int32} (hx : p.tables.exec = Jvm.exec) (hb : c.code = cc) (hts : ∀ x ∈ hq_tbl, x.before args s = true) (hown : s.vm.findClass own = some m.cls) (hK : va_K D hq_cl (hq_tys cI cZ cL) s) (hP : va_P D hq_cl (hm_w q cI cZ cL f_classes a_parent f_objects a_kindOf a_size a_root a_slotKind a_slot a_kept f_count a_code a_number f_want f_compared f_open a_opened f_rowCount a_rowKind a_rowValue f_many a_list f_seen f_fail f_level a_from a_eAt a_whereAt a_source a_distinct a_keeps f_at f_self f_brackets f_values a_vKind a_v f_waiting a_waits ++ z) H) (hD : va_D A (hm_w q cI cZ cL f_classes a_parent f_objects a_kindOf a_size a_root a_slotKind a_slot a_kept f_count a_code a_number f_want f_compared f_open a_opened f_rowCount a_rowKind a_rowValue f_many a_list f_seen f_fail f_level a_from a_eAt a_whereAt a_source a_distinct a_keeps f_at f_self f_brackets f_values a_vKind a_v f_waiting a_waits ++ z)) (hS : va_S A H0 H locs) (hw : Cond.fieldLink own idx "HeapQueriesModel" "seen" "I" ∈ hq_tbl) (hdg : decode cc pc = .ok (.putfield idx, 3)) (kk : ∀ (H1 : Heap) (locs1 : List Loc), va_P D hq_cl (hm_w q cI cZ cL f_classes a_parent f_objects a_kindOf a_size a_root a_slotKind a_slot a_kept f_count a_code a_number f_want f_compared f_open a_opened f_rowCount a_rowKind a_rowValue f_many a_list v f_fail f_level a_from a_eAt a_whereAt a_source a_distinct a_keeps f_at f_self f_brackets f_values a_vKind a_v f_waiting a_waits ++ z) H1 → va_D A (hm_w q cI cZ cL f_classes a_parent f_objects a_kindOf a_size a_root a_slotKind a_slot a_kept f_count a_code a_number f_want f_compared f_open a_opened f_rowCount a_rowKind a_rowValue f_many a_list v f_fail f_level a_from a_eAt a_whereAt a_source a_distinct a_keeps f_at f_self f_brackets f_values a_vKind a_v f_waiting a_waits ++ z) → va_S A H0 H1 locs1 → W p l e R s m args below meth c H1 locs1 cells slots Q (F0 m (pc + 3) ls rest)) : W p l e R s m args below meth c H locs cells slots Q (F0 m pc ls (.int v :: .ref (q 0) :: rest)) :=
  va_put (ty := .int) hx hb hts hin_m hty_m hty_m_ok hnm_m hown hK hP hD hS 0 rfl rfl 21 (by decide) (hts _ hw) (fun _ h9 => h9) rfl (by decide +kernel) rfl rfl (Nat.le_of_ble_eq_true rfl) hdg kk
theorem gm_0_fail (hx : p.tables.exec = Jvm.exec) (hb : c.code = cc) (hts : ∀ x ∈ hq_tbl, x.before args s = true) (hown : s.vm.findClass own = some m.cls) (hK : va_K D hq_cl (hq_tys cI cZ cL) s) (hP : va_P D hq_cl (hm_w q cI cZ cL f_classes a_parent f_objects a_kindOf a_size a_root a_slotKind a_slot a_kept f_count a_code a_number f_want f_compared f_open a_opened f_rowCount a_rowKind a_rowValue f_many a_list f_seen f_fail f_level a_from a_eAt a_whereAt a_source a_distinct a_keeps f_at f_self f_brackets f_values a_vKind a_v f_waiting a_waits ++ z) H) (hw : Cond.fieldLink own idx "HeapQueriesModel" "fail" "I" ∈ hq_tbl) (hdg : decode cc pc = .ok (.getfield idx, 3)) (kk : W p l e R s m args below meth c H locs cells slots Q (F0 m (pc + 3) ls (.int f_fail :: rest))) : W p l e R s m args below meth c H locs cells slots Q (F0 m pc ls (.ref (q 0) :: rest)) :=
  va_get hx hb hts hin_m hown hK hP 0 rfl rfl 22 (by decide) (hts _ hw) (fun _ h9 => h9) rfl hdg kk
theorem pm_0_fail {v : Int32} (hx : p.tables.exec = Jvm.exec) (hb : c.code = cc) (hts : ∀ x ∈ hq_tbl, x.before args s = true) (hown : s.vm.findClass own = some m.cls) (hK : va_K D hq_cl (hq_tys cI cZ cL) s) (hP : va_P D hq_cl (hm_w q cI cZ cL f_classes a_parent f_objects a_kindOf a_size a_root a_slotKind a_slot a_kept f_count a_code a_number f_want f_compared f_open a_opened f_rowCount a_rowKind a_rowValue f_many a_list f_seen f_fail f_level a_from a_eAt a_whereAt a_source a_distinct a_keeps f_at f_self f_brackets f_values a_vKind a_v f_waiting a_waits ++ z) H) (hD : va_D A (hm_w q cI cZ cL f_classes a_parent f_objects a_kindOf a_size a_root a_slotKind a_slot a_kept f_count a_code a_number f_want f_compared f_open a_opened f_rowCount a_rowKind a_rowValue f_many a_list f_seen f_fail f_level a_from a_eAt a_whereAt a_source a_distinct a_keeps f_at f_self f_brackets f_values a_vKind a_v f_waiting a_waits ++ z)) (hS : va_S A H0 H locs) (hw : Cond.fieldLink own idx "HeapQueriesModel" "fail" "I" ∈ hq_tbl) (hdg : decode cc pc = .ok (.putfield idx, 3)) (kk : ∀ (H1 : Heap) (locs1 : List Loc), va_P D hq_cl (hm_w q cI cZ cL f_classes a_parent f_objects a_kindOf a_size a_root a_slotKind a_slot a_kept f_count a_code a_number f_want f_compared f_open a_opened f_rowCount a_rowKind a_rowValue f_many a_list f_seen v f_level a_from a_eAt a_whereAt a_source a_distinct a_keeps f_at f_self f_brackets f_values a_vKind a_v f_waiting a_waits ++ z) H1 → va_D A (hm_w q cI cZ cL f_classes a_parent f_objects a_kindOf a_size a_root a_slotKind a_slot a_kept f_count a_code a_number f_want f_compared f_open a_opened f_rowCount a_rowKind a_rowValue f_many a_list f_seen v f_level a_from a_eAt a_whereAt a_source a_distinct a_keeps f_at f_self f_brackets f_values a_vKind a_v f_waiting a_waits ++ z) → va_S A H0 H1 locs1 → W p l e R s m args below meth c H1 locs1 cells slots Q (F0 m (pc + 3) ls rest)) : W p l e R s m args below meth c H locs cells slots Q (F0 m pc ls (.int v :: .ref (q 0) :: rest)) :=
  va_put (ty := .int) hx hb hts hin_m hty_m hty_m_ok hnm_m hown hK hP hD hS 0 rfl rfl 22 (by decide) (hts _ hw) (fun _ h9 => h9) rfl (by decide +kernel) rfl rfl (Nat.le_of_ble_eq_true rfl) hdg kk
theorem gm_0_level (hx : p.tables.exec = Jvm.exec) (hb : c.code = cc) (hts : ∀ x ∈ hq_tbl, x.before args s = true) (hown : s.vm.findClass own = some m.cls) (hK : va_K D hq_cl (hq_tys cI cZ cL) s) (hP : va_P D hq_cl (hm_w q cI cZ cL f_classes a_parent f_objects a_kindOf a_size a_root a_slotKind a_slot a_kept f_count a_code a_number f_want f_compared f_open a_opened f_rowCount a_rowKind a_rowValue f_many a_list f_seen f_fail f_level a_from a_eAt a_whereAt a_source a_distinct a_keeps f_at f_self f_brackets f_values a_vKind a_v f_waiting a_waits ++ z) H) (hw : Cond.fieldLink own idx "HeapQueriesModel" "level" "I" ∈ hq_tbl) (hdg : decode cc pc = .ok (.getfield idx, 3)) (kk : W p l e R s m args below meth c H locs cells slots Q (F0 m (pc + 3) ls (.int f_level :: rest))) : W p l e R s m args below meth c H locs cells slots Q (F0 m pc ls (.ref (q 0) :: rest)) :=
  va_get hx hb hts hin_m hown hK hP 0 rfl rfl 23 (by decide) (hts _ hw) (fun _ h9 => h9) rfl hdg kk
theorem pm_0_level {v : Int32} (hx : p.tables.exec = Jvm.exec) (hb : c.code = cc) (hts : ∀ x ∈ hq_tbl, x.before args s = true) (hown : s.vm.findClass own = some m.cls) (hK : va_K D hq_cl (hq_tys cI cZ cL) s) (hP : va_P D hq_cl (hm_w q cI cZ cL f_classes a_parent f_objects a_kindOf a_size a_root a_slotKind a_slot a_kept f_count a_code a_number f_want f_compared f_open a_opened f_rowCount a_rowKind a_rowValue f_many a_list f_seen f_fail f_level a_from a_eAt a_whereAt a_source a_distinct a_keeps f_at f_self f_brackets f_values a_vKind a_v f_waiting a_waits ++ z) H) (hD : va_D A (hm_w q cI cZ cL f_classes a_parent f_objects a_kindOf a_size a_root a_slotKind a_slot a_kept f_count a_code a_number f_want f_compared f_open a_opened f_rowCount a_rowKind a_rowValue f_many a_list f_seen f_fail f_level a_from a_eAt a_whereAt a_source a_distinct a_keeps f_at f_self f_brackets f_values a_vKind a_v f_waiting a_waits ++ z)) (hS : va_S A H0 H locs) (hw : Cond.fieldLink own idx "HeapQueriesModel" "level" "I" ∈ hq_tbl) (hdg : decode cc pc = .ok (.putfield idx, 3)) (kk : ∀ (H1 : Heap) (locs1 : List Loc), va_P D hq_cl (hm_w q cI cZ cL f_classes a_parent f_objects a_kindOf a_size a_root a_slotKind a_slot a_kept f_count a_code a_number f_want f_compared f_open a_opened f_rowCount a_rowKind a_rowValue f_many a_list f_seen f_fail v a_from a_eAt a_whereAt a_source a_distinct a_keeps f_at f_self f_brackets f_values a_vKind a_v f_waiting a_waits ++ z) H1 → va_D A (hm_w q cI cZ cL f_classes a_parent f_objects a_kindOf a_size a_root a_slotKind a_slot a_kept f_count a_code a_number f_want f_compared f_open a_opened f_rowCount a_rowKind a_rowValue f_many a_list f_seen f_fail v a_from a_eAt a_whereAt a_source a_distinct a_keeps f_at f_self f_brackets f_values a_vKind a_v f_waiting a_waits ++ z) → va_S A H0 H1 locs1 → W p l e R s m args below meth c H1 locs1 cells slots Q (F0 m (pc + 3) ls rest)) : W p l e R s m args below meth c H locs cells slots Q (F0 m pc ls (.int v :: .ref (q 0) :: rest)) :=
  va_put (ty := .int) hx hb hts hin_m hty_m hty_m_ok hnm_m hown hK hP hD hS 0 rfl rfl 23 (by decide) (hts _ hw) (fun _ h9 => h9) rfl (by decide +kernel) rfl rfl (Nat.le_of_ble_eq_true rfl) hdg kk
theorem gm_0_from (hx : p.tables.exec = Jvm.exec) (hb : c.code = cc) (hts : ∀ x ∈ hq_tbl, x.before args s = true) (hown : s.vm.findClass own = some m.cls) (hK : va_K D hq_cl (hq_tys cI cZ cL) s) (hP : va_P D hq_cl (hm_w q cI cZ cL f_classes a_parent f_objects a_kindOf a_size a_root a_slotKind a_slot a_kept f_count a_code a_number f_want f_compared f_open a_opened f_rowCount a_rowKind a_rowValue f_many a_list f_seen f_fail f_level a_from a_eAt a_whereAt a_source a_distinct a_keeps f_at f_self f_brackets f_values a_vKind a_v f_waiting a_waits ++ z) H) (hw : Cond.fieldLink own idx "HeapQueriesModel" "from" "[I" ∈ hq_tbl) (hdg : decode cc pc = .ok (.getfield idx, 3)) (kk : W p l e R s m args below meth c H locs cells slots Q (F0 m (pc + 3) ls (.ref (q 14) :: rest))) : W p l e R s m args below meth c H locs cells slots Q (F0 m pc ls (.ref (q 0) :: rest)) :=
  va_get hx hb hts hin_m hown hK hP 0 rfl rfl 24 (by decide) (hts _ hw) (fun _ h9 => h9) rfl hdg kk
theorem gm_0_eAt (hx : p.tables.exec = Jvm.exec) (hb : c.code = cc) (hts : ∀ x ∈ hq_tbl, x.before args s = true) (hown : s.vm.findClass own = some m.cls) (hK : va_K D hq_cl (hq_tys cI cZ cL) s) (hP : va_P D hq_cl (hm_w q cI cZ cL f_classes a_parent f_objects a_kindOf a_size a_root a_slotKind a_slot a_kept f_count a_code a_number f_want f_compared f_open a_opened f_rowCount a_rowKind a_rowValue f_many a_list f_seen f_fail f_level a_from a_eAt a_whereAt a_source a_distinct a_keeps f_at f_self f_brackets f_values a_vKind a_v f_waiting a_waits ++ z) H) (hw : Cond.fieldLink own idx "HeapQueriesModel" "eAt" "[I" ∈ hq_tbl) (hdg : decode cc pc = .ok (.getfield idx, 3)) (kk : W p l e R s m args below meth c H locs cells slots Q (F0 m (pc + 3) ls (.ref (q 15) :: rest))) : W p l e R s m args below meth c H locs cells slots Q (F0 m pc ls (.ref (q 0) :: rest)) :=
  va_get hx hb hts hin_m hown hK hP 0 rfl rfl 25 (by decide) (hts _ hw) (fun _ h9 => h9) rfl hdg kk
theorem gm_0_whereAt (hx : p.tables.exec = Jvm.exec) (hb : c.code = cc) (hts : ∀ x ∈ hq_tbl, x.before args s = true) (hown : s.vm.findClass own = some m.cls) (hK : va_K D hq_cl (hq_tys cI cZ cL) s) (hP : va_P D hq_cl (hm_w q cI cZ cL f_classes a_parent f_objects a_kindOf a_size a_root a_slotKind a_slot a_kept f_count a_code a_number f_want f_compared f_open a_opened f_rowCount a_rowKind a_rowValue f_many a_list f_seen f_fail f_level a_from a_eAt a_whereAt a_source a_distinct a_keeps f_at f_self f_brackets f_values a_vKind a_v f_waiting a_waits ++ z) H) (hw : Cond.fieldLink own idx "HeapQueriesModel" "whereAt" "[I" ∈ hq_tbl) (hdg : decode cc pc = .ok (.getfield idx, 3)) (kk : W p l e R s m args below meth c H locs cells slots Q (F0 m (pc + 3) ls (.ref (q 16) :: rest))) : W p l e R s m args below meth c H locs cells slots Q (F0 m pc ls (.ref (q 0) :: rest)) :=
  va_get hx hb hts hin_m hown hK hP 0 rfl rfl 26 (by decide) (hts _ hw) (fun _ h9 => h9) rfl hdg kk
theorem gm_0_source (hx : p.tables.exec = Jvm.exec) (hb : c.code = cc) (hts : ∀ x ∈ hq_tbl, x.before args s = true) (hown : s.vm.findClass own = some m.cls) (hK : va_K D hq_cl (hq_tys cI cZ cL) s) (hP : va_P D hq_cl (hm_w q cI cZ cL f_classes a_parent f_objects a_kindOf a_size a_root a_slotKind a_slot a_kept f_count a_code a_number f_want f_compared f_open a_opened f_rowCount a_rowKind a_rowValue f_many a_list f_seen f_fail f_level a_from a_eAt a_whereAt a_source a_distinct a_keeps f_at f_self f_brackets f_values a_vKind a_v f_waiting a_waits ++ z) H) (hw : Cond.fieldLink own idx "HeapQueriesModel" "source" "[I" ∈ hq_tbl) (hdg : decode cc pc = .ok (.getfield idx, 3)) (kk : W p l e R s m args below meth c H locs cells slots Q (F0 m (pc + 3) ls (.ref (q 17) :: rest))) : W p l e R s m args below meth c H locs cells slots Q (F0 m pc ls (.ref (q 0) :: rest)) :=
  va_get hx hb hts hin_m hown hK hP 0 rfl rfl 27 (by decide) (hts _ hw) (fun _ h9 => h9) rfl hdg kk
theorem gm_0_distinct (hx : p.tables.exec = Jvm.exec) (hb : c.code = cc) (hts : ∀ x ∈ hq_tbl, x.before args s = true) (hown : s.vm.findClass own = some m.cls) (hK : va_K D hq_cl (hq_tys cI cZ cL) s) (hP : va_P D hq_cl (hm_w q cI cZ cL f_classes a_parent f_objects a_kindOf a_size a_root a_slotKind a_slot a_kept f_count a_code a_number f_want f_compared f_open a_opened f_rowCount a_rowKind a_rowValue f_many a_list f_seen f_fail f_level a_from a_eAt a_whereAt a_source a_distinct a_keeps f_at f_self f_brackets f_values a_vKind a_v f_waiting a_waits ++ z) H) (hw : Cond.fieldLink own idx "HeapQueriesModel" "distinct" "[Z" ∈ hq_tbl) (hdg : decode cc pc = .ok (.getfield idx, 3)) (kk : W p l e R s m args below meth c H locs cells slots Q (F0 m (pc + 3) ls (.ref (q 18) :: rest))) : W p l e R s m args below meth c H locs cells slots Q (F0 m pc ls (.ref (q 0) :: rest)) :=
  va_get hx hb hts hin_m hown hK hP 0 rfl rfl 28 (by decide) (hts _ hw) (fun _ h9 => h9) rfl hdg kk
theorem gm_0_keeps (hx : p.tables.exec = Jvm.exec) (hb : c.code = cc) (hts : ∀ x ∈ hq_tbl, x.before args s = true) (hown : s.vm.findClass own = some m.cls) (hK : va_K D hq_cl (hq_tys cI cZ cL) s) (hP : va_P D hq_cl (hm_w q cI cZ cL f_classes a_parent f_objects a_kindOf a_size a_root a_slotKind a_slot a_kept f_count a_code a_number f_want f_compared f_open a_opened f_rowCount a_rowKind a_rowValue f_many a_list f_seen f_fail f_level a_from a_eAt a_whereAt a_source a_distinct a_keeps f_at f_self f_brackets f_values a_vKind a_v f_waiting a_waits ++ z) H) (hw : Cond.fieldLink own idx "HeapQueriesModel" "keeps" "[Z" ∈ hq_tbl) (hdg : decode cc pc = .ok (.getfield idx, 3)) (kk : W p l e R s m args below meth c H locs cells slots Q (F0 m (pc + 3) ls (.ref (q 19) :: rest))) : W p l e R s m args below meth c H locs cells slots Q (F0 m pc ls (.ref (q 0) :: rest)) :=
  va_get hx hb hts hin_m hown hK hP 0 rfl rfl 29 (by decide) (hts _ hw) (fun _ h9 => h9) rfl hdg kk
theorem gm_0_at (hx : p.tables.exec = Jvm.exec) (hb : c.code = cc) (hts : ∀ x ∈ hq_tbl, x.before args s = true) (hown : s.vm.findClass own = some m.cls) (hK : va_K D hq_cl (hq_tys cI cZ cL) s) (hP : va_P D hq_cl (hm_w q cI cZ cL f_classes a_parent f_objects a_kindOf a_size a_root a_slotKind a_slot a_kept f_count a_code a_number f_want f_compared f_open a_opened f_rowCount a_rowKind a_rowValue f_many a_list f_seen f_fail f_level a_from a_eAt a_whereAt a_source a_distinct a_keeps f_at f_self f_brackets f_values a_vKind a_v f_waiting a_waits ++ z) H) (hw : Cond.fieldLink own idx "HeapQueriesModel" "at" "I" ∈ hq_tbl) (hdg : decode cc pc = .ok (.getfield idx, 3)) (kk : W p l e R s m args below meth c H locs cells slots Q (F0 m (pc + 3) ls (.int f_at :: rest))) : W p l e R s m args below meth c H locs cells slots Q (F0 m pc ls (.ref (q 0) :: rest)) :=
  va_get hx hb hts hin_m hown hK hP 0 rfl rfl 30 (by decide) (hts _ hw) (fun _ h9 => h9) rfl hdg kk
theorem pm_0_at {v : Int32} (hx : p.tables.exec = Jvm.exec) (hb : c.code = cc) (hts : ∀ x ∈ hq_tbl, x.before args s = true) (hown : s.vm.findClass own = some m.cls) (hK : va_K D hq_cl (hq_tys cI cZ cL) s) (hP : va_P D hq_cl (hm_w q cI cZ cL f_classes a_parent f_objects a_kindOf a_size a_root a_slotKind a_slot a_kept f_count a_code a_number f_want f_compared f_open a_opened f_rowCount a_rowKind a_rowValue f_many a_list f_seen f_fail f_level a_from a_eAt a_whereAt a_source a_distinct a_keeps f_at f_self f_brackets f_values a_vKind a_v f_waiting a_waits ++ z) H) (hD : va_D A (hm_w q cI cZ cL f_classes a_parent f_objects a_kindOf a_size a_root a_slotKind a_slot a_kept f_count a_code a_number f_want f_compared f_open a_opened f_rowCount a_rowKind a_rowValue f_many a_list f_seen f_fail f_level a_from a_eAt a_whereAt a_source a_distinct a_keeps f_at f_self f_brackets f_values a_vKind a_v f_waiting a_waits ++ z)) (hS : va_S A H0 H locs) (hw : Cond.fieldLink own idx "HeapQueriesModel" "at" "I" ∈ hq_tbl) (hdg : decode cc pc = .ok (.putfield idx, 3)) (kk : ∀ (H1 : Heap) (locs1 : List Loc), va_P D hq_cl (hm_w q cI cZ cL f_classes a_parent f_objects a_kindOf a_size a_root a_slotKind a_slot a_kept f_count a_code a_number f_want f_compared f_open a_opened f_rowCount a_rowKind a_rowValue f_many a_list f_seen f_fail f_level a_from a_eAt a_whereAt a_source a_distinct a_keeps v f_self f_brackets f_values a_vKind a_v f_waiting a_waits ++ z) H1 → va_D A (hm_w q cI cZ cL f_classes a_parent f_objects a_kindOf a_size a_root a_slotKind a_slot a_kept f_count a_code a_number f_want f_compared f_open a_opened f_rowCount a_rowKind a_rowValue f_many a_list f_seen f_fail f_level a_from a_eAt a_whereAt a_source a_distinct a_keeps v f_self f_brackets f_values a_vKind a_v f_waiting a_waits ++ z) → va_S A H0 H1 locs1 → W p l e R s m args below meth c H1 locs1 cells slots Q (F0 m (pc + 3) ls rest)) : W p l e R s m args below meth c H locs cells slots Q (F0 m pc ls (.int v :: .ref (q 0) :: rest)) :=
  va_put (ty := .int) hx hb hts hin_m hty_m hty_m_ok hnm_m hown hK hP hD hS 0 rfl rfl 30 (by decide) (hts _ hw) (fun _ h9 => h9) rfl (by decide +kernel) rfl rfl (Nat.le_of_ble_eq_true rfl) hdg kk
theorem gm_0_self (hx : p.tables.exec = Jvm.exec) (hb : c.code = cc) (hts : ∀ x ∈ hq_tbl, x.before args s = true) (hown : s.vm.findClass own = some m.cls) (hK : va_K D hq_cl (hq_tys cI cZ cL) s) (hP : va_P D hq_cl (hm_w q cI cZ cL f_classes a_parent f_objects a_kindOf a_size a_root a_slotKind a_slot a_kept f_count a_code a_number f_want f_compared f_open a_opened f_rowCount a_rowKind a_rowValue f_many a_list f_seen f_fail f_level a_from a_eAt a_whereAt a_source a_distinct a_keeps f_at f_self f_brackets f_values a_vKind a_v f_waiting a_waits ++ z) H) (hw : Cond.fieldLink own idx "HeapQueriesModel" "self" "I" ∈ hq_tbl) (hdg : decode cc pc = .ok (.getfield idx, 3)) (kk : W p l e R s m args below meth c H locs cells slots Q (F0 m (pc + 3) ls (.int f_self :: rest))) : W p l e R s m args below meth c H locs cells slots Q (F0 m pc ls (.ref (q 0) :: rest)) :=
  va_get hx hb hts hin_m hown hK hP 0 rfl rfl 31 (by decide) (hts _ hw) (fun _ h9 => h9) rfl hdg kk
theorem pm_0_self {v : Int32} (hx : p.tables.exec = Jvm.exec) (hb : c.code = cc) (hts : ∀ x ∈ hq_tbl, x.before args s = true) (hown : s.vm.findClass own = some m.cls) (hK : va_K D hq_cl (hq_tys cI cZ cL) s) (hP : va_P D hq_cl (hm_w q cI cZ cL f_classes a_parent f_objects a_kindOf a_size a_root a_slotKind a_slot a_kept f_count a_code a_number f_want f_compared f_open a_opened f_rowCount a_rowKind a_rowValue f_many a_list f_seen f_fail f_level a_from a_eAt a_whereAt a_source a_distinct a_keeps f_at f_self f_brackets f_values a_vKind a_v f_waiting a_waits ++ z) H) (hD : va_D A (hm_w q cI cZ cL f_classes a_parent f_objects a_kindOf a_size a_root a_slotKind a_slot a_kept f_count a_code a_number f_want f_compared f_open a_opened f_rowCount a_rowKind a_rowValue f_many a_list f_seen f_fail f_level a_from a_eAt a_whereAt a_source a_distinct a_keeps f_at f_self f_brackets f_values a_vKind a_v f_waiting a_waits ++ z)) (hS : va_S A H0 H locs) (hw : Cond.fieldLink own idx "HeapQueriesModel" "self" "I" ∈ hq_tbl) (hdg : decode cc pc = .ok (.putfield idx, 3)) (kk : ∀ (H1 : Heap) (locs1 : List Loc), va_P D hq_cl (hm_w q cI cZ cL f_classes a_parent f_objects a_kindOf a_size a_root a_slotKind a_slot a_kept f_count a_code a_number f_want f_compared f_open a_opened f_rowCount a_rowKind a_rowValue f_many a_list f_seen f_fail f_level a_from a_eAt a_whereAt a_source a_distinct a_keeps f_at v f_brackets f_values a_vKind a_v f_waiting a_waits ++ z) H1 → va_D A (hm_w q cI cZ cL f_classes a_parent f_objects a_kindOf a_size a_root a_slotKind a_slot a_kept f_count a_code a_number f_want f_compared f_open a_opened f_rowCount a_rowKind a_rowValue f_many a_list f_seen f_fail f_level a_from a_eAt a_whereAt a_source a_distinct a_keeps f_at v f_brackets f_values a_vKind a_v f_waiting a_waits ++ z) → va_S A H0 H1 locs1 → W p l e R s m args below meth c H1 locs1 cells slots Q (F0 m (pc + 3) ls rest)) : W p l e R s m args below meth c H locs cells slots Q (F0 m pc ls (.int v :: .ref (q 0) :: rest)) :=
  va_put (ty := .int) hx hb hts hin_m hty_m hty_m_ok hnm_m hown hK hP hD hS 0 rfl rfl 31 (by decide) (hts _ hw) (fun _ h9 => h9) rfl (by decide +kernel) rfl rfl (Nat.le_of_ble_eq_true rfl) hdg kk
theorem gm_0_brackets (hx : p.tables.exec = Jvm.exec) (hb : c.code = cc) (hts : ∀ x ∈ hq_tbl, x.before args s = true) (hown : s.vm.findClass own = some m.cls) (hK : va_K D hq_cl (hq_tys cI cZ cL) s) (hP : va_P D hq_cl (hm_w q cI cZ cL f_classes a_parent f_objects a_kindOf a_size a_root a_slotKind a_slot a_kept f_count a_code a_number f_want f_compared f_open a_opened f_rowCount a_rowKind a_rowValue f_many a_list f_seen f_fail f_level a_from a_eAt a_whereAt a_source a_distinct a_keeps f_at f_self f_brackets f_values a_vKind a_v f_waiting a_waits ++ z) H) (hw : Cond.fieldLink own idx "HeapQueriesModel" "brackets" "I" ∈ hq_tbl) (hdg : decode cc pc = .ok (.getfield idx, 3)) (kk : W p l e R s m args below meth c H locs cells slots Q (F0 m (pc + 3) ls (.int f_brackets :: rest))) : W p l e R s m args below meth c H locs cells slots Q (F0 m pc ls (.ref (q 0) :: rest)) :=
  va_get hx hb hts hin_m hown hK hP 0 rfl rfl 32 (by decide) (hts _ hw) (fun _ h9 => h9) rfl hdg kk
theorem pm_0_brackets {v : Int32} (hx : p.tables.exec = Jvm.exec) (hb : c.code = cc) (hts : ∀ x ∈ hq_tbl, x.before args s = true) (hown : s.vm.findClass own = some m.cls) (hK : va_K D hq_cl (hq_tys cI cZ cL) s) (hP : va_P D hq_cl (hm_w q cI cZ cL f_classes a_parent f_objects a_kindOf a_size a_root a_slotKind a_slot a_kept f_count a_code a_number f_want f_compared f_open a_opened f_rowCount a_rowKind a_rowValue f_many a_list f_seen f_fail f_level a_from a_eAt a_whereAt a_source a_distinct a_keeps f_at f_self f_brackets f_values a_vKind a_v f_waiting a_waits ++ z) H) (hD : va_D A (hm_w q cI cZ cL f_classes a_parent f_objects a_kindOf a_size a_root a_slotKind a_slot a_kept f_count a_code a_number f_want f_compared f_open a_opened f_rowCount a_rowKind a_rowValue f_many a_list f_seen f_fail f_level a_from a_eAt a_whereAt a_source a_distinct a_keeps f_at f_self f_brackets f_values a_vKind a_v f_waiting a_waits ++ z)) (hS : va_S A H0 H locs) (hw : Cond.fieldLink own idx "HeapQueriesModel" "brackets" "I" ∈ hq_tbl) (hdg : decode cc pc = .ok (.putfield idx, 3)) (kk : ∀ (H1 : Heap) (locs1 : List Loc), va_P D hq_cl (hm_w q cI cZ cL f_classes a_parent f_objects a_kindOf a_size a_root a_slotKind a_slot a_kept f_count a_code a_number f_want f_compared f_open a_opened f_rowCount a_rowKind a_rowValue f_many a_list f_seen f_fail f_level a_from a_eAt a_whereAt a_source a_distinct a_keeps f_at f_self v f_values a_vKind a_v f_waiting a_waits ++ z) H1 → va_D A (hm_w q cI cZ cL f_classes a_parent f_objects a_kindOf a_size a_root a_slotKind a_slot a_kept f_count a_code a_number f_want f_compared f_open a_opened f_rowCount a_rowKind a_rowValue f_many a_list f_seen f_fail f_level a_from a_eAt a_whereAt a_source a_distinct a_keeps f_at f_self v f_values a_vKind a_v f_waiting a_waits ++ z) → va_S A H0 H1 locs1 → W p l e R s m args below meth c H1 locs1 cells slots Q (F0 m (pc + 3) ls rest)) : W p l e R s m args below meth c H locs cells slots Q (F0 m pc ls (.int v :: .ref (q 0) :: rest)) :=
  va_put (ty := .int) hx hb hts hin_m hty_m hty_m_ok hnm_m hown hK hP hD hS 0 rfl rfl 32 (by decide) (hts _ hw) (fun _ h9 => h9) rfl (by decide +kernel) rfl rfl (Nat.le_of_ble_eq_true rfl) hdg kk
theorem gm_0_values (hx : p.tables.exec = Jvm.exec) (hb : c.code = cc) (hts : ∀ x ∈ hq_tbl, x.before args s = true) (hown : s.vm.findClass own = some m.cls) (hK : va_K D hq_cl (hq_tys cI cZ cL) s) (hP : va_P D hq_cl (hm_w q cI cZ cL f_classes a_parent f_objects a_kindOf a_size a_root a_slotKind a_slot a_kept f_count a_code a_number f_want f_compared f_open a_opened f_rowCount a_rowKind a_rowValue f_many a_list f_seen f_fail f_level a_from a_eAt a_whereAt a_source a_distinct a_keeps f_at f_self f_brackets f_values a_vKind a_v f_waiting a_waits ++ z) H) (hw : Cond.fieldLink own idx "HeapQueriesModel" "values" "I" ∈ hq_tbl) (hdg : decode cc pc = .ok (.getfield idx, 3)) (kk : W p l e R s m args below meth c H locs cells slots Q (F0 m (pc + 3) ls (.int f_values :: rest))) : W p l e R s m args below meth c H locs cells slots Q (F0 m pc ls (.ref (q 0) :: rest)) :=
  va_get hx hb hts hin_m hown hK hP 0 rfl rfl 33 (by decide) (hts _ hw) (fun _ h9 => h9) rfl hdg kk
theorem pm_0_values {v : Int32} (hx : p.tables.exec = Jvm.exec) (hb : c.code = cc) (hts : ∀ x ∈ hq_tbl, x.before args s = true) (hown : s.vm.findClass own = some m.cls) (hK : va_K D hq_cl (hq_tys cI cZ cL) s) (hP : va_P D hq_cl (hm_w q cI cZ cL f_classes a_parent f_objects a_kindOf a_size a_root a_slotKind a_slot a_kept f_count a_code a_number f_want f_compared f_open a_opened f_rowCount a_rowKind a_rowValue f_many a_list f_seen f_fail f_level a_from a_eAt a_whereAt a_source a_distinct a_keeps f_at f_self f_brackets f_values a_vKind a_v f_waiting a_waits ++ z) H) (hD : va_D A (hm_w q cI cZ cL f_classes a_parent f_objects a_kindOf a_size a_root a_slotKind a_slot a_kept f_count a_code a_number f_want f_compared f_open a_opened f_rowCount a_rowKind a_rowValue f_many a_list f_seen f_fail f_level a_from a_eAt a_whereAt a_source a_distinct a_keeps f_at f_self f_brackets f_values a_vKind a_v f_waiting a_waits ++ z)) (hS : va_S A H0 H locs) (hw : Cond.fieldLink own idx "HeapQueriesModel" "values" "I" ∈ hq_tbl) (hdg : decode cc pc = .ok (.putfield idx, 3)) (kk : ∀ (H1 : Heap) (locs1 : List Loc), va_P D hq_cl (hm_w q cI cZ cL f_classes a_parent f_objects a_kindOf a_size a_root a_slotKind a_slot a_kept f_count a_code a_number f_want f_compared f_open a_opened f_rowCount a_rowKind a_rowValue f_many a_list f_seen f_fail f_level a_from a_eAt a_whereAt a_source a_distinct a_keeps f_at f_self f_brackets v a_vKind a_v f_waiting a_waits ++ z) H1 → va_D A (hm_w q cI cZ cL f_classes a_parent f_objects a_kindOf a_size a_root a_slotKind a_slot a_kept f_count a_code a_number f_want f_compared f_open a_opened f_rowCount a_rowKind a_rowValue f_many a_list f_seen f_fail f_level a_from a_eAt a_whereAt a_source a_distinct a_keeps f_at f_self f_brackets v a_vKind a_v f_waiting a_waits ++ z) → va_S A H0 H1 locs1 → W p l e R s m args below meth c H1 locs1 cells slots Q (F0 m (pc + 3) ls rest)) : W p l e R s m args below meth c H locs cells slots Q (F0 m pc ls (.int v :: .ref (q 0) :: rest)) :=
  va_put (ty := .int) hx hb hts hin_m hty_m hty_m_ok hnm_m hown hK hP hD hS 0 rfl rfl 33 (by decide) (hts _ hw) (fun _ h9 => h9) rfl (by decide +kernel) rfl rfl (Nat.le_of_ble_eq_true rfl) hdg kk
theorem gm_0_vKind (hx : p.tables.exec = Jvm.exec) (hb : c.code = cc) (hts : ∀ x ∈ hq_tbl, x.before args s = true) (hown : s.vm.findClass own = some m.cls) (hK : va_K D hq_cl (hq_tys cI cZ cL) s) (hP : va_P D hq_cl (hm_w q cI cZ cL f_classes a_parent f_objects a_kindOf a_size a_root a_slotKind a_slot a_kept f_count a_code a_number f_want f_compared f_open a_opened f_rowCount a_rowKind a_rowValue f_many a_list f_seen f_fail f_level a_from a_eAt a_whereAt a_source a_distinct a_keeps f_at f_self f_brackets f_values a_vKind a_v f_waiting a_waits ++ z) H) (hw : Cond.fieldLink own idx "HeapQueriesModel" "vKind" "[I" ∈ hq_tbl) (hdg : decode cc pc = .ok (.getfield idx, 3)) (kk : W p l e R s m args below meth c H locs cells slots Q (F0 m (pc + 3) ls (.ref (q 20) :: rest))) : W p l e R s m args below meth c H locs cells slots Q (F0 m pc ls (.ref (q 0) :: rest)) :=
  va_get hx hb hts hin_m hown hK hP 0 rfl rfl 34 (by decide) (hts _ hw) (fun _ h9 => h9) rfl hdg kk
theorem gm_0_v (hx : p.tables.exec = Jvm.exec) (hb : c.code = cc) (hts : ∀ x ∈ hq_tbl, x.before args s = true) (hown : s.vm.findClass own = some m.cls) (hK : va_K D hq_cl (hq_tys cI cZ cL) s) (hP : va_P D hq_cl (hm_w q cI cZ cL f_classes a_parent f_objects a_kindOf a_size a_root a_slotKind a_slot a_kept f_count a_code a_number f_want f_compared f_open a_opened f_rowCount a_rowKind a_rowValue f_many a_list f_seen f_fail f_level a_from a_eAt a_whereAt a_source a_distinct a_keeps f_at f_self f_brackets f_values a_vKind a_v f_waiting a_waits ++ z) H) (hw : Cond.fieldLink own idx "HeapQueriesModel" "v" "[I" ∈ hq_tbl) (hdg : decode cc pc = .ok (.getfield idx, 3)) (kk : W p l e R s m args below meth c H locs cells slots Q (F0 m (pc + 3) ls (.ref (q 21) :: rest))) : W p l e R s m args below meth c H locs cells slots Q (F0 m pc ls (.ref (q 0) :: rest)) :=
  va_get hx hb hts hin_m hown hK hP 0 rfl rfl 35 (by decide) (hts _ hw) (fun _ h9 => h9) rfl hdg kk
theorem gm_0_waiting (hx : p.tables.exec = Jvm.exec) (hb : c.code = cc) (hts : ∀ x ∈ hq_tbl, x.before args s = true) (hown : s.vm.findClass own = some m.cls) (hK : va_K D hq_cl (hq_tys cI cZ cL) s) (hP : va_P D hq_cl (hm_w q cI cZ cL f_classes a_parent f_objects a_kindOf a_size a_root a_slotKind a_slot a_kept f_count a_code a_number f_want f_compared f_open a_opened f_rowCount a_rowKind a_rowValue f_many a_list f_seen f_fail f_level a_from a_eAt a_whereAt a_source a_distinct a_keeps f_at f_self f_brackets f_values a_vKind a_v f_waiting a_waits ++ z) H) (hw : Cond.fieldLink own idx "HeapQueriesModel" "waiting" "I" ∈ hq_tbl) (hdg : decode cc pc = .ok (.getfield idx, 3)) (kk : W p l e R s m args below meth c H locs cells slots Q (F0 m (pc + 3) ls (.int f_waiting :: rest))) : W p l e R s m args below meth c H locs cells slots Q (F0 m pc ls (.ref (q 0) :: rest)) :=
  va_get hx hb hts hin_m hown hK hP 0 rfl rfl 36 (by decide) (hts _ hw) (fun _ h9 => h9) rfl hdg kk
theorem pm_0_waiting {v : Int32} (hx : p.tables.exec = Jvm.exec) (hb : c.code = cc) (hts : ∀ x ∈ hq_tbl, x.before args s = true) (hown : s.vm.findClass own = some m.cls) (hK : va_K D hq_cl (hq_tys cI cZ cL) s) (hP : va_P D hq_cl (hm_w q cI cZ cL f_classes a_parent f_objects a_kindOf a_size a_root a_slotKind a_slot a_kept f_count a_code a_number f_want f_compared f_open a_opened f_rowCount a_rowKind a_rowValue f_many a_list f_seen f_fail f_level a_from a_eAt a_whereAt a_source a_distinct a_keeps f_at f_self f_brackets f_values a_vKind a_v f_waiting a_waits ++ z) H) (hD : va_D A (hm_w q cI cZ cL f_classes a_parent f_objects a_kindOf a_size a_root a_slotKind a_slot a_kept f_count a_code a_number f_want f_compared f_open a_opened f_rowCount a_rowKind a_rowValue f_many a_list f_seen f_fail f_level a_from a_eAt a_whereAt a_source a_distinct a_keeps f_at f_self f_brackets f_values a_vKind a_v f_waiting a_waits ++ z)) (hS : va_S A H0 H locs) (hw : Cond.fieldLink own idx "HeapQueriesModel" "waiting" "I" ∈ hq_tbl) (hdg : decode cc pc = .ok (.putfield idx, 3)) (kk : ∀ (H1 : Heap) (locs1 : List Loc), va_P D hq_cl (hm_w q cI cZ cL f_classes a_parent f_objects a_kindOf a_size a_root a_slotKind a_slot a_kept f_count a_code a_number f_want f_compared f_open a_opened f_rowCount a_rowKind a_rowValue f_many a_list f_seen f_fail f_level a_from a_eAt a_whereAt a_source a_distinct a_keeps f_at f_self f_brackets f_values a_vKind a_v v a_waits ++ z) H1 → va_D A (hm_w q cI cZ cL f_classes a_parent f_objects a_kindOf a_size a_root a_slotKind a_slot a_kept f_count a_code a_number f_want f_compared f_open a_opened f_rowCount a_rowKind a_rowValue f_many a_list f_seen f_fail f_level a_from a_eAt a_whereAt a_source a_distinct a_keeps f_at f_self f_brackets f_values a_vKind a_v v a_waits ++ z) → va_S A H0 H1 locs1 → W p l e R s m args below meth c H1 locs1 cells slots Q (F0 m (pc + 3) ls rest)) : W p l e R s m args below meth c H locs cells slots Q (F0 m pc ls (.int v :: .ref (q 0) :: rest)) :=
  va_put (ty := .int) hx hb hts hin_m hty_m hty_m_ok hnm_m hown hK hP hD hS 0 rfl rfl 36 (by decide) (hts _ hw) (fun _ h9 => h9) rfl (by decide +kernel) rfl rfl (Nat.le_of_ble_eq_true rfl) hdg kk
theorem gm_0_waits (hx : p.tables.exec = Jvm.exec) (hb : c.code = cc) (hts : ∀ x ∈ hq_tbl, x.before args s = true) (hown : s.vm.findClass own = some m.cls) (hK : va_K D hq_cl (hq_tys cI cZ cL) s) (hP : va_P D hq_cl (hm_w q cI cZ cL f_classes a_parent f_objects a_kindOf a_size a_root a_slotKind a_slot a_kept f_count a_code a_number f_want f_compared f_open a_opened f_rowCount a_rowKind a_rowValue f_many a_list f_seen f_fail f_level a_from a_eAt a_whereAt a_source a_distinct a_keeps f_at f_self f_brackets f_values a_vKind a_v f_waiting a_waits ++ z) H) (hw : Cond.fieldLink own idx "HeapQueriesModel" "waits" "[I" ∈ hq_tbl) (hdg : decode cc pc = .ok (.getfield idx, 3)) (kk : W p l e R s m args below meth c H locs cells slots Q (F0 m (pc + 3) ls (.ref (q 22) :: rest))) : W p l e R s m args below meth c H locs cells slots Q (F0 m pc ls (.ref (q 0) :: rest)) :=
  va_get hx hb hts hin_m hown hK hP 0 rfl rfl 37 (by decide) (hts _ hw) (fun _ h9 => h9) rfl hdg kk
theorem am_1 {i : Int32} (hx : p.tables.exec = Jvm.exec) (hb : c.code = cc) (hK : va_K D hq_cl (hq_tys cI cZ cL) s) (hP : va_P D hq_cl (hm_w q cI cZ cL f_classes a_parent f_objects a_kindOf a_size a_root a_slotKind a_slot a_kept f_count a_code a_number f_want f_compared f_open a_opened f_rowCount a_rowKind a_rowValue f_many a_list f_seen f_fail f_level a_from a_eAt a_whereAt a_source a_distinct a_keeps f_at f_self f_brackets f_values a_vKind a_v f_waiting a_waits ++ z) H) (hin : vp_in i 8) (hdg : decode cc pc = .ok (.iaload, 1)) (kk : W p l e R s m args below meth c H locs cells slots Q (F0 m (pc + 1) ls (.int (a_parent i.toNatClampNeg) :: rest))) : W p l e R s m args below meth c H locs cells slots Q (F0 m pc ls (.int i :: .ref (q 1) :: rest)) :=
  va_iald hx hb hK hP 1 0 rfl rfl hin hdg kk
theorem tm_1 {i : Int32} {x : Int32} (hx : p.tables.exec = Jvm.exec) (hb : c.code = cc) (hK : va_K D hq_cl (hq_tys cI cZ cL) s) (hP : va_P D hq_cl (hm_w q cI cZ cL f_classes a_parent f_objects a_kindOf a_size a_root a_slotKind a_slot a_kept f_count a_code a_number f_want f_compared f_open a_opened f_rowCount a_rowKind a_rowValue f_many a_list f_seen f_fail f_level a_from a_eAt a_whereAt a_source a_distinct a_keeps f_at f_self f_brackets f_values a_vKind a_v f_waiting a_waits ++ z) H) (hD : va_D A (hm_w q cI cZ cL f_classes a_parent f_objects a_kindOf a_size a_root a_slotKind a_slot a_kept f_count a_code a_number f_want f_compared f_open a_opened f_rowCount a_rowKind a_rowValue f_many a_list f_seen f_fail f_level a_from a_eAt a_whereAt a_source a_distinct a_keeps f_at f_self f_brackets f_values a_vKind a_v f_waiting a_waits ++ z)) (hS : va_S A H0 H locs) (hin : vp_in i 8) (hdg : decode cc pc = .ok (.iastore, 1)) (kk : ∀ (H1 : Heap) (locs1 : List Loc), va_P D hq_cl (hm_w q cI cZ cL f_classes (upd a_parent i.toNatClampNeg x) f_objects a_kindOf a_size a_root a_slotKind a_slot a_kept f_count a_code a_number f_want f_compared f_open a_opened f_rowCount a_rowKind a_rowValue f_many a_list f_seen f_fail f_level a_from a_eAt a_whereAt a_source a_distinct a_keeps f_at f_self f_brackets f_values a_vKind a_v f_waiting a_waits ++ z) H1 → va_D A (hm_w q cI cZ cL f_classes (upd a_parent i.toNatClampNeg x) f_objects a_kindOf a_size a_root a_slotKind a_slot a_kept f_count a_code a_number f_want f_compared f_open a_opened f_rowCount a_rowKind a_rowValue f_many a_list f_seen f_fail f_level a_from a_eAt a_whereAt a_source a_distinct a_keeps f_at f_self f_brackets f_values a_vKind a_v f_waiting a_waits ++ z) → va_S A H0 H1 locs1 → W p l e R s m args below meth c H1 locs1 cells slots Q (F0 m (pc + 1) ls rest)) : W p l e R s m args below meth c H locs cells slots Q (F0 m pc ls (.int x :: .int i :: .ref (q 1) :: rest)) :=
  va_iast hx hb hK hP hD hS 1 0 rfl rfl hin hdg kk
theorem am_2 {i : Int32} (hx : p.tables.exec = Jvm.exec) (hb : c.code = cc) (hK : va_K D hq_cl (hq_tys cI cZ cL) s) (hP : va_P D hq_cl (hm_w q cI cZ cL f_classes a_parent f_objects a_kindOf a_size a_root a_slotKind a_slot a_kept f_count a_code a_number f_want f_compared f_open a_opened f_rowCount a_rowKind a_rowValue f_many a_list f_seen f_fail f_level a_from a_eAt a_whereAt a_source a_distinct a_keeps f_at f_self f_brackets f_values a_vKind a_v f_waiting a_waits ++ z) H) (hin : vp_in i 24) (hdg : decode cc pc = .ok (.iaload, 1)) (kk : W p l e R s m args below meth c H locs cells slots Q (F0 m (pc + 1) ls (.int (a_kindOf i.toNatClampNeg) :: rest))) : W p l e R s m args below meth c H locs cells slots Q (F0 m pc ls (.int i :: .ref (q 2) :: rest)) :=
  va_iald hx hb hK hP 2 0 rfl rfl hin hdg kk
theorem tm_2 {i : Int32} {x : Int32} (hx : p.tables.exec = Jvm.exec) (hb : c.code = cc) (hK : va_K D hq_cl (hq_tys cI cZ cL) s) (hP : va_P D hq_cl (hm_w q cI cZ cL f_classes a_parent f_objects a_kindOf a_size a_root a_slotKind a_slot a_kept f_count a_code a_number f_want f_compared f_open a_opened f_rowCount a_rowKind a_rowValue f_many a_list f_seen f_fail f_level a_from a_eAt a_whereAt a_source a_distinct a_keeps f_at f_self f_brackets f_values a_vKind a_v f_waiting a_waits ++ z) H) (hD : va_D A (hm_w q cI cZ cL f_classes a_parent f_objects a_kindOf a_size a_root a_slotKind a_slot a_kept f_count a_code a_number f_want f_compared f_open a_opened f_rowCount a_rowKind a_rowValue f_many a_list f_seen f_fail f_level a_from a_eAt a_whereAt a_source a_distinct a_keeps f_at f_self f_brackets f_values a_vKind a_v f_waiting a_waits ++ z)) (hS : va_S A H0 H locs) (hin : vp_in i 24) (hdg : decode cc pc = .ok (.iastore, 1)) (kk : ∀ (H1 : Heap) (locs1 : List Loc), va_P D hq_cl (hm_w q cI cZ cL f_classes a_parent f_objects (upd a_kindOf i.toNatClampNeg x) a_size a_root a_slotKind a_slot a_kept f_count a_code a_number f_want f_compared f_open a_opened f_rowCount a_rowKind a_rowValue f_many a_list f_seen f_fail f_level a_from a_eAt a_whereAt a_source a_distinct a_keeps f_at f_self f_brackets f_values a_vKind a_v f_waiting a_waits ++ z) H1 → va_D A (hm_w q cI cZ cL f_classes a_parent f_objects (upd a_kindOf i.toNatClampNeg x) a_size a_root a_slotKind a_slot a_kept f_count a_code a_number f_want f_compared f_open a_opened f_rowCount a_rowKind a_rowValue f_many a_list f_seen f_fail f_level a_from a_eAt a_whereAt a_source a_distinct a_keeps f_at f_self f_brackets f_values a_vKind a_v f_waiting a_waits ++ z) → va_S A H0 H1 locs1 → W p l e R s m args below meth c H1 locs1 cells slots Q (F0 m (pc + 1) ls rest)) : W p l e R s m args below meth c H locs cells slots Q (F0 m pc ls (.int x :: .int i :: .ref (q 2) :: rest)) :=
  va_iast hx hb hK hP hD hS 2 0 rfl rfl hin hdg kk
theorem am_3 {i : Int32} (hx : p.tables.exec = Jvm.exec) (hb : c.code = cc) (hK : va_K D hq_cl (hq_tys cI cZ cL) s) (hP : va_P D hq_cl (hm_w q cI cZ cL f_classes a_parent f_objects a_kindOf a_size a_root a_slotKind a_slot a_kept f_count a_code a_number f_want f_compared f_open a_opened f_rowCount a_rowKind a_rowValue f_many a_list f_seen f_fail f_level a_from a_eAt a_whereAt a_source a_distinct a_keeps f_at f_self f_brackets f_values a_vKind a_v f_waiting a_waits ++ z) H) (hin : vp_in i 24) (hdg : decode cc pc = .ok (.iaload, 1)) (kk : W p l e R s m args below meth c H locs cells slots Q (F0 m (pc + 1) ls (.int (a_size i.toNatClampNeg) :: rest))) : W p l e R s m args below meth c H locs cells slots Q (F0 m pc ls (.int i :: .ref (q 3) :: rest)) :=
  va_iald hx hb hK hP 3 0 rfl rfl hin hdg kk
theorem tm_3 {i : Int32} {x : Int32} (hx : p.tables.exec = Jvm.exec) (hb : c.code = cc) (hK : va_K D hq_cl (hq_tys cI cZ cL) s) (hP : va_P D hq_cl (hm_w q cI cZ cL f_classes a_parent f_objects a_kindOf a_size a_root a_slotKind a_slot a_kept f_count a_code a_number f_want f_compared f_open a_opened f_rowCount a_rowKind a_rowValue f_many a_list f_seen f_fail f_level a_from a_eAt a_whereAt a_source a_distinct a_keeps f_at f_self f_brackets f_values a_vKind a_v f_waiting a_waits ++ z) H) (hD : va_D A (hm_w q cI cZ cL f_classes a_parent f_objects a_kindOf a_size a_root a_slotKind a_slot a_kept f_count a_code a_number f_want f_compared f_open a_opened f_rowCount a_rowKind a_rowValue f_many a_list f_seen f_fail f_level a_from a_eAt a_whereAt a_source a_distinct a_keeps f_at f_self f_brackets f_values a_vKind a_v f_waiting a_waits ++ z)) (hS : va_S A H0 H locs) (hin : vp_in i 24) (hdg : decode cc pc = .ok (.iastore, 1)) (kk : ∀ (H1 : Heap) (locs1 : List Loc), va_P D hq_cl (hm_w q cI cZ cL f_classes a_parent f_objects a_kindOf (upd a_size i.toNatClampNeg x) a_root a_slotKind a_slot a_kept f_count a_code a_number f_want f_compared f_open a_opened f_rowCount a_rowKind a_rowValue f_many a_list f_seen f_fail f_level a_from a_eAt a_whereAt a_source a_distinct a_keeps f_at f_self f_brackets f_values a_vKind a_v f_waiting a_waits ++ z) H1 → va_D A (hm_w q cI cZ cL f_classes a_parent f_objects a_kindOf (upd a_size i.toNatClampNeg x) a_root a_slotKind a_slot a_kept f_count a_code a_number f_want f_compared f_open a_opened f_rowCount a_rowKind a_rowValue f_many a_list f_seen f_fail f_level a_from a_eAt a_whereAt a_source a_distinct a_keeps f_at f_self f_brackets f_values a_vKind a_v f_waiting a_waits ++ z) → va_S A H0 H1 locs1 → W p l e R s m args below meth c H1 locs1 cells slots Q (F0 m (pc + 1) ls rest)) : W p l e R s m args below meth c H locs cells slots Q (F0 m pc ls (.int x :: .int i :: .ref (q 3) :: rest)) :=
  va_iast hx hb hK hP hD hS 3 0 rfl rfl hin hdg kk
theorem am_4 {i : Int32} (hx : p.tables.exec = Jvm.exec) (hb : c.code = cc) (hK : va_K D hq_cl (hq_tys cI cZ cL) s) (hP : va_P D hq_cl (hm_w q cI cZ cL f_classes a_parent f_objects a_kindOf a_size a_root a_slotKind a_slot a_kept f_count a_code a_number f_want f_compared f_open a_opened f_rowCount a_rowKind a_rowValue f_many a_list f_seen f_fail f_level a_from a_eAt a_whereAt a_source a_distinct a_keeps f_at f_self f_brackets f_values a_vKind a_v f_waiting a_waits ++ z) H) (hin : vp_in i 24) (hdg : decode cc pc = .ok (.baload, 1)) (kk : W p l e R s m args below meth c H locs cells slots Q (F0 m (pc + 1) ls (.int (a_root i.toNatClampNeg) :: rest))) : W p l e R s m args below meth c H locs cells slots Q (F0 m pc ls (.int i :: .ref (q 4) :: rest)) :=
  va_zald hx hb hK hP 4 1 rfl rfl hin hdg kk
theorem tm_4 {i : Int32} {x : Int32} (hx : p.tables.exec = Jvm.exec) (hb : c.code = cc) (hK : va_K D hq_cl (hq_tys cI cZ cL) s) (hP : va_P D hq_cl (hm_w q cI cZ cL f_classes a_parent f_objects a_kindOf a_size a_root a_slotKind a_slot a_kept f_count a_code a_number f_want f_compared f_open a_opened f_rowCount a_rowKind a_rowValue f_many a_list f_seen f_fail f_level a_from a_eAt a_whereAt a_source a_distinct a_keeps f_at f_self f_brackets f_values a_vKind a_v f_waiting a_waits ++ z) H) (hD : va_D A (hm_w q cI cZ cL f_classes a_parent f_objects a_kindOf a_size a_root a_slotKind a_slot a_kept f_count a_code a_number f_want f_compared f_open a_opened f_rowCount a_rowKind a_rowValue f_many a_list f_seen f_fail f_level a_from a_eAt a_whereAt a_source a_distinct a_keeps f_at f_self f_brackets f_values a_vKind a_v f_waiting a_waits ++ z)) (hS : va_S A H0 H locs) (hin : vp_in i 24) (hz : x = 0 ∨ x = 1) (hdg : decode cc pc = .ok (.bastore, 1)) (kk : ∀ (H1 : Heap) (locs1 : List Loc), va_P D hq_cl (hm_w q cI cZ cL f_classes a_parent f_objects a_kindOf a_size (upd a_root i.toNatClampNeg x) a_slotKind a_slot a_kept f_count a_code a_number f_want f_compared f_open a_opened f_rowCount a_rowKind a_rowValue f_many a_list f_seen f_fail f_level a_from a_eAt a_whereAt a_source a_distinct a_keeps f_at f_self f_brackets f_values a_vKind a_v f_waiting a_waits ++ z) H1 → va_D A (hm_w q cI cZ cL f_classes a_parent f_objects a_kindOf a_size (upd a_root i.toNatClampNeg x) a_slotKind a_slot a_kept f_count a_code a_number f_want f_compared f_open a_opened f_rowCount a_rowKind a_rowValue f_many a_list f_seen f_fail f_level a_from a_eAt a_whereAt a_source a_distinct a_keeps f_at f_self f_brackets f_values a_vKind a_v f_waiting a_waits ++ z) → va_S A H0 H1 locs1 → W p l e R s m args below meth c H1 locs1 cells slots Q (F0 m (pc + 1) ls rest)) : W p l e R s m args below meth c H locs cells slots Q (F0 m pc ls (.int x :: .int i :: .ref (q 4) :: rest)) :=
  hq_zast hx hb hK hP hD hS 4 1 rfl rfl hin hz hdg kk
theorem am_5 {i : Int32} (hx : p.tables.exec = Jvm.exec) (hb : c.code = cc) (hK : va_K D hq_cl (hq_tys cI cZ cL) s) (hP : va_P D hq_cl (hm_w q cI cZ cL f_classes a_parent f_objects a_kindOf a_size a_root a_slotKind a_slot a_kept f_count a_code a_number f_want f_compared f_open a_opened f_rowCount a_rowKind a_rowValue f_many a_list f_seen f_fail f_level a_from a_eAt a_whereAt a_source a_distinct a_keeps f_at f_self f_brackets f_values a_vKind a_v f_waiting a_waits ++ z) H) (hin : vp_in i 96) (hdg : decode cc pc = .ok (.iaload, 1)) (kk : W p l e R s m args below meth c H locs cells slots Q (F0 m (pc + 1) ls (.int (a_slotKind i.toNatClampNeg) :: rest))) : W p l e R s m args below meth c H locs cells slots Q (F0 m pc ls (.int i :: .ref (q 5) :: rest)) :=
  va_iald hx hb hK hP 5 0 rfl rfl hin hdg kk
theorem tm_5 {i : Int32} {x : Int32} (hx : p.tables.exec = Jvm.exec) (hb : c.code = cc) (hK : va_K D hq_cl (hq_tys cI cZ cL) s) (hP : va_P D hq_cl (hm_w q cI cZ cL f_classes a_parent f_objects a_kindOf a_size a_root a_slotKind a_slot a_kept f_count a_code a_number f_want f_compared f_open a_opened f_rowCount a_rowKind a_rowValue f_many a_list f_seen f_fail f_level a_from a_eAt a_whereAt a_source a_distinct a_keeps f_at f_self f_brackets f_values a_vKind a_v f_waiting a_waits ++ z) H) (hD : va_D A (hm_w q cI cZ cL f_classes a_parent f_objects a_kindOf a_size a_root a_slotKind a_slot a_kept f_count a_code a_number f_want f_compared f_open a_opened f_rowCount a_rowKind a_rowValue f_many a_list f_seen f_fail f_level a_from a_eAt a_whereAt a_source a_distinct a_keeps f_at f_self f_brackets f_values a_vKind a_v f_waiting a_waits ++ z)) (hS : va_S A H0 H locs) (hin : vp_in i 96) (hdg : decode cc pc = .ok (.iastore, 1)) (kk : ∀ (H1 : Heap) (locs1 : List Loc), va_P D hq_cl (hm_w q cI cZ cL f_classes a_parent f_objects a_kindOf a_size a_root (upd a_slotKind i.toNatClampNeg x) a_slot a_kept f_count a_code a_number f_want f_compared f_open a_opened f_rowCount a_rowKind a_rowValue f_many a_list f_seen f_fail f_level a_from a_eAt a_whereAt a_source a_distinct a_keeps f_at f_self f_brackets f_values a_vKind a_v f_waiting a_waits ++ z) H1 → va_D A (hm_w q cI cZ cL f_classes a_parent f_objects a_kindOf a_size a_root (upd a_slotKind i.toNatClampNeg x) a_slot a_kept f_count a_code a_number f_want f_compared f_open a_opened f_rowCount a_rowKind a_rowValue f_many a_list f_seen f_fail f_level a_from a_eAt a_whereAt a_source a_distinct a_keeps f_at f_self f_brackets f_values a_vKind a_v f_waiting a_waits ++ z) → va_S A H0 H1 locs1 → W p l e R s m args below meth c H1 locs1 cells slots Q (F0 m (pc + 1) ls rest)) : W p l e R s m args below meth c H locs cells slots Q (F0 m pc ls (.int x :: .int i :: .ref (q 5) :: rest)) :=
  va_iast hx hb hK hP hD hS 5 0 rfl rfl hin hdg kk
theorem am_6 {i : Int32} (hx : p.tables.exec = Jvm.exec) (hb : c.code = cc) (hK : va_K D hq_cl (hq_tys cI cZ cL) s) (hP : va_P D hq_cl (hm_w q cI cZ cL f_classes a_parent f_objects a_kindOf a_size a_root a_slotKind a_slot a_kept f_count a_code a_number f_want f_compared f_open a_opened f_rowCount a_rowKind a_rowValue f_many a_list f_seen f_fail f_level a_from a_eAt a_whereAt a_source a_distinct a_keeps f_at f_self f_brackets f_values a_vKind a_v f_waiting a_waits ++ z) H) (hin : vp_in i 96) (hdg : decode cc pc = .ok (.iaload, 1)) (kk : W p l e R s m args below meth c H locs cells slots Q (F0 m (pc + 1) ls (.int (a_slot i.toNatClampNeg) :: rest))) : W p l e R s m args below meth c H locs cells slots Q (F0 m pc ls (.int i :: .ref (q 6) :: rest)) :=
  va_iald hx hb hK hP 6 0 rfl rfl hin hdg kk
theorem tm_6 {i : Int32} {x : Int32} (hx : p.tables.exec = Jvm.exec) (hb : c.code = cc) (hK : va_K D hq_cl (hq_tys cI cZ cL) s) (hP : va_P D hq_cl (hm_w q cI cZ cL f_classes a_parent f_objects a_kindOf a_size a_root a_slotKind a_slot a_kept f_count a_code a_number f_want f_compared f_open a_opened f_rowCount a_rowKind a_rowValue f_many a_list f_seen f_fail f_level a_from a_eAt a_whereAt a_source a_distinct a_keeps f_at f_self f_brackets f_values a_vKind a_v f_waiting a_waits ++ z) H) (hD : va_D A (hm_w q cI cZ cL f_classes a_parent f_objects a_kindOf a_size a_root a_slotKind a_slot a_kept f_count a_code a_number f_want f_compared f_open a_opened f_rowCount a_rowKind a_rowValue f_many a_list f_seen f_fail f_level a_from a_eAt a_whereAt a_source a_distinct a_keeps f_at f_self f_brackets f_values a_vKind a_v f_waiting a_waits ++ z)) (hS : va_S A H0 H locs) (hin : vp_in i 96) (hdg : decode cc pc = .ok (.iastore, 1)) (kk : ∀ (H1 : Heap) (locs1 : List Loc), va_P D hq_cl (hm_w q cI cZ cL f_classes a_parent f_objects a_kindOf a_size a_root a_slotKind (upd a_slot i.toNatClampNeg x) a_kept f_count a_code a_number f_want f_compared f_open a_opened f_rowCount a_rowKind a_rowValue f_many a_list f_seen f_fail f_level a_from a_eAt a_whereAt a_source a_distinct a_keeps f_at f_self f_brackets f_values a_vKind a_v f_waiting a_waits ++ z) H1 → va_D A (hm_w q cI cZ cL f_classes a_parent f_objects a_kindOf a_size a_root a_slotKind (upd a_slot i.toNatClampNeg x) a_kept f_count a_code a_number f_want f_compared f_open a_opened f_rowCount a_rowKind a_rowValue f_many a_list f_seen f_fail f_level a_from a_eAt a_whereAt a_source a_distinct a_keeps f_at f_self f_brackets f_values a_vKind a_v f_waiting a_waits ++ z) → va_S A H0 H1 locs1 → W p l e R s m args below meth c H1 locs1 cells slots Q (F0 m (pc + 1) ls rest)) : W p l e R s m args below meth c H locs cells slots Q (F0 m pc ls (.int x :: .int i :: .ref (q 6) :: rest)) :=
  va_iast hx hb hK hP hD hS 6 0 rfl rfl hin hdg kk
theorem am_7 {i : Int32} (hx : p.tables.exec = Jvm.exec) (hb : c.code = cc) (hK : va_K D hq_cl (hq_tys cI cZ cL) s) (hP : va_P D hq_cl (hm_w q cI cZ cL f_classes a_parent f_objects a_kindOf a_size a_root a_slotKind a_slot a_kept f_count a_code a_number f_want f_compared f_open a_opened f_rowCount a_rowKind a_rowValue f_many a_list f_seen f_fail f_level a_from a_eAt a_whereAt a_source a_distinct a_keeps f_at f_self f_brackets f_values a_vKind a_v f_waiting a_waits ++ z) H) (hin : vp_in i 24) (hdg : decode cc pc = .ok (.iaload, 1)) (kk : W p l e R s m args below meth c H locs cells slots Q (F0 m (pc + 1) ls (.int (a_kept i.toNatClampNeg) :: rest))) : W p l e R s m args below meth c H locs cells slots Q (F0 m pc ls (.int i :: .ref (q 7) :: rest)) :=
  va_iald hx hb hK hP 7 0 rfl rfl hin hdg kk
theorem tm_7 {i : Int32} {x : Int32} (hx : p.tables.exec = Jvm.exec) (hb : c.code = cc) (hK : va_K D hq_cl (hq_tys cI cZ cL) s) (hP : va_P D hq_cl (hm_w q cI cZ cL f_classes a_parent f_objects a_kindOf a_size a_root a_slotKind a_slot a_kept f_count a_code a_number f_want f_compared f_open a_opened f_rowCount a_rowKind a_rowValue f_many a_list f_seen f_fail f_level a_from a_eAt a_whereAt a_source a_distinct a_keeps f_at f_self f_brackets f_values a_vKind a_v f_waiting a_waits ++ z) H) (hD : va_D A (hm_w q cI cZ cL f_classes a_parent f_objects a_kindOf a_size a_root a_slotKind a_slot a_kept f_count a_code a_number f_want f_compared f_open a_opened f_rowCount a_rowKind a_rowValue f_many a_list f_seen f_fail f_level a_from a_eAt a_whereAt a_source a_distinct a_keeps f_at f_self f_brackets f_values a_vKind a_v f_waiting a_waits ++ z)) (hS : va_S A H0 H locs) (hin : vp_in i 24) (hdg : decode cc pc = .ok (.iastore, 1)) (kk : ∀ (H1 : Heap) (locs1 : List Loc), va_P D hq_cl (hm_w q cI cZ cL f_classes a_parent f_objects a_kindOf a_size a_root a_slotKind a_slot (upd a_kept i.toNatClampNeg x) f_count a_code a_number f_want f_compared f_open a_opened f_rowCount a_rowKind a_rowValue f_many a_list f_seen f_fail f_level a_from a_eAt a_whereAt a_source a_distinct a_keeps f_at f_self f_brackets f_values a_vKind a_v f_waiting a_waits ++ z) H1 → va_D A (hm_w q cI cZ cL f_classes a_parent f_objects a_kindOf a_size a_root a_slotKind a_slot (upd a_kept i.toNatClampNeg x) f_count a_code a_number f_want f_compared f_open a_opened f_rowCount a_rowKind a_rowValue f_many a_list f_seen f_fail f_level a_from a_eAt a_whereAt a_source a_distinct a_keeps f_at f_self f_brackets f_values a_vKind a_v f_waiting a_waits ++ z) → va_S A H0 H1 locs1 → W p l e R s m args below meth c H1 locs1 cells slots Q (F0 m (pc + 1) ls rest)) : W p l e R s m args below meth c H locs cells slots Q (F0 m pc ls (.int x :: .int i :: .ref (q 7) :: rest)) :=
  va_iast hx hb hK hP hD hS 7 0 rfl rfl hin hdg kk
theorem am_8 {i : Int32} (hx : p.tables.exec = Jvm.exec) (hb : c.code = cc) (hK : va_K D hq_cl (hq_tys cI cZ cL) s) (hP : va_P D hq_cl (hm_w q cI cZ cL f_classes a_parent f_objects a_kindOf a_size a_root a_slotKind a_slot a_kept f_count a_code a_number f_want f_compared f_open a_opened f_rowCount a_rowKind a_rowValue f_many a_list f_seen f_fail f_level a_from a_eAt a_whereAt a_source a_distinct a_keeps f_at f_self f_brackets f_values a_vKind a_v f_waiting a_waits ++ z) H) (hin : vp_in i 40) (hdg : decode cc pc = .ok (.iaload, 1)) (kk : W p l e R s m args below meth c H locs cells slots Q (F0 m (pc + 1) ls (.int (a_code i.toNatClampNeg) :: rest))) : W p l e R s m args below meth c H locs cells slots Q (F0 m pc ls (.int i :: .ref (q 8) :: rest)) :=
  va_iald hx hb hK hP 8 0 rfl rfl hin hdg kk
theorem tm_8 {i : Int32} {x : Int32} (hx : p.tables.exec = Jvm.exec) (hb : c.code = cc) (hK : va_K D hq_cl (hq_tys cI cZ cL) s) (hP : va_P D hq_cl (hm_w q cI cZ cL f_classes a_parent f_objects a_kindOf a_size a_root a_slotKind a_slot a_kept f_count a_code a_number f_want f_compared f_open a_opened f_rowCount a_rowKind a_rowValue f_many a_list f_seen f_fail f_level a_from a_eAt a_whereAt a_source a_distinct a_keeps f_at f_self f_brackets f_values a_vKind a_v f_waiting a_waits ++ z) H) (hD : va_D A (hm_w q cI cZ cL f_classes a_parent f_objects a_kindOf a_size a_root a_slotKind a_slot a_kept f_count a_code a_number f_want f_compared f_open a_opened f_rowCount a_rowKind a_rowValue f_many a_list f_seen f_fail f_level a_from a_eAt a_whereAt a_source a_distinct a_keeps f_at f_self f_brackets f_values a_vKind a_v f_waiting a_waits ++ z)) (hS : va_S A H0 H locs) (hin : vp_in i 40) (hdg : decode cc pc = .ok (.iastore, 1)) (kk : ∀ (H1 : Heap) (locs1 : List Loc), va_P D hq_cl (hm_w q cI cZ cL f_classes a_parent f_objects a_kindOf a_size a_root a_slotKind a_slot a_kept f_count (upd a_code i.toNatClampNeg x) a_number f_want f_compared f_open a_opened f_rowCount a_rowKind a_rowValue f_many a_list f_seen f_fail f_level a_from a_eAt a_whereAt a_source a_distinct a_keeps f_at f_self f_brackets f_values a_vKind a_v f_waiting a_waits ++ z) H1 → va_D A (hm_w q cI cZ cL f_classes a_parent f_objects a_kindOf a_size a_root a_slotKind a_slot a_kept f_count (upd a_code i.toNatClampNeg x) a_number f_want f_compared f_open a_opened f_rowCount a_rowKind a_rowValue f_many a_list f_seen f_fail f_level a_from a_eAt a_whereAt a_source a_distinct a_keeps f_at f_self f_brackets f_values a_vKind a_v f_waiting a_waits ++ z) → va_S A H0 H1 locs1 → W p l e R s m args below meth c H1 locs1 cells slots Q (F0 m (pc + 1) ls rest)) : W p l e R s m args below meth c H locs cells slots Q (F0 m pc ls (.int x :: .int i :: .ref (q 8) :: rest)) :=
  va_iast hx hb hK hP hD hS 8 0 rfl rfl hin hdg kk
theorem am_9 {i : Int32} (hx : p.tables.exec = Jvm.exec) (hb : c.code = cc) (hK : va_K D hq_cl (hq_tys cI cZ cL) s) (hP : va_P D hq_cl (hm_w q cI cZ cL f_classes a_parent f_objects a_kindOf a_size a_root a_slotKind a_slot a_kept f_count a_code a_number f_want f_compared f_open a_opened f_rowCount a_rowKind a_rowValue f_many a_list f_seen f_fail f_level a_from a_eAt a_whereAt a_source a_distinct a_keeps f_at f_self f_brackets f_values a_vKind a_v f_waiting a_waits ++ z) H) (hin : vp_in i 40) (hdg : decode cc pc = .ok (.iaload, 1)) (kk : W p l e R s m args below meth c H locs cells slots Q (F0 m (pc + 1) ls (.int (a_number i.toNatClampNeg) :: rest))) : W p l e R s m args below meth c H locs cells slots Q (F0 m pc ls (.int i :: .ref (q 9) :: rest)) :=
  va_iald hx hb hK hP 9 0 rfl rfl hin hdg kk
theorem tm_9 {i : Int32} {x : Int32} (hx : p.tables.exec = Jvm.exec) (hb : c.code = cc) (hK : va_K D hq_cl (hq_tys cI cZ cL) s) (hP : va_P D hq_cl (hm_w q cI cZ cL f_classes a_parent f_objects a_kindOf a_size a_root a_slotKind a_slot a_kept f_count a_code a_number f_want f_compared f_open a_opened f_rowCount a_rowKind a_rowValue f_many a_list f_seen f_fail f_level a_from a_eAt a_whereAt a_source a_distinct a_keeps f_at f_self f_brackets f_values a_vKind a_v f_waiting a_waits ++ z) H) (hD : va_D A (hm_w q cI cZ cL f_classes a_parent f_objects a_kindOf a_size a_root a_slotKind a_slot a_kept f_count a_code a_number f_want f_compared f_open a_opened f_rowCount a_rowKind a_rowValue f_many a_list f_seen f_fail f_level a_from a_eAt a_whereAt a_source a_distinct a_keeps f_at f_self f_brackets f_values a_vKind a_v f_waiting a_waits ++ z)) (hS : va_S A H0 H locs) (hin : vp_in i 40) (hdg : decode cc pc = .ok (.iastore, 1)) (kk : ∀ (H1 : Heap) (locs1 : List Loc), va_P D hq_cl (hm_w q cI cZ cL f_classes a_parent f_objects a_kindOf a_size a_root a_slotKind a_slot a_kept f_count a_code (upd a_number i.toNatClampNeg x) f_want f_compared f_open a_opened f_rowCount a_rowKind a_rowValue f_many a_list f_seen f_fail f_level a_from a_eAt a_whereAt a_source a_distinct a_keeps f_at f_self f_brackets f_values a_vKind a_v f_waiting a_waits ++ z) H1 → va_D A (hm_w q cI cZ cL f_classes a_parent f_objects a_kindOf a_size a_root a_slotKind a_slot a_kept f_count a_code (upd a_number i.toNatClampNeg x) f_want f_compared f_open a_opened f_rowCount a_rowKind a_rowValue f_many a_list f_seen f_fail f_level a_from a_eAt a_whereAt a_source a_distinct a_keeps f_at f_self f_brackets f_values a_vKind a_v f_waiting a_waits ++ z) → va_S A H0 H1 locs1 → W p l e R s m args below meth c H1 locs1 cells slots Q (F0 m (pc + 1) ls rest)) : W p l e R s m args below meth c H locs cells slots Q (F0 m pc ls (.int x :: .int i :: .ref (q 9) :: rest)) :=
  va_iast hx hb hK hP hD hS 9 0 rfl rfl hin hdg kk
theorem am_10 {i : Int32} (hx : p.tables.exec = Jvm.exec) (hb : c.code = cc) (hK : va_K D hq_cl (hq_tys cI cZ cL) s) (hP : va_P D hq_cl (hm_w q cI cZ cL f_classes a_parent f_objects a_kindOf a_size a_root a_slotKind a_slot a_kept f_count a_code a_number f_want f_compared f_open a_opened f_rowCount a_rowKind a_rowValue f_many a_list f_seen f_fail f_level a_from a_eAt a_whereAt a_source a_distinct a_keeps f_at f_self f_brackets f_values a_vKind a_v f_waiting a_waits ++ z) H) (hin : vp_in i 41) (hdg : decode cc pc = .ok (.iaload, 1)) (kk : W p l e R s m args below meth c H locs cells slots Q (F0 m (pc + 1) ls (.int (a_opened i.toNatClampNeg) :: rest))) : W p l e R s m args below meth c H locs cells slots Q (F0 m pc ls (.int i :: .ref (q 10) :: rest)) :=
  va_iald hx hb hK hP 10 0 rfl rfl hin hdg kk
theorem tm_10 {i : Int32} {x : Int32} (hx : p.tables.exec = Jvm.exec) (hb : c.code = cc) (hK : va_K D hq_cl (hq_tys cI cZ cL) s) (hP : va_P D hq_cl (hm_w q cI cZ cL f_classes a_parent f_objects a_kindOf a_size a_root a_slotKind a_slot a_kept f_count a_code a_number f_want f_compared f_open a_opened f_rowCount a_rowKind a_rowValue f_many a_list f_seen f_fail f_level a_from a_eAt a_whereAt a_source a_distinct a_keeps f_at f_self f_brackets f_values a_vKind a_v f_waiting a_waits ++ z) H) (hD : va_D A (hm_w q cI cZ cL f_classes a_parent f_objects a_kindOf a_size a_root a_slotKind a_slot a_kept f_count a_code a_number f_want f_compared f_open a_opened f_rowCount a_rowKind a_rowValue f_many a_list f_seen f_fail f_level a_from a_eAt a_whereAt a_source a_distinct a_keeps f_at f_self f_brackets f_values a_vKind a_v f_waiting a_waits ++ z)) (hS : va_S A H0 H locs) (hin : vp_in i 41) (hdg : decode cc pc = .ok (.iastore, 1)) (kk : ∀ (H1 : Heap) (locs1 : List Loc), va_P D hq_cl (hm_w q cI cZ cL f_classes a_parent f_objects a_kindOf a_size a_root a_slotKind a_slot a_kept f_count a_code a_number f_want f_compared f_open (upd a_opened i.toNatClampNeg x) f_rowCount a_rowKind a_rowValue f_many a_list f_seen f_fail f_level a_from a_eAt a_whereAt a_source a_distinct a_keeps f_at f_self f_brackets f_values a_vKind a_v f_waiting a_waits ++ z) H1 → va_D A (hm_w q cI cZ cL f_classes a_parent f_objects a_kindOf a_size a_root a_slotKind a_slot a_kept f_count a_code a_number f_want f_compared f_open (upd a_opened i.toNatClampNeg x) f_rowCount a_rowKind a_rowValue f_many a_list f_seen f_fail f_level a_from a_eAt a_whereAt a_source a_distinct a_keeps f_at f_self f_brackets f_values a_vKind a_v f_waiting a_waits ++ z) → va_S A H0 H1 locs1 → W p l e R s m args below meth c H1 locs1 cells slots Q (F0 m (pc + 1) ls rest)) : W p l e R s m args below meth c H locs cells slots Q (F0 m pc ls (.int x :: .int i :: .ref (q 10) :: rest)) :=
  va_iast hx hb hK hP hD hS 10 0 rfl rfl hin hdg kk
theorem am_11 {i : Int32} (hx : p.tables.exec = Jvm.exec) (hb : c.code = cc) (hK : va_K D hq_cl (hq_tys cI cZ cL) s) (hP : va_P D hq_cl (hm_w q cI cZ cL f_classes a_parent f_objects a_kindOf a_size a_root a_slotKind a_slot a_kept f_count a_code a_number f_want f_compared f_open a_opened f_rowCount a_rowKind a_rowValue f_many a_list f_seen f_fail f_level a_from a_eAt a_whereAt a_source a_distinct a_keeps f_at f_self f_brackets f_values a_vKind a_v f_waiting a_waits ++ z) H) (hin : vp_in i 200) (hdg : decode cc pc = .ok (.iaload, 1)) (kk : W p l e R s m args below meth c H locs cells slots Q (F0 m (pc + 1) ls (.int (a_rowKind i.toNatClampNeg) :: rest))) : W p l e R s m args below meth c H locs cells slots Q (F0 m pc ls (.int i :: .ref (q 11) :: rest)) :=
  va_iald hx hb hK hP 11 0 rfl rfl hin hdg kk
theorem tm_11 {i : Int32} {x : Int32} (hx : p.tables.exec = Jvm.exec) (hb : c.code = cc) (hK : va_K D hq_cl (hq_tys cI cZ cL) s) (hP : va_P D hq_cl (hm_w q cI cZ cL f_classes a_parent f_objects a_kindOf a_size a_root a_slotKind a_slot a_kept f_count a_code a_number f_want f_compared f_open a_opened f_rowCount a_rowKind a_rowValue f_many a_list f_seen f_fail f_level a_from a_eAt a_whereAt a_source a_distinct a_keeps f_at f_self f_brackets f_values a_vKind a_v f_waiting a_waits ++ z) H) (hD : va_D A (hm_w q cI cZ cL f_classes a_parent f_objects a_kindOf a_size a_root a_slotKind a_slot a_kept f_count a_code a_number f_want f_compared f_open a_opened f_rowCount a_rowKind a_rowValue f_many a_list f_seen f_fail f_level a_from a_eAt a_whereAt a_source a_distinct a_keeps f_at f_self f_brackets f_values a_vKind a_v f_waiting a_waits ++ z)) (hS : va_S A H0 H locs) (hin : vp_in i 200) (hdg : decode cc pc = .ok (.iastore, 1)) (kk : ∀ (H1 : Heap) (locs1 : List Loc), va_P D hq_cl (hm_w q cI cZ cL f_classes a_parent f_objects a_kindOf a_size a_root a_slotKind a_slot a_kept f_count a_code a_number f_want f_compared f_open a_opened f_rowCount (upd a_rowKind i.toNatClampNeg x) a_rowValue f_many a_list f_seen f_fail f_level a_from a_eAt a_whereAt a_source a_distinct a_keeps f_at f_self f_brackets f_values a_vKind a_v f_waiting a_waits ++ z) H1 → va_D A (hm_w q cI cZ cL f_classes a_parent f_objects a_kindOf a_size a_root a_slotKind a_slot a_kept f_count a_code a_number f_want f_compared f_open a_opened f_rowCount (upd a_rowKind i.toNatClampNeg x) a_rowValue f_many a_list f_seen f_fail f_level a_from a_eAt a_whereAt a_source a_distinct a_keeps f_at f_self f_brackets f_values a_vKind a_v f_waiting a_waits ++ z) → va_S A H0 H1 locs1 → W p l e R s m args below meth c H1 locs1 cells slots Q (F0 m (pc + 1) ls rest)) : W p l e R s m args below meth c H locs cells slots Q (F0 m pc ls (.int x :: .int i :: .ref (q 11) :: rest)) :=
  va_iast hx hb hK hP hD hS 11 0 rfl rfl hin hdg kk
theorem am_12 {i : Int32} (hx : p.tables.exec = Jvm.exec) (hb : c.code = cc) (hK : va_K D hq_cl (hq_tys cI cZ cL) s) (hP : va_P D hq_cl (hm_w q cI cZ cL f_classes a_parent f_objects a_kindOf a_size a_root a_slotKind a_slot a_kept f_count a_code a_number f_want f_compared f_open a_opened f_rowCount a_rowKind a_rowValue f_many a_list f_seen f_fail f_level a_from a_eAt a_whereAt a_source a_distinct a_keeps f_at f_self f_brackets f_values a_vKind a_v f_waiting a_waits ++ z) H) (hin : vp_in i 200) (hdg : decode cc pc = .ok (.iaload, 1)) (kk : W p l e R s m args below meth c H locs cells slots Q (F0 m (pc + 1) ls (.int (a_rowValue i.toNatClampNeg) :: rest))) : W p l e R s m args below meth c H locs cells slots Q (F0 m pc ls (.int i :: .ref (q 12) :: rest)) :=
  va_iald hx hb hK hP 12 0 rfl rfl hin hdg kk
theorem tm_12 {i : Int32} {x : Int32} (hx : p.tables.exec = Jvm.exec) (hb : c.code = cc) (hK : va_K D hq_cl (hq_tys cI cZ cL) s) (hP : va_P D hq_cl (hm_w q cI cZ cL f_classes a_parent f_objects a_kindOf a_size a_root a_slotKind a_slot a_kept f_count a_code a_number f_want f_compared f_open a_opened f_rowCount a_rowKind a_rowValue f_many a_list f_seen f_fail f_level a_from a_eAt a_whereAt a_source a_distinct a_keeps f_at f_self f_brackets f_values a_vKind a_v f_waiting a_waits ++ z) H) (hD : va_D A (hm_w q cI cZ cL f_classes a_parent f_objects a_kindOf a_size a_root a_slotKind a_slot a_kept f_count a_code a_number f_want f_compared f_open a_opened f_rowCount a_rowKind a_rowValue f_many a_list f_seen f_fail f_level a_from a_eAt a_whereAt a_source a_distinct a_keeps f_at f_self f_brackets f_values a_vKind a_v f_waiting a_waits ++ z)) (hS : va_S A H0 H locs) (hin : vp_in i 200) (hdg : decode cc pc = .ok (.iastore, 1)) (kk : ∀ (H1 : Heap) (locs1 : List Loc), va_P D hq_cl (hm_w q cI cZ cL f_classes a_parent f_objects a_kindOf a_size a_root a_slotKind a_slot a_kept f_count a_code a_number f_want f_compared f_open a_opened f_rowCount a_rowKind (upd a_rowValue i.toNatClampNeg x) f_many a_list f_seen f_fail f_level a_from a_eAt a_whereAt a_source a_distinct a_keeps f_at f_self f_brackets f_values a_vKind a_v f_waiting a_waits ++ z) H1 → va_D A (hm_w q cI cZ cL f_classes a_parent f_objects a_kindOf a_size a_root a_slotKind a_slot a_kept f_count a_code a_number f_want f_compared f_open a_opened f_rowCount a_rowKind (upd a_rowValue i.toNatClampNeg x) f_many a_list f_seen f_fail f_level a_from a_eAt a_whereAt a_source a_distinct a_keeps f_at f_self f_brackets f_values a_vKind a_v f_waiting a_waits ++ z) → va_S A H0 H1 locs1 → W p l e R s m args below meth c H1 locs1 cells slots Q (F0 m (pc + 1) ls rest)) : W p l e R s m args below meth c H locs cells slots Q (F0 m pc ls (.int x :: .int i :: .ref (q 12) :: rest)) :=
  va_iast hx hb hK hP hD hS 12 0 rfl rfl hin hdg kk
theorem am_13 {i : Int32} (hx : p.tables.exec = Jvm.exec) (hb : c.code = cc) (hK : va_K D hq_cl (hq_tys cI cZ cL) s) (hP : va_P D hq_cl (hm_w q cI cZ cL f_classes a_parent f_objects a_kindOf a_size a_root a_slotKind a_slot a_kept f_count a_code a_number f_want f_compared f_open a_opened f_rowCount a_rowKind a_rowValue f_many a_list f_seen f_fail f_level a_from a_eAt a_whereAt a_source a_distinct a_keeps f_at f_self f_brackets f_values a_vKind a_v f_waiting a_waits ++ z) H) (hin : vp_in i 200) (hdg : decode cc pc = .ok (.iaload, 1)) (kk : W p l e R s m args below meth c H locs cells slots Q (F0 m (pc + 1) ls (.int (a_list i.toNatClampNeg) :: rest))) : W p l e R s m args below meth c H locs cells slots Q (F0 m pc ls (.int i :: .ref (q 13) :: rest)) :=
  va_iald hx hb hK hP 13 0 rfl rfl hin hdg kk
theorem tm_13 {i : Int32} {x : Int32} (hx : p.tables.exec = Jvm.exec) (hb : c.code = cc) (hK : va_K D hq_cl (hq_tys cI cZ cL) s) (hP : va_P D hq_cl (hm_w q cI cZ cL f_classes a_parent f_objects a_kindOf a_size a_root a_slotKind a_slot a_kept f_count a_code a_number f_want f_compared f_open a_opened f_rowCount a_rowKind a_rowValue f_many a_list f_seen f_fail f_level a_from a_eAt a_whereAt a_source a_distinct a_keeps f_at f_self f_brackets f_values a_vKind a_v f_waiting a_waits ++ z) H) (hD : va_D A (hm_w q cI cZ cL f_classes a_parent f_objects a_kindOf a_size a_root a_slotKind a_slot a_kept f_count a_code a_number f_want f_compared f_open a_opened f_rowCount a_rowKind a_rowValue f_many a_list f_seen f_fail f_level a_from a_eAt a_whereAt a_source a_distinct a_keeps f_at f_self f_brackets f_values a_vKind a_v f_waiting a_waits ++ z)) (hS : va_S A H0 H locs) (hin : vp_in i 200) (hdg : decode cc pc = .ok (.iastore, 1)) (kk : ∀ (H1 : Heap) (locs1 : List Loc), va_P D hq_cl (hm_w q cI cZ cL f_classes a_parent f_objects a_kindOf a_size a_root a_slotKind a_slot a_kept f_count a_code a_number f_want f_compared f_open a_opened f_rowCount a_rowKind a_rowValue f_many (upd a_list i.toNatClampNeg x) f_seen f_fail f_level a_from a_eAt a_whereAt a_source a_distinct a_keeps f_at f_self f_brackets f_values a_vKind a_v f_waiting a_waits ++ z) H1 → va_D A (hm_w q cI cZ cL f_classes a_parent f_objects a_kindOf a_size a_root a_slotKind a_slot a_kept f_count a_code a_number f_want f_compared f_open a_opened f_rowCount a_rowKind a_rowValue f_many (upd a_list i.toNatClampNeg x) f_seen f_fail f_level a_from a_eAt a_whereAt a_source a_distinct a_keeps f_at f_self f_brackets f_values a_vKind a_v f_waiting a_waits ++ z) → va_S A H0 H1 locs1 → W p l e R s m args below meth c H1 locs1 cells slots Q (F0 m (pc + 1) ls rest)) : W p l e R s m args below meth c H locs cells slots Q (F0 m pc ls (.int x :: .int i :: .ref (q 13) :: rest)) :=
  va_iast hx hb hK hP hD hS 13 0 rfl rfl hin hdg kk
theorem am_14 {i : Int32} (hx : p.tables.exec = Jvm.exec) (hb : c.code = cc) (hK : va_K D hq_cl (hq_tys cI cZ cL) s) (hP : va_P D hq_cl (hm_w q cI cZ cL f_classes a_parent f_objects a_kindOf a_size a_root a_slotKind a_slot a_kept f_count a_code a_number f_want f_compared f_open a_opened f_rowCount a_rowKind a_rowValue f_many a_list f_seen f_fail f_level a_from a_eAt a_whereAt a_source a_distinct a_keeps f_at f_self f_brackets f_values a_vKind a_v f_waiting a_waits ++ z) H) (hin : vp_in i 41) (hdg : decode cc pc = .ok (.iaload, 1)) (kk : W p l e R s m args below meth c H locs cells slots Q (F0 m (pc + 1) ls (.int (a_from i.toNatClampNeg) :: rest))) : W p l e R s m args below meth c H locs cells slots Q (F0 m pc ls (.int i :: .ref (q 14) :: rest)) :=
  va_iald hx hb hK hP 14 0 rfl rfl hin hdg kk
theorem tm_14 {i : Int32} {x : Int32} (hx : p.tables.exec = Jvm.exec) (hb : c.code = cc) (hK : va_K D hq_cl (hq_tys cI cZ cL) s) (hP : va_P D hq_cl (hm_w q cI cZ cL f_classes a_parent f_objects a_kindOf a_size a_root a_slotKind a_slot a_kept f_count a_code a_number f_want f_compared f_open a_opened f_rowCount a_rowKind a_rowValue f_many a_list f_seen f_fail f_level a_from a_eAt a_whereAt a_source a_distinct a_keeps f_at f_self f_brackets f_values a_vKind a_v f_waiting a_waits ++ z) H) (hD : va_D A (hm_w q cI cZ cL f_classes a_parent f_objects a_kindOf a_size a_root a_slotKind a_slot a_kept f_count a_code a_number f_want f_compared f_open a_opened f_rowCount a_rowKind a_rowValue f_many a_list f_seen f_fail f_level a_from a_eAt a_whereAt a_source a_distinct a_keeps f_at f_self f_brackets f_values a_vKind a_v f_waiting a_waits ++ z)) (hS : va_S A H0 H locs) (hin : vp_in i 41) (hdg : decode cc pc = .ok (.iastore, 1)) (kk : ∀ (H1 : Heap) (locs1 : List Loc), va_P D hq_cl (hm_w q cI cZ cL f_classes a_parent f_objects a_kindOf a_size a_root a_slotKind a_slot a_kept f_count a_code a_number f_want f_compared f_open a_opened f_rowCount a_rowKind a_rowValue f_many a_list f_seen f_fail f_level (upd a_from i.toNatClampNeg x) a_eAt a_whereAt a_source a_distinct a_keeps f_at f_self f_brackets f_values a_vKind a_v f_waiting a_waits ++ z) H1 → va_D A (hm_w q cI cZ cL f_classes a_parent f_objects a_kindOf a_size a_root a_slotKind a_slot a_kept f_count a_code a_number f_want f_compared f_open a_opened f_rowCount a_rowKind a_rowValue f_many a_list f_seen f_fail f_level (upd a_from i.toNatClampNeg x) a_eAt a_whereAt a_source a_distinct a_keeps f_at f_self f_brackets f_values a_vKind a_v f_waiting a_waits ++ z) → va_S A H0 H1 locs1 → W p l e R s m args below meth c H1 locs1 cells slots Q (F0 m (pc + 1) ls rest)) : W p l e R s m args below meth c H locs cells slots Q (F0 m pc ls (.int x :: .int i :: .ref (q 14) :: rest)) :=
  va_iast hx hb hK hP hD hS 14 0 rfl rfl hin hdg kk
theorem am_15 {i : Int32} (hx : p.tables.exec = Jvm.exec) (hb : c.code = cc) (hK : va_K D hq_cl (hq_tys cI cZ cL) s) (hP : va_P D hq_cl (hm_w q cI cZ cL f_classes a_parent f_objects a_kindOf a_size a_root a_slotKind a_slot a_kept f_count a_code a_number f_want f_compared f_open a_opened f_rowCount a_rowKind a_rowValue f_many a_list f_seen f_fail f_level a_from a_eAt a_whereAt a_source a_distinct a_keeps f_at f_self f_brackets f_values a_vKind a_v f_waiting a_waits ++ z) H) (hin : vp_in i 41) (hdg : decode cc pc = .ok (.iaload, 1)) (kk : W p l e R s m args below meth c H locs cells slots Q (F0 m (pc + 1) ls (.int (a_eAt i.toNatClampNeg) :: rest))) : W p l e R s m args below meth c H locs cells slots Q (F0 m pc ls (.int i :: .ref (q 15) :: rest)) :=
  va_iald hx hb hK hP 15 0 rfl rfl hin hdg kk
theorem tm_15 {i : Int32} {x : Int32} (hx : p.tables.exec = Jvm.exec) (hb : c.code = cc) (hK : va_K D hq_cl (hq_tys cI cZ cL) s) (hP : va_P D hq_cl (hm_w q cI cZ cL f_classes a_parent f_objects a_kindOf a_size a_root a_slotKind a_slot a_kept f_count a_code a_number f_want f_compared f_open a_opened f_rowCount a_rowKind a_rowValue f_many a_list f_seen f_fail f_level a_from a_eAt a_whereAt a_source a_distinct a_keeps f_at f_self f_brackets f_values a_vKind a_v f_waiting a_waits ++ z) H) (hD : va_D A (hm_w q cI cZ cL f_classes a_parent f_objects a_kindOf a_size a_root a_slotKind a_slot a_kept f_count a_code a_number f_want f_compared f_open a_opened f_rowCount a_rowKind a_rowValue f_many a_list f_seen f_fail f_level a_from a_eAt a_whereAt a_source a_distinct a_keeps f_at f_self f_brackets f_values a_vKind a_v f_waiting a_waits ++ z)) (hS : va_S A H0 H locs) (hin : vp_in i 41) (hdg : decode cc pc = .ok (.iastore, 1)) (kk : ∀ (H1 : Heap) (locs1 : List Loc), va_P D hq_cl (hm_w q cI cZ cL f_classes a_parent f_objects a_kindOf a_size a_root a_slotKind a_slot a_kept f_count a_code a_number f_want f_compared f_open a_opened f_rowCount a_rowKind a_rowValue f_many a_list f_seen f_fail f_level a_from (upd a_eAt i.toNatClampNeg x) a_whereAt a_source a_distinct a_keeps f_at f_self f_brackets f_values a_vKind a_v f_waiting a_waits ++ z) H1 → va_D A (hm_w q cI cZ cL f_classes a_parent f_objects a_kindOf a_size a_root a_slotKind a_slot a_kept f_count a_code a_number f_want f_compared f_open a_opened f_rowCount a_rowKind a_rowValue f_many a_list f_seen f_fail f_level a_from (upd a_eAt i.toNatClampNeg x) a_whereAt a_source a_distinct a_keeps f_at f_self f_brackets f_values a_vKind a_v f_waiting a_waits ++ z) → va_S A H0 H1 locs1 → W p l e R s m args below meth c H1 locs1 cells slots Q (F0 m (pc + 1) ls rest)) : W p l e R s m args below meth c H locs cells slots Q (F0 m pc ls (.int x :: .int i :: .ref (q 15) :: rest)) :=
  va_iast hx hb hK hP hD hS 15 0 rfl rfl hin hdg kk
theorem am_16 {i : Int32} (hx : p.tables.exec = Jvm.exec) (hb : c.code = cc) (hK : va_K D hq_cl (hq_tys cI cZ cL) s) (hP : va_P D hq_cl (hm_w q cI cZ cL f_classes a_parent f_objects a_kindOf a_size a_root a_slotKind a_slot a_kept f_count a_code a_number f_want f_compared f_open a_opened f_rowCount a_rowKind a_rowValue f_many a_list f_seen f_fail f_level a_from a_eAt a_whereAt a_source a_distinct a_keeps f_at f_self f_brackets f_values a_vKind a_v f_waiting a_waits ++ z) H) (hin : vp_in i 41) (hdg : decode cc pc = .ok (.iaload, 1)) (kk : W p l e R s m args below meth c H locs cells slots Q (F0 m (pc + 1) ls (.int (a_whereAt i.toNatClampNeg) :: rest))) : W p l e R s m args below meth c H locs cells slots Q (F0 m pc ls (.int i :: .ref (q 16) :: rest)) :=
  va_iald hx hb hK hP 16 0 rfl rfl hin hdg kk
theorem tm_16 {i : Int32} {x : Int32} (hx : p.tables.exec = Jvm.exec) (hb : c.code = cc) (hK : va_K D hq_cl (hq_tys cI cZ cL) s) (hP : va_P D hq_cl (hm_w q cI cZ cL f_classes a_parent f_objects a_kindOf a_size a_root a_slotKind a_slot a_kept f_count a_code a_number f_want f_compared f_open a_opened f_rowCount a_rowKind a_rowValue f_many a_list f_seen f_fail f_level a_from a_eAt a_whereAt a_source a_distinct a_keeps f_at f_self f_brackets f_values a_vKind a_v f_waiting a_waits ++ z) H) (hD : va_D A (hm_w q cI cZ cL f_classes a_parent f_objects a_kindOf a_size a_root a_slotKind a_slot a_kept f_count a_code a_number f_want f_compared f_open a_opened f_rowCount a_rowKind a_rowValue f_many a_list f_seen f_fail f_level a_from a_eAt a_whereAt a_source a_distinct a_keeps f_at f_self f_brackets f_values a_vKind a_v f_waiting a_waits ++ z)) (hS : va_S A H0 H locs) (hin : vp_in i 41) (hdg : decode cc pc = .ok (.iastore, 1)) (kk : ∀ (H1 : Heap) (locs1 : List Loc), va_P D hq_cl (hm_w q cI cZ cL f_classes a_parent f_objects a_kindOf a_size a_root a_slotKind a_slot a_kept f_count a_code a_number f_want f_compared f_open a_opened f_rowCount a_rowKind a_rowValue f_many a_list f_seen f_fail f_level a_from a_eAt (upd a_whereAt i.toNatClampNeg x) a_source a_distinct a_keeps f_at f_self f_brackets f_values a_vKind a_v f_waiting a_waits ++ z) H1 → va_D A (hm_w q cI cZ cL f_classes a_parent f_objects a_kindOf a_size a_root a_slotKind a_slot a_kept f_count a_code a_number f_want f_compared f_open a_opened f_rowCount a_rowKind a_rowValue f_many a_list f_seen f_fail f_level a_from a_eAt (upd a_whereAt i.toNatClampNeg x) a_source a_distinct a_keeps f_at f_self f_brackets f_values a_vKind a_v f_waiting a_waits ++ z) → va_S A H0 H1 locs1 → W p l e R s m args below meth c H1 locs1 cells slots Q (F0 m (pc + 1) ls rest)) : W p l e R s m args below meth c H locs cells slots Q (F0 m pc ls (.int x :: .int i :: .ref (q 16) :: rest)) :=
  va_iast hx hb hK hP hD hS 16 0 rfl rfl hin hdg kk
theorem am_17 {i : Int32} (hx : p.tables.exec = Jvm.exec) (hb : c.code = cc) (hK : va_K D hq_cl (hq_tys cI cZ cL) s) (hP : va_P D hq_cl (hm_w q cI cZ cL f_classes a_parent f_objects a_kindOf a_size a_root a_slotKind a_slot a_kept f_count a_code a_number f_want f_compared f_open a_opened f_rowCount a_rowKind a_rowValue f_many a_list f_seen f_fail f_level a_from a_eAt a_whereAt a_source a_distinct a_keeps f_at f_self f_brackets f_values a_vKind a_v f_waiting a_waits ++ z) H) (hin : vp_in i 41) (hdg : decode cc pc = .ok (.iaload, 1)) (kk : W p l e R s m args below meth c H locs cells slots Q (F0 m (pc + 1) ls (.int (a_source i.toNatClampNeg) :: rest))) : W p l e R s m args below meth c H locs cells slots Q (F0 m pc ls (.int i :: .ref (q 17) :: rest)) :=
  va_iald hx hb hK hP 17 0 rfl rfl hin hdg kk
theorem tm_17 {i : Int32} {x : Int32} (hx : p.tables.exec = Jvm.exec) (hb : c.code = cc) (hK : va_K D hq_cl (hq_tys cI cZ cL) s) (hP : va_P D hq_cl (hm_w q cI cZ cL f_classes a_parent f_objects a_kindOf a_size a_root a_slotKind a_slot a_kept f_count a_code a_number f_want f_compared f_open a_opened f_rowCount a_rowKind a_rowValue f_many a_list f_seen f_fail f_level a_from a_eAt a_whereAt a_source a_distinct a_keeps f_at f_self f_brackets f_values a_vKind a_v f_waiting a_waits ++ z) H) (hD : va_D A (hm_w q cI cZ cL f_classes a_parent f_objects a_kindOf a_size a_root a_slotKind a_slot a_kept f_count a_code a_number f_want f_compared f_open a_opened f_rowCount a_rowKind a_rowValue f_many a_list f_seen f_fail f_level a_from a_eAt a_whereAt a_source a_distinct a_keeps f_at f_self f_brackets f_values a_vKind a_v f_waiting a_waits ++ z)) (hS : va_S A H0 H locs) (hin : vp_in i 41) (hdg : decode cc pc = .ok (.iastore, 1)) (kk : ∀ (H1 : Heap) (locs1 : List Loc), va_P D hq_cl (hm_w q cI cZ cL f_classes a_parent f_objects a_kindOf a_size a_root a_slotKind a_slot a_kept f_count a_code a_number f_want f_compared f_open a_opened f_rowCount a_rowKind a_rowValue f_many a_list f_seen f_fail f_level a_from a_eAt a_whereAt (upd a_source i.toNatClampNeg x) a_distinct a_keeps f_at f_self f_brackets f_values a_vKind a_v f_waiting a_waits ++ z) H1 → va_D A (hm_w q cI cZ cL f_classes a_parent f_objects a_kindOf a_size a_root a_slotKind a_slot a_kept f_count a_code a_number f_want f_compared f_open a_opened f_rowCount a_rowKind a_rowValue f_many a_list f_seen f_fail f_level a_from a_eAt a_whereAt (upd a_source i.toNatClampNeg x) a_distinct a_keeps f_at f_self f_brackets f_values a_vKind a_v f_waiting a_waits ++ z) → va_S A H0 H1 locs1 → W p l e R s m args below meth c H1 locs1 cells slots Q (F0 m (pc + 1) ls rest)) : W p l e R s m args below meth c H locs cells slots Q (F0 m pc ls (.int x :: .int i :: .ref (q 17) :: rest)) :=
  va_iast hx hb hK hP hD hS 17 0 rfl rfl hin hdg kk
theorem am_18 {i : Int32} (hx : p.tables.exec = Jvm.exec) (hb : c.code = cc) (hK : va_K D hq_cl (hq_tys cI cZ cL) s) (hP : va_P D hq_cl (hm_w q cI cZ cL f_classes a_parent f_objects a_kindOf a_size a_root a_slotKind a_slot a_kept f_count a_code a_number f_want f_compared f_open a_opened f_rowCount a_rowKind a_rowValue f_many a_list f_seen f_fail f_level a_from a_eAt a_whereAt a_source a_distinct a_keeps f_at f_self f_brackets f_values a_vKind a_v f_waiting a_waits ++ z) H) (hin : vp_in i 41) (hdg : decode cc pc = .ok (.baload, 1)) (kk : W p l e R s m args below meth c H locs cells slots Q (F0 m (pc + 1) ls (.int (a_distinct i.toNatClampNeg) :: rest))) : W p l e R s m args below meth c H locs cells slots Q (F0 m pc ls (.int i :: .ref (q 18) :: rest)) :=
  va_zald hx hb hK hP 18 1 rfl rfl hin hdg kk
theorem tm_18 {i : Int32} {x : Int32} (hx : p.tables.exec = Jvm.exec) (hb : c.code = cc) (hK : va_K D hq_cl (hq_tys cI cZ cL) s) (hP : va_P D hq_cl (hm_w q cI cZ cL f_classes a_parent f_objects a_kindOf a_size a_root a_slotKind a_slot a_kept f_count a_code a_number f_want f_compared f_open a_opened f_rowCount a_rowKind a_rowValue f_many a_list f_seen f_fail f_level a_from a_eAt a_whereAt a_source a_distinct a_keeps f_at f_self f_brackets f_values a_vKind a_v f_waiting a_waits ++ z) H) (hD : va_D A (hm_w q cI cZ cL f_classes a_parent f_objects a_kindOf a_size a_root a_slotKind a_slot a_kept f_count a_code a_number f_want f_compared f_open a_opened f_rowCount a_rowKind a_rowValue f_many a_list f_seen f_fail f_level a_from a_eAt a_whereAt a_source a_distinct a_keeps f_at f_self f_brackets f_values a_vKind a_v f_waiting a_waits ++ z)) (hS : va_S A H0 H locs) (hin : vp_in i 41) (hz : x = 0 ∨ x = 1) (hdg : decode cc pc = .ok (.bastore, 1)) (kk : ∀ (H1 : Heap) (locs1 : List Loc), va_P D hq_cl (hm_w q cI cZ cL f_classes a_parent f_objects a_kindOf a_size a_root a_slotKind a_slot a_kept f_count a_code a_number f_want f_compared f_open a_opened f_rowCount a_rowKind a_rowValue f_many a_list f_seen f_fail f_level a_from a_eAt a_whereAt a_source (upd a_distinct i.toNatClampNeg x) a_keeps f_at f_self f_brackets f_values a_vKind a_v f_waiting a_waits ++ z) H1 → va_D A (hm_w q cI cZ cL f_classes a_parent f_objects a_kindOf a_size a_root a_slotKind a_slot a_kept f_count a_code a_number f_want f_compared f_open a_opened f_rowCount a_rowKind a_rowValue f_many a_list f_seen f_fail f_level a_from a_eAt a_whereAt a_source (upd a_distinct i.toNatClampNeg x) a_keeps f_at f_self f_brackets f_values a_vKind a_v f_waiting a_waits ++ z) → va_S A H0 H1 locs1 → W p l e R s m args below meth c H1 locs1 cells slots Q (F0 m (pc + 1) ls rest)) : W p l e R s m args below meth c H locs cells slots Q (F0 m pc ls (.int x :: .int i :: .ref (q 18) :: rest)) :=
  hq_zast hx hb hK hP hD hS 18 1 rfl rfl hin hz hdg kk
theorem am_19 {i : Int32} (hx : p.tables.exec = Jvm.exec) (hb : c.code = cc) (hK : va_K D hq_cl (hq_tys cI cZ cL) s) (hP : va_P D hq_cl (hm_w q cI cZ cL f_classes a_parent f_objects a_kindOf a_size a_root a_slotKind a_slot a_kept f_count a_code a_number f_want f_compared f_open a_opened f_rowCount a_rowKind a_rowValue f_many a_list f_seen f_fail f_level a_from a_eAt a_whereAt a_source a_distinct a_keeps f_at f_self f_brackets f_values a_vKind a_v f_waiting a_waits ++ z) H) (hin : vp_in i 41) (hdg : decode cc pc = .ok (.baload, 1)) (kk : W p l e R s m args below meth c H locs cells slots Q (F0 m (pc + 1) ls (.int (a_keeps i.toNatClampNeg) :: rest))) : W p l e R s m args below meth c H locs cells slots Q (F0 m pc ls (.int i :: .ref (q 19) :: rest)) :=
  va_zald hx hb hK hP 19 1 rfl rfl hin hdg kk
theorem tm_19 {i : Int32} {x : Int32} (hx : p.tables.exec = Jvm.exec) (hb : c.code = cc) (hK : va_K D hq_cl (hq_tys cI cZ cL) s) (hP : va_P D hq_cl (hm_w q cI cZ cL f_classes a_parent f_objects a_kindOf a_size a_root a_slotKind a_slot a_kept f_count a_code a_number f_want f_compared f_open a_opened f_rowCount a_rowKind a_rowValue f_many a_list f_seen f_fail f_level a_from a_eAt a_whereAt a_source a_distinct a_keeps f_at f_self f_brackets f_values a_vKind a_v f_waiting a_waits ++ z) H) (hD : va_D A (hm_w q cI cZ cL f_classes a_parent f_objects a_kindOf a_size a_root a_slotKind a_slot a_kept f_count a_code a_number f_want f_compared f_open a_opened f_rowCount a_rowKind a_rowValue f_many a_list f_seen f_fail f_level a_from a_eAt a_whereAt a_source a_distinct a_keeps f_at f_self f_brackets f_values a_vKind a_v f_waiting a_waits ++ z)) (hS : va_S A H0 H locs) (hin : vp_in i 41) (hz : x = 0 ∨ x = 1) (hdg : decode cc pc = .ok (.bastore, 1)) (kk : ∀ (H1 : Heap) (locs1 : List Loc), va_P D hq_cl (hm_w q cI cZ cL f_classes a_parent f_objects a_kindOf a_size a_root a_slotKind a_slot a_kept f_count a_code a_number f_want f_compared f_open a_opened f_rowCount a_rowKind a_rowValue f_many a_list f_seen f_fail f_level a_from a_eAt a_whereAt a_source a_distinct (upd a_keeps i.toNatClampNeg x) f_at f_self f_brackets f_values a_vKind a_v f_waiting a_waits ++ z) H1 → va_D A (hm_w q cI cZ cL f_classes a_parent f_objects a_kindOf a_size a_root a_slotKind a_slot a_kept f_count a_code a_number f_want f_compared f_open a_opened f_rowCount a_rowKind a_rowValue f_many a_list f_seen f_fail f_level a_from a_eAt a_whereAt a_source a_distinct (upd a_keeps i.toNatClampNeg x) f_at f_self f_brackets f_values a_vKind a_v f_waiting a_waits ++ z) → va_S A H0 H1 locs1 → W p l e R s m args below meth c H1 locs1 cells slots Q (F0 m (pc + 1) ls rest)) : W p l e R s m args below meth c H locs cells slots Q (F0 m pc ls (.int x :: .int i :: .ref (q 19) :: rest)) :=
  hq_zast hx hb hK hP hD hS 19 1 rfl rfl hin hz hdg kk
theorem am_20 {i : Int32} (hx : p.tables.exec = Jvm.exec) (hb : c.code = cc) (hK : va_K D hq_cl (hq_tys cI cZ cL) s) (hP : va_P D hq_cl (hm_w q cI cZ cL f_classes a_parent f_objects a_kindOf a_size a_root a_slotKind a_slot a_kept f_count a_code a_number f_want f_compared f_open a_opened f_rowCount a_rowKind a_rowValue f_many a_list f_seen f_fail f_level a_from a_eAt a_whereAt a_source a_distinct a_keeps f_at f_self f_brackets f_values a_vKind a_v f_waiting a_waits ++ z) H) (hin : vp_in i 41) (hdg : decode cc pc = .ok (.iaload, 1)) (kk : W p l e R s m args below meth c H locs cells slots Q (F0 m (pc + 1) ls (.int (a_vKind i.toNatClampNeg) :: rest))) : W p l e R s m args below meth c H locs cells slots Q (F0 m pc ls (.int i :: .ref (q 20) :: rest)) :=
  va_iald hx hb hK hP 20 0 rfl rfl hin hdg kk
theorem tm_20 {i : Int32} {x : Int32} (hx : p.tables.exec = Jvm.exec) (hb : c.code = cc) (hK : va_K D hq_cl (hq_tys cI cZ cL) s) (hP : va_P D hq_cl (hm_w q cI cZ cL f_classes a_parent f_objects a_kindOf a_size a_root a_slotKind a_slot a_kept f_count a_code a_number f_want f_compared f_open a_opened f_rowCount a_rowKind a_rowValue f_many a_list f_seen f_fail f_level a_from a_eAt a_whereAt a_source a_distinct a_keeps f_at f_self f_brackets f_values a_vKind a_v f_waiting a_waits ++ z) H) (hD : va_D A (hm_w q cI cZ cL f_classes a_parent f_objects a_kindOf a_size a_root a_slotKind a_slot a_kept f_count a_code a_number f_want f_compared f_open a_opened f_rowCount a_rowKind a_rowValue f_many a_list f_seen f_fail f_level a_from a_eAt a_whereAt a_source a_distinct a_keeps f_at f_self f_brackets f_values a_vKind a_v f_waiting a_waits ++ z)) (hS : va_S A H0 H locs) (hin : vp_in i 41) (hdg : decode cc pc = .ok (.iastore, 1)) (kk : ∀ (H1 : Heap) (locs1 : List Loc), va_P D hq_cl (hm_w q cI cZ cL f_classes a_parent f_objects a_kindOf a_size a_root a_slotKind a_slot a_kept f_count a_code a_number f_want f_compared f_open a_opened f_rowCount a_rowKind a_rowValue f_many a_list f_seen f_fail f_level a_from a_eAt a_whereAt a_source a_distinct a_keeps f_at f_self f_brackets f_values (upd a_vKind i.toNatClampNeg x) a_v f_waiting a_waits ++ z) H1 → va_D A (hm_w q cI cZ cL f_classes a_parent f_objects a_kindOf a_size a_root a_slotKind a_slot a_kept f_count a_code a_number f_want f_compared f_open a_opened f_rowCount a_rowKind a_rowValue f_many a_list f_seen f_fail f_level a_from a_eAt a_whereAt a_source a_distinct a_keeps f_at f_self f_brackets f_values (upd a_vKind i.toNatClampNeg x) a_v f_waiting a_waits ++ z) → va_S A H0 H1 locs1 → W p l e R s m args below meth c H1 locs1 cells slots Q (F0 m (pc + 1) ls rest)) : W p l e R s m args below meth c H locs cells slots Q (F0 m pc ls (.int x :: .int i :: .ref (q 20) :: rest)) :=
  va_iast hx hb hK hP hD hS 20 0 rfl rfl hin hdg kk
theorem am_21 {i : Int32} (hx : p.tables.exec = Jvm.exec) (hb : c.code = cc) (hK : va_K D hq_cl (hq_tys cI cZ cL) s) (hP : va_P D hq_cl (hm_w q cI cZ cL f_classes a_parent f_objects a_kindOf a_size a_root a_slotKind a_slot a_kept f_count a_code a_number f_want f_compared f_open a_opened f_rowCount a_rowKind a_rowValue f_many a_list f_seen f_fail f_level a_from a_eAt a_whereAt a_source a_distinct a_keeps f_at f_self f_brackets f_values a_vKind a_v f_waiting a_waits ++ z) H) (hin : vp_in i 41) (hdg : decode cc pc = .ok (.iaload, 1)) (kk : W p l e R s m args below meth c H locs cells slots Q (F0 m (pc + 1) ls (.int (a_v i.toNatClampNeg) :: rest))) : W p l e R s m args below meth c H locs cells slots Q (F0 m pc ls (.int i :: .ref (q 21) :: rest)) :=
  va_iald hx hb hK hP 21 0 rfl rfl hin hdg kk
theorem tm_21 {i : Int32} {x : Int32} (hx : p.tables.exec = Jvm.exec) (hb : c.code = cc) (hK : va_K D hq_cl (hq_tys cI cZ cL) s) (hP : va_P D hq_cl (hm_w q cI cZ cL f_classes a_parent f_objects a_kindOf a_size a_root a_slotKind a_slot a_kept f_count a_code a_number f_want f_compared f_open a_opened f_rowCount a_rowKind a_rowValue f_many a_list f_seen f_fail f_level a_from a_eAt a_whereAt a_source a_distinct a_keeps f_at f_self f_brackets f_values a_vKind a_v f_waiting a_waits ++ z) H) (hD : va_D A (hm_w q cI cZ cL f_classes a_parent f_objects a_kindOf a_size a_root a_slotKind a_slot a_kept f_count a_code a_number f_want f_compared f_open a_opened f_rowCount a_rowKind a_rowValue f_many a_list f_seen f_fail f_level a_from a_eAt a_whereAt a_source a_distinct a_keeps f_at f_self f_brackets f_values a_vKind a_v f_waiting a_waits ++ z)) (hS : va_S A H0 H locs) (hin : vp_in i 41) (hdg : decode cc pc = .ok (.iastore, 1)) (kk : ∀ (H1 : Heap) (locs1 : List Loc), va_P D hq_cl (hm_w q cI cZ cL f_classes a_parent f_objects a_kindOf a_size a_root a_slotKind a_slot a_kept f_count a_code a_number f_want f_compared f_open a_opened f_rowCount a_rowKind a_rowValue f_many a_list f_seen f_fail f_level a_from a_eAt a_whereAt a_source a_distinct a_keeps f_at f_self f_brackets f_values a_vKind (upd a_v i.toNatClampNeg x) f_waiting a_waits ++ z) H1 → va_D A (hm_w q cI cZ cL f_classes a_parent f_objects a_kindOf a_size a_root a_slotKind a_slot a_kept f_count a_code a_number f_want f_compared f_open a_opened f_rowCount a_rowKind a_rowValue f_many a_list f_seen f_fail f_level a_from a_eAt a_whereAt a_source a_distinct a_keeps f_at f_self f_brackets f_values a_vKind (upd a_v i.toNatClampNeg x) f_waiting a_waits ++ z) → va_S A H0 H1 locs1 → W p l e R s m args below meth c H1 locs1 cells slots Q (F0 m (pc + 1) ls rest)) : W p l e R s m args below meth c H locs cells slots Q (F0 m pc ls (.int x :: .int i :: .ref (q 21) :: rest)) :=
  va_iast hx hb hK hP hD hS 21 0 rfl rfl hin hdg kk
theorem am_22 {i : Int32} (hx : p.tables.exec = Jvm.exec) (hb : c.code = cc) (hK : va_K D hq_cl (hq_tys cI cZ cL) s) (hP : va_P D hq_cl (hm_w q cI cZ cL f_classes a_parent f_objects a_kindOf a_size a_root a_slotKind a_slot a_kept f_count a_code a_number f_want f_compared f_open a_opened f_rowCount a_rowKind a_rowValue f_many a_list f_seen f_fail f_level a_from a_eAt a_whereAt a_source a_distinct a_keeps f_at f_self f_brackets f_values a_vKind a_v f_waiting a_waits ++ z) H) (hin : vp_in i 41) (hdg : decode cc pc = .ok (.iaload, 1)) (kk : W p l e R s m args below meth c H locs cells slots Q (F0 m (pc + 1) ls (.int (a_waits i.toNatClampNeg) :: rest))) : W p l e R s m args below meth c H locs cells slots Q (F0 m pc ls (.int i :: .ref (q 22) :: rest)) :=
  va_iald hx hb hK hP 22 0 rfl rfl hin hdg kk
theorem tm_22 {i : Int32} {x : Int32} (hx : p.tables.exec = Jvm.exec) (hb : c.code = cc) (hK : va_K D hq_cl (hq_tys cI cZ cL) s) (hP : va_P D hq_cl (hm_w q cI cZ cL f_classes a_parent f_objects a_kindOf a_size a_root a_slotKind a_slot a_kept f_count a_code a_number f_want f_compared f_open a_opened f_rowCount a_rowKind a_rowValue f_many a_list f_seen f_fail f_level a_from a_eAt a_whereAt a_source a_distinct a_keeps f_at f_self f_brackets f_values a_vKind a_v f_waiting a_waits ++ z) H) (hD : va_D A (hm_w q cI cZ cL f_classes a_parent f_objects a_kindOf a_size a_root a_slotKind a_slot a_kept f_count a_code a_number f_want f_compared f_open a_opened f_rowCount a_rowKind a_rowValue f_many a_list f_seen f_fail f_level a_from a_eAt a_whereAt a_source a_distinct a_keeps f_at f_self f_brackets f_values a_vKind a_v f_waiting a_waits ++ z)) (hS : va_S A H0 H locs) (hin : vp_in i 41) (hdg : decode cc pc = .ok (.iastore, 1)) (kk : ∀ (H1 : Heap) (locs1 : List Loc), va_P D hq_cl (hm_w q cI cZ cL f_classes a_parent f_objects a_kindOf a_size a_root a_slotKind a_slot a_kept f_count a_code a_number f_want f_compared f_open a_opened f_rowCount a_rowKind a_rowValue f_many a_list f_seen f_fail f_level a_from a_eAt a_whereAt a_source a_distinct a_keeps f_at f_self f_brackets f_values a_vKind a_v f_waiting (upd a_waits i.toNatClampNeg x) ++ z) H1 → va_D A (hm_w q cI cZ cL f_classes a_parent f_objects a_kindOf a_size a_root a_slotKind a_slot a_kept f_count a_code a_number f_want f_compared f_open a_opened f_rowCount a_rowKind a_rowValue f_many a_list f_seen f_fail f_level a_from a_eAt a_whereAt a_source a_distinct a_keeps f_at f_self f_brackets f_values a_vKind a_v f_waiting (upd a_waits i.toNatClampNeg x) ++ z) → va_S A H0 H1 locs1 → W p l e R s m args below meth c H1 locs1 cells slots Q (F0 m (pc + 1) ls rest)) : W p l e R s m args below meth c H locs cells slots Q (F0 m pc ls (.int x :: .int i :: .ref (q 22) :: rest)) :=
  va_iast hx hb hK hP hD hS 22 0 rfl rfl hin hdg kk
end
section
variable {p : Program} {l : Launch} {e : Env} {R : Room} {s : State} {m : MethodId} {args : Array Value} {below : List Frame} {meth : Method} {c : Code} {H H0 : Heap} {locs : List Loc} {cells slots : Nat} {Q : State → Prop}
variable {cc : ByteArray} {pc idx nC : Nat} {ls : Array Slot} {rest : List Value} {D : va_G} {A : Nat → Prop} {own : String} {q : Nat → Nat} {cI cZ cL : ClassId} {z w : va_W}
variable {hf_classCount hf_objectCount hf_roots hf_changed sf_objectCount sf_roots sf_reachable tf_count tf_bracketCount tf_place tf_inWhere tf_compared wf_count wf_looks n_code n_number s_isDistinct s_isRetained s_sourceClass s_withDescendants : Int32}
variable {ha_parents ha_classes ha_sizes sa_linkedFrom sa_linkCounts sa_retainedSets sa_retainedSizes sa_dominators sa_immediateDominators ta_codes ta_numbers ta_brackets : Nat → Int32}
variable {ha_fields wa_rows : Nat → Int64}
variable {xq_query n_left n_right s_row s_nested s_condition s_next : Option Nat}
variable {pa_n pk_n pa_s pk_s : Nat}
theorem gx_0_heap (hx : p.tables.exec = Jvm.exec) (hb : c.code = cc) (hts : ∀ x ∈ hq_tbl, x.before args s = true) (hown : s.vm.findClass own = some m.cls) (hK : va_K D hq_cl (hq_tys cI cZ cL) s) (hP : va_P D hq_cl (hx_w q cI cZ cL xq_query ha_parents hf_classCount ha_classes ha_sizes ha_fields hf_objectCount hf_roots hf_changed sa_linkedFrom sa_linkCounts sa_retainedSets sa_retainedSizes sa_dominators sa_immediateDominators sf_objectCount sf_roots sf_reachable ta_codes ta_numbers tf_count ta_brackets tf_bracketCount tf_place tf_inWhere tf_compared wa_rows wf_count wf_looks ++ z) H) (hw : Cond.fieldLink own idx "HeapQueries" "heap" "LHeapQueries$Heap;" ∈ hq_tbl) (hdg : decode cc pc = .ok (.getfield idx, 3)) (kk : W p l e R s m args below meth c H locs cells slots Q (F0 m (pc + 3) ls (.ref (q 1) :: rest))) : W p l e R s m args below meth c H locs cells slots Q (F0 m pc ls (.ref (q 0) :: rest)) :=
  va_get hx hb hts hin_xq hown hK hP 0 rfl rfl 0 (by decide) (hts _ hw) (fun _ h9 => h9) rfl hdg kk
theorem gx_0_text (hx : p.tables.exec = Jvm.exec) (hb : c.code = cc) (hts : ∀ x ∈ hq_tbl, x.before args s = true) (hown : s.vm.findClass own = some m.cls) (hK : va_K D hq_cl (hq_tys cI cZ cL) s) (hP : va_P D hq_cl (hx_w q cI cZ cL xq_query ha_parents hf_classCount ha_classes ha_sizes ha_fields hf_objectCount hf_roots hf_changed sa_linkedFrom sa_linkCounts sa_retainedSets sa_retainedSizes sa_dominators sa_immediateDominators sf_objectCount sf_roots sf_reachable ta_codes ta_numbers tf_count ta_brackets tf_bracketCount tf_place tf_inWhere tf_compared wa_rows wf_count wf_looks ++ z) H) (hw : Cond.fieldLink own idx "HeapQueries" "text" "LHeapQueries$Text;" ∈ hq_tbl) (hdg : decode cc pc = .ok (.getfield idx, 3)) (kk : W p l e R s m args below meth c H locs cells slots Q (F0 m (pc + 3) ls (.ref (q 3) :: rest))) : W p l e R s m args below meth c H locs cells slots Q (F0 m pc ls (.ref (q 0) :: rest)) :=
  va_get hx hb hts hin_xq hown hK hP 0 rfl rfl 1 (by decide) (hts _ hw) (fun _ h9 => h9) rfl hdg kk
theorem gx_0_worker (hx : p.tables.exec = Jvm.exec) (hb : c.code = cc) (hts : ∀ x ∈ hq_tbl, x.before args s = true) (hown : s.vm.findClass own = some m.cls) (hK : va_K D hq_cl (hq_tys cI cZ cL) s) (hP : va_P D hq_cl (hx_w q cI cZ cL xq_query ha_parents hf_classCount ha_classes ha_sizes ha_fields hf_objectCount hf_roots hf_changed sa_linkedFrom sa_linkCounts sa_retainedSets sa_retainedSizes sa_dominators sa_immediateDominators sf_objectCount sf_roots sf_reachable ta_codes ta_numbers tf_count ta_brackets tf_bracketCount tf_place tf_inWhere tf_compared wa_rows wf_count wf_looks ++ z) H) (hw : Cond.fieldLink own idx "HeapQueries" "worker" "LHeapQueries$Worker;" ∈ hq_tbl) (hdg : decode cc pc = .ok (.getfield idx, 3)) (kk : W p l e R s m args below meth c H locs cells slots Q (F0 m (pc + 3) ls (.ref (q 4) :: rest))) : W p l e R s m args below meth c H locs cells slots Q (F0 m pc ls (.ref (q 0) :: rest)) :=
  va_get hx hb hts hin_xq hown hK hP 0 rfl rfl 2 (by decide) (hts _ hw) (fun _ h9 => h9) rfl hdg kk
theorem gx_0_query (hx : p.tables.exec = Jvm.exec) (hb : c.code = cc) (hts : ∀ x ∈ hq_tbl, x.before args s = true) (hown : s.vm.findClass own = some m.cls) (hK : va_K D hq_cl (hq_tys cI cZ cL) s) (hP : va_P D hq_cl (hx_w q cI cZ cL xq_query ha_parents hf_classCount ha_classes ha_sizes ha_fields hf_objectCount hf_roots hf_changed sa_linkedFrom sa_linkCounts sa_retainedSets sa_retainedSizes sa_dominators sa_immediateDominators sf_objectCount sf_roots sf_reachable ta_codes ta_numbers tf_count ta_brackets tf_bracketCount tf_place tf_inWhere tf_compared wa_rows wf_count wf_looks ++ z) H) (hw : Cond.fieldLink own idx "HeapQueries" "query" "LHeapQueries$Select;" ∈ hq_tbl) (hdg : decode cc pc = .ok (.getfield idx, 3)) (kk : W p l e R s m args below meth c H locs cells slots Q (F0 m (pc + 3) ls (va_rf xq_query :: rest))) : W p l e R s m args below meth c H locs cells slots Q (F0 m pc ls (.ref (q 0) :: rest)) :=
  va_get hx hb hts hin_xq hown hK hP 0 rfl rfl 3 (by decide) (hts _ hw) (fun _ h9 => h9) rfl hdg kk
theorem gx_1_parents (hx : p.tables.exec = Jvm.exec) (hb : c.code = cc) (hts : ∀ x ∈ hq_tbl, x.before args s = true) (hown : s.vm.findClass own = some m.cls) (hK : va_K D hq_cl (hq_tys cI cZ cL) s) (hP : va_P D hq_cl (hx_w q cI cZ cL xq_query ha_parents hf_classCount ha_classes ha_sizes ha_fields hf_objectCount hf_roots hf_changed sa_linkedFrom sa_linkCounts sa_retainedSets sa_retainedSizes sa_dominators sa_immediateDominators sf_objectCount sf_roots sf_reachable ta_codes ta_numbers tf_count ta_brackets tf_bracketCount tf_place tf_inWhere tf_compared wa_rows wf_count wf_looks ++ z) H) (hw : Cond.fieldLink own idx "HeapQueries$Heap" "parents" "[I" ∈ hq_tbl) (hdg : decode cc pc = .ok (.getfield idx, 3)) (kk : W p l e R s m args below meth c H locs cells slots Q (F0 m (pc + 3) ls (.ref (q 5) :: rest))) : W p l e R s m args below meth c H locs cells slots Q (F0 m pc ls (.ref (q 1) :: rest)) :=
  va_get hx hb hts hin_xh hown hK hP 1 rfl rfl 0 (by decide) (hts _ hw) (fun _ h9 => h9) rfl hdg kk
theorem gx_1_classCount (hx : p.tables.exec = Jvm.exec) (hb : c.code = cc) (hts : ∀ x ∈ hq_tbl, x.before args s = true) (hown : s.vm.findClass own = some m.cls) (hK : va_K D hq_cl (hq_tys cI cZ cL) s) (hP : va_P D hq_cl (hx_w q cI cZ cL xq_query ha_parents hf_classCount ha_classes ha_sizes ha_fields hf_objectCount hf_roots hf_changed sa_linkedFrom sa_linkCounts sa_retainedSets sa_retainedSizes sa_dominators sa_immediateDominators sf_objectCount sf_roots sf_reachable ta_codes ta_numbers tf_count ta_brackets tf_bracketCount tf_place tf_inWhere tf_compared wa_rows wf_count wf_looks ++ z) H) (hw : Cond.fieldLink own idx "HeapQueries$Heap" "classCount" "I" ∈ hq_tbl) (hdg : decode cc pc = .ok (.getfield idx, 3)) (kk : W p l e R s m args below meth c H locs cells slots Q (F0 m (pc + 3) ls (.int hf_classCount :: rest))) : W p l e R s m args below meth c H locs cells slots Q (F0 m pc ls (.ref (q 1) :: rest)) :=
  va_get hx hb hts hin_xh hown hK hP 1 rfl rfl 1 (by decide) (hts _ hw) (fun _ h9 => h9) rfl hdg kk
theorem px_1_classCount {v : Int32} (hx : p.tables.exec = Jvm.exec) (hb : c.code = cc) (hts : ∀ x ∈ hq_tbl, x.before args s = true) (hown : s.vm.findClass own = some m.cls) (hK : va_K D hq_cl (hq_tys cI cZ cL) s) (hP : va_P D hq_cl (hx_w q cI cZ cL xq_query ha_parents hf_classCount ha_classes ha_sizes ha_fields hf_objectCount hf_roots hf_changed sa_linkedFrom sa_linkCounts sa_retainedSets sa_retainedSizes sa_dominators sa_immediateDominators sf_objectCount sf_roots sf_reachable ta_codes ta_numbers tf_count ta_brackets tf_bracketCount tf_place tf_inWhere tf_compared wa_rows wf_count wf_looks ++ z) H) (hD : va_D A (hx_w q cI cZ cL xq_query ha_parents hf_classCount ha_classes ha_sizes ha_fields hf_objectCount hf_roots hf_changed sa_linkedFrom sa_linkCounts sa_retainedSets sa_retainedSizes sa_dominators sa_immediateDominators sf_objectCount sf_roots sf_reachable ta_codes ta_numbers tf_count ta_brackets tf_bracketCount tf_place tf_inWhere tf_compared wa_rows wf_count wf_looks ++ z)) (hS : va_S A H0 H locs) (hw : Cond.fieldLink own idx "HeapQueries$Heap" "classCount" "I" ∈ hq_tbl) (hdg : decode cc pc = .ok (.putfield idx, 3)) (kk : ∀ (H1 : Heap) (locs1 : List Loc), va_P D hq_cl (hx_w q cI cZ cL xq_query ha_parents v ha_classes ha_sizes ha_fields hf_objectCount hf_roots hf_changed sa_linkedFrom sa_linkCounts sa_retainedSets sa_retainedSizes sa_dominators sa_immediateDominators sf_objectCount sf_roots sf_reachable ta_codes ta_numbers tf_count ta_brackets tf_bracketCount tf_place tf_inWhere tf_compared wa_rows wf_count wf_looks ++ z) H1 → va_D A (hx_w q cI cZ cL xq_query ha_parents v ha_classes ha_sizes ha_fields hf_objectCount hf_roots hf_changed sa_linkedFrom sa_linkCounts sa_retainedSets sa_retainedSizes sa_dominators sa_immediateDominators sf_objectCount sf_roots sf_reachable ta_codes ta_numbers tf_count ta_brackets tf_bracketCount tf_place tf_inWhere tf_compared wa_rows wf_count wf_looks ++ z) → va_S A H0 H1 locs1 → W p l e R s m args below meth c H1 locs1 cells slots Q (F0 m (pc + 3) ls rest)) : W p l e R s m args below meth c H locs cells slots Q (F0 m pc ls (.int v :: .ref (q 1) :: rest)) :=
  va_put (ty := .int) hx hb hts hin_xh hty_xh hty_xh_ok hnm_xh hown hK hP hD hS 1 rfl rfl 1 (by decide) (hts _ hw) (fun _ h9 => h9) rfl (by decide +kernel) rfl rfl (Nat.le_of_ble_eq_true rfl) hdg kk
theorem gx_1_classes (hx : p.tables.exec = Jvm.exec) (hb : c.code = cc) (hts : ∀ x ∈ hq_tbl, x.before args s = true) (hown : s.vm.findClass own = some m.cls) (hK : va_K D hq_cl (hq_tys cI cZ cL) s) (hP : va_P D hq_cl (hx_w q cI cZ cL xq_query ha_parents hf_classCount ha_classes ha_sizes ha_fields hf_objectCount hf_roots hf_changed sa_linkedFrom sa_linkCounts sa_retainedSets sa_retainedSizes sa_dominators sa_immediateDominators sf_objectCount sf_roots sf_reachable ta_codes ta_numbers tf_count ta_brackets tf_bracketCount tf_place tf_inWhere tf_compared wa_rows wf_count wf_looks ++ z) H) (hw : Cond.fieldLink own idx "HeapQueries$Heap" "classes" "[I" ∈ hq_tbl) (hdg : decode cc pc = .ok (.getfield idx, 3)) (kk : W p l e R s m args below meth c H locs cells slots Q (F0 m (pc + 3) ls (.ref (q 6) :: rest))) : W p l e R s m args below meth c H locs cells slots Q (F0 m pc ls (.ref (q 1) :: rest)) :=
  va_get hx hb hts hin_xh hown hK hP 1 rfl rfl 2 (by decide) (hts _ hw) (fun _ h9 => h9) rfl hdg kk
theorem gx_1_sizes (hx : p.tables.exec = Jvm.exec) (hb : c.code = cc) (hts : ∀ x ∈ hq_tbl, x.before args s = true) (hown : s.vm.findClass own = some m.cls) (hK : va_K D hq_cl (hq_tys cI cZ cL) s) (hP : va_P D hq_cl (hx_w q cI cZ cL xq_query ha_parents hf_classCount ha_classes ha_sizes ha_fields hf_objectCount hf_roots hf_changed sa_linkedFrom sa_linkCounts sa_retainedSets sa_retainedSizes sa_dominators sa_immediateDominators sf_objectCount sf_roots sf_reachable ta_codes ta_numbers tf_count ta_brackets tf_bracketCount tf_place tf_inWhere tf_compared wa_rows wf_count wf_looks ++ z) H) (hw : Cond.fieldLink own idx "HeapQueries$Heap" "sizes" "[I" ∈ hq_tbl) (hdg : decode cc pc = .ok (.getfield idx, 3)) (kk : W p l e R s m args below meth c H locs cells slots Q (F0 m (pc + 3) ls (.ref (q 7) :: rest))) : W p l e R s m args below meth c H locs cells slots Q (F0 m pc ls (.ref (q 1) :: rest)) :=
  va_get hx hb hts hin_xh hown hK hP 1 rfl rfl 3 (by decide) (hts _ hw) (fun _ h9 => h9) rfl hdg kk
theorem gx_1_fields (hx : p.tables.exec = Jvm.exec) (hb : c.code = cc) (hts : ∀ x ∈ hq_tbl, x.before args s = true) (hown : s.vm.findClass own = some m.cls) (hK : va_K D hq_cl (hq_tys cI cZ cL) s) (hP : va_P D hq_cl (hx_w q cI cZ cL xq_query ha_parents hf_classCount ha_classes ha_sizes ha_fields hf_objectCount hf_roots hf_changed sa_linkedFrom sa_linkCounts sa_retainedSets sa_retainedSizes sa_dominators sa_immediateDominators sf_objectCount sf_roots sf_reachable ta_codes ta_numbers tf_count ta_brackets tf_bracketCount tf_place tf_inWhere tf_compared wa_rows wf_count wf_looks ++ z) H) (hw : Cond.fieldLink own idx "HeapQueries$Heap" "fields" "[J" ∈ hq_tbl) (hdg : decode cc pc = .ok (.getfield idx, 3)) (kk : W p l e R s m args below meth c H locs cells slots Q (F0 m (pc + 3) ls (.ref (q 8) :: rest))) : W p l e R s m args below meth c H locs cells slots Q (F0 m pc ls (.ref (q 1) :: rest)) :=
  va_get hx hb hts hin_xh hown hK hP 1 rfl rfl 4 (by decide) (hts _ hw) (fun _ h9 => h9) rfl hdg kk
theorem gx_1_objectCount (hx : p.tables.exec = Jvm.exec) (hb : c.code = cc) (hts : ∀ x ∈ hq_tbl, x.before args s = true) (hown : s.vm.findClass own = some m.cls) (hK : va_K D hq_cl (hq_tys cI cZ cL) s) (hP : va_P D hq_cl (hx_w q cI cZ cL xq_query ha_parents hf_classCount ha_classes ha_sizes ha_fields hf_objectCount hf_roots hf_changed sa_linkedFrom sa_linkCounts sa_retainedSets sa_retainedSizes sa_dominators sa_immediateDominators sf_objectCount sf_roots sf_reachable ta_codes ta_numbers tf_count ta_brackets tf_bracketCount tf_place tf_inWhere tf_compared wa_rows wf_count wf_looks ++ z) H) (hw : Cond.fieldLink own idx "HeapQueries$Heap" "objectCount" "I" ∈ hq_tbl) (hdg : decode cc pc = .ok (.getfield idx, 3)) (kk : W p l e R s m args below meth c H locs cells slots Q (F0 m (pc + 3) ls (.int hf_objectCount :: rest))) : W p l e R s m args below meth c H locs cells slots Q (F0 m pc ls (.ref (q 1) :: rest)) :=
  va_get hx hb hts hin_xh hown hK hP 1 rfl rfl 5 (by decide) (hts _ hw) (fun _ h9 => h9) rfl hdg kk
theorem px_1_objectCount {v : Int32} (hx : p.tables.exec = Jvm.exec) (hb : c.code = cc) (hts : ∀ x ∈ hq_tbl, x.before args s = true) (hown : s.vm.findClass own = some m.cls) (hK : va_K D hq_cl (hq_tys cI cZ cL) s) (hP : va_P D hq_cl (hx_w q cI cZ cL xq_query ha_parents hf_classCount ha_classes ha_sizes ha_fields hf_objectCount hf_roots hf_changed sa_linkedFrom sa_linkCounts sa_retainedSets sa_retainedSizes sa_dominators sa_immediateDominators sf_objectCount sf_roots sf_reachable ta_codes ta_numbers tf_count ta_brackets tf_bracketCount tf_place tf_inWhere tf_compared wa_rows wf_count wf_looks ++ z) H) (hD : va_D A (hx_w q cI cZ cL xq_query ha_parents hf_classCount ha_classes ha_sizes ha_fields hf_objectCount hf_roots hf_changed sa_linkedFrom sa_linkCounts sa_retainedSets sa_retainedSizes sa_dominators sa_immediateDominators sf_objectCount sf_roots sf_reachable ta_codes ta_numbers tf_count ta_brackets tf_bracketCount tf_place tf_inWhere tf_compared wa_rows wf_count wf_looks ++ z)) (hS : va_S A H0 H locs) (hw : Cond.fieldLink own idx "HeapQueries$Heap" "objectCount" "I" ∈ hq_tbl) (hdg : decode cc pc = .ok (.putfield idx, 3)) (kk : ∀ (H1 : Heap) (locs1 : List Loc), va_P D hq_cl (hx_w q cI cZ cL xq_query ha_parents hf_classCount ha_classes ha_sizes ha_fields v hf_roots hf_changed sa_linkedFrom sa_linkCounts sa_retainedSets sa_retainedSizes sa_dominators sa_immediateDominators sf_objectCount sf_roots sf_reachable ta_codes ta_numbers tf_count ta_brackets tf_bracketCount tf_place tf_inWhere tf_compared wa_rows wf_count wf_looks ++ z) H1 → va_D A (hx_w q cI cZ cL xq_query ha_parents hf_classCount ha_classes ha_sizes ha_fields v hf_roots hf_changed sa_linkedFrom sa_linkCounts sa_retainedSets sa_retainedSizes sa_dominators sa_immediateDominators sf_objectCount sf_roots sf_reachable ta_codes ta_numbers tf_count ta_brackets tf_bracketCount tf_place tf_inWhere tf_compared wa_rows wf_count wf_looks ++ z) → va_S A H0 H1 locs1 → W p l e R s m args below meth c H1 locs1 cells slots Q (F0 m (pc + 3) ls rest)) : W p l e R s m args below meth c H locs cells slots Q (F0 m pc ls (.int v :: .ref (q 1) :: rest)) :=
  va_put (ty := .int) hx hb hts hin_xh hty_xh hty_xh_ok hnm_xh hown hK hP hD hS 1 rfl rfl 5 (by decide) (hts _ hw) (fun _ h9 => h9) rfl (by decide +kernel) rfl rfl (Nat.le_of_ble_eq_true rfl) hdg kk
theorem gx_1_roots (hx : p.tables.exec = Jvm.exec) (hb : c.code = cc) (hts : ∀ x ∈ hq_tbl, x.before args s = true) (hown : s.vm.findClass own = some m.cls) (hK : va_K D hq_cl (hq_tys cI cZ cL) s) (hP : va_P D hq_cl (hx_w q cI cZ cL xq_query ha_parents hf_classCount ha_classes ha_sizes ha_fields hf_objectCount hf_roots hf_changed sa_linkedFrom sa_linkCounts sa_retainedSets sa_retainedSizes sa_dominators sa_immediateDominators sf_objectCount sf_roots sf_reachable ta_codes ta_numbers tf_count ta_brackets tf_bracketCount tf_place tf_inWhere tf_compared wa_rows wf_count wf_looks ++ z) H) (hw : Cond.fieldLink own idx "HeapQueries$Heap" "roots" "I" ∈ hq_tbl) (hdg : decode cc pc = .ok (.getfield idx, 3)) (kk : W p l e R s m args below meth c H locs cells slots Q (F0 m (pc + 3) ls (.int hf_roots :: rest))) : W p l e R s m args below meth c H locs cells slots Q (F0 m pc ls (.ref (q 1) :: rest)) :=
  va_get hx hb hts hin_xh hown hK hP 1 rfl rfl 6 (by decide) (hts _ hw) (fun _ h9 => h9) rfl hdg kk
theorem px_1_roots {v : Int32} (hx : p.tables.exec = Jvm.exec) (hb : c.code = cc) (hts : ∀ x ∈ hq_tbl, x.before args s = true) (hown : s.vm.findClass own = some m.cls) (hK : va_K D hq_cl (hq_tys cI cZ cL) s) (hP : va_P D hq_cl (hx_w q cI cZ cL xq_query ha_parents hf_classCount ha_classes ha_sizes ha_fields hf_objectCount hf_roots hf_changed sa_linkedFrom sa_linkCounts sa_retainedSets sa_retainedSizes sa_dominators sa_immediateDominators sf_objectCount sf_roots sf_reachable ta_codes ta_numbers tf_count ta_brackets tf_bracketCount tf_place tf_inWhere tf_compared wa_rows wf_count wf_looks ++ z) H) (hD : va_D A (hx_w q cI cZ cL xq_query ha_parents hf_classCount ha_classes ha_sizes ha_fields hf_objectCount hf_roots hf_changed sa_linkedFrom sa_linkCounts sa_retainedSets sa_retainedSizes sa_dominators sa_immediateDominators sf_objectCount sf_roots sf_reachable ta_codes ta_numbers tf_count ta_brackets tf_bracketCount tf_place tf_inWhere tf_compared wa_rows wf_count wf_looks ++ z)) (hS : va_S A H0 H locs) (hw : Cond.fieldLink own idx "HeapQueries$Heap" "roots" "I" ∈ hq_tbl) (hdg : decode cc pc = .ok (.putfield idx, 3)) (kk : ∀ (H1 : Heap) (locs1 : List Loc), va_P D hq_cl (hx_w q cI cZ cL xq_query ha_parents hf_classCount ha_classes ha_sizes ha_fields hf_objectCount v hf_changed sa_linkedFrom sa_linkCounts sa_retainedSets sa_retainedSizes sa_dominators sa_immediateDominators sf_objectCount sf_roots sf_reachable ta_codes ta_numbers tf_count ta_brackets tf_bracketCount tf_place tf_inWhere tf_compared wa_rows wf_count wf_looks ++ z) H1 → va_D A (hx_w q cI cZ cL xq_query ha_parents hf_classCount ha_classes ha_sizes ha_fields hf_objectCount v hf_changed sa_linkedFrom sa_linkCounts sa_retainedSets sa_retainedSizes sa_dominators sa_immediateDominators sf_objectCount sf_roots sf_reachable ta_codes ta_numbers tf_count ta_brackets tf_bracketCount tf_place tf_inWhere tf_compared wa_rows wf_count wf_looks ++ z) → va_S A H0 H1 locs1 → W p l e R s m args below meth c H1 locs1 cells slots Q (F0 m (pc + 3) ls rest)) : W p l e R s m args below meth c H locs cells slots Q (F0 m pc ls (.int v :: .ref (q 1) :: rest)) :=
  va_put (ty := .int) hx hb hts hin_xh hty_xh hty_xh_ok hnm_xh hown hK hP hD hS 1 rfl rfl 6 (by decide) (hts _ hw) (fun _ h9 => h9) rfl (by decide +kernel) rfl rfl (Nat.le_of_ble_eq_true rfl) hdg kk
theorem gx_1_survey (hx : p.tables.exec = Jvm.exec) (hb : c.code = cc) (hts : ∀ x ∈ hq_tbl, x.before args s = true) (hown : s.vm.findClass own = some m.cls) (hK : va_K D hq_cl (hq_tys cI cZ cL) s) (hP : va_P D hq_cl (hx_w q cI cZ cL xq_query ha_parents hf_classCount ha_classes ha_sizes ha_fields hf_objectCount hf_roots hf_changed sa_linkedFrom sa_linkCounts sa_retainedSets sa_retainedSizes sa_dominators sa_immediateDominators sf_objectCount sf_roots sf_reachable ta_codes ta_numbers tf_count ta_brackets tf_bracketCount tf_place tf_inWhere tf_compared wa_rows wf_count wf_looks ++ z) H) (hw : Cond.fieldLink own idx "HeapQueries$Heap" "survey" "LHeapQueries$Survey;" ∈ hq_tbl) (hdg : decode cc pc = .ok (.getfield idx, 3)) (kk : W p l e R s m args below meth c H locs cells slots Q (F0 m (pc + 3) ls (.ref (q 2) :: rest))) : W p l e R s m args below meth c H locs cells slots Q (F0 m pc ls (.ref (q 1) :: rest)) :=
  va_get hx hb hts hin_xh hown hK hP 1 rfl rfl 7 (by decide) (hts _ hw) (fun _ h9 => h9) rfl hdg kk
theorem gx_1_changed (hx : p.tables.exec = Jvm.exec) (hb : c.code = cc) (hts : ∀ x ∈ hq_tbl, x.before args s = true) (hown : s.vm.findClass own = some m.cls) (hK : va_K D hq_cl (hq_tys cI cZ cL) s) (hP : va_P D hq_cl (hx_w q cI cZ cL xq_query ha_parents hf_classCount ha_classes ha_sizes ha_fields hf_objectCount hf_roots hf_changed sa_linkedFrom sa_linkCounts sa_retainedSets sa_retainedSizes sa_dominators sa_immediateDominators sf_objectCount sf_roots sf_reachable ta_codes ta_numbers tf_count ta_brackets tf_bracketCount tf_place tf_inWhere tf_compared wa_rows wf_count wf_looks ++ z) H) (hw : Cond.fieldLink own idx "HeapQueries$Heap" "changed" "Z" ∈ hq_tbl) (hdg : decode cc pc = .ok (.getfield idx, 3)) (kk : W p l e R s m args below meth c H locs cells slots Q (F0 m (pc + 3) ls (.int hf_changed :: rest))) : W p l e R s m args below meth c H locs cells slots Q (F0 m pc ls (.ref (q 1) :: rest)) :=
  va_get hx hb hts hin_xh hown hK hP 1 rfl rfl 8 (by decide) (hts _ hw) (fun _ h9 => h9) rfl hdg kk
theorem px_1_changed {v : Int32} (hx : p.tables.exec = Jvm.exec) (hb : c.code = cc) (hts : ∀ x ∈ hq_tbl, x.before args s = true) (hown : s.vm.findClass own = some m.cls) (hK : va_K D hq_cl (hq_tys cI cZ cL) s) (hP : va_P D hq_cl (hx_w q cI cZ cL xq_query ha_parents hf_classCount ha_classes ha_sizes ha_fields hf_objectCount hf_roots hf_changed sa_linkedFrom sa_linkCounts sa_retainedSets sa_retainedSizes sa_dominators sa_immediateDominators sf_objectCount sf_roots sf_reachable ta_codes ta_numbers tf_count ta_brackets tf_bracketCount tf_place tf_inWhere tf_compared wa_rows wf_count wf_looks ++ z) H) (hD : va_D A (hx_w q cI cZ cL xq_query ha_parents hf_classCount ha_classes ha_sizes ha_fields hf_objectCount hf_roots hf_changed sa_linkedFrom sa_linkCounts sa_retainedSets sa_retainedSizes sa_dominators sa_immediateDominators sf_objectCount sf_roots sf_reachable ta_codes ta_numbers tf_count ta_brackets tf_bracketCount tf_place tf_inWhere tf_compared wa_rows wf_count wf_looks ++ z)) (hS : va_S A H0 H locs) (hw : Cond.fieldLink own idx "HeapQueries$Heap" "changed" "Z" ∈ hq_tbl) (hz : v = 0 ∨ v = 1) (hdg : decode cc pc = .ok (.putfield idx, 3)) (kk : ∀ (H1 : Heap) (locs1 : List Loc), va_P D hq_cl (hx_w q cI cZ cL xq_query ha_parents hf_classCount ha_classes ha_sizes ha_fields hf_objectCount hf_roots v sa_linkedFrom sa_linkCounts sa_retainedSets sa_retainedSizes sa_dominators sa_immediateDominators sf_objectCount sf_roots sf_reachable ta_codes ta_numbers tf_count ta_brackets tf_bracketCount tf_place tf_inWhere tf_compared wa_rows wf_count wf_looks ++ z) H1 → va_D A (hx_w q cI cZ cL xq_query ha_parents hf_classCount ha_classes ha_sizes ha_fields hf_objectCount hf_roots v sa_linkedFrom sa_linkCounts sa_retainedSets sa_retainedSizes sa_dominators sa_immediateDominators sf_objectCount sf_roots sf_reachable ta_codes ta_numbers tf_count ta_brackets tf_bracketCount tf_place tf_inWhere tf_compared wa_rows wf_count wf_looks ++ z) → va_S A H0 H1 locs1 → W p l e R s m args below meth c H1 locs1 cells slots Q (F0 m (pc + 3) ls rest)) : W p l e R s m args below meth c H locs cells slots Q (F0 m pc ls (.int v :: .ref (q 1) :: rest)) :=
  va_put (ty := .boolean) hx hb hts hin_xh hty_xh hty_xh_ok hnm_xh hown hK hP hD hS 1 rfl rfl 8 (by decide) (hts _ hw) (fun _ h9 => h9) rfl (by decide +kernel) (by rcases hz with rfl | rfl <;> rfl) (by rcases hz with rfl | rfl <;> rfl) (Nat.le_of_ble_eq_true rfl) hdg kk
theorem gx_2_linkedFrom (hx : p.tables.exec = Jvm.exec) (hb : c.code = cc) (hts : ∀ x ∈ hq_tbl, x.before args s = true) (hown : s.vm.findClass own = some m.cls) (hK : va_K D hq_cl (hq_tys cI cZ cL) s) (hP : va_P D hq_cl (hx_w q cI cZ cL xq_query ha_parents hf_classCount ha_classes ha_sizes ha_fields hf_objectCount hf_roots hf_changed sa_linkedFrom sa_linkCounts sa_retainedSets sa_retainedSizes sa_dominators sa_immediateDominators sf_objectCount sf_roots sf_reachable ta_codes ta_numbers tf_count ta_brackets tf_bracketCount tf_place tf_inWhere tf_compared wa_rows wf_count wf_looks ++ z) H) (hw : Cond.fieldLink own idx "HeapQueries$Survey" "linkedFrom" "[I" ∈ hq_tbl) (hdg : decode cc pc = .ok (.getfield idx, 3)) (kk : W p l e R s m args below meth c H locs cells slots Q (F0 m (pc + 3) ls (.ref (q 9) :: rest))) : W p l e R s m args below meth c H locs cells slots Q (F0 m pc ls (.ref (q 2) :: rest)) :=
  va_get hx hb hts hin_xs hown hK hP 2 rfl rfl 0 (by decide) (hts _ hw) (fun _ h9 => h9) rfl hdg kk
theorem gx_2_linkCounts (hx : p.tables.exec = Jvm.exec) (hb : c.code = cc) (hts : ∀ x ∈ hq_tbl, x.before args s = true) (hown : s.vm.findClass own = some m.cls) (hK : va_K D hq_cl (hq_tys cI cZ cL) s) (hP : va_P D hq_cl (hx_w q cI cZ cL xq_query ha_parents hf_classCount ha_classes ha_sizes ha_fields hf_objectCount hf_roots hf_changed sa_linkedFrom sa_linkCounts sa_retainedSets sa_retainedSizes sa_dominators sa_immediateDominators sf_objectCount sf_roots sf_reachable ta_codes ta_numbers tf_count ta_brackets tf_bracketCount tf_place tf_inWhere tf_compared wa_rows wf_count wf_looks ++ z) H) (hw : Cond.fieldLink own idx "HeapQueries$Survey" "linkCounts" "[I" ∈ hq_tbl) (hdg : decode cc pc = .ok (.getfield idx, 3)) (kk : W p l e R s m args below meth c H locs cells slots Q (F0 m (pc + 3) ls (.ref (q 10) :: rest))) : W p l e R s m args below meth c H locs cells slots Q (F0 m pc ls (.ref (q 2) :: rest)) :=
  va_get hx hb hts hin_xs hown hK hP 2 rfl rfl 1 (by decide) (hts _ hw) (fun _ h9 => h9) rfl hdg kk
theorem gx_2_retainedSets (hx : p.tables.exec = Jvm.exec) (hb : c.code = cc) (hts : ∀ x ∈ hq_tbl, x.before args s = true) (hown : s.vm.findClass own = some m.cls) (hK : va_K D hq_cl (hq_tys cI cZ cL) s) (hP : va_P D hq_cl (hx_w q cI cZ cL xq_query ha_parents hf_classCount ha_classes ha_sizes ha_fields hf_objectCount hf_roots hf_changed sa_linkedFrom sa_linkCounts sa_retainedSets sa_retainedSizes sa_dominators sa_immediateDominators sf_objectCount sf_roots sf_reachable ta_codes ta_numbers tf_count ta_brackets tf_bracketCount tf_place tf_inWhere tf_compared wa_rows wf_count wf_looks ++ z) H) (hw : Cond.fieldLink own idx "HeapQueries$Survey" "retainedSets" "[I" ∈ hq_tbl) (hdg : decode cc pc = .ok (.getfield idx, 3)) (kk : W p l e R s m args below meth c H locs cells slots Q (F0 m (pc + 3) ls (.ref (q 11) :: rest))) : W p l e R s m args below meth c H locs cells slots Q (F0 m pc ls (.ref (q 2) :: rest)) :=
  va_get hx hb hts hin_xs hown hK hP 2 rfl rfl 2 (by decide) (hts _ hw) (fun _ h9 => h9) rfl hdg kk
theorem gx_2_retainedSizes (hx : p.tables.exec = Jvm.exec) (hb : c.code = cc) (hts : ∀ x ∈ hq_tbl, x.before args s = true) (hown : s.vm.findClass own = some m.cls) (hK : va_K D hq_cl (hq_tys cI cZ cL) s) (hP : va_P D hq_cl (hx_w q cI cZ cL xq_query ha_parents hf_classCount ha_classes ha_sizes ha_fields hf_objectCount hf_roots hf_changed sa_linkedFrom sa_linkCounts sa_retainedSets sa_retainedSizes sa_dominators sa_immediateDominators sf_objectCount sf_roots sf_reachable ta_codes ta_numbers tf_count ta_brackets tf_bracketCount tf_place tf_inWhere tf_compared wa_rows wf_count wf_looks ++ z) H) (hw : Cond.fieldLink own idx "HeapQueries$Survey" "retainedSizes" "[I" ∈ hq_tbl) (hdg : decode cc pc = .ok (.getfield idx, 3)) (kk : W p l e R s m args below meth c H locs cells slots Q (F0 m (pc + 3) ls (.ref (q 12) :: rest))) : W p l e R s m args below meth c H locs cells slots Q (F0 m pc ls (.ref (q 2) :: rest)) :=
  va_get hx hb hts hin_xs hown hK hP 2 rfl rfl 3 (by decide) (hts _ hw) (fun _ h9 => h9) rfl hdg kk
theorem gx_2_dominators (hx : p.tables.exec = Jvm.exec) (hb : c.code = cc) (hts : ∀ x ∈ hq_tbl, x.before args s = true) (hown : s.vm.findClass own = some m.cls) (hK : va_K D hq_cl (hq_tys cI cZ cL) s) (hP : va_P D hq_cl (hx_w q cI cZ cL xq_query ha_parents hf_classCount ha_classes ha_sizes ha_fields hf_objectCount hf_roots hf_changed sa_linkedFrom sa_linkCounts sa_retainedSets sa_retainedSizes sa_dominators sa_immediateDominators sf_objectCount sf_roots sf_reachable ta_codes ta_numbers tf_count ta_brackets tf_bracketCount tf_place tf_inWhere tf_compared wa_rows wf_count wf_looks ++ z) H) (hw : Cond.fieldLink own idx "HeapQueries$Survey" "dominators" "[I" ∈ hq_tbl) (hdg : decode cc pc = .ok (.getfield idx, 3)) (kk : W p l e R s m args below meth c H locs cells slots Q (F0 m (pc + 3) ls (.ref (q 13) :: rest))) : W p l e R s m args below meth c H locs cells slots Q (F0 m pc ls (.ref (q 2) :: rest)) :=
  va_get hx hb hts hin_xs hown hK hP 2 rfl rfl 4 (by decide) (hts _ hw) (fun _ h9 => h9) rfl hdg kk
theorem gx_2_immediateDominators (hx : p.tables.exec = Jvm.exec) (hb : c.code = cc) (hts : ∀ x ∈ hq_tbl, x.before args s = true) (hown : s.vm.findClass own = some m.cls) (hK : va_K D hq_cl (hq_tys cI cZ cL) s) (hP : va_P D hq_cl (hx_w q cI cZ cL xq_query ha_parents hf_classCount ha_classes ha_sizes ha_fields hf_objectCount hf_roots hf_changed sa_linkedFrom sa_linkCounts sa_retainedSets sa_retainedSizes sa_dominators sa_immediateDominators sf_objectCount sf_roots sf_reachable ta_codes ta_numbers tf_count ta_brackets tf_bracketCount tf_place tf_inWhere tf_compared wa_rows wf_count wf_looks ++ z) H) (hw : Cond.fieldLink own idx "HeapQueries$Survey" "immediateDominators" "[I" ∈ hq_tbl) (hdg : decode cc pc = .ok (.getfield idx, 3)) (kk : W p l e R s m args below meth c H locs cells slots Q (F0 m (pc + 3) ls (.ref (q 14) :: rest))) : W p l e R s m args below meth c H locs cells slots Q (F0 m pc ls (.ref (q 2) :: rest)) :=
  va_get hx hb hts hin_xs hown hK hP 2 rfl rfl 5 (by decide) (hts _ hw) (fun _ h9 => h9) rfl hdg kk
theorem gx_2_objectCount (hx : p.tables.exec = Jvm.exec) (hb : c.code = cc) (hts : ∀ x ∈ hq_tbl, x.before args s = true) (hown : s.vm.findClass own = some m.cls) (hK : va_K D hq_cl (hq_tys cI cZ cL) s) (hP : va_P D hq_cl (hx_w q cI cZ cL xq_query ha_parents hf_classCount ha_classes ha_sizes ha_fields hf_objectCount hf_roots hf_changed sa_linkedFrom sa_linkCounts sa_retainedSets sa_retainedSizes sa_dominators sa_immediateDominators sf_objectCount sf_roots sf_reachable ta_codes ta_numbers tf_count ta_brackets tf_bracketCount tf_place tf_inWhere tf_compared wa_rows wf_count wf_looks ++ z) H) (hw : Cond.fieldLink own idx "HeapQueries$Survey" "objectCount" "I" ∈ hq_tbl) (hdg : decode cc pc = .ok (.getfield idx, 3)) (kk : W p l e R s m args below meth c H locs cells slots Q (F0 m (pc + 3) ls (.int sf_objectCount :: rest))) : W p l e R s m args below meth c H locs cells slots Q (F0 m pc ls (.ref (q 2) :: rest)) :=
  va_get hx hb hts hin_xs hown hK hP 2 rfl rfl 6 (by decide) (hts _ hw) (fun _ h9 => h9) rfl hdg kk
theorem px_2_objectCount {v : Int32} (hx : p.tables.exec = Jvm.exec) (hb : c.code = cc) (hts : ∀ x ∈ hq_tbl, x.before args s = true) (hown : s.vm.findClass own = some m.cls) (hK : va_K D hq_cl (hq_tys cI cZ cL) s) (hP : va_P D hq_cl (hx_w q cI cZ cL xq_query ha_parents hf_classCount ha_classes ha_sizes ha_fields hf_objectCount hf_roots hf_changed sa_linkedFrom sa_linkCounts sa_retainedSets sa_retainedSizes sa_dominators sa_immediateDominators sf_objectCount sf_roots sf_reachable ta_codes ta_numbers tf_count ta_brackets tf_bracketCount tf_place tf_inWhere tf_compared wa_rows wf_count wf_looks ++ z) H) (hD : va_D A (hx_w q cI cZ cL xq_query ha_parents hf_classCount ha_classes ha_sizes ha_fields hf_objectCount hf_roots hf_changed sa_linkedFrom sa_linkCounts sa_retainedSets sa_retainedSizes sa_dominators sa_immediateDominators sf_objectCount sf_roots sf_reachable ta_codes ta_numbers tf_count ta_brackets tf_bracketCount tf_place tf_inWhere tf_compared wa_rows wf_count wf_looks ++ z)) (hS : va_S A H0 H locs) (hw : Cond.fieldLink own idx "HeapQueries$Survey" "objectCount" "I" ∈ hq_tbl) (hdg : decode cc pc = .ok (.putfield idx, 3)) (kk : ∀ (H1 : Heap) (locs1 : List Loc), va_P D hq_cl (hx_w q cI cZ cL xq_query ha_parents hf_classCount ha_classes ha_sizes ha_fields hf_objectCount hf_roots hf_changed sa_linkedFrom sa_linkCounts sa_retainedSets sa_retainedSizes sa_dominators sa_immediateDominators v sf_roots sf_reachable ta_codes ta_numbers tf_count ta_brackets tf_bracketCount tf_place tf_inWhere tf_compared wa_rows wf_count wf_looks ++ z) H1 → va_D A (hx_w q cI cZ cL xq_query ha_parents hf_classCount ha_classes ha_sizes ha_fields hf_objectCount hf_roots hf_changed sa_linkedFrom sa_linkCounts sa_retainedSets sa_retainedSizes sa_dominators sa_immediateDominators v sf_roots sf_reachable ta_codes ta_numbers tf_count ta_brackets tf_bracketCount tf_place tf_inWhere tf_compared wa_rows wf_count wf_looks ++ z) → va_S A H0 H1 locs1 → W p l e R s m args below meth c H1 locs1 cells slots Q (F0 m (pc + 3) ls rest)) : W p l e R s m args below meth c H locs cells slots Q (F0 m pc ls (.int v :: .ref (q 2) :: rest)) :=
  va_put (ty := .int) hx hb hts hin_xs hty_xs hty_xs_ok hnm_xs hown hK hP hD hS 2 rfl rfl 6 (by decide) (hts _ hw) (fun _ h9 => h9) rfl (by decide +kernel) rfl rfl (Nat.le_of_ble_eq_true rfl) hdg kk
theorem gx_2_roots (hx : p.tables.exec = Jvm.exec) (hb : c.code = cc) (hts : ∀ x ∈ hq_tbl, x.before args s = true) (hown : s.vm.findClass own = some m.cls) (hK : va_K D hq_cl (hq_tys cI cZ cL) s) (hP : va_P D hq_cl (hx_w q cI cZ cL xq_query ha_parents hf_classCount ha_classes ha_sizes ha_fields hf_objectCount hf_roots hf_changed sa_linkedFrom sa_linkCounts sa_retainedSets sa_retainedSizes sa_dominators sa_immediateDominators sf_objectCount sf_roots sf_reachable ta_codes ta_numbers tf_count ta_brackets tf_bracketCount tf_place tf_inWhere tf_compared wa_rows wf_count wf_looks ++ z) H) (hw : Cond.fieldLink own idx "HeapQueries$Survey" "roots" "I" ∈ hq_tbl) (hdg : decode cc pc = .ok (.getfield idx, 3)) (kk : W p l e R s m args below meth c H locs cells slots Q (F0 m (pc + 3) ls (.int sf_roots :: rest))) : W p l e R s m args below meth c H locs cells slots Q (F0 m pc ls (.ref (q 2) :: rest)) :=
  va_get hx hb hts hin_xs hown hK hP 2 rfl rfl 7 (by decide) (hts _ hw) (fun _ h9 => h9) rfl hdg kk
theorem px_2_roots {v : Int32} (hx : p.tables.exec = Jvm.exec) (hb : c.code = cc) (hts : ∀ x ∈ hq_tbl, x.before args s = true) (hown : s.vm.findClass own = some m.cls) (hK : va_K D hq_cl (hq_tys cI cZ cL) s) (hP : va_P D hq_cl (hx_w q cI cZ cL xq_query ha_parents hf_classCount ha_classes ha_sizes ha_fields hf_objectCount hf_roots hf_changed sa_linkedFrom sa_linkCounts sa_retainedSets sa_retainedSizes sa_dominators sa_immediateDominators sf_objectCount sf_roots sf_reachable ta_codes ta_numbers tf_count ta_brackets tf_bracketCount tf_place tf_inWhere tf_compared wa_rows wf_count wf_looks ++ z) H) (hD : va_D A (hx_w q cI cZ cL xq_query ha_parents hf_classCount ha_classes ha_sizes ha_fields hf_objectCount hf_roots hf_changed sa_linkedFrom sa_linkCounts sa_retainedSets sa_retainedSizes sa_dominators sa_immediateDominators sf_objectCount sf_roots sf_reachable ta_codes ta_numbers tf_count ta_brackets tf_bracketCount tf_place tf_inWhere tf_compared wa_rows wf_count wf_looks ++ z)) (hS : va_S A H0 H locs) (hw : Cond.fieldLink own idx "HeapQueries$Survey" "roots" "I" ∈ hq_tbl) (hdg : decode cc pc = .ok (.putfield idx, 3)) (kk : ∀ (H1 : Heap) (locs1 : List Loc), va_P D hq_cl (hx_w q cI cZ cL xq_query ha_parents hf_classCount ha_classes ha_sizes ha_fields hf_objectCount hf_roots hf_changed sa_linkedFrom sa_linkCounts sa_retainedSets sa_retainedSizes sa_dominators sa_immediateDominators sf_objectCount v sf_reachable ta_codes ta_numbers tf_count ta_brackets tf_bracketCount tf_place tf_inWhere tf_compared wa_rows wf_count wf_looks ++ z) H1 → va_D A (hx_w q cI cZ cL xq_query ha_parents hf_classCount ha_classes ha_sizes ha_fields hf_objectCount hf_roots hf_changed sa_linkedFrom sa_linkCounts sa_retainedSets sa_retainedSizes sa_dominators sa_immediateDominators sf_objectCount v sf_reachable ta_codes ta_numbers tf_count ta_brackets tf_bracketCount tf_place tf_inWhere tf_compared wa_rows wf_count wf_looks ++ z) → va_S A H0 H1 locs1 → W p l e R s m args below meth c H1 locs1 cells slots Q (F0 m (pc + 3) ls rest)) : W p l e R s m args below meth c H locs cells slots Q (F0 m pc ls (.int v :: .ref (q 2) :: rest)) :=
  va_put (ty := .int) hx hb hts hin_xs hty_xs hty_xs_ok hnm_xs hown hK hP hD hS 2 rfl rfl 7 (by decide) (hts _ hw) (fun _ h9 => h9) rfl (by decide +kernel) rfl rfl (Nat.le_of_ble_eq_true rfl) hdg kk
theorem gx_2_reachable (hx : p.tables.exec = Jvm.exec) (hb : c.code = cc) (hts : ∀ x ∈ hq_tbl, x.before args s = true) (hown : s.vm.findClass own = some m.cls) (hK : va_K D hq_cl (hq_tys cI cZ cL) s) (hP : va_P D hq_cl (hx_w q cI cZ cL xq_query ha_parents hf_classCount ha_classes ha_sizes ha_fields hf_objectCount hf_roots hf_changed sa_linkedFrom sa_linkCounts sa_retainedSets sa_retainedSizes sa_dominators sa_immediateDominators sf_objectCount sf_roots sf_reachable ta_codes ta_numbers tf_count ta_brackets tf_bracketCount tf_place tf_inWhere tf_compared wa_rows wf_count wf_looks ++ z) H) (hw : Cond.fieldLink own idx "HeapQueries$Survey" "reachable" "I" ∈ hq_tbl) (hdg : decode cc pc = .ok (.getfield idx, 3)) (kk : W p l e R s m args below meth c H locs cells slots Q (F0 m (pc + 3) ls (.int sf_reachable :: rest))) : W p l e R s m args below meth c H locs cells slots Q (F0 m pc ls (.ref (q 2) :: rest)) :=
  va_get hx hb hts hin_xs hown hK hP 2 rfl rfl 8 (by decide) (hts _ hw) (fun _ h9 => h9) rfl hdg kk
theorem px_2_reachable {v : Int32} (hx : p.tables.exec = Jvm.exec) (hb : c.code = cc) (hts : ∀ x ∈ hq_tbl, x.before args s = true) (hown : s.vm.findClass own = some m.cls) (hK : va_K D hq_cl (hq_tys cI cZ cL) s) (hP : va_P D hq_cl (hx_w q cI cZ cL xq_query ha_parents hf_classCount ha_classes ha_sizes ha_fields hf_objectCount hf_roots hf_changed sa_linkedFrom sa_linkCounts sa_retainedSets sa_retainedSizes sa_dominators sa_immediateDominators sf_objectCount sf_roots sf_reachable ta_codes ta_numbers tf_count ta_brackets tf_bracketCount tf_place tf_inWhere tf_compared wa_rows wf_count wf_looks ++ z) H) (hD : va_D A (hx_w q cI cZ cL xq_query ha_parents hf_classCount ha_classes ha_sizes ha_fields hf_objectCount hf_roots hf_changed sa_linkedFrom sa_linkCounts sa_retainedSets sa_retainedSizes sa_dominators sa_immediateDominators sf_objectCount sf_roots sf_reachable ta_codes ta_numbers tf_count ta_brackets tf_bracketCount tf_place tf_inWhere tf_compared wa_rows wf_count wf_looks ++ z)) (hS : va_S A H0 H locs) (hw : Cond.fieldLink own idx "HeapQueries$Survey" "reachable" "I" ∈ hq_tbl) (hdg : decode cc pc = .ok (.putfield idx, 3)) (kk : ∀ (H1 : Heap) (locs1 : List Loc), va_P D hq_cl (hx_w q cI cZ cL xq_query ha_parents hf_classCount ha_classes ha_sizes ha_fields hf_objectCount hf_roots hf_changed sa_linkedFrom sa_linkCounts sa_retainedSets sa_retainedSizes sa_dominators sa_immediateDominators sf_objectCount sf_roots v ta_codes ta_numbers tf_count ta_brackets tf_bracketCount tf_place tf_inWhere tf_compared wa_rows wf_count wf_looks ++ z) H1 → va_D A (hx_w q cI cZ cL xq_query ha_parents hf_classCount ha_classes ha_sizes ha_fields hf_objectCount hf_roots hf_changed sa_linkedFrom sa_linkCounts sa_retainedSets sa_retainedSizes sa_dominators sa_immediateDominators sf_objectCount sf_roots v ta_codes ta_numbers tf_count ta_brackets tf_bracketCount tf_place tf_inWhere tf_compared wa_rows wf_count wf_looks ++ z) → va_S A H0 H1 locs1 → W p l e R s m args below meth c H1 locs1 cells slots Q (F0 m (pc + 3) ls rest)) : W p l e R s m args below meth c H locs cells slots Q (F0 m pc ls (.int v :: .ref (q 2) :: rest)) :=
  va_put (ty := .int) hx hb hts hin_xs hty_xs hty_xs_ok hnm_xs hown hK hP hD hS 2 rfl rfl 8 (by decide) (hts _ hw) (fun _ h9 => h9) rfl (by decide +kernel) rfl rfl (Nat.le_of_ble_eq_true rfl) hdg kk
theorem gx_3_codes (hx : p.tables.exec = Jvm.exec) (hb : c.code = cc) (hts : ∀ x ∈ hq_tbl, x.before args s = true) (hown : s.vm.findClass own = some m.cls) (hK : va_K D hq_cl (hq_tys cI cZ cL) s) (hP : va_P D hq_cl (hx_w q cI cZ cL xq_query ha_parents hf_classCount ha_classes ha_sizes ha_fields hf_objectCount hf_roots hf_changed sa_linkedFrom sa_linkCounts sa_retainedSets sa_retainedSizes sa_dominators sa_immediateDominators sf_objectCount sf_roots sf_reachable ta_codes ta_numbers tf_count ta_brackets tf_bracketCount tf_place tf_inWhere tf_compared wa_rows wf_count wf_looks ++ z) H) (hw : Cond.fieldLink own idx "HeapQueries$Text" "codes" "[I" ∈ hq_tbl) (hdg : decode cc pc = .ok (.getfield idx, 3)) (kk : W p l e R s m args below meth c H locs cells slots Q (F0 m (pc + 3) ls (.ref (q 15) :: rest))) : W p l e R s m args below meth c H locs cells slots Q (F0 m pc ls (.ref (q 3) :: rest)) :=
  va_get hx hb hts hin_xt hown hK hP 3 rfl rfl 0 (by decide) (hts _ hw) (fun _ h9 => h9) rfl hdg kk
theorem gx_3_numbers (hx : p.tables.exec = Jvm.exec) (hb : c.code = cc) (hts : ∀ x ∈ hq_tbl, x.before args s = true) (hown : s.vm.findClass own = some m.cls) (hK : va_K D hq_cl (hq_tys cI cZ cL) s) (hP : va_P D hq_cl (hx_w q cI cZ cL xq_query ha_parents hf_classCount ha_classes ha_sizes ha_fields hf_objectCount hf_roots hf_changed sa_linkedFrom sa_linkCounts sa_retainedSets sa_retainedSizes sa_dominators sa_immediateDominators sf_objectCount sf_roots sf_reachable ta_codes ta_numbers tf_count ta_brackets tf_bracketCount tf_place tf_inWhere tf_compared wa_rows wf_count wf_looks ++ z) H) (hw : Cond.fieldLink own idx "HeapQueries$Text" "numbers" "[I" ∈ hq_tbl) (hdg : decode cc pc = .ok (.getfield idx, 3)) (kk : W p l e R s m args below meth c H locs cells slots Q (F0 m (pc + 3) ls (.ref (q 16) :: rest))) : W p l e R s m args below meth c H locs cells slots Q (F0 m pc ls (.ref (q 3) :: rest)) :=
  va_get hx hb hts hin_xt hown hK hP 3 rfl rfl 1 (by decide) (hts _ hw) (fun _ h9 => h9) rfl hdg kk
theorem gx_3_count (hx : p.tables.exec = Jvm.exec) (hb : c.code = cc) (hts : ∀ x ∈ hq_tbl, x.before args s = true) (hown : s.vm.findClass own = some m.cls) (hK : va_K D hq_cl (hq_tys cI cZ cL) s) (hP : va_P D hq_cl (hx_w q cI cZ cL xq_query ha_parents hf_classCount ha_classes ha_sizes ha_fields hf_objectCount hf_roots hf_changed sa_linkedFrom sa_linkCounts sa_retainedSets sa_retainedSizes sa_dominators sa_immediateDominators sf_objectCount sf_roots sf_reachable ta_codes ta_numbers tf_count ta_brackets tf_bracketCount tf_place tf_inWhere tf_compared wa_rows wf_count wf_looks ++ z) H) (hw : Cond.fieldLink own idx "HeapQueries$Text" "count" "I" ∈ hq_tbl) (hdg : decode cc pc = .ok (.getfield idx, 3)) (kk : W p l e R s m args below meth c H locs cells slots Q (F0 m (pc + 3) ls (.int tf_count :: rest))) : W p l e R s m args below meth c H locs cells slots Q (F0 m pc ls (.ref (q 3) :: rest)) :=
  va_get hx hb hts hin_xt hown hK hP 3 rfl rfl 2 (by decide) (hts _ hw) (fun _ h9 => h9) rfl hdg kk
theorem px_3_count {v : Int32} (hx : p.tables.exec = Jvm.exec) (hb : c.code = cc) (hts : ∀ x ∈ hq_tbl, x.before args s = true) (hown : s.vm.findClass own = some m.cls) (hK : va_K D hq_cl (hq_tys cI cZ cL) s) (hP : va_P D hq_cl (hx_w q cI cZ cL xq_query ha_parents hf_classCount ha_classes ha_sizes ha_fields hf_objectCount hf_roots hf_changed sa_linkedFrom sa_linkCounts sa_retainedSets sa_retainedSizes sa_dominators sa_immediateDominators sf_objectCount sf_roots sf_reachable ta_codes ta_numbers tf_count ta_brackets tf_bracketCount tf_place tf_inWhere tf_compared wa_rows wf_count wf_looks ++ z) H) (hD : va_D A (hx_w q cI cZ cL xq_query ha_parents hf_classCount ha_classes ha_sizes ha_fields hf_objectCount hf_roots hf_changed sa_linkedFrom sa_linkCounts sa_retainedSets sa_retainedSizes sa_dominators sa_immediateDominators sf_objectCount sf_roots sf_reachable ta_codes ta_numbers tf_count ta_brackets tf_bracketCount tf_place tf_inWhere tf_compared wa_rows wf_count wf_looks ++ z)) (hS : va_S A H0 H locs) (hw : Cond.fieldLink own idx "HeapQueries$Text" "count" "I" ∈ hq_tbl) (hdg : decode cc pc = .ok (.putfield idx, 3)) (kk : ∀ (H1 : Heap) (locs1 : List Loc), va_P D hq_cl (hx_w q cI cZ cL xq_query ha_parents hf_classCount ha_classes ha_sizes ha_fields hf_objectCount hf_roots hf_changed sa_linkedFrom sa_linkCounts sa_retainedSets sa_retainedSizes sa_dominators sa_immediateDominators sf_objectCount sf_roots sf_reachable ta_codes ta_numbers v ta_brackets tf_bracketCount tf_place tf_inWhere tf_compared wa_rows wf_count wf_looks ++ z) H1 → va_D A (hx_w q cI cZ cL xq_query ha_parents hf_classCount ha_classes ha_sizes ha_fields hf_objectCount hf_roots hf_changed sa_linkedFrom sa_linkCounts sa_retainedSets sa_retainedSizes sa_dominators sa_immediateDominators sf_objectCount sf_roots sf_reachable ta_codes ta_numbers v ta_brackets tf_bracketCount tf_place tf_inWhere tf_compared wa_rows wf_count wf_looks ++ z) → va_S A H0 H1 locs1 → W p l e R s m args below meth c H1 locs1 cells slots Q (F0 m (pc + 3) ls rest)) : W p l e R s m args below meth c H locs cells slots Q (F0 m pc ls (.int v :: .ref (q 3) :: rest)) :=
  va_put (ty := .int) hx hb hts hin_xt hty_xt hty_xt_ok hnm_xt hown hK hP hD hS 3 rfl rfl 2 (by decide) (hts _ hw) (fun _ h9 => h9) rfl (by decide +kernel) rfl rfl (Nat.le_of_ble_eq_true rfl) hdg kk
theorem gx_3_brackets (hx : p.tables.exec = Jvm.exec) (hb : c.code = cc) (hts : ∀ x ∈ hq_tbl, x.before args s = true) (hown : s.vm.findClass own = some m.cls) (hK : va_K D hq_cl (hq_tys cI cZ cL) s) (hP : va_P D hq_cl (hx_w q cI cZ cL xq_query ha_parents hf_classCount ha_classes ha_sizes ha_fields hf_objectCount hf_roots hf_changed sa_linkedFrom sa_linkCounts sa_retainedSets sa_retainedSizes sa_dominators sa_immediateDominators sf_objectCount sf_roots sf_reachable ta_codes ta_numbers tf_count ta_brackets tf_bracketCount tf_place tf_inWhere tf_compared wa_rows wf_count wf_looks ++ z) H) (hw : Cond.fieldLink own idx "HeapQueries$Text" "brackets" "[I" ∈ hq_tbl) (hdg : decode cc pc = .ok (.getfield idx, 3)) (kk : W p l e R s m args below meth c H locs cells slots Q (F0 m (pc + 3) ls (.ref (q 17) :: rest))) : W p l e R s m args below meth c H locs cells slots Q (F0 m pc ls (.ref (q 3) :: rest)) :=
  va_get hx hb hts hin_xt hown hK hP 3 rfl rfl 3 (by decide) (hts _ hw) (fun _ h9 => h9) rfl hdg kk
theorem gx_3_bracketCount (hx : p.tables.exec = Jvm.exec) (hb : c.code = cc) (hts : ∀ x ∈ hq_tbl, x.before args s = true) (hown : s.vm.findClass own = some m.cls) (hK : va_K D hq_cl (hq_tys cI cZ cL) s) (hP : va_P D hq_cl (hx_w q cI cZ cL xq_query ha_parents hf_classCount ha_classes ha_sizes ha_fields hf_objectCount hf_roots hf_changed sa_linkedFrom sa_linkCounts sa_retainedSets sa_retainedSizes sa_dominators sa_immediateDominators sf_objectCount sf_roots sf_reachable ta_codes ta_numbers tf_count ta_brackets tf_bracketCount tf_place tf_inWhere tf_compared wa_rows wf_count wf_looks ++ z) H) (hw : Cond.fieldLink own idx "HeapQueries$Text" "bracketCount" "I" ∈ hq_tbl) (hdg : decode cc pc = .ok (.getfield idx, 3)) (kk : W p l e R s m args below meth c H locs cells slots Q (F0 m (pc + 3) ls (.int tf_bracketCount :: rest))) : W p l e R s m args below meth c H locs cells slots Q (F0 m pc ls (.ref (q 3) :: rest)) :=
  va_get hx hb hts hin_xt hown hK hP 3 rfl rfl 4 (by decide) (hts _ hw) (fun _ h9 => h9) rfl hdg kk
theorem px_3_bracketCount {v : Int32} (hx : p.tables.exec = Jvm.exec) (hb : c.code = cc) (hts : ∀ x ∈ hq_tbl, x.before args s = true) (hown : s.vm.findClass own = some m.cls) (hK : va_K D hq_cl (hq_tys cI cZ cL) s) (hP : va_P D hq_cl (hx_w q cI cZ cL xq_query ha_parents hf_classCount ha_classes ha_sizes ha_fields hf_objectCount hf_roots hf_changed sa_linkedFrom sa_linkCounts sa_retainedSets sa_retainedSizes sa_dominators sa_immediateDominators sf_objectCount sf_roots sf_reachable ta_codes ta_numbers tf_count ta_brackets tf_bracketCount tf_place tf_inWhere tf_compared wa_rows wf_count wf_looks ++ z) H) (hD : va_D A (hx_w q cI cZ cL xq_query ha_parents hf_classCount ha_classes ha_sizes ha_fields hf_objectCount hf_roots hf_changed sa_linkedFrom sa_linkCounts sa_retainedSets sa_retainedSizes sa_dominators sa_immediateDominators sf_objectCount sf_roots sf_reachable ta_codes ta_numbers tf_count ta_brackets tf_bracketCount tf_place tf_inWhere tf_compared wa_rows wf_count wf_looks ++ z)) (hS : va_S A H0 H locs) (hw : Cond.fieldLink own idx "HeapQueries$Text" "bracketCount" "I" ∈ hq_tbl) (hdg : decode cc pc = .ok (.putfield idx, 3)) (kk : ∀ (H1 : Heap) (locs1 : List Loc), va_P D hq_cl (hx_w q cI cZ cL xq_query ha_parents hf_classCount ha_classes ha_sizes ha_fields hf_objectCount hf_roots hf_changed sa_linkedFrom sa_linkCounts sa_retainedSets sa_retainedSizes sa_dominators sa_immediateDominators sf_objectCount sf_roots sf_reachable ta_codes ta_numbers tf_count ta_brackets v tf_place tf_inWhere tf_compared wa_rows wf_count wf_looks ++ z) H1 → va_D A (hx_w q cI cZ cL xq_query ha_parents hf_classCount ha_classes ha_sizes ha_fields hf_objectCount hf_roots hf_changed sa_linkedFrom sa_linkCounts sa_retainedSets sa_retainedSizes sa_dominators sa_immediateDominators sf_objectCount sf_roots sf_reachable ta_codes ta_numbers tf_count ta_brackets v tf_place tf_inWhere tf_compared wa_rows wf_count wf_looks ++ z) → va_S A H0 H1 locs1 → W p l e R s m args below meth c H1 locs1 cells slots Q (F0 m (pc + 3) ls rest)) : W p l e R s m args below meth c H locs cells slots Q (F0 m pc ls (.int v :: .ref (q 3) :: rest)) :=
  va_put (ty := .int) hx hb hts hin_xt hty_xt hty_xt_ok hnm_xt hown hK hP hD hS 3 rfl rfl 4 (by decide) (hts _ hw) (fun _ h9 => h9) rfl (by decide +kernel) rfl rfl (Nat.le_of_ble_eq_true rfl) hdg kk
theorem gx_3_place (hx : p.tables.exec = Jvm.exec) (hb : c.code = cc) (hts : ∀ x ∈ hq_tbl, x.before args s = true) (hown : s.vm.findClass own = some m.cls) (hK : va_K D hq_cl (hq_tys cI cZ cL) s) (hP : va_P D hq_cl (hx_w q cI cZ cL xq_query ha_parents hf_classCount ha_classes ha_sizes ha_fields hf_objectCount hf_roots hf_changed sa_linkedFrom sa_linkCounts sa_retainedSets sa_retainedSizes sa_dominators sa_immediateDominators sf_objectCount sf_roots sf_reachable ta_codes ta_numbers tf_count ta_brackets tf_bracketCount tf_place tf_inWhere tf_compared wa_rows wf_count wf_looks ++ z) H) (hw : Cond.fieldLink own idx "HeapQueries$Text" "place" "I" ∈ hq_tbl) (hdg : decode cc pc = .ok (.getfield idx, 3)) (kk : W p l e R s m args below meth c H locs cells slots Q (F0 m (pc + 3) ls (.int tf_place :: rest))) : W p l e R s m args below meth c H locs cells slots Q (F0 m pc ls (.ref (q 3) :: rest)) :=
  va_get hx hb hts hin_xt hown hK hP 3 rfl rfl 5 (by decide) (hts _ hw) (fun _ h9 => h9) rfl hdg kk
theorem px_3_place {v : Int32} (hx : p.tables.exec = Jvm.exec) (hb : c.code = cc) (hts : ∀ x ∈ hq_tbl, x.before args s = true) (hown : s.vm.findClass own = some m.cls) (hK : va_K D hq_cl (hq_tys cI cZ cL) s) (hP : va_P D hq_cl (hx_w q cI cZ cL xq_query ha_parents hf_classCount ha_classes ha_sizes ha_fields hf_objectCount hf_roots hf_changed sa_linkedFrom sa_linkCounts sa_retainedSets sa_retainedSizes sa_dominators sa_immediateDominators sf_objectCount sf_roots sf_reachable ta_codes ta_numbers tf_count ta_brackets tf_bracketCount tf_place tf_inWhere tf_compared wa_rows wf_count wf_looks ++ z) H) (hD : va_D A (hx_w q cI cZ cL xq_query ha_parents hf_classCount ha_classes ha_sizes ha_fields hf_objectCount hf_roots hf_changed sa_linkedFrom sa_linkCounts sa_retainedSets sa_retainedSizes sa_dominators sa_immediateDominators sf_objectCount sf_roots sf_reachable ta_codes ta_numbers tf_count ta_brackets tf_bracketCount tf_place tf_inWhere tf_compared wa_rows wf_count wf_looks ++ z)) (hS : va_S A H0 H locs) (hw : Cond.fieldLink own idx "HeapQueries$Text" "place" "I" ∈ hq_tbl) (hdg : decode cc pc = .ok (.putfield idx, 3)) (kk : ∀ (H1 : Heap) (locs1 : List Loc), va_P D hq_cl (hx_w q cI cZ cL xq_query ha_parents hf_classCount ha_classes ha_sizes ha_fields hf_objectCount hf_roots hf_changed sa_linkedFrom sa_linkCounts sa_retainedSets sa_retainedSizes sa_dominators sa_immediateDominators sf_objectCount sf_roots sf_reachable ta_codes ta_numbers tf_count ta_brackets tf_bracketCount v tf_inWhere tf_compared wa_rows wf_count wf_looks ++ z) H1 → va_D A (hx_w q cI cZ cL xq_query ha_parents hf_classCount ha_classes ha_sizes ha_fields hf_objectCount hf_roots hf_changed sa_linkedFrom sa_linkCounts sa_retainedSets sa_retainedSizes sa_dominators sa_immediateDominators sf_objectCount sf_roots sf_reachable ta_codes ta_numbers tf_count ta_brackets tf_bracketCount v tf_inWhere tf_compared wa_rows wf_count wf_looks ++ z) → va_S A H0 H1 locs1 → W p l e R s m args below meth c H1 locs1 cells slots Q (F0 m (pc + 3) ls rest)) : W p l e R s m args below meth c H locs cells slots Q (F0 m pc ls (.int v :: .ref (q 3) :: rest)) :=
  va_put (ty := .int) hx hb hts hin_xt hty_xt hty_xt_ok hnm_xt hown hK hP hD hS 3 rfl rfl 5 (by decide) (hts _ hw) (fun _ h9 => h9) rfl (by decide +kernel) rfl rfl (Nat.le_of_ble_eq_true rfl) hdg kk
theorem gx_3_inWhere (hx : p.tables.exec = Jvm.exec) (hb : c.code = cc) (hts : ∀ x ∈ hq_tbl, x.before args s = true) (hown : s.vm.findClass own = some m.cls) (hK : va_K D hq_cl (hq_tys cI cZ cL) s) (hP : va_P D hq_cl (hx_w q cI cZ cL xq_query ha_parents hf_classCount ha_classes ha_sizes ha_fields hf_objectCount hf_roots hf_changed sa_linkedFrom sa_linkCounts sa_retainedSets sa_retainedSizes sa_dominators sa_immediateDominators sf_objectCount sf_roots sf_reachable ta_codes ta_numbers tf_count ta_brackets tf_bracketCount tf_place tf_inWhere tf_compared wa_rows wf_count wf_looks ++ z) H) (hw : Cond.fieldLink own idx "HeapQueries$Text" "inWhere" "Z" ∈ hq_tbl) (hdg : decode cc pc = .ok (.getfield idx, 3)) (kk : W p l e R s m args below meth c H locs cells slots Q (F0 m (pc + 3) ls (.int tf_inWhere :: rest))) : W p l e R s m args below meth c H locs cells slots Q (F0 m pc ls (.ref (q 3) :: rest)) :=
  va_get hx hb hts hin_xt hown hK hP 3 rfl rfl 6 (by decide) (hts _ hw) (fun _ h9 => h9) rfl hdg kk
theorem px_3_inWhere {v : Int32} (hx : p.tables.exec = Jvm.exec) (hb : c.code = cc) (hts : ∀ x ∈ hq_tbl, x.before args s = true) (hown : s.vm.findClass own = some m.cls) (hK : va_K D hq_cl (hq_tys cI cZ cL) s) (hP : va_P D hq_cl (hx_w q cI cZ cL xq_query ha_parents hf_classCount ha_classes ha_sizes ha_fields hf_objectCount hf_roots hf_changed sa_linkedFrom sa_linkCounts sa_retainedSets sa_retainedSizes sa_dominators sa_immediateDominators sf_objectCount sf_roots sf_reachable ta_codes ta_numbers tf_count ta_brackets tf_bracketCount tf_place tf_inWhere tf_compared wa_rows wf_count wf_looks ++ z) H) (hD : va_D A (hx_w q cI cZ cL xq_query ha_parents hf_classCount ha_classes ha_sizes ha_fields hf_objectCount hf_roots hf_changed sa_linkedFrom sa_linkCounts sa_retainedSets sa_retainedSizes sa_dominators sa_immediateDominators sf_objectCount sf_roots sf_reachable ta_codes ta_numbers tf_count ta_brackets tf_bracketCount tf_place tf_inWhere tf_compared wa_rows wf_count wf_looks ++ z)) (hS : va_S A H0 H locs) (hw : Cond.fieldLink own idx "HeapQueries$Text" "inWhere" "Z" ∈ hq_tbl) (hz : v = 0 ∨ v = 1) (hdg : decode cc pc = .ok (.putfield idx, 3)) (kk : ∀ (H1 : Heap) (locs1 : List Loc), va_P D hq_cl (hx_w q cI cZ cL xq_query ha_parents hf_classCount ha_classes ha_sizes ha_fields hf_objectCount hf_roots hf_changed sa_linkedFrom sa_linkCounts sa_retainedSets sa_retainedSizes sa_dominators sa_immediateDominators sf_objectCount sf_roots sf_reachable ta_codes ta_numbers tf_count ta_brackets tf_bracketCount tf_place v tf_compared wa_rows wf_count wf_looks ++ z) H1 → va_D A (hx_w q cI cZ cL xq_query ha_parents hf_classCount ha_classes ha_sizes ha_fields hf_objectCount hf_roots hf_changed sa_linkedFrom sa_linkCounts sa_retainedSets sa_retainedSizes sa_dominators sa_immediateDominators sf_objectCount sf_roots sf_reachable ta_codes ta_numbers tf_count ta_brackets tf_bracketCount tf_place v tf_compared wa_rows wf_count wf_looks ++ z) → va_S A H0 H1 locs1 → W p l e R s m args below meth c H1 locs1 cells slots Q (F0 m (pc + 3) ls rest)) : W p l e R s m args below meth c H locs cells slots Q (F0 m pc ls (.int v :: .ref (q 3) :: rest)) :=
  va_put (ty := .boolean) hx hb hts hin_xt hty_xt hty_xt_ok hnm_xt hown hK hP hD hS 3 rfl rfl 6 (by decide) (hts _ hw) (fun _ h9 => h9) rfl (by decide +kernel) (by rcases hz with rfl | rfl <;> rfl) (by rcases hz with rfl | rfl <;> rfl) (Nat.le_of_ble_eq_true rfl) hdg kk
theorem gx_3_compared (hx : p.tables.exec = Jvm.exec) (hb : c.code = cc) (hts : ∀ x ∈ hq_tbl, x.before args s = true) (hown : s.vm.findClass own = some m.cls) (hK : va_K D hq_cl (hq_tys cI cZ cL) s) (hP : va_P D hq_cl (hx_w q cI cZ cL xq_query ha_parents hf_classCount ha_classes ha_sizes ha_fields hf_objectCount hf_roots hf_changed sa_linkedFrom sa_linkCounts sa_retainedSets sa_retainedSizes sa_dominators sa_immediateDominators sf_objectCount sf_roots sf_reachable ta_codes ta_numbers tf_count ta_brackets tf_bracketCount tf_place tf_inWhere tf_compared wa_rows wf_count wf_looks ++ z) H) (hw : Cond.fieldLink own idx "HeapQueries$Text" "compared" "Z" ∈ hq_tbl) (hdg : decode cc pc = .ok (.getfield idx, 3)) (kk : W p l e R s m args below meth c H locs cells slots Q (F0 m (pc + 3) ls (.int tf_compared :: rest))) : W p l e R s m args below meth c H locs cells slots Q (F0 m pc ls (.ref (q 3) :: rest)) :=
  va_get hx hb hts hin_xt hown hK hP 3 rfl rfl 7 (by decide) (hts _ hw) (fun _ h9 => h9) rfl hdg kk
theorem px_3_compared {v : Int32} (hx : p.tables.exec = Jvm.exec) (hb : c.code = cc) (hts : ∀ x ∈ hq_tbl, x.before args s = true) (hown : s.vm.findClass own = some m.cls) (hK : va_K D hq_cl (hq_tys cI cZ cL) s) (hP : va_P D hq_cl (hx_w q cI cZ cL xq_query ha_parents hf_classCount ha_classes ha_sizes ha_fields hf_objectCount hf_roots hf_changed sa_linkedFrom sa_linkCounts sa_retainedSets sa_retainedSizes sa_dominators sa_immediateDominators sf_objectCount sf_roots sf_reachable ta_codes ta_numbers tf_count ta_brackets tf_bracketCount tf_place tf_inWhere tf_compared wa_rows wf_count wf_looks ++ z) H) (hD : va_D A (hx_w q cI cZ cL xq_query ha_parents hf_classCount ha_classes ha_sizes ha_fields hf_objectCount hf_roots hf_changed sa_linkedFrom sa_linkCounts sa_retainedSets sa_retainedSizes sa_dominators sa_immediateDominators sf_objectCount sf_roots sf_reachable ta_codes ta_numbers tf_count ta_brackets tf_bracketCount tf_place tf_inWhere tf_compared wa_rows wf_count wf_looks ++ z)) (hS : va_S A H0 H locs) (hw : Cond.fieldLink own idx "HeapQueries$Text" "compared" "Z" ∈ hq_tbl) (hz : v = 0 ∨ v = 1) (hdg : decode cc pc = .ok (.putfield idx, 3)) (kk : ∀ (H1 : Heap) (locs1 : List Loc), va_P D hq_cl (hx_w q cI cZ cL xq_query ha_parents hf_classCount ha_classes ha_sizes ha_fields hf_objectCount hf_roots hf_changed sa_linkedFrom sa_linkCounts sa_retainedSets sa_retainedSizes sa_dominators sa_immediateDominators sf_objectCount sf_roots sf_reachable ta_codes ta_numbers tf_count ta_brackets tf_bracketCount tf_place tf_inWhere v wa_rows wf_count wf_looks ++ z) H1 → va_D A (hx_w q cI cZ cL xq_query ha_parents hf_classCount ha_classes ha_sizes ha_fields hf_objectCount hf_roots hf_changed sa_linkedFrom sa_linkCounts sa_retainedSets sa_retainedSizes sa_dominators sa_immediateDominators sf_objectCount sf_roots sf_reachable ta_codes ta_numbers tf_count ta_brackets tf_bracketCount tf_place tf_inWhere v wa_rows wf_count wf_looks ++ z) → va_S A H0 H1 locs1 → W p l e R s m args below meth c H1 locs1 cells slots Q (F0 m (pc + 3) ls rest)) : W p l e R s m args below meth c H locs cells slots Q (F0 m pc ls (.int v :: .ref (q 3) :: rest)) :=
  va_put (ty := .boolean) hx hb hts hin_xt hty_xt hty_xt_ok hnm_xt hown hK hP hD hS 3 rfl rfl 7 (by decide) (hts _ hw) (fun _ h9 => h9) rfl (by decide +kernel) (by rcases hz with rfl | rfl <;> rfl) (by rcases hz with rfl | rfl <;> rfl) (Nat.le_of_ble_eq_true rfl) hdg kk
theorem gx_4_rows (hx : p.tables.exec = Jvm.exec) (hb : c.code = cc) (hts : ∀ x ∈ hq_tbl, x.before args s = true) (hown : s.vm.findClass own = some m.cls) (hK : va_K D hq_cl (hq_tys cI cZ cL) s) (hP : va_P D hq_cl (hx_w q cI cZ cL xq_query ha_parents hf_classCount ha_classes ha_sizes ha_fields hf_objectCount hf_roots hf_changed sa_linkedFrom sa_linkCounts sa_retainedSets sa_retainedSizes sa_dominators sa_immediateDominators sf_objectCount sf_roots sf_reachable ta_codes ta_numbers tf_count ta_brackets tf_bracketCount tf_place tf_inWhere tf_compared wa_rows wf_count wf_looks ++ z) H) (hw : Cond.fieldLink own idx "HeapQueries$Worker" "rows" "[J" ∈ hq_tbl) (hdg : decode cc pc = .ok (.getfield idx, 3)) (kk : W p l e R s m args below meth c H locs cells slots Q (F0 m (pc + 3) ls (.ref (q 18) :: rest))) : W p l e R s m args below meth c H locs cells slots Q (F0 m pc ls (.ref (q 4) :: rest)) :=
  va_get hx hb hts hin_xw hown hK hP 4 rfl rfl 0 (by decide) (hts _ hw) (fun _ h9 => h9) rfl hdg kk
theorem gx_4_count (hx : p.tables.exec = Jvm.exec) (hb : c.code = cc) (hts : ∀ x ∈ hq_tbl, x.before args s = true) (hown : s.vm.findClass own = some m.cls) (hK : va_K D hq_cl (hq_tys cI cZ cL) s) (hP : va_P D hq_cl (hx_w q cI cZ cL xq_query ha_parents hf_classCount ha_classes ha_sizes ha_fields hf_objectCount hf_roots hf_changed sa_linkedFrom sa_linkCounts sa_retainedSets sa_retainedSizes sa_dominators sa_immediateDominators sf_objectCount sf_roots sf_reachable ta_codes ta_numbers tf_count ta_brackets tf_bracketCount tf_place tf_inWhere tf_compared wa_rows wf_count wf_looks ++ z) H) (hw : Cond.fieldLink own idx "HeapQueries$Worker" "count" "I" ∈ hq_tbl) (hdg : decode cc pc = .ok (.getfield idx, 3)) (kk : W p l e R s m args below meth c H locs cells slots Q (F0 m (pc + 3) ls (.int wf_count :: rest))) : W p l e R s m args below meth c H locs cells slots Q (F0 m pc ls (.ref (q 4) :: rest)) :=
  va_get hx hb hts hin_xw hown hK hP 4 rfl rfl 1 (by decide) (hts _ hw) (fun _ h9 => h9) rfl hdg kk
theorem px_4_count {v : Int32} (hx : p.tables.exec = Jvm.exec) (hb : c.code = cc) (hts : ∀ x ∈ hq_tbl, x.before args s = true) (hown : s.vm.findClass own = some m.cls) (hK : va_K D hq_cl (hq_tys cI cZ cL) s) (hP : va_P D hq_cl (hx_w q cI cZ cL xq_query ha_parents hf_classCount ha_classes ha_sizes ha_fields hf_objectCount hf_roots hf_changed sa_linkedFrom sa_linkCounts sa_retainedSets sa_retainedSizes sa_dominators sa_immediateDominators sf_objectCount sf_roots sf_reachable ta_codes ta_numbers tf_count ta_brackets tf_bracketCount tf_place tf_inWhere tf_compared wa_rows wf_count wf_looks ++ z) H) (hD : va_D A (hx_w q cI cZ cL xq_query ha_parents hf_classCount ha_classes ha_sizes ha_fields hf_objectCount hf_roots hf_changed sa_linkedFrom sa_linkCounts sa_retainedSets sa_retainedSizes sa_dominators sa_immediateDominators sf_objectCount sf_roots sf_reachable ta_codes ta_numbers tf_count ta_brackets tf_bracketCount tf_place tf_inWhere tf_compared wa_rows wf_count wf_looks ++ z)) (hS : va_S A H0 H locs) (hw : Cond.fieldLink own idx "HeapQueries$Worker" "count" "I" ∈ hq_tbl) (hdg : decode cc pc = .ok (.putfield idx, 3)) (kk : ∀ (H1 : Heap) (locs1 : List Loc), va_P D hq_cl (hx_w q cI cZ cL xq_query ha_parents hf_classCount ha_classes ha_sizes ha_fields hf_objectCount hf_roots hf_changed sa_linkedFrom sa_linkCounts sa_retainedSets sa_retainedSizes sa_dominators sa_immediateDominators sf_objectCount sf_roots sf_reachable ta_codes ta_numbers tf_count ta_brackets tf_bracketCount tf_place tf_inWhere tf_compared wa_rows v wf_looks ++ z) H1 → va_D A (hx_w q cI cZ cL xq_query ha_parents hf_classCount ha_classes ha_sizes ha_fields hf_objectCount hf_roots hf_changed sa_linkedFrom sa_linkCounts sa_retainedSets sa_retainedSizes sa_dominators sa_immediateDominators sf_objectCount sf_roots sf_reachable ta_codes ta_numbers tf_count ta_brackets tf_bracketCount tf_place tf_inWhere tf_compared wa_rows v wf_looks ++ z) → va_S A H0 H1 locs1 → W p l e R s m args below meth c H1 locs1 cells slots Q (F0 m (pc + 3) ls rest)) : W p l e R s m args below meth c H locs cells slots Q (F0 m pc ls (.int v :: .ref (q 4) :: rest)) :=
  va_put (ty := .int) hx hb hts hin_xw hty_xw hty_xw_ok hnm_xw hown hK hP hD hS 4 rfl rfl 1 (by decide) (hts _ hw) (fun _ h9 => h9) rfl (by decide +kernel) rfl rfl (Nat.le_of_ble_eq_true rfl) hdg kk
theorem gx_4_looks (hx : p.tables.exec = Jvm.exec) (hb : c.code = cc) (hts : ∀ x ∈ hq_tbl, x.before args s = true) (hown : s.vm.findClass own = some m.cls) (hK : va_K D hq_cl (hq_tys cI cZ cL) s) (hP : va_P D hq_cl (hx_w q cI cZ cL xq_query ha_parents hf_classCount ha_classes ha_sizes ha_fields hf_objectCount hf_roots hf_changed sa_linkedFrom sa_linkCounts sa_retainedSets sa_retainedSizes sa_dominators sa_immediateDominators sf_objectCount sf_roots sf_reachable ta_codes ta_numbers tf_count ta_brackets tf_bracketCount tf_place tf_inWhere tf_compared wa_rows wf_count wf_looks ++ z) H) (hw : Cond.fieldLink own idx "HeapQueries$Worker" "looks" "I" ∈ hq_tbl) (hdg : decode cc pc = .ok (.getfield idx, 3)) (kk : W p l e R s m args below meth c H locs cells slots Q (F0 m (pc + 3) ls (.int wf_looks :: rest))) : W p l e R s m args below meth c H locs cells slots Q (F0 m pc ls (.ref (q 4) :: rest)) :=
  va_get hx hb hts hin_xw hown hK hP 4 rfl rfl 2 (by decide) (hts _ hw) (fun _ h9 => h9) rfl hdg kk
theorem px_4_looks {v : Int32} (hx : p.tables.exec = Jvm.exec) (hb : c.code = cc) (hts : ∀ x ∈ hq_tbl, x.before args s = true) (hown : s.vm.findClass own = some m.cls) (hK : va_K D hq_cl (hq_tys cI cZ cL) s) (hP : va_P D hq_cl (hx_w q cI cZ cL xq_query ha_parents hf_classCount ha_classes ha_sizes ha_fields hf_objectCount hf_roots hf_changed sa_linkedFrom sa_linkCounts sa_retainedSets sa_retainedSizes sa_dominators sa_immediateDominators sf_objectCount sf_roots sf_reachable ta_codes ta_numbers tf_count ta_brackets tf_bracketCount tf_place tf_inWhere tf_compared wa_rows wf_count wf_looks ++ z) H) (hD : va_D A (hx_w q cI cZ cL xq_query ha_parents hf_classCount ha_classes ha_sizes ha_fields hf_objectCount hf_roots hf_changed sa_linkedFrom sa_linkCounts sa_retainedSets sa_retainedSizes sa_dominators sa_immediateDominators sf_objectCount sf_roots sf_reachable ta_codes ta_numbers tf_count ta_brackets tf_bracketCount tf_place tf_inWhere tf_compared wa_rows wf_count wf_looks ++ z)) (hS : va_S A H0 H locs) (hw : Cond.fieldLink own idx "HeapQueries$Worker" "looks" "I" ∈ hq_tbl) (hdg : decode cc pc = .ok (.putfield idx, 3)) (kk : ∀ (H1 : Heap) (locs1 : List Loc), va_P D hq_cl (hx_w q cI cZ cL xq_query ha_parents hf_classCount ha_classes ha_sizes ha_fields hf_objectCount hf_roots hf_changed sa_linkedFrom sa_linkCounts sa_retainedSets sa_retainedSizes sa_dominators sa_immediateDominators sf_objectCount sf_roots sf_reachable ta_codes ta_numbers tf_count ta_brackets tf_bracketCount tf_place tf_inWhere tf_compared wa_rows wf_count v ++ z) H1 → va_D A (hx_w q cI cZ cL xq_query ha_parents hf_classCount ha_classes ha_sizes ha_fields hf_objectCount hf_roots hf_changed sa_linkedFrom sa_linkCounts sa_retainedSets sa_retainedSizes sa_dominators sa_immediateDominators sf_objectCount sf_roots sf_reachable ta_codes ta_numbers tf_count ta_brackets tf_bracketCount tf_place tf_inWhere tf_compared wa_rows wf_count v ++ z) → va_S A H0 H1 locs1 → W p l e R s m args below meth c H1 locs1 cells slots Q (F0 m (pc + 3) ls rest)) : W p l e R s m args below meth c H locs cells slots Q (F0 m pc ls (.int v :: .ref (q 4) :: rest)) :=
  va_put (ty := .int) hx hb hts hin_xw hty_xw hty_xw_ok hnm_xw hown hK hP hD hS 4 rfl rfl 2 (by decide) (hts _ hw) (fun _ h9 => h9) rfl (by decide +kernel) rfl rfl (Nat.le_of_ble_eq_true rfl) hdg kk
theorem ax_5 {i : Int32} (hx : p.tables.exec = Jvm.exec) (hb : c.code = cc) (hK : va_K D hq_cl (hq_tys cI cZ cL) s) (hP : va_P D hq_cl (hx_w q cI cZ cL xq_query ha_parents hf_classCount ha_classes ha_sizes ha_fields hf_objectCount hf_roots hf_changed sa_linkedFrom sa_linkCounts sa_retainedSets sa_retainedSizes sa_dominators sa_immediateDominators sf_objectCount sf_roots sf_reachable ta_codes ta_numbers tf_count ta_brackets tf_bracketCount tf_place tf_inWhere tf_compared wa_rows wf_count wf_looks ++ z) H) (hin : vp_in i 8) (hdg : decode cc pc = .ok (.iaload, 1)) (kk : W p l e R s m args below meth c H locs cells slots Q (F0 m (pc + 1) ls (.int (ha_parents i.toNatClampNeg) :: rest))) : W p l e R s m args below meth c H locs cells slots Q (F0 m pc ls (.int i :: .ref (q 5) :: rest)) :=
  va_iald hx hb hK hP 5 0 rfl rfl hin hdg kk
theorem tx_5 {i : Int32} {x : Int32} (hx : p.tables.exec = Jvm.exec) (hb : c.code = cc) (hK : va_K D hq_cl (hq_tys cI cZ cL) s) (hP : va_P D hq_cl (hx_w q cI cZ cL xq_query ha_parents hf_classCount ha_classes ha_sizes ha_fields hf_objectCount hf_roots hf_changed sa_linkedFrom sa_linkCounts sa_retainedSets sa_retainedSizes sa_dominators sa_immediateDominators sf_objectCount sf_roots sf_reachable ta_codes ta_numbers tf_count ta_brackets tf_bracketCount tf_place tf_inWhere tf_compared wa_rows wf_count wf_looks ++ z) H) (hD : va_D A (hx_w q cI cZ cL xq_query ha_parents hf_classCount ha_classes ha_sizes ha_fields hf_objectCount hf_roots hf_changed sa_linkedFrom sa_linkCounts sa_retainedSets sa_retainedSizes sa_dominators sa_immediateDominators sf_objectCount sf_roots sf_reachable ta_codes ta_numbers tf_count ta_brackets tf_bracketCount tf_place tf_inWhere tf_compared wa_rows wf_count wf_looks ++ z)) (hS : va_S A H0 H locs) (hin : vp_in i 8) (hdg : decode cc pc = .ok (.iastore, 1)) (kk : ∀ (H1 : Heap) (locs1 : List Loc), va_P D hq_cl (hx_w q cI cZ cL xq_query (upd ha_parents i.toNatClampNeg x) hf_classCount ha_classes ha_sizes ha_fields hf_objectCount hf_roots hf_changed sa_linkedFrom sa_linkCounts sa_retainedSets sa_retainedSizes sa_dominators sa_immediateDominators sf_objectCount sf_roots sf_reachable ta_codes ta_numbers tf_count ta_brackets tf_bracketCount tf_place tf_inWhere tf_compared wa_rows wf_count wf_looks ++ z) H1 → va_D A (hx_w q cI cZ cL xq_query (upd ha_parents i.toNatClampNeg x) hf_classCount ha_classes ha_sizes ha_fields hf_objectCount hf_roots hf_changed sa_linkedFrom sa_linkCounts sa_retainedSets sa_retainedSizes sa_dominators sa_immediateDominators sf_objectCount sf_roots sf_reachable ta_codes ta_numbers tf_count ta_brackets tf_bracketCount tf_place tf_inWhere tf_compared wa_rows wf_count wf_looks ++ z) → va_S A H0 H1 locs1 → W p l e R s m args below meth c H1 locs1 cells slots Q (F0 m (pc + 1) ls rest)) : W p l e R s m args below meth c H locs cells slots Q (F0 m pc ls (.int x :: .int i :: .ref (q 5) :: rest)) :=
  va_iast hx hb hK hP hD hS 5 0 rfl rfl hin hdg kk
theorem ax_6 {i : Int32} (hx : p.tables.exec = Jvm.exec) (hb : c.code = cc) (hK : va_K D hq_cl (hq_tys cI cZ cL) s) (hP : va_P D hq_cl (hx_w q cI cZ cL xq_query ha_parents hf_classCount ha_classes ha_sizes ha_fields hf_objectCount hf_roots hf_changed sa_linkedFrom sa_linkCounts sa_retainedSets sa_retainedSizes sa_dominators sa_immediateDominators sf_objectCount sf_roots sf_reachable ta_codes ta_numbers tf_count ta_brackets tf_bracketCount tf_place tf_inWhere tf_compared wa_rows wf_count wf_looks ++ z) H) (hin : vp_in i 24) (hdg : decode cc pc = .ok (.iaload, 1)) (kk : W p l e R s m args below meth c H locs cells slots Q (F0 m (pc + 1) ls (.int (ha_classes i.toNatClampNeg) :: rest))) : W p l e R s m args below meth c H locs cells slots Q (F0 m pc ls (.int i :: .ref (q 6) :: rest)) :=
  va_iald hx hb hK hP 6 0 rfl rfl hin hdg kk
theorem tx_6 {i : Int32} {x : Int32} (hx : p.tables.exec = Jvm.exec) (hb : c.code = cc) (hK : va_K D hq_cl (hq_tys cI cZ cL) s) (hP : va_P D hq_cl (hx_w q cI cZ cL xq_query ha_parents hf_classCount ha_classes ha_sizes ha_fields hf_objectCount hf_roots hf_changed sa_linkedFrom sa_linkCounts sa_retainedSets sa_retainedSizes sa_dominators sa_immediateDominators sf_objectCount sf_roots sf_reachable ta_codes ta_numbers tf_count ta_brackets tf_bracketCount tf_place tf_inWhere tf_compared wa_rows wf_count wf_looks ++ z) H) (hD : va_D A (hx_w q cI cZ cL xq_query ha_parents hf_classCount ha_classes ha_sizes ha_fields hf_objectCount hf_roots hf_changed sa_linkedFrom sa_linkCounts sa_retainedSets sa_retainedSizes sa_dominators sa_immediateDominators sf_objectCount sf_roots sf_reachable ta_codes ta_numbers tf_count ta_brackets tf_bracketCount tf_place tf_inWhere tf_compared wa_rows wf_count wf_looks ++ z)) (hS : va_S A H0 H locs) (hin : vp_in i 24) (hdg : decode cc pc = .ok (.iastore, 1)) (kk : ∀ (H1 : Heap) (locs1 : List Loc), va_P D hq_cl (hx_w q cI cZ cL xq_query ha_parents hf_classCount (upd ha_classes i.toNatClampNeg x) ha_sizes ha_fields hf_objectCount hf_roots hf_changed sa_linkedFrom sa_linkCounts sa_retainedSets sa_retainedSizes sa_dominators sa_immediateDominators sf_objectCount sf_roots sf_reachable ta_codes ta_numbers tf_count ta_brackets tf_bracketCount tf_place tf_inWhere tf_compared wa_rows wf_count wf_looks ++ z) H1 → va_D A (hx_w q cI cZ cL xq_query ha_parents hf_classCount (upd ha_classes i.toNatClampNeg x) ha_sizes ha_fields hf_objectCount hf_roots hf_changed sa_linkedFrom sa_linkCounts sa_retainedSets sa_retainedSizes sa_dominators sa_immediateDominators sf_objectCount sf_roots sf_reachable ta_codes ta_numbers tf_count ta_brackets tf_bracketCount tf_place tf_inWhere tf_compared wa_rows wf_count wf_looks ++ z) → va_S A H0 H1 locs1 → W p l e R s m args below meth c H1 locs1 cells slots Q (F0 m (pc + 1) ls rest)) : W p l e R s m args below meth c H locs cells slots Q (F0 m pc ls (.int x :: .int i :: .ref (q 6) :: rest)) :=
  va_iast hx hb hK hP hD hS 6 0 rfl rfl hin hdg kk
theorem ax_7 {i : Int32} (hx : p.tables.exec = Jvm.exec) (hb : c.code = cc) (hK : va_K D hq_cl (hq_tys cI cZ cL) s) (hP : va_P D hq_cl (hx_w q cI cZ cL xq_query ha_parents hf_classCount ha_classes ha_sizes ha_fields hf_objectCount hf_roots hf_changed sa_linkedFrom sa_linkCounts sa_retainedSets sa_retainedSizes sa_dominators sa_immediateDominators sf_objectCount sf_roots sf_reachable ta_codes ta_numbers tf_count ta_brackets tf_bracketCount tf_place tf_inWhere tf_compared wa_rows wf_count wf_looks ++ z) H) (hin : vp_in i 24) (hdg : decode cc pc = .ok (.iaload, 1)) (kk : W p l e R s m args below meth c H locs cells slots Q (F0 m (pc + 1) ls (.int (ha_sizes i.toNatClampNeg) :: rest))) : W p l e R s m args below meth c H locs cells slots Q (F0 m pc ls (.int i :: .ref (q 7) :: rest)) :=
  va_iald hx hb hK hP 7 0 rfl rfl hin hdg kk
theorem tx_7 {i : Int32} {x : Int32} (hx : p.tables.exec = Jvm.exec) (hb : c.code = cc) (hK : va_K D hq_cl (hq_tys cI cZ cL) s) (hP : va_P D hq_cl (hx_w q cI cZ cL xq_query ha_parents hf_classCount ha_classes ha_sizes ha_fields hf_objectCount hf_roots hf_changed sa_linkedFrom sa_linkCounts sa_retainedSets sa_retainedSizes sa_dominators sa_immediateDominators sf_objectCount sf_roots sf_reachable ta_codes ta_numbers tf_count ta_brackets tf_bracketCount tf_place tf_inWhere tf_compared wa_rows wf_count wf_looks ++ z) H) (hD : va_D A (hx_w q cI cZ cL xq_query ha_parents hf_classCount ha_classes ha_sizes ha_fields hf_objectCount hf_roots hf_changed sa_linkedFrom sa_linkCounts sa_retainedSets sa_retainedSizes sa_dominators sa_immediateDominators sf_objectCount sf_roots sf_reachable ta_codes ta_numbers tf_count ta_brackets tf_bracketCount tf_place tf_inWhere tf_compared wa_rows wf_count wf_looks ++ z)) (hS : va_S A H0 H locs) (hin : vp_in i 24) (hdg : decode cc pc = .ok (.iastore, 1)) (kk : ∀ (H1 : Heap) (locs1 : List Loc), va_P D hq_cl (hx_w q cI cZ cL xq_query ha_parents hf_classCount ha_classes (upd ha_sizes i.toNatClampNeg x) ha_fields hf_objectCount hf_roots hf_changed sa_linkedFrom sa_linkCounts sa_retainedSets sa_retainedSizes sa_dominators sa_immediateDominators sf_objectCount sf_roots sf_reachable ta_codes ta_numbers tf_count ta_brackets tf_bracketCount tf_place tf_inWhere tf_compared wa_rows wf_count wf_looks ++ z) H1 → va_D A (hx_w q cI cZ cL xq_query ha_parents hf_classCount ha_classes (upd ha_sizes i.toNatClampNeg x) ha_fields hf_objectCount hf_roots hf_changed sa_linkedFrom sa_linkCounts sa_retainedSets sa_retainedSizes sa_dominators sa_immediateDominators sf_objectCount sf_roots sf_reachable ta_codes ta_numbers tf_count ta_brackets tf_bracketCount tf_place tf_inWhere tf_compared wa_rows wf_count wf_looks ++ z) → va_S A H0 H1 locs1 → W p l e R s m args below meth c H1 locs1 cells slots Q (F0 m (pc + 1) ls rest)) : W p l e R s m args below meth c H locs cells slots Q (F0 m pc ls (.int x :: .int i :: .ref (q 7) :: rest)) :=
  va_iast hx hb hK hP hD hS 7 0 rfl rfl hin hdg kk
theorem ax_8 {i : Int32} (hx : p.tables.exec = Jvm.exec) (hb : c.code = cc) (hK : va_K D hq_cl (hq_tys cI cZ cL) s) (hP : va_P D hq_cl (hx_w q cI cZ cL xq_query ha_parents hf_classCount ha_classes ha_sizes ha_fields hf_objectCount hf_roots hf_changed sa_linkedFrom sa_linkCounts sa_retainedSets sa_retainedSizes sa_dominators sa_immediateDominators sf_objectCount sf_roots sf_reachable ta_codes ta_numbers tf_count ta_brackets tf_bracketCount tf_place tf_inWhere tf_compared wa_rows wf_count wf_looks ++ z) H) (hin : vp_in i 96) (hdg : decode cc pc = .ok (.laload, 1)) (kk : W p l e R s m args below meth c H locs cells slots Q (F0 m (pc + 1) ls (.long (ha_fields i.toNatClampNeg) :: rest))) : W p l e R s m args below meth c H locs cells slots Q (F0 m pc ls (.int i :: .ref (q 8) :: rest)) :=
  va_lald hx hb hK hP 8 2 rfl rfl hin hdg kk
theorem tx_8 {i : Int32} {x : Int64} (hx : p.tables.exec = Jvm.exec) (hb : c.code = cc) (hK : va_K D hq_cl (hq_tys cI cZ cL) s) (hP : va_P D hq_cl (hx_w q cI cZ cL xq_query ha_parents hf_classCount ha_classes ha_sizes ha_fields hf_objectCount hf_roots hf_changed sa_linkedFrom sa_linkCounts sa_retainedSets sa_retainedSizes sa_dominators sa_immediateDominators sf_objectCount sf_roots sf_reachable ta_codes ta_numbers tf_count ta_brackets tf_bracketCount tf_place tf_inWhere tf_compared wa_rows wf_count wf_looks ++ z) H) (hD : va_D A (hx_w q cI cZ cL xq_query ha_parents hf_classCount ha_classes ha_sizes ha_fields hf_objectCount hf_roots hf_changed sa_linkedFrom sa_linkCounts sa_retainedSets sa_retainedSizes sa_dominators sa_immediateDominators sf_objectCount sf_roots sf_reachable ta_codes ta_numbers tf_count ta_brackets tf_bracketCount tf_place tf_inWhere tf_compared wa_rows wf_count wf_looks ++ z)) (hS : va_S A H0 H locs) (hin : vp_in i 96) (hdg : decode cc pc = .ok (.lastore, 1)) (kk : ∀ (H1 : Heap) (locs1 : List Loc), va_P D hq_cl (hx_w q cI cZ cL xq_query ha_parents hf_classCount ha_classes ha_sizes (vp_updL ha_fields i.toNatClampNeg x) hf_objectCount hf_roots hf_changed sa_linkedFrom sa_linkCounts sa_retainedSets sa_retainedSizes sa_dominators sa_immediateDominators sf_objectCount sf_roots sf_reachable ta_codes ta_numbers tf_count ta_brackets tf_bracketCount tf_place tf_inWhere tf_compared wa_rows wf_count wf_looks ++ z) H1 → va_D A (hx_w q cI cZ cL xq_query ha_parents hf_classCount ha_classes ha_sizes (vp_updL ha_fields i.toNatClampNeg x) hf_objectCount hf_roots hf_changed sa_linkedFrom sa_linkCounts sa_retainedSets sa_retainedSizes sa_dominators sa_immediateDominators sf_objectCount sf_roots sf_reachable ta_codes ta_numbers tf_count ta_brackets tf_bracketCount tf_place tf_inWhere tf_compared wa_rows wf_count wf_looks ++ z) → va_S A H0 H1 locs1 → W p l e R s m args below meth c H1 locs1 cells slots Q (F0 m (pc + 1) ls rest)) : W p l e R s m args below meth c H locs cells slots Q (F0 m pc ls (.long x :: .int i :: .ref (q 8) :: rest)) :=
  va_last hx hb hK hP hD hS 8 2 rfl rfl hin hdg kk
theorem ax_9 {i : Int32} (hx : p.tables.exec = Jvm.exec) (hb : c.code = cc) (hK : va_K D hq_cl (hq_tys cI cZ cL) s) (hP : va_P D hq_cl (hx_w q cI cZ cL xq_query ha_parents hf_classCount ha_classes ha_sizes ha_fields hf_objectCount hf_roots hf_changed sa_linkedFrom sa_linkCounts sa_retainedSets sa_retainedSizes sa_dominators sa_immediateDominators sf_objectCount sf_roots sf_reachable ta_codes ta_numbers tf_count ta_brackets tf_bracketCount tf_place tf_inWhere tf_compared wa_rows wf_count wf_looks ++ z) H) (hin : vp_in i 24) (hdg : decode cc pc = .ok (.iaload, 1)) (kk : W p l e R s m args below meth c H locs cells slots Q (F0 m (pc + 1) ls (.int (sa_linkedFrom i.toNatClampNeg) :: rest))) : W p l e R s m args below meth c H locs cells slots Q (F0 m pc ls (.int i :: .ref (q 9) :: rest)) :=
  va_iald hx hb hK hP 9 0 rfl rfl hin hdg kk
theorem tx_9 {i : Int32} {x : Int32} (hx : p.tables.exec = Jvm.exec) (hb : c.code = cc) (hK : va_K D hq_cl (hq_tys cI cZ cL) s) (hP : va_P D hq_cl (hx_w q cI cZ cL xq_query ha_parents hf_classCount ha_classes ha_sizes ha_fields hf_objectCount hf_roots hf_changed sa_linkedFrom sa_linkCounts sa_retainedSets sa_retainedSizes sa_dominators sa_immediateDominators sf_objectCount sf_roots sf_reachable ta_codes ta_numbers tf_count ta_brackets tf_bracketCount tf_place tf_inWhere tf_compared wa_rows wf_count wf_looks ++ z) H) (hD : va_D A (hx_w q cI cZ cL xq_query ha_parents hf_classCount ha_classes ha_sizes ha_fields hf_objectCount hf_roots hf_changed sa_linkedFrom sa_linkCounts sa_retainedSets sa_retainedSizes sa_dominators sa_immediateDominators sf_objectCount sf_roots sf_reachable ta_codes ta_numbers tf_count ta_brackets tf_bracketCount tf_place tf_inWhere tf_compared wa_rows wf_count wf_looks ++ z)) (hS : va_S A H0 H locs) (hin : vp_in i 24) (hdg : decode cc pc = .ok (.iastore, 1)) (kk : ∀ (H1 : Heap) (locs1 : List Loc), va_P D hq_cl (hx_w q cI cZ cL xq_query ha_parents hf_classCount ha_classes ha_sizes ha_fields hf_objectCount hf_roots hf_changed (upd sa_linkedFrom i.toNatClampNeg x) sa_linkCounts sa_retainedSets sa_retainedSizes sa_dominators sa_immediateDominators sf_objectCount sf_roots sf_reachable ta_codes ta_numbers tf_count ta_brackets tf_bracketCount tf_place tf_inWhere tf_compared wa_rows wf_count wf_looks ++ z) H1 → va_D A (hx_w q cI cZ cL xq_query ha_parents hf_classCount ha_classes ha_sizes ha_fields hf_objectCount hf_roots hf_changed (upd sa_linkedFrom i.toNatClampNeg x) sa_linkCounts sa_retainedSets sa_retainedSizes sa_dominators sa_immediateDominators sf_objectCount sf_roots sf_reachable ta_codes ta_numbers tf_count ta_brackets tf_bracketCount tf_place tf_inWhere tf_compared wa_rows wf_count wf_looks ++ z) → va_S A H0 H1 locs1 → W p l e R s m args below meth c H1 locs1 cells slots Q (F0 m (pc + 1) ls rest)) : W p l e R s m args below meth c H locs cells slots Q (F0 m pc ls (.int x :: .int i :: .ref (q 9) :: rest)) :=
  va_iast hx hb hK hP hD hS 9 0 rfl rfl hin hdg kk
theorem ax_10 {i : Int32} (hx : p.tables.exec = Jvm.exec) (hb : c.code = cc) (hK : va_K D hq_cl (hq_tys cI cZ cL) s) (hP : va_P D hq_cl (hx_w q cI cZ cL xq_query ha_parents hf_classCount ha_classes ha_sizes ha_fields hf_objectCount hf_roots hf_changed sa_linkedFrom sa_linkCounts sa_retainedSets sa_retainedSizes sa_dominators sa_immediateDominators sf_objectCount sf_roots sf_reachable ta_codes ta_numbers tf_count ta_brackets tf_bracketCount tf_place tf_inWhere tf_compared wa_rows wf_count wf_looks ++ z) H) (hin : vp_in i 24) (hdg : decode cc pc = .ok (.iaload, 1)) (kk : W p l e R s m args below meth c H locs cells slots Q (F0 m (pc + 1) ls (.int (sa_linkCounts i.toNatClampNeg) :: rest))) : W p l e R s m args below meth c H locs cells slots Q (F0 m pc ls (.int i :: .ref (q 10) :: rest)) :=
  va_iald hx hb hK hP 10 0 rfl rfl hin hdg kk
theorem tx_10 {i : Int32} {x : Int32} (hx : p.tables.exec = Jvm.exec) (hb : c.code = cc) (hK : va_K D hq_cl (hq_tys cI cZ cL) s) (hP : va_P D hq_cl (hx_w q cI cZ cL xq_query ha_parents hf_classCount ha_classes ha_sizes ha_fields hf_objectCount hf_roots hf_changed sa_linkedFrom sa_linkCounts sa_retainedSets sa_retainedSizes sa_dominators sa_immediateDominators sf_objectCount sf_roots sf_reachable ta_codes ta_numbers tf_count ta_brackets tf_bracketCount tf_place tf_inWhere tf_compared wa_rows wf_count wf_looks ++ z) H) (hD : va_D A (hx_w q cI cZ cL xq_query ha_parents hf_classCount ha_classes ha_sizes ha_fields hf_objectCount hf_roots hf_changed sa_linkedFrom sa_linkCounts sa_retainedSets sa_retainedSizes sa_dominators sa_immediateDominators sf_objectCount sf_roots sf_reachable ta_codes ta_numbers tf_count ta_brackets tf_bracketCount tf_place tf_inWhere tf_compared wa_rows wf_count wf_looks ++ z)) (hS : va_S A H0 H locs) (hin : vp_in i 24) (hdg : decode cc pc = .ok (.iastore, 1)) (kk : ∀ (H1 : Heap) (locs1 : List Loc), va_P D hq_cl (hx_w q cI cZ cL xq_query ha_parents hf_classCount ha_classes ha_sizes ha_fields hf_objectCount hf_roots hf_changed sa_linkedFrom (upd sa_linkCounts i.toNatClampNeg x) sa_retainedSets sa_retainedSizes sa_dominators sa_immediateDominators sf_objectCount sf_roots sf_reachable ta_codes ta_numbers tf_count ta_brackets tf_bracketCount tf_place tf_inWhere tf_compared wa_rows wf_count wf_looks ++ z) H1 → va_D A (hx_w q cI cZ cL xq_query ha_parents hf_classCount ha_classes ha_sizes ha_fields hf_objectCount hf_roots hf_changed sa_linkedFrom (upd sa_linkCounts i.toNatClampNeg x) sa_retainedSets sa_retainedSizes sa_dominators sa_immediateDominators sf_objectCount sf_roots sf_reachable ta_codes ta_numbers tf_count ta_brackets tf_bracketCount tf_place tf_inWhere tf_compared wa_rows wf_count wf_looks ++ z) → va_S A H0 H1 locs1 → W p l e R s m args below meth c H1 locs1 cells slots Q (F0 m (pc + 1) ls rest)) : W p l e R s m args below meth c H locs cells slots Q (F0 m pc ls (.int x :: .int i :: .ref (q 10) :: rest)) :=
  va_iast hx hb hK hP hD hS 10 0 rfl rfl hin hdg kk
theorem ax_11 {i : Int32} (hx : p.tables.exec = Jvm.exec) (hb : c.code = cc) (hK : va_K D hq_cl (hq_tys cI cZ cL) s) (hP : va_P D hq_cl (hx_w q cI cZ cL xq_query ha_parents hf_classCount ha_classes ha_sizes ha_fields hf_objectCount hf_roots hf_changed sa_linkedFrom sa_linkCounts sa_retainedSets sa_retainedSizes sa_dominators sa_immediateDominators sf_objectCount sf_roots sf_reachable ta_codes ta_numbers tf_count ta_brackets tf_bracketCount tf_place tf_inWhere tf_compared wa_rows wf_count wf_looks ++ z) H) (hin : vp_in i 24) (hdg : decode cc pc = .ok (.iaload, 1)) (kk : W p l e R s m args below meth c H locs cells slots Q (F0 m (pc + 1) ls (.int (sa_retainedSets i.toNatClampNeg) :: rest))) : W p l e R s m args below meth c H locs cells slots Q (F0 m pc ls (.int i :: .ref (q 11) :: rest)) :=
  va_iald hx hb hK hP 11 0 rfl rfl hin hdg kk
theorem tx_11 {i : Int32} {x : Int32} (hx : p.tables.exec = Jvm.exec) (hb : c.code = cc) (hK : va_K D hq_cl (hq_tys cI cZ cL) s) (hP : va_P D hq_cl (hx_w q cI cZ cL xq_query ha_parents hf_classCount ha_classes ha_sizes ha_fields hf_objectCount hf_roots hf_changed sa_linkedFrom sa_linkCounts sa_retainedSets sa_retainedSizes sa_dominators sa_immediateDominators sf_objectCount sf_roots sf_reachable ta_codes ta_numbers tf_count ta_brackets tf_bracketCount tf_place tf_inWhere tf_compared wa_rows wf_count wf_looks ++ z) H) (hD : va_D A (hx_w q cI cZ cL xq_query ha_parents hf_classCount ha_classes ha_sizes ha_fields hf_objectCount hf_roots hf_changed sa_linkedFrom sa_linkCounts sa_retainedSets sa_retainedSizes sa_dominators sa_immediateDominators sf_objectCount sf_roots sf_reachable ta_codes ta_numbers tf_count ta_brackets tf_bracketCount tf_place tf_inWhere tf_compared wa_rows wf_count wf_looks ++ z)) (hS : va_S A H0 H locs) (hin : vp_in i 24) (hdg : decode cc pc = .ok (.iastore, 1)) (kk : ∀ (H1 : Heap) (locs1 : List Loc), va_P D hq_cl (hx_w q cI cZ cL xq_query ha_parents hf_classCount ha_classes ha_sizes ha_fields hf_objectCount hf_roots hf_changed sa_linkedFrom sa_linkCounts (upd sa_retainedSets i.toNatClampNeg x) sa_retainedSizes sa_dominators sa_immediateDominators sf_objectCount sf_roots sf_reachable ta_codes ta_numbers tf_count ta_brackets tf_bracketCount tf_place tf_inWhere tf_compared wa_rows wf_count wf_looks ++ z) H1 → va_D A (hx_w q cI cZ cL xq_query ha_parents hf_classCount ha_classes ha_sizes ha_fields hf_objectCount hf_roots hf_changed sa_linkedFrom sa_linkCounts (upd sa_retainedSets i.toNatClampNeg x) sa_retainedSizes sa_dominators sa_immediateDominators sf_objectCount sf_roots sf_reachable ta_codes ta_numbers tf_count ta_brackets tf_bracketCount tf_place tf_inWhere tf_compared wa_rows wf_count wf_looks ++ z) → va_S A H0 H1 locs1 → W p l e R s m args below meth c H1 locs1 cells slots Q (F0 m (pc + 1) ls rest)) : W p l e R s m args below meth c H locs cells slots Q (F0 m pc ls (.int x :: .int i :: .ref (q 11) :: rest)) :=
  va_iast hx hb hK hP hD hS 11 0 rfl rfl hin hdg kk
theorem ax_12 {i : Int32} (hx : p.tables.exec = Jvm.exec) (hb : c.code = cc) (hK : va_K D hq_cl (hq_tys cI cZ cL) s) (hP : va_P D hq_cl (hx_w q cI cZ cL xq_query ha_parents hf_classCount ha_classes ha_sizes ha_fields hf_objectCount hf_roots hf_changed sa_linkedFrom sa_linkCounts sa_retainedSets sa_retainedSizes sa_dominators sa_immediateDominators sf_objectCount sf_roots sf_reachable ta_codes ta_numbers tf_count ta_brackets tf_bracketCount tf_place tf_inWhere tf_compared wa_rows wf_count wf_looks ++ z) H) (hin : vp_in i 24) (hdg : decode cc pc = .ok (.iaload, 1)) (kk : W p l e R s m args below meth c H locs cells slots Q (F0 m (pc + 1) ls (.int (sa_retainedSizes i.toNatClampNeg) :: rest))) : W p l e R s m args below meth c H locs cells slots Q (F0 m pc ls (.int i :: .ref (q 12) :: rest)) :=
  va_iald hx hb hK hP 12 0 rfl rfl hin hdg kk
theorem tx_12 {i : Int32} {x : Int32} (hx : p.tables.exec = Jvm.exec) (hb : c.code = cc) (hK : va_K D hq_cl (hq_tys cI cZ cL) s) (hP : va_P D hq_cl (hx_w q cI cZ cL xq_query ha_parents hf_classCount ha_classes ha_sizes ha_fields hf_objectCount hf_roots hf_changed sa_linkedFrom sa_linkCounts sa_retainedSets sa_retainedSizes sa_dominators sa_immediateDominators sf_objectCount sf_roots sf_reachable ta_codes ta_numbers tf_count ta_brackets tf_bracketCount tf_place tf_inWhere tf_compared wa_rows wf_count wf_looks ++ z) H) (hD : va_D A (hx_w q cI cZ cL xq_query ha_parents hf_classCount ha_classes ha_sizes ha_fields hf_objectCount hf_roots hf_changed sa_linkedFrom sa_linkCounts sa_retainedSets sa_retainedSizes sa_dominators sa_immediateDominators sf_objectCount sf_roots sf_reachable ta_codes ta_numbers tf_count ta_brackets tf_bracketCount tf_place tf_inWhere tf_compared wa_rows wf_count wf_looks ++ z)) (hS : va_S A H0 H locs) (hin : vp_in i 24) (hdg : decode cc pc = .ok (.iastore, 1)) (kk : ∀ (H1 : Heap) (locs1 : List Loc), va_P D hq_cl (hx_w q cI cZ cL xq_query ha_parents hf_classCount ha_classes ha_sizes ha_fields hf_objectCount hf_roots hf_changed sa_linkedFrom sa_linkCounts sa_retainedSets (upd sa_retainedSizes i.toNatClampNeg x) sa_dominators sa_immediateDominators sf_objectCount sf_roots sf_reachable ta_codes ta_numbers tf_count ta_brackets tf_bracketCount tf_place tf_inWhere tf_compared wa_rows wf_count wf_looks ++ z) H1 → va_D A (hx_w q cI cZ cL xq_query ha_parents hf_classCount ha_classes ha_sizes ha_fields hf_objectCount hf_roots hf_changed sa_linkedFrom sa_linkCounts sa_retainedSets (upd sa_retainedSizes i.toNatClampNeg x) sa_dominators sa_immediateDominators sf_objectCount sf_roots sf_reachable ta_codes ta_numbers tf_count ta_brackets tf_bracketCount tf_place tf_inWhere tf_compared wa_rows wf_count wf_looks ++ z) → va_S A H0 H1 locs1 → W p l e R s m args below meth c H1 locs1 cells slots Q (F0 m (pc + 1) ls rest)) : W p l e R s m args below meth c H locs cells slots Q (F0 m pc ls (.int x :: .int i :: .ref (q 12) :: rest)) :=
  va_iast hx hb hK hP hD hS 12 0 rfl rfl hin hdg kk
theorem ax_13 {i : Int32} (hx : p.tables.exec = Jvm.exec) (hb : c.code = cc) (hK : va_K D hq_cl (hq_tys cI cZ cL) s) (hP : va_P D hq_cl (hx_w q cI cZ cL xq_query ha_parents hf_classCount ha_classes ha_sizes ha_fields hf_objectCount hf_roots hf_changed sa_linkedFrom sa_linkCounts sa_retainedSets sa_retainedSizes sa_dominators sa_immediateDominators sf_objectCount sf_roots sf_reachable ta_codes ta_numbers tf_count ta_brackets tf_bracketCount tf_place tf_inWhere tf_compared wa_rows wf_count wf_looks ++ z) H) (hin : vp_in i 24) (hdg : decode cc pc = .ok (.iaload, 1)) (kk : W p l e R s m args below meth c H locs cells slots Q (F0 m (pc + 1) ls (.int (sa_dominators i.toNatClampNeg) :: rest))) : W p l e R s m args below meth c H locs cells slots Q (F0 m pc ls (.int i :: .ref (q 13) :: rest)) :=
  va_iald hx hb hK hP 13 0 rfl rfl hin hdg kk
theorem tx_13 {i : Int32} {x : Int32} (hx : p.tables.exec = Jvm.exec) (hb : c.code = cc) (hK : va_K D hq_cl (hq_tys cI cZ cL) s) (hP : va_P D hq_cl (hx_w q cI cZ cL xq_query ha_parents hf_classCount ha_classes ha_sizes ha_fields hf_objectCount hf_roots hf_changed sa_linkedFrom sa_linkCounts sa_retainedSets sa_retainedSizes sa_dominators sa_immediateDominators sf_objectCount sf_roots sf_reachable ta_codes ta_numbers tf_count ta_brackets tf_bracketCount tf_place tf_inWhere tf_compared wa_rows wf_count wf_looks ++ z) H) (hD : va_D A (hx_w q cI cZ cL xq_query ha_parents hf_classCount ha_classes ha_sizes ha_fields hf_objectCount hf_roots hf_changed sa_linkedFrom sa_linkCounts sa_retainedSets sa_retainedSizes sa_dominators sa_immediateDominators sf_objectCount sf_roots sf_reachable ta_codes ta_numbers tf_count ta_brackets tf_bracketCount tf_place tf_inWhere tf_compared wa_rows wf_count wf_looks ++ z)) (hS : va_S A H0 H locs) (hin : vp_in i 24) (hdg : decode cc pc = .ok (.iastore, 1)) (kk : ∀ (H1 : Heap) (locs1 : List Loc), va_P D hq_cl (hx_w q cI cZ cL xq_query ha_parents hf_classCount ha_classes ha_sizes ha_fields hf_objectCount hf_roots hf_changed sa_linkedFrom sa_linkCounts sa_retainedSets sa_retainedSizes (upd sa_dominators i.toNatClampNeg x) sa_immediateDominators sf_objectCount sf_roots sf_reachable ta_codes ta_numbers tf_count ta_brackets tf_bracketCount tf_place tf_inWhere tf_compared wa_rows wf_count wf_looks ++ z) H1 → va_D A (hx_w q cI cZ cL xq_query ha_parents hf_classCount ha_classes ha_sizes ha_fields hf_objectCount hf_roots hf_changed sa_linkedFrom sa_linkCounts sa_retainedSets sa_retainedSizes (upd sa_dominators i.toNatClampNeg x) sa_immediateDominators sf_objectCount sf_roots sf_reachable ta_codes ta_numbers tf_count ta_brackets tf_bracketCount tf_place tf_inWhere tf_compared wa_rows wf_count wf_looks ++ z) → va_S A H0 H1 locs1 → W p l e R s m args below meth c H1 locs1 cells slots Q (F0 m (pc + 1) ls rest)) : W p l e R s m args below meth c H locs cells slots Q (F0 m pc ls (.int x :: .int i :: .ref (q 13) :: rest)) :=
  va_iast hx hb hK hP hD hS 13 0 rfl rfl hin hdg kk
theorem ax_14 {i : Int32} (hx : p.tables.exec = Jvm.exec) (hb : c.code = cc) (hK : va_K D hq_cl (hq_tys cI cZ cL) s) (hP : va_P D hq_cl (hx_w q cI cZ cL xq_query ha_parents hf_classCount ha_classes ha_sizes ha_fields hf_objectCount hf_roots hf_changed sa_linkedFrom sa_linkCounts sa_retainedSets sa_retainedSizes sa_dominators sa_immediateDominators sf_objectCount sf_roots sf_reachable ta_codes ta_numbers tf_count ta_brackets tf_bracketCount tf_place tf_inWhere tf_compared wa_rows wf_count wf_looks ++ z) H) (hin : vp_in i 24) (hdg : decode cc pc = .ok (.iaload, 1)) (kk : W p l e R s m args below meth c H locs cells slots Q (F0 m (pc + 1) ls (.int (sa_immediateDominators i.toNatClampNeg) :: rest))) : W p l e R s m args below meth c H locs cells slots Q (F0 m pc ls (.int i :: .ref (q 14) :: rest)) :=
  va_iald hx hb hK hP 14 0 rfl rfl hin hdg kk
theorem tx_14 {i : Int32} {x : Int32} (hx : p.tables.exec = Jvm.exec) (hb : c.code = cc) (hK : va_K D hq_cl (hq_tys cI cZ cL) s) (hP : va_P D hq_cl (hx_w q cI cZ cL xq_query ha_parents hf_classCount ha_classes ha_sizes ha_fields hf_objectCount hf_roots hf_changed sa_linkedFrom sa_linkCounts sa_retainedSets sa_retainedSizes sa_dominators sa_immediateDominators sf_objectCount sf_roots sf_reachable ta_codes ta_numbers tf_count ta_brackets tf_bracketCount tf_place tf_inWhere tf_compared wa_rows wf_count wf_looks ++ z) H) (hD : va_D A (hx_w q cI cZ cL xq_query ha_parents hf_classCount ha_classes ha_sizes ha_fields hf_objectCount hf_roots hf_changed sa_linkedFrom sa_linkCounts sa_retainedSets sa_retainedSizes sa_dominators sa_immediateDominators sf_objectCount sf_roots sf_reachable ta_codes ta_numbers tf_count ta_brackets tf_bracketCount tf_place tf_inWhere tf_compared wa_rows wf_count wf_looks ++ z)) (hS : va_S A H0 H locs) (hin : vp_in i 24) (hdg : decode cc pc = .ok (.iastore, 1)) (kk : ∀ (H1 : Heap) (locs1 : List Loc), va_P D hq_cl (hx_w q cI cZ cL xq_query ha_parents hf_classCount ha_classes ha_sizes ha_fields hf_objectCount hf_roots hf_changed sa_linkedFrom sa_linkCounts sa_retainedSets sa_retainedSizes sa_dominators (upd sa_immediateDominators i.toNatClampNeg x) sf_objectCount sf_roots sf_reachable ta_codes ta_numbers tf_count ta_brackets tf_bracketCount tf_place tf_inWhere tf_compared wa_rows wf_count wf_looks ++ z) H1 → va_D A (hx_w q cI cZ cL xq_query ha_parents hf_classCount ha_classes ha_sizes ha_fields hf_objectCount hf_roots hf_changed sa_linkedFrom sa_linkCounts sa_retainedSets sa_retainedSizes sa_dominators (upd sa_immediateDominators i.toNatClampNeg x) sf_objectCount sf_roots sf_reachable ta_codes ta_numbers tf_count ta_brackets tf_bracketCount tf_place tf_inWhere tf_compared wa_rows wf_count wf_looks ++ z) → va_S A H0 H1 locs1 → W p l e R s m args below meth c H1 locs1 cells slots Q (F0 m (pc + 1) ls rest)) : W p l e R s m args below meth c H locs cells slots Q (F0 m pc ls (.int x :: .int i :: .ref (q 14) :: rest)) :=
  va_iast hx hb hK hP hD hS 14 0 rfl rfl hin hdg kk
theorem ax_15 {i : Int32} (hx : p.tables.exec = Jvm.exec) (hb : c.code = cc) (hK : va_K D hq_cl (hq_tys cI cZ cL) s) (hP : va_P D hq_cl (hx_w q cI cZ cL xq_query ha_parents hf_classCount ha_classes ha_sizes ha_fields hf_objectCount hf_roots hf_changed sa_linkedFrom sa_linkCounts sa_retainedSets sa_retainedSizes sa_dominators sa_immediateDominators sf_objectCount sf_roots sf_reachable ta_codes ta_numbers tf_count ta_brackets tf_bracketCount tf_place tf_inWhere tf_compared wa_rows wf_count wf_looks ++ z) H) (hin : vp_in i 40) (hdg : decode cc pc = .ok (.iaload, 1)) (kk : W p l e R s m args below meth c H locs cells slots Q (F0 m (pc + 1) ls (.int (ta_codes i.toNatClampNeg) :: rest))) : W p l e R s m args below meth c H locs cells slots Q (F0 m pc ls (.int i :: .ref (q 15) :: rest)) :=
  va_iald hx hb hK hP 15 0 rfl rfl hin hdg kk
theorem tx_15 {i : Int32} {x : Int32} (hx : p.tables.exec = Jvm.exec) (hb : c.code = cc) (hK : va_K D hq_cl (hq_tys cI cZ cL) s) (hP : va_P D hq_cl (hx_w q cI cZ cL xq_query ha_parents hf_classCount ha_classes ha_sizes ha_fields hf_objectCount hf_roots hf_changed sa_linkedFrom sa_linkCounts sa_retainedSets sa_retainedSizes sa_dominators sa_immediateDominators sf_objectCount sf_roots sf_reachable ta_codes ta_numbers tf_count ta_brackets tf_bracketCount tf_place tf_inWhere tf_compared wa_rows wf_count wf_looks ++ z) H) (hD : va_D A (hx_w q cI cZ cL xq_query ha_parents hf_classCount ha_classes ha_sizes ha_fields hf_objectCount hf_roots hf_changed sa_linkedFrom sa_linkCounts sa_retainedSets sa_retainedSizes sa_dominators sa_immediateDominators sf_objectCount sf_roots sf_reachable ta_codes ta_numbers tf_count ta_brackets tf_bracketCount tf_place tf_inWhere tf_compared wa_rows wf_count wf_looks ++ z)) (hS : va_S A H0 H locs) (hin : vp_in i 40) (hdg : decode cc pc = .ok (.iastore, 1)) (kk : ∀ (H1 : Heap) (locs1 : List Loc), va_P D hq_cl (hx_w q cI cZ cL xq_query ha_parents hf_classCount ha_classes ha_sizes ha_fields hf_objectCount hf_roots hf_changed sa_linkedFrom sa_linkCounts sa_retainedSets sa_retainedSizes sa_dominators sa_immediateDominators sf_objectCount sf_roots sf_reachable (upd ta_codes i.toNatClampNeg x) ta_numbers tf_count ta_brackets tf_bracketCount tf_place tf_inWhere tf_compared wa_rows wf_count wf_looks ++ z) H1 → va_D A (hx_w q cI cZ cL xq_query ha_parents hf_classCount ha_classes ha_sizes ha_fields hf_objectCount hf_roots hf_changed sa_linkedFrom sa_linkCounts sa_retainedSets sa_retainedSizes sa_dominators sa_immediateDominators sf_objectCount sf_roots sf_reachable (upd ta_codes i.toNatClampNeg x) ta_numbers tf_count ta_brackets tf_bracketCount tf_place tf_inWhere tf_compared wa_rows wf_count wf_looks ++ z) → va_S A H0 H1 locs1 → W p l e R s m args below meth c H1 locs1 cells slots Q (F0 m (pc + 1) ls rest)) : W p l e R s m args below meth c H locs cells slots Q (F0 m pc ls (.int x :: .int i :: .ref (q 15) :: rest)) :=
  va_iast hx hb hK hP hD hS 15 0 rfl rfl hin hdg kk
theorem ax_16 {i : Int32} (hx : p.tables.exec = Jvm.exec) (hb : c.code = cc) (hK : va_K D hq_cl (hq_tys cI cZ cL) s) (hP : va_P D hq_cl (hx_w q cI cZ cL xq_query ha_parents hf_classCount ha_classes ha_sizes ha_fields hf_objectCount hf_roots hf_changed sa_linkedFrom sa_linkCounts sa_retainedSets sa_retainedSizes sa_dominators sa_immediateDominators sf_objectCount sf_roots sf_reachable ta_codes ta_numbers tf_count ta_brackets tf_bracketCount tf_place tf_inWhere tf_compared wa_rows wf_count wf_looks ++ z) H) (hin : vp_in i 40) (hdg : decode cc pc = .ok (.iaload, 1)) (kk : W p l e R s m args below meth c H locs cells slots Q (F0 m (pc + 1) ls (.int (ta_numbers i.toNatClampNeg) :: rest))) : W p l e R s m args below meth c H locs cells slots Q (F0 m pc ls (.int i :: .ref (q 16) :: rest)) :=
  va_iald hx hb hK hP 16 0 rfl rfl hin hdg kk
theorem tx_16 {i : Int32} {x : Int32} (hx : p.tables.exec = Jvm.exec) (hb : c.code = cc) (hK : va_K D hq_cl (hq_tys cI cZ cL) s) (hP : va_P D hq_cl (hx_w q cI cZ cL xq_query ha_parents hf_classCount ha_classes ha_sizes ha_fields hf_objectCount hf_roots hf_changed sa_linkedFrom sa_linkCounts sa_retainedSets sa_retainedSizes sa_dominators sa_immediateDominators sf_objectCount sf_roots sf_reachable ta_codes ta_numbers tf_count ta_brackets tf_bracketCount tf_place tf_inWhere tf_compared wa_rows wf_count wf_looks ++ z) H) (hD : va_D A (hx_w q cI cZ cL xq_query ha_parents hf_classCount ha_classes ha_sizes ha_fields hf_objectCount hf_roots hf_changed sa_linkedFrom sa_linkCounts sa_retainedSets sa_retainedSizes sa_dominators sa_immediateDominators sf_objectCount sf_roots sf_reachable ta_codes ta_numbers tf_count ta_brackets tf_bracketCount tf_place tf_inWhere tf_compared wa_rows wf_count wf_looks ++ z)) (hS : va_S A H0 H locs) (hin : vp_in i 40) (hdg : decode cc pc = .ok (.iastore, 1)) (kk : ∀ (H1 : Heap) (locs1 : List Loc), va_P D hq_cl (hx_w q cI cZ cL xq_query ha_parents hf_classCount ha_classes ha_sizes ha_fields hf_objectCount hf_roots hf_changed sa_linkedFrom sa_linkCounts sa_retainedSets sa_retainedSizes sa_dominators sa_immediateDominators sf_objectCount sf_roots sf_reachable ta_codes (upd ta_numbers i.toNatClampNeg x) tf_count ta_brackets tf_bracketCount tf_place tf_inWhere tf_compared wa_rows wf_count wf_looks ++ z) H1 → va_D A (hx_w q cI cZ cL xq_query ha_parents hf_classCount ha_classes ha_sizes ha_fields hf_objectCount hf_roots hf_changed sa_linkedFrom sa_linkCounts sa_retainedSets sa_retainedSizes sa_dominators sa_immediateDominators sf_objectCount sf_roots sf_reachable ta_codes (upd ta_numbers i.toNatClampNeg x) tf_count ta_brackets tf_bracketCount tf_place tf_inWhere tf_compared wa_rows wf_count wf_looks ++ z) → va_S A H0 H1 locs1 → W p l e R s m args below meth c H1 locs1 cells slots Q (F0 m (pc + 1) ls rest)) : W p l e R s m args below meth c H locs cells slots Q (F0 m pc ls (.int x :: .int i :: .ref (q 16) :: rest)) :=
  va_iast hx hb hK hP hD hS 16 0 rfl rfl hin hdg kk
theorem ax_17 {i : Int32} (hx : p.tables.exec = Jvm.exec) (hb : c.code = cc) (hK : va_K D hq_cl (hq_tys cI cZ cL) s) (hP : va_P D hq_cl (hx_w q cI cZ cL xq_query ha_parents hf_classCount ha_classes ha_sizes ha_fields hf_objectCount hf_roots hf_changed sa_linkedFrom sa_linkCounts sa_retainedSets sa_retainedSizes sa_dominators sa_immediateDominators sf_objectCount sf_roots sf_reachable ta_codes ta_numbers tf_count ta_brackets tf_bracketCount tf_place tf_inWhere tf_compared wa_rows wf_count wf_looks ++ z) H) (hin : vp_in i 40) (hdg : decode cc pc = .ok (.iaload, 1)) (kk : W p l e R s m args below meth c H locs cells slots Q (F0 m (pc + 1) ls (.int (ta_brackets i.toNatClampNeg) :: rest))) : W p l e R s m args below meth c H locs cells slots Q (F0 m pc ls (.int i :: .ref (q 17) :: rest)) :=
  va_iald hx hb hK hP 17 0 rfl rfl hin hdg kk
theorem tx_17 {i : Int32} {x : Int32} (hx : p.tables.exec = Jvm.exec) (hb : c.code = cc) (hK : va_K D hq_cl (hq_tys cI cZ cL) s) (hP : va_P D hq_cl (hx_w q cI cZ cL xq_query ha_parents hf_classCount ha_classes ha_sizes ha_fields hf_objectCount hf_roots hf_changed sa_linkedFrom sa_linkCounts sa_retainedSets sa_retainedSizes sa_dominators sa_immediateDominators sf_objectCount sf_roots sf_reachable ta_codes ta_numbers tf_count ta_brackets tf_bracketCount tf_place tf_inWhere tf_compared wa_rows wf_count wf_looks ++ z) H) (hD : va_D A (hx_w q cI cZ cL xq_query ha_parents hf_classCount ha_classes ha_sizes ha_fields hf_objectCount hf_roots hf_changed sa_linkedFrom sa_linkCounts sa_retainedSets sa_retainedSizes sa_dominators sa_immediateDominators sf_objectCount sf_roots sf_reachable ta_codes ta_numbers tf_count ta_brackets tf_bracketCount tf_place tf_inWhere tf_compared wa_rows wf_count wf_looks ++ z)) (hS : va_S A H0 H locs) (hin : vp_in i 40) (hdg : decode cc pc = .ok (.iastore, 1)) (kk : ∀ (H1 : Heap) (locs1 : List Loc), va_P D hq_cl (hx_w q cI cZ cL xq_query ha_parents hf_classCount ha_classes ha_sizes ha_fields hf_objectCount hf_roots hf_changed sa_linkedFrom sa_linkCounts sa_retainedSets sa_retainedSizes sa_dominators sa_immediateDominators sf_objectCount sf_roots sf_reachable ta_codes ta_numbers tf_count (upd ta_brackets i.toNatClampNeg x) tf_bracketCount tf_place tf_inWhere tf_compared wa_rows wf_count wf_looks ++ z) H1 → va_D A (hx_w q cI cZ cL xq_query ha_parents hf_classCount ha_classes ha_sizes ha_fields hf_objectCount hf_roots hf_changed sa_linkedFrom sa_linkCounts sa_retainedSets sa_retainedSizes sa_dominators sa_immediateDominators sf_objectCount sf_roots sf_reachable ta_codes ta_numbers tf_count (upd ta_brackets i.toNatClampNeg x) tf_bracketCount tf_place tf_inWhere tf_compared wa_rows wf_count wf_looks ++ z) → va_S A H0 H1 locs1 → W p l e R s m args below meth c H1 locs1 cells slots Q (F0 m (pc + 1) ls rest)) : W p l e R s m args below meth c H locs cells slots Q (F0 m pc ls (.int x :: .int i :: .ref (q 17) :: rest)) :=
  va_iast hx hb hK hP hD hS 17 0 rfl rfl hin hdg kk
theorem ax_18 {i : Int32} (hx : p.tables.exec = Jvm.exec) (hb : c.code = cc) (hK : va_K D hq_cl (hq_tys cI cZ cL) s) (hP : va_P D hq_cl (hx_w q cI cZ cL xq_query ha_parents hf_classCount ha_classes ha_sizes ha_fields hf_objectCount hf_roots hf_changed sa_linkedFrom sa_linkCounts sa_retainedSets sa_retainedSizes sa_dominators sa_immediateDominators sf_objectCount sf_roots sf_reachable ta_codes ta_numbers tf_count ta_brackets tf_bracketCount tf_place tf_inWhere tf_compared wa_rows wf_count wf_looks ++ z) H) (hin : vp_in i 192) (hdg : decode cc pc = .ok (.laload, 1)) (kk : W p l e R s m args below meth c H locs cells slots Q (F0 m (pc + 1) ls (.long (wa_rows i.toNatClampNeg) :: rest))) : W p l e R s m args below meth c H locs cells slots Q (F0 m pc ls (.int i :: .ref (q 18) :: rest)) :=
  va_lald hx hb hK hP 18 2 rfl rfl hin hdg kk
theorem tx_18 {i : Int32} {x : Int64} (hx : p.tables.exec = Jvm.exec) (hb : c.code = cc) (hK : va_K D hq_cl (hq_tys cI cZ cL) s) (hP : va_P D hq_cl (hx_w q cI cZ cL xq_query ha_parents hf_classCount ha_classes ha_sizes ha_fields hf_objectCount hf_roots hf_changed sa_linkedFrom sa_linkCounts sa_retainedSets sa_retainedSizes sa_dominators sa_immediateDominators sf_objectCount sf_roots sf_reachable ta_codes ta_numbers tf_count ta_brackets tf_bracketCount tf_place tf_inWhere tf_compared wa_rows wf_count wf_looks ++ z) H) (hD : va_D A (hx_w q cI cZ cL xq_query ha_parents hf_classCount ha_classes ha_sizes ha_fields hf_objectCount hf_roots hf_changed sa_linkedFrom sa_linkCounts sa_retainedSets sa_retainedSizes sa_dominators sa_immediateDominators sf_objectCount sf_roots sf_reachable ta_codes ta_numbers tf_count ta_brackets tf_bracketCount tf_place tf_inWhere tf_compared wa_rows wf_count wf_looks ++ z)) (hS : va_S A H0 H locs) (hin : vp_in i 192) (hdg : decode cc pc = .ok (.lastore, 1)) (kk : ∀ (H1 : Heap) (locs1 : List Loc), va_P D hq_cl (hx_w q cI cZ cL xq_query ha_parents hf_classCount ha_classes ha_sizes ha_fields hf_objectCount hf_roots hf_changed sa_linkedFrom sa_linkCounts sa_retainedSets sa_retainedSizes sa_dominators sa_immediateDominators sf_objectCount sf_roots sf_reachable ta_codes ta_numbers tf_count ta_brackets tf_bracketCount tf_place tf_inWhere tf_compared (vp_updL wa_rows i.toNatClampNeg x) wf_count wf_looks ++ z) H1 → va_D A (hx_w q cI cZ cL xq_query ha_parents hf_classCount ha_classes ha_sizes ha_fields hf_objectCount hf_roots hf_changed sa_linkedFrom sa_linkCounts sa_retainedSets sa_retainedSizes sa_dominators sa_immediateDominators sf_objectCount sf_roots sf_reachable ta_codes ta_numbers tf_count ta_brackets tf_bracketCount tf_place tf_inWhere tf_compared (vp_updL wa_rows i.toNatClampNeg x) wf_count wf_looks ++ z) → va_S A H0 H1 locs1 → W p l e R s m args below meth c H1 locs1 cells slots Q (F0 m (pc + 1) ls rest)) : W p l e R s m args below meth c H locs cells slots Q (F0 m pc ls (.long x :: .int i :: .ref (q 18) :: rest)) :=
  va_last hx hb hK hP hD hS 18 2 rfl rfl hin hdg kk
theorem gx_n_code (hx : p.tables.exec = Jvm.exec) (hb : c.code = cc) (hts : ∀ x ∈ hq_tbl, x.before args s = true) (hown : s.vm.findClass own = some m.cls) (hK : va_K D hq_cl (hq_tys cI cZ cL) s) (hP : va_P D hq_cl (hx_w q cI cZ cL xq_query ha_parents hf_classCount ha_classes ha_sizes ha_fields hf_objectCount hf_roots hf_changed sa_linkedFrom sa_linkCounts sa_retainedSets sa_retainedSizes sa_dominators sa_immediateDominators sf_objectCount sf_roots sf_reachable ta_codes ta_numbers tf_count ta_brackets tf_bracketCount tf_place tf_inWhere tf_compared wa_rows wf_count wf_looks ++ z) H) (ph_n : z[pk_n]? = some (pa_n, .inr (7, [.int n_code, .int n_number, va_rf n_left, va_rf n_right]))) (hw : Cond.fieldLink own idx "HeapQueries$Node" "code" "I" ∈ hq_tbl) (hdg : decode cc pc = .ok (.getfield idx, 3)) (kk : W p l e R s m args below meth c H locs cells slots Q (F0 m (pc + 3) ls (.int n_code :: rest))) : W p l e R s m args below meth c H locs cells slots Q (F0 m pc ls (.ref pa_n :: rest)) :=
  va_get hx hb hts hin_xn hown hK hP (19 + pk_n) (hq_app rfl ph_n) rfl 0 (by decide) (hts _ hw) (fun _ h9 => h9) rfl hdg kk
theorem gx_n_number (hx : p.tables.exec = Jvm.exec) (hb : c.code = cc) (hts : ∀ x ∈ hq_tbl, x.before args s = true) (hown : s.vm.findClass own = some m.cls) (hK : va_K D hq_cl (hq_tys cI cZ cL) s) (hP : va_P D hq_cl (hx_w q cI cZ cL xq_query ha_parents hf_classCount ha_classes ha_sizes ha_fields hf_objectCount hf_roots hf_changed sa_linkedFrom sa_linkCounts sa_retainedSets sa_retainedSizes sa_dominators sa_immediateDominators sf_objectCount sf_roots sf_reachable ta_codes ta_numbers tf_count ta_brackets tf_bracketCount tf_place tf_inWhere tf_compared wa_rows wf_count wf_looks ++ z) H) (ph_n : z[pk_n]? = some (pa_n, .inr (7, [.int n_code, .int n_number, va_rf n_left, va_rf n_right]))) (hw : Cond.fieldLink own idx "HeapQueries$Node" "number" "I" ∈ hq_tbl) (hdg : decode cc pc = .ok (.getfield idx, 3)) (kk : W p l e R s m args below meth c H locs cells slots Q (F0 m (pc + 3) ls (.int n_number :: rest))) : W p l e R s m args below meth c H locs cells slots Q (F0 m pc ls (.ref pa_n :: rest)) :=
  va_get hx hb hts hin_xn hown hK hP (19 + pk_n) (hq_app rfl ph_n) rfl 1 (by decide) (hts _ hw) (fun _ h9 => h9) rfl hdg kk
theorem gx_n_left (hx : p.tables.exec = Jvm.exec) (hb : c.code = cc) (hts : ∀ x ∈ hq_tbl, x.before args s = true) (hown : s.vm.findClass own = some m.cls) (hK : va_K D hq_cl (hq_tys cI cZ cL) s) (hP : va_P D hq_cl (hx_w q cI cZ cL xq_query ha_parents hf_classCount ha_classes ha_sizes ha_fields hf_objectCount hf_roots hf_changed sa_linkedFrom sa_linkCounts sa_retainedSets sa_retainedSizes sa_dominators sa_immediateDominators sf_objectCount sf_roots sf_reachable ta_codes ta_numbers tf_count ta_brackets tf_bracketCount tf_place tf_inWhere tf_compared wa_rows wf_count wf_looks ++ z) H) (ph_n : z[pk_n]? = some (pa_n, .inr (7, [.int n_code, .int n_number, va_rf n_left, va_rf n_right]))) (hw : Cond.fieldLink own idx "HeapQueries$Node" "left" "LHeapQueries$Node;" ∈ hq_tbl) (hdg : decode cc pc = .ok (.getfield idx, 3)) (kk : W p l e R s m args below meth c H locs cells slots Q (F0 m (pc + 3) ls (va_rf n_left :: rest))) : W p l e R s m args below meth c H locs cells slots Q (F0 m pc ls (.ref pa_n :: rest)) :=
  va_get hx hb hts hin_xn hown hK hP (19 + pk_n) (hq_app rfl ph_n) rfl 2 (by decide) (hts _ hw) (fun _ h9 => h9) rfl hdg kk
theorem gx_n_right (hx : p.tables.exec = Jvm.exec) (hb : c.code = cc) (hts : ∀ x ∈ hq_tbl, x.before args s = true) (hown : s.vm.findClass own = some m.cls) (hK : va_K D hq_cl (hq_tys cI cZ cL) s) (hP : va_P D hq_cl (hx_w q cI cZ cL xq_query ha_parents hf_classCount ha_classes ha_sizes ha_fields hf_objectCount hf_roots hf_changed sa_linkedFrom sa_linkCounts sa_retainedSets sa_retainedSizes sa_dominators sa_immediateDominators sf_objectCount sf_roots sf_reachable ta_codes ta_numbers tf_count ta_brackets tf_bracketCount tf_place tf_inWhere tf_compared wa_rows wf_count wf_looks ++ z) H) (ph_n : z[pk_n]? = some (pa_n, .inr (7, [.int n_code, .int n_number, va_rf n_left, va_rf n_right]))) (hw : Cond.fieldLink own idx "HeapQueries$Node" "right" "LHeapQueries$Node;" ∈ hq_tbl) (hdg : decode cc pc = .ok (.getfield idx, 3)) (kk : W p l e R s m args below meth c H locs cells slots Q (F0 m (pc + 3) ls (va_rf n_right :: rest))) : W p l e R s m args below meth c H locs cells slots Q (F0 m pc ls (.ref pa_n :: rest)) :=
  va_get hx hb hts hin_xn hown hK hP (19 + pk_n) (hq_app rfl ph_n) rfl 3 (by decide) (hts _ hw) (fun _ h9 => h9) rfl hdg kk
theorem gx_s_isDistinct (hx : p.tables.exec = Jvm.exec) (hb : c.code = cc) (hts : ∀ x ∈ hq_tbl, x.before args s = true) (hown : s.vm.findClass own = some m.cls) (hK : va_K D hq_cl (hq_tys cI cZ cL) s) (hP : va_P D hq_cl (hx_w q cI cZ cL xq_query ha_parents hf_classCount ha_classes ha_sizes ha_fields hf_objectCount hf_roots hf_changed sa_linkedFrom sa_linkCounts sa_retainedSets sa_retainedSizes sa_dominators sa_immediateDominators sf_objectCount sf_roots sf_reachable ta_codes ta_numbers tf_count ta_brackets tf_bracketCount tf_place tf_inWhere tf_compared wa_rows wf_count wf_looks ++ z) H) (ph_s : z[pk_s]? = some (pa_s, .inr (6, [.int s_isDistinct, .int s_isRetained, va_rf s_row, va_rf s_nested, .int s_sourceClass, .int s_withDescendants, va_rf s_condition, va_rf s_next]))) (hw : Cond.fieldLink own idx "HeapQueries$Select" "isDistinct" "Z" ∈ hq_tbl) (hdg : decode cc pc = .ok (.getfield idx, 3)) (kk : W p l e R s m args below meth c H locs cells slots Q (F0 m (pc + 3) ls (.int s_isDistinct :: rest))) : W p l e R s m args below meth c H locs cells slots Q (F0 m pc ls (.ref pa_s :: rest)) :=
  va_get hx hb hts hin_xl hown hK hP (19 + pk_s) (hq_app rfl ph_s) rfl 0 (by decide) (hts _ hw) (fun _ h9 => h9) rfl hdg kk
theorem gx_s_isRetained (hx : p.tables.exec = Jvm.exec) (hb : c.code = cc) (hts : ∀ x ∈ hq_tbl, x.before args s = true) (hown : s.vm.findClass own = some m.cls) (hK : va_K D hq_cl (hq_tys cI cZ cL) s) (hP : va_P D hq_cl (hx_w q cI cZ cL xq_query ha_parents hf_classCount ha_classes ha_sizes ha_fields hf_objectCount hf_roots hf_changed sa_linkedFrom sa_linkCounts sa_retainedSets sa_retainedSizes sa_dominators sa_immediateDominators sf_objectCount sf_roots sf_reachable ta_codes ta_numbers tf_count ta_brackets tf_bracketCount tf_place tf_inWhere tf_compared wa_rows wf_count wf_looks ++ z) H) (ph_s : z[pk_s]? = some (pa_s, .inr (6, [.int s_isDistinct, .int s_isRetained, va_rf s_row, va_rf s_nested, .int s_sourceClass, .int s_withDescendants, va_rf s_condition, va_rf s_next]))) (hw : Cond.fieldLink own idx "HeapQueries$Select" "isRetained" "Z" ∈ hq_tbl) (hdg : decode cc pc = .ok (.getfield idx, 3)) (kk : W p l e R s m args below meth c H locs cells slots Q (F0 m (pc + 3) ls (.int s_isRetained :: rest))) : W p l e R s m args below meth c H locs cells slots Q (F0 m pc ls (.ref pa_s :: rest)) :=
  va_get hx hb hts hin_xl hown hK hP (19 + pk_s) (hq_app rfl ph_s) rfl 1 (by decide) (hts _ hw) (fun _ h9 => h9) rfl hdg kk
theorem gx_s_row (hx : p.tables.exec = Jvm.exec) (hb : c.code = cc) (hts : ∀ x ∈ hq_tbl, x.before args s = true) (hown : s.vm.findClass own = some m.cls) (hK : va_K D hq_cl (hq_tys cI cZ cL) s) (hP : va_P D hq_cl (hx_w q cI cZ cL xq_query ha_parents hf_classCount ha_classes ha_sizes ha_fields hf_objectCount hf_roots hf_changed sa_linkedFrom sa_linkCounts sa_retainedSets sa_retainedSizes sa_dominators sa_immediateDominators sf_objectCount sf_roots sf_reachable ta_codes ta_numbers tf_count ta_brackets tf_bracketCount tf_place tf_inWhere tf_compared wa_rows wf_count wf_looks ++ z) H) (ph_s : z[pk_s]? = some (pa_s, .inr (6, [.int s_isDistinct, .int s_isRetained, va_rf s_row, va_rf s_nested, .int s_sourceClass, .int s_withDescendants, va_rf s_condition, va_rf s_next]))) (hw : Cond.fieldLink own idx "HeapQueries$Select" "row" "LHeapQueries$Node;" ∈ hq_tbl) (hdg : decode cc pc = .ok (.getfield idx, 3)) (kk : W p l e R s m args below meth c H locs cells slots Q (F0 m (pc + 3) ls (va_rf s_row :: rest))) : W p l e R s m args below meth c H locs cells slots Q (F0 m pc ls (.ref pa_s :: rest)) :=
  va_get hx hb hts hin_xl hown hK hP (19 + pk_s) (hq_app rfl ph_s) rfl 2 (by decide) (hts _ hw) (fun _ h9 => h9) rfl hdg kk
theorem gx_s_nested (hx : p.tables.exec = Jvm.exec) (hb : c.code = cc) (hts : ∀ x ∈ hq_tbl, x.before args s = true) (hown : s.vm.findClass own = some m.cls) (hK : va_K D hq_cl (hq_tys cI cZ cL) s) (hP : va_P D hq_cl (hx_w q cI cZ cL xq_query ha_parents hf_classCount ha_classes ha_sizes ha_fields hf_objectCount hf_roots hf_changed sa_linkedFrom sa_linkCounts sa_retainedSets sa_retainedSizes sa_dominators sa_immediateDominators sf_objectCount sf_roots sf_reachable ta_codes ta_numbers tf_count ta_brackets tf_bracketCount tf_place tf_inWhere tf_compared wa_rows wf_count wf_looks ++ z) H) (ph_s : z[pk_s]? = some (pa_s, .inr (6, [.int s_isDistinct, .int s_isRetained, va_rf s_row, va_rf s_nested, .int s_sourceClass, .int s_withDescendants, va_rf s_condition, va_rf s_next]))) (hw : Cond.fieldLink own idx "HeapQueries$Select" "nested" "LHeapQueries$Select;" ∈ hq_tbl) (hdg : decode cc pc = .ok (.getfield idx, 3)) (kk : W p l e R s m args below meth c H locs cells slots Q (F0 m (pc + 3) ls (va_rf s_nested :: rest))) : W p l e R s m args below meth c H locs cells slots Q (F0 m pc ls (.ref pa_s :: rest)) :=
  va_get hx hb hts hin_xl hown hK hP (19 + pk_s) (hq_app rfl ph_s) rfl 3 (by decide) (hts _ hw) (fun _ h9 => h9) rfl hdg kk
theorem gx_s_sourceClass (hx : p.tables.exec = Jvm.exec) (hb : c.code = cc) (hts : ∀ x ∈ hq_tbl, x.before args s = true) (hown : s.vm.findClass own = some m.cls) (hK : va_K D hq_cl (hq_tys cI cZ cL) s) (hP : va_P D hq_cl (hx_w q cI cZ cL xq_query ha_parents hf_classCount ha_classes ha_sizes ha_fields hf_objectCount hf_roots hf_changed sa_linkedFrom sa_linkCounts sa_retainedSets sa_retainedSizes sa_dominators sa_immediateDominators sf_objectCount sf_roots sf_reachable ta_codes ta_numbers tf_count ta_brackets tf_bracketCount tf_place tf_inWhere tf_compared wa_rows wf_count wf_looks ++ z) H) (ph_s : z[pk_s]? = some (pa_s, .inr (6, [.int s_isDistinct, .int s_isRetained, va_rf s_row, va_rf s_nested, .int s_sourceClass, .int s_withDescendants, va_rf s_condition, va_rf s_next]))) (hw : Cond.fieldLink own idx "HeapQueries$Select" "sourceClass" "I" ∈ hq_tbl) (hdg : decode cc pc = .ok (.getfield idx, 3)) (kk : W p l e R s m args below meth c H locs cells slots Q (F0 m (pc + 3) ls (.int s_sourceClass :: rest))) : W p l e R s m args below meth c H locs cells slots Q (F0 m pc ls (.ref pa_s :: rest)) :=
  va_get hx hb hts hin_xl hown hK hP (19 + pk_s) (hq_app rfl ph_s) rfl 4 (by decide) (hts _ hw) (fun _ h9 => h9) rfl hdg kk
theorem gx_s_withDescendants (hx : p.tables.exec = Jvm.exec) (hb : c.code = cc) (hts : ∀ x ∈ hq_tbl, x.before args s = true) (hown : s.vm.findClass own = some m.cls) (hK : va_K D hq_cl (hq_tys cI cZ cL) s) (hP : va_P D hq_cl (hx_w q cI cZ cL xq_query ha_parents hf_classCount ha_classes ha_sizes ha_fields hf_objectCount hf_roots hf_changed sa_linkedFrom sa_linkCounts sa_retainedSets sa_retainedSizes sa_dominators sa_immediateDominators sf_objectCount sf_roots sf_reachable ta_codes ta_numbers tf_count ta_brackets tf_bracketCount tf_place tf_inWhere tf_compared wa_rows wf_count wf_looks ++ z) H) (ph_s : z[pk_s]? = some (pa_s, .inr (6, [.int s_isDistinct, .int s_isRetained, va_rf s_row, va_rf s_nested, .int s_sourceClass, .int s_withDescendants, va_rf s_condition, va_rf s_next]))) (hw : Cond.fieldLink own idx "HeapQueries$Select" "withDescendants" "Z" ∈ hq_tbl) (hdg : decode cc pc = .ok (.getfield idx, 3)) (kk : W p l e R s m args below meth c H locs cells slots Q (F0 m (pc + 3) ls (.int s_withDescendants :: rest))) : W p l e R s m args below meth c H locs cells slots Q (F0 m pc ls (.ref pa_s :: rest)) :=
  va_get hx hb hts hin_xl hown hK hP (19 + pk_s) (hq_app rfl ph_s) rfl 5 (by decide) (hts _ hw) (fun _ h9 => h9) rfl hdg kk
theorem gx_s_condition (hx : p.tables.exec = Jvm.exec) (hb : c.code = cc) (hts : ∀ x ∈ hq_tbl, x.before args s = true) (hown : s.vm.findClass own = some m.cls) (hK : va_K D hq_cl (hq_tys cI cZ cL) s) (hP : va_P D hq_cl (hx_w q cI cZ cL xq_query ha_parents hf_classCount ha_classes ha_sizes ha_fields hf_objectCount hf_roots hf_changed sa_linkedFrom sa_linkCounts sa_retainedSets sa_retainedSizes sa_dominators sa_immediateDominators sf_objectCount sf_roots sf_reachable ta_codes ta_numbers tf_count ta_brackets tf_bracketCount tf_place tf_inWhere tf_compared wa_rows wf_count wf_looks ++ z) H) (ph_s : z[pk_s]? = some (pa_s, .inr (6, [.int s_isDistinct, .int s_isRetained, va_rf s_row, va_rf s_nested, .int s_sourceClass, .int s_withDescendants, va_rf s_condition, va_rf s_next]))) (hw : Cond.fieldLink own idx "HeapQueries$Select" "condition" "LHeapQueries$Node;" ∈ hq_tbl) (hdg : decode cc pc = .ok (.getfield idx, 3)) (kk : W p l e R s m args below meth c H locs cells slots Q (F0 m (pc + 3) ls (va_rf s_condition :: rest))) : W p l e R s m args below meth c H locs cells slots Q (F0 m pc ls (.ref pa_s :: rest)) :=
  va_get hx hb hts hin_xl hown hK hP (19 + pk_s) (hq_app rfl ph_s) rfl 6 (by decide) (hts _ hw) (fun _ h9 => h9) rfl hdg kk
theorem gx_s_next (hx : p.tables.exec = Jvm.exec) (hb : c.code = cc) (hts : ∀ x ∈ hq_tbl, x.before args s = true) (hown : s.vm.findClass own = some m.cls) (hK : va_K D hq_cl (hq_tys cI cZ cL) s) (hP : va_P D hq_cl (hx_w q cI cZ cL xq_query ha_parents hf_classCount ha_classes ha_sizes ha_fields hf_objectCount hf_roots hf_changed sa_linkedFrom sa_linkCounts sa_retainedSets sa_retainedSizes sa_dominators sa_immediateDominators sf_objectCount sf_roots sf_reachable ta_codes ta_numbers tf_count ta_brackets tf_bracketCount tf_place tf_inWhere tf_compared wa_rows wf_count wf_looks ++ z) H) (ph_s : z[pk_s]? = some (pa_s, .inr (6, [.int s_isDistinct, .int s_isRetained, va_rf s_row, va_rf s_nested, .int s_sourceClass, .int s_withDescendants, va_rf s_condition, va_rf s_next]))) (hw : Cond.fieldLink own idx "HeapQueries$Select" "next" "LHeapQueries$Select;" ∈ hq_tbl) (hdg : decode cc pc = .ok (.getfield idx, 3)) (kk : W p l e R s m args below meth c H locs cells slots Q (F0 m (pc + 3) ls (va_rf s_next :: rest))) : W p l e R s m args below meth c H locs cells slots Q (F0 m pc ls (.ref pa_s :: rest)) :=
  va_get hx hb hts hin_xl hown hK hP (19 + pk_s) (hq_app rfl ph_s) rfl 7 (by decide) (hts _ hw) (fun _ h9 => h9) rfl hdg kk
end
end
section
theorem dxv_number_0 : decode bxv_number 0 = .ok (.ldc2_w 11, 3) := by decide +kernel
theorem dxv_number_3 : decode bxv_number 3 = .ok (.iload_n 0, 1) := by decide +kernel
theorem dxv_number_4 : decode bxv_number 4 = .ok (.i2l, 1) := by decide +kernel
theorem dxv_number_5 : decode bxv_number 5 = .ok (.ldc2_w 13, 3) := by decide +kernel
theorem dxv_number_8 : decode bxv_number 8 = .ok (.land, 1) := by decide +kernel
theorem dxv_number_9 : decode bxv_number 9 = .ok (.lor, 1) := by decide +kernel
theorem dxv_number_10 : decode bxv_number 10 = .ok (.lreturn, 1) := by decide +kernel
section
variable {l : Launch} {D : va_G} {A : Nat → Prop} {z w : va_W} {q : Nat → Nat} {cI cZ cL : ClassId}
set_option maxHeartbeats 4000000 in
set_option maxRecDepth 100000 in
theorem cxv_number (l0 : Int32) (ur : Int64) (h : sxv_number l0 = ur) : hq_Ct l yxv_number bxv_number 1 (some .long) { frames := 0, cells := 0, slots := 0, locals := 0 } D (hq_tys cI cZ cL) A [.int l0] w w (some (.long ur)) 0 0 := by
  refine hq_of (by decide) ?_ (Nat.le_of_ble_eq_true rfl)
  intro p e s m below meth c R args Q hRm hQ hx hb hr hml hts hown hlocks hnm hP hK hD ls hl hS
  have hl : lv_has ls 1 [(0, .int l0)] := hl
  have hown : s.vm.findClass "HeapQueries$Value" = some m.cls := hown
  unfold sxv_number at h
  refine lv_ldc2 (v := 4294967296) hx hb hown (hts _ wi_11) dxv_number_0 ?_
  refine lv_iload_n hx hb dxv_number_3 rfl (lv_at hl 0 rfl) ?_
  refine lv_i2l (v := l0.toInt64) hx hb dxv_number_4 rfl ?_
  refine lv_ldc2 (v := 4294967295) hx hb hown (hts _ wi_12) dxv_number_5 ?_
  refine lv_land hx hb dxv_number_8 ?_
  refine lv_lor hx hb dxv_number_9 ?_
  exact hq_lret hx hb hr hlocks hQ hK hP hD hS (by rw [← h]) rfl dxv_number_10
end
section
variable {p : Program} {l : Launch} {e : Env} {R : Room} {s : State} {m : MethodId} {args : Array Value} {below : List Frame} {meth : Method} {c : Code} {H H0 : Heap} {locs : List Loc} {cells slots : Nat} {Q : State → Prop}
variable {cc : ByteArray} {pc idx nC : Nat} {ls : Array Slot} {rest : List Value} {D : va_G} {A : Nat → Prop} {own : String} {q : Nat → Nat} {cI cZ cL : ClassId} {z w : va_W}
theorem kxv_number (l0 : Int32) (ur : Int64) (hu : sxv_number l0 = ur) (hx : p.tables.exec = Jvm.exec) (hb : c.code = cc) (hml : c.maxLocals = nC) (hts : ∀ x ∈ hq_tbl, x.before args s = true) (hown : s.vm.findClass own = some m.cls) (hK : va_K D hq_cl (hq_tys cI cZ cL) s) (hP : va_P D hq_cl w H) (hD : va_D A w) (hS : va_S A H0 H locs) (h1 : Cond.methodLink own idx yxv_number ∈ hq_tbl) (hR : 0 + 1 ≤ R.frames ∧ 8 + (1 + 11) + 0 ≤ R.locals) (hls : ls.size = nC) (hW : (rest.map fun v => v.category).sum ≤ 8) (hdg : decode cc pc = .ok (.invokestatic idx, 3)) (hf : cells + 0 ≤ R.cells ∧ slots + 0 ≤ R.slots) (kk : ∀ (H1 : Heap) (locs1 : List Loc), va_P D hq_cl w H1 → va_D A w → va_S A H0 H1 locs1 → W p l e R s m args below meth c H1 locs1 cells slots Q (F0 m (pc + 3) ls (.long ur :: rest))) : W p l e R s m args below meth c H locs cells slots Q (F0 m pc ls (.int l0 :: rest)) :=
  hq_callS hx hb hml hown hts hK hP hD hS (cxv_number l0 ur hu) h1 wi_223 wi_224 wi_225 1 rfl (by decide +kernel) ⟨rfl, rfl⟩ hR hls rfl hW hdg hf kk
end
theorem dxv_link_0 : decode bxv_link 0 = .ok (.ldc2_w 15, 3) := by decide +kernel
theorem dxv_link_3 : decode bxv_link 3 = .ok (.iload_n 0, 1) := by decide +kernel
theorem dxv_link_4 : decode bxv_link 4 = .ok (.i2l, 1) := by decide +kernel
theorem dxv_link_5 : decode bxv_link 5 = .ok (.ldc2_w 13, 3) := by decide +kernel
theorem dxv_link_8 : decode bxv_link 8 = .ok (.land, 1) := by decide +kernel
theorem dxv_link_9 : decode bxv_link 9 = .ok (.lor, 1) := by decide +kernel
theorem dxv_link_10 : decode bxv_link 10 = .ok (.lreturn, 1) := by decide +kernel
section
variable {l : Launch} {D : va_G} {A : Nat → Prop} {z w : va_W} {q : Nat → Nat} {cI cZ cL : ClassId}
set_option maxHeartbeats 4000000 in
set_option maxRecDepth 100000 in
theorem cxv_link (l0 : Int32) (ur : Int64) (h : sxv_link l0 = ur) : hq_Ct l yxv_link bxv_link 1 (some .long) { frames := 0, cells := 0, slots := 0, locals := 0 } D (hq_tys cI cZ cL) A [.int l0] w w (some (.long ur)) 0 0 := by
  refine hq_of (by decide) ?_ (Nat.le_of_ble_eq_true rfl)
  intro p e s m below meth c R args Q hRm hQ hx hb hr hml hts hown hlocks hnm hP hK hD ls hl hS
  have hl : lv_has ls 1 [(0, .int l0)] := hl
  have hown : s.vm.findClass "HeapQueries$Value" = some m.cls := hown
  unfold sxv_link at h
  refine lv_ldc2 (v := 8589934592) hx hb hown (hts _ wi_13) dxv_link_0 ?_
  refine lv_iload_n hx hb dxv_link_3 rfl (lv_at hl 0 rfl) ?_
  refine lv_i2l (v := l0.toInt64) hx hb dxv_link_4 rfl ?_
  refine lv_ldc2 (v := 4294967295) hx hb hown (hts _ wi_12) dxv_link_5 ?_
  refine lv_land hx hb dxv_link_8 ?_
  refine lv_lor hx hb dxv_link_9 ?_
  exact hq_lret hx hb hr hlocks hQ hK hP hD hS (by rw [← h]) rfl dxv_link_10
end
section
variable {p : Program} {l : Launch} {e : Env} {R : Room} {s : State} {m : MethodId} {args : Array Value} {below : List Frame} {meth : Method} {c : Code} {H H0 : Heap} {locs : List Loc} {cells slots : Nat} {Q : State → Prop}
variable {cc : ByteArray} {pc idx nC : Nat} {ls : Array Slot} {rest : List Value} {D : va_G} {A : Nat → Prop} {own : String} {q : Nat → Nat} {cI cZ cL : ClassId} {z w : va_W}
theorem kxv_link (l0 : Int32) (ur : Int64) (hu : sxv_link l0 = ur) (hx : p.tables.exec = Jvm.exec) (hb : c.code = cc) (hml : c.maxLocals = nC) (hts : ∀ x ∈ hq_tbl, x.before args s = true) (hown : s.vm.findClass own = some m.cls) (hK : va_K D hq_cl (hq_tys cI cZ cL) s) (hP : va_P D hq_cl w H) (hD : va_D A w) (hS : va_S A H0 H locs) (h1 : Cond.methodLink own idx yxv_link ∈ hq_tbl) (hR : 0 + 1 ≤ R.frames ∧ 8 + (1 + 11) + 0 ≤ R.locals) (hls : ls.size = nC) (hW : (rest.map fun v => v.category).sum ≤ 8) (hdg : decode cc pc = .ok (.invokestatic idx, 3)) (hf : cells + 0 ≤ R.cells ∧ slots + 0 ≤ R.slots) (kk : ∀ (H1 : Heap) (locs1 : List Loc), va_P D hq_cl w H1 → va_D A w → va_S A H0 H1 locs1 → W p l e R s m args below meth c H1 locs1 cells slots Q (F0 m (pc + 3) ls (.long ur :: rest))) : W p l e R s m args below meth c H locs cells slots Q (F0 m pc ls (.int l0 :: rest)) :=
  hq_callS hx hb hml hown hts hK hP hD hS (cxv_link l0 ur hu) h1 wi_226 wi_224 wi_227 1 rfl (by decide +kernel) ⟨rfl, rfl⟩ hR hls rfl hW hdg hf kk
end
theorem dxv_isLink_0 : decode bxv_isLink 0 = .ok (.lload_n 0, 1) := by decide +kernel
theorem dxv_isLink_1 : decode bxv_isLink 1 = .ok (.bipush 32, 2) := by decide +kernel
theorem dxv_isLink_3 : decode bxv_isLink 3 = .ok (.lushr, 1) := by decide +kernel
theorem dxv_isLink_4 : decode bxv_isLink 4 = .ok (.ldc2_w 21, 3) := by decide +kernel
theorem dxv_isLink_7 : decode bxv_isLink 7 = .ok (.lcmp, 1) := by decide +kernel
theorem dxv_isLink_8 : decode bxv_isLink 8 = .ok (.ifCond .ne 7, 3) := by decide +kernel
theorem dxv_isLink_11 : decode bxv_isLink 11 = .ok (.iconst 1, 1) := by decide +kernel
theorem dxv_isLink_12 : decode bxv_isLink 12 = .ok (.goto 4, 3) := by decide +kernel
theorem dxv_isLink_15 : decode bxv_isLink 15 = .ok (.iconst 0, 1) := by decide +kernel
theorem dxv_isLink_16 : decode bxv_isLink 16 = .ok (.ireturn, 1) := by decide +kernel
section
variable {l : Launch} {D : va_G} {A : Nat → Prop} {z w : va_W} {q : Nat → Nat} {cI cZ cL : ClassId}
set_option maxHeartbeats 4000000 in
set_option maxRecDepth 100000 in
theorem cxv_isLink (l0 : Int64) (ur : Int32) (h : sxv_isLink l0 = ur) : hq_Ct l yxv_isLink bxv_isLink 2 (some .boolean) { frames := 0, cells := 0, slots := 0, locals := 0 } D (hq_tys cI cZ cL) A [.long l0] w w (some (.int ur)) 0 0 := by
  refine hq_of (by decide) ?_ (Nat.le_of_ble_eq_true rfl)
  intro p e s m below meth c R args Q hRm hQ hx hb hr hml hts hown hlocks hnm hP hK hD ls hl hS
  have hl : lv_has ls 2 [(0, .long l0)] := hl
  have hown : s.vm.findClass "HeapQueries$Value" = some m.cls := hown
  unfold sxv_isLink at h
  refine lv_lload_n hx hb dxv_isLink_0 rfl (lv_at hl 0 rfl) ?_
  refine lv_bipush (v := 32) hx hb dxv_isLink_1 (by decide) ?_
  refine lv_lushr (v := (l0.toUInt64 >>> ((32 : Int32).toInt64.toUInt64 &&& Int64.toUInt64 63)).toInt64) hx hb dxv_isLink_3 rfl ?_
  refine lv_ldc2 (v := 2) hx hb hown (hts _ wi_20) dxv_isLink_4 ?_
  refine W.lcmp hx hb dxv_isLink_7 ?_
  refine lv_if_ne (tgt := 15) hx hb dxv_isLink_8 (by decide) (fun hc => ?_) (fun hc => ?_)
  · have h := (if_neg hc).symm.trans h
    refine lv_iconst (v := 0) hx hb dxv_isLink_15 (by decide) ?_
    exact hq_zret hx hb hr hlocks hQ hK hP hD hS (by decide) (by rw [← h]) rfl dxv_isLink_16
  · have h := (if_pos hc).symm.trans h
    refine lv_iconst (v := 1) hx hb dxv_isLink_11 (by decide) ?_
    refine lv_goto (tgt := 16) hx hb dxv_isLink_12 (by decide) ?_
    exact hq_zret hx hb hr hlocks hQ hK hP hD hS (by decide) (by rw [← h]) rfl dxv_isLink_16
end
section
variable {p : Program} {l : Launch} {e : Env} {R : Room} {s : State} {m : MethodId} {args : Array Value} {below : List Frame} {meth : Method} {c : Code} {H H0 : Heap} {locs : List Loc} {cells slots : Nat} {Q : State → Prop}
variable {cc : ByteArray} {pc idx nC : Nat} {ls : Array Slot} {rest : List Value} {D : va_G} {A : Nat → Prop} {own : String} {q : Nat → Nat} {cI cZ cL : ClassId} {z w : va_W}
theorem kxv_isLink (l0 : Int64) (ur : Int32) (hu : sxv_isLink l0 = ur) (hx : p.tables.exec = Jvm.exec) (hb : c.code = cc) (hml : c.maxLocals = nC) (hts : ∀ x ∈ hq_tbl, x.before args s = true) (hown : s.vm.findClass own = some m.cls) (hK : va_K D hq_cl (hq_tys cI cZ cL) s) (hP : va_P D hq_cl w H) (hD : va_D A w) (hS : va_S A H0 H locs) (h1 : Cond.methodLink own idx yxv_isLink ∈ hq_tbl) (hR : 0 + 1 ≤ R.frames ∧ 8 + (2 + 11) + 0 ≤ R.locals) (hls : ls.size = nC) (hW : (rest.map fun v => v.category).sum ≤ 8) (hdg : decode cc pc = .ok (.invokestatic idx, 3)) (hf : cells + 0 ≤ R.cells ∧ slots + 0 ≤ R.slots) (kk : ∀ (H1 : Heap) (locs1 : List Loc), va_P D hq_cl w H1 → va_D A w → va_S A H0 H1 locs1 → W p l e R s m args below meth c H1 locs1 cells slots Q (F0 m (pc + 3) ls (.int ur :: rest))) : W p l e R s m args below meth c H locs cells slots Q (F0 m pc ls (.long l0 :: rest)) :=
  hq_callS hx hb hml hown hts hK hP hD hS (cxv_isLink l0 ur hu) h1 wi_246 wi_224 wi_247 1 rfl (by decide +kernel) ⟨rfl, rfl⟩ hR hls rfl hW hdg hf kk
end
theorem dxv_contentOf_0 : decode bxv_contentOf 0 = .ok (.lload_n 0, 1) := by decide +kernel
theorem dxv_contentOf_1 : decode bxv_contentOf 1 = .ok (.l2i, 1) := by decide +kernel
theorem dxv_contentOf_2 : decode bxv_contentOf 2 = .ok (.ireturn, 1) := by decide +kernel
section
variable {l : Launch} {D : va_G} {A : Nat → Prop} {z w : va_W} {q : Nat → Nat} {cI cZ cL : ClassId}
set_option maxHeartbeats 4000000 in
set_option maxRecDepth 100000 in
theorem cxv_contentOf (l0 : Int64) (ur : Int32) (h : sxv_contentOf l0 = ur) : hq_Ct l yxv_contentOf bxv_contentOf 2 (some .int) { frames := 0, cells := 0, slots := 0, locals := 0 } D (hq_tys cI cZ cL) A [.long l0] w w (some (.int ur)) 0 0 := by
  refine hq_of (by decide) ?_ (Nat.le_of_ble_eq_true rfl)
  intro p e s m below meth c R args Q hRm hQ hx hb hr hml hts hown hlocks hnm hP hK hD ls hl hS
  have hl : lv_has ls 2 [(0, .long l0)] := hl
  have hown : s.vm.findClass "HeapQueries$Value" = some m.cls := hown
  unfold sxv_contentOf at h
  refine lv_lload_n hx hb dxv_contentOf_0 rfl (lv_at hl 0 rfl) ?_
  refine lv_l2i (v := l0.toInt32) hx hb dxv_contentOf_1 rfl ?_
  exact hq_iret hx hb hr hlocks hQ hK hP hD hS (by rw [← h]) rfl dxv_contentOf_2
end
section
variable {p : Program} {l : Launch} {e : Env} {R : Room} {s : State} {m : MethodId} {args : Array Value} {below : List Frame} {meth : Method} {c : Code} {H H0 : Heap} {locs : List Loc} {cells slots : Nat} {Q : State → Prop}
variable {cc : ByteArray} {pc idx nC : Nat} {ls : Array Slot} {rest : List Value} {D : va_G} {A : Nat → Prop} {own : String} {q : Nat → Nat} {cI cZ cL : ClassId} {z w : va_W}
theorem kxv_contentOf (l0 : Int64) (ur : Int32) (hu : sxv_contentOf l0 = ur) (hx : p.tables.exec = Jvm.exec) (hb : c.code = cc) (hml : c.maxLocals = nC) (hts : ∀ x ∈ hq_tbl, x.before args s = true) (hown : s.vm.findClass own = some m.cls) (hK : va_K D hq_cl (hq_tys cI cZ cL) s) (hP : va_P D hq_cl w H) (hD : va_D A w) (hS : va_S A H0 H locs) (h1 : Cond.methodLink own idx yxv_contentOf ∈ hq_tbl) (hR : 0 + 1 ≤ R.frames ∧ 8 + (2 + 11) + 0 ≤ R.locals) (hls : ls.size = nC) (hW : (rest.map fun v => v.category).sum ≤ 8) (hdg : decode cc pc = .ok (.invokestatic idx, 3)) (hf : cells + 0 ≤ R.cells ∧ slots + 0 ≤ R.slots) (kk : ∀ (H1 : Heap) (locs1 : List Loc), va_P D hq_cl w H1 → va_D A w → va_S A H0 H1 locs1 → W p l e R s m args below meth c H1 locs1 cells slots Q (F0 m (pc + 3) ls (.int ur :: rest))) : W p l e R s m args below meth c H locs cells slots Q (F0 m pc ls (.long l0 :: rest)) :=
  hq_callS hx hb hml hown hts hK hP hD hS (cxv_contentOf l0 ur hu) h1 wi_248 wi_224 wi_249 1 rfl (by decide +kernel) ⟨rfl, rfl⟩ hR hls rfl hW hdg hf kk
end
theorem djn_numberOfTrailingZeros_0 : decode bjn_numberOfTrailingZeros 0 = .ok (.iload_n 0, 1) := by decide +kernel
theorem djn_numberOfTrailingZeros_1 : decode bjn_numberOfTrailingZeros 1 = .ok (.iconst (-1), 1) := by decide +kernel
theorem djn_numberOfTrailingZeros_2 : decode bjn_numberOfTrailingZeros 2 = .ok (.ixor, 1) := by decide +kernel
theorem djn_numberOfTrailingZeros_3 : decode bjn_numberOfTrailingZeros 3 = .ok (.iload_n 0, 1) := by decide +kernel
theorem djn_numberOfTrailingZeros_4 : decode bjn_numberOfTrailingZeros 4 = .ok (.iconst 1, 1) := by decide +kernel
theorem djn_numberOfTrailingZeros_5 : decode bjn_numberOfTrailingZeros 5 = .ok (.isub, 1) := by decide +kernel
theorem djn_numberOfTrailingZeros_6 : decode bjn_numberOfTrailingZeros 6 = .ok (.iand, 1) := by decide +kernel
theorem djn_numberOfTrailingZeros_7 : decode bjn_numberOfTrailingZeros 7 = .ok (.istore_n 0, 1) := by decide +kernel
theorem djn_numberOfTrailingZeros_8 : decode bjn_numberOfTrailingZeros 8 = .ok (.iload_n 0, 1) := by decide +kernel
theorem djn_numberOfTrailingZeros_9 : decode bjn_numberOfTrailingZeros 9 = .ok (.ifCond .gt 8, 3) := by decide +kernel
theorem djn_numberOfTrailingZeros_12 : decode bjn_numberOfTrailingZeros 12 = .ok (.iload_n 0, 1) := by decide +kernel
theorem djn_numberOfTrailingZeros_13 : decode bjn_numberOfTrailingZeros 13 = .ok (.bipush 32, 2) := by decide +kernel
theorem djn_numberOfTrailingZeros_15 : decode bjn_numberOfTrailingZeros 15 = .ok (.iand, 1) := by decide +kernel
theorem djn_numberOfTrailingZeros_16 : decode bjn_numberOfTrailingZeros 16 = .ok (.ireturn, 1) := by decide +kernel
theorem djn_numberOfTrailingZeros_17 : decode bjn_numberOfTrailingZeros 17 = .ok (.iconst 1, 1) := by decide +kernel
theorem djn_numberOfTrailingZeros_18 : decode bjn_numberOfTrailingZeros 18 = .ok (.istore_n 1, 1) := by decide +kernel
theorem djn_numberOfTrailingZeros_19 : decode bjn_numberOfTrailingZeros 19 = .ok (.iload_n 0, 1) := by decide +kernel
theorem djn_numberOfTrailingZeros_20 : decode bjn_numberOfTrailingZeros 20 = .ok (.ldc_w 264, 3) := by decide +kernel
theorem djn_numberOfTrailingZeros_23 : decode bjn_numberOfTrailingZeros 23 = .ok (.if_icmp .le 11, 3) := by decide +kernel
theorem djn_numberOfTrailingZeros_26 : decode bjn_numberOfTrailingZeros 26 = .ok (.iinc 1 16, 3) := by decide +kernel
theorem djn_numberOfTrailingZeros_29 : decode bjn_numberOfTrailingZeros 29 = .ok (.iload_n 0, 1) := by decide +kernel
theorem djn_numberOfTrailingZeros_30 : decode bjn_numberOfTrailingZeros 30 = .ok (.bipush 16, 2) := by decide +kernel
theorem djn_numberOfTrailingZeros_32 : decode bjn_numberOfTrailingZeros 32 = .ok (.iushr, 1) := by decide +kernel
theorem djn_numberOfTrailingZeros_33 : decode bjn_numberOfTrailingZeros 33 = .ok (.istore_n 0, 1) := by decide +kernel
theorem djn_numberOfTrailingZeros_34 : decode bjn_numberOfTrailingZeros 34 = .ok (.iload_n 0, 1) := by decide +kernel
theorem djn_numberOfTrailingZeros_35 : decode bjn_numberOfTrailingZeros 35 = .ok (.sipush 256, 3) := by decide +kernel
theorem djn_numberOfTrailingZeros_38 : decode bjn_numberOfTrailingZeros 38 = .ok (.if_icmp .le 11, 3) := by decide +kernel
theorem djn_numberOfTrailingZeros_41 : decode bjn_numberOfTrailingZeros 41 = .ok (.iinc 1 8, 3) := by decide +kernel
theorem djn_numberOfTrailingZeros_44 : decode bjn_numberOfTrailingZeros 44 = .ok (.iload_n 0, 1) := by decide +kernel
theorem djn_numberOfTrailingZeros_45 : decode bjn_numberOfTrailingZeros 45 = .ok (.bipush 8, 2) := by decide +kernel
theorem djn_numberOfTrailingZeros_47 : decode bjn_numberOfTrailingZeros 47 = .ok (.iushr, 1) := by decide +kernel
theorem djn_numberOfTrailingZeros_48 : decode bjn_numberOfTrailingZeros 48 = .ok (.istore_n 0, 1) := by decide +kernel
theorem djn_numberOfTrailingZeros_49 : decode bjn_numberOfTrailingZeros 49 = .ok (.iload_n 0, 1) := by decide +kernel
theorem djn_numberOfTrailingZeros_50 : decode bjn_numberOfTrailingZeros 50 = .ok (.bipush 16, 2) := by decide +kernel
theorem djn_numberOfTrailingZeros_52 : decode bjn_numberOfTrailingZeros 52 = .ok (.if_icmp .le 10, 3) := by decide +kernel
theorem djn_numberOfTrailingZeros_55 : decode bjn_numberOfTrailingZeros 55 = .ok (.iinc 1 4, 3) := by decide +kernel
theorem djn_numberOfTrailingZeros_58 : decode bjn_numberOfTrailingZeros 58 = .ok (.iload_n 0, 1) := by decide +kernel
theorem djn_numberOfTrailingZeros_59 : decode bjn_numberOfTrailingZeros 59 = .ok (.iconst 4, 1) := by decide +kernel
theorem djn_numberOfTrailingZeros_60 : decode bjn_numberOfTrailingZeros 60 = .ok (.iushr, 1) := by decide +kernel
theorem djn_numberOfTrailingZeros_61 : decode bjn_numberOfTrailingZeros 61 = .ok (.istore_n 0, 1) := by decide +kernel
theorem djn_numberOfTrailingZeros_62 : decode bjn_numberOfTrailingZeros 62 = .ok (.iload_n 0, 1) := by decide +kernel
theorem djn_numberOfTrailingZeros_63 : decode bjn_numberOfTrailingZeros 63 = .ok (.iconst 4, 1) := by decide +kernel
theorem djn_numberOfTrailingZeros_64 : decode bjn_numberOfTrailingZeros 64 = .ok (.if_icmp .le 10, 3) := by decide +kernel
theorem djn_numberOfTrailingZeros_67 : decode bjn_numberOfTrailingZeros 67 = .ok (.iinc 1 2, 3) := by decide +kernel
theorem djn_numberOfTrailingZeros_70 : decode bjn_numberOfTrailingZeros 70 = .ok (.iload_n 0, 1) := by decide +kernel
theorem djn_numberOfTrailingZeros_71 : decode bjn_numberOfTrailingZeros 71 = .ok (.iconst 2, 1) := by decide +kernel
theorem djn_numberOfTrailingZeros_72 : decode bjn_numberOfTrailingZeros 72 = .ok (.iushr, 1) := by decide +kernel
theorem djn_numberOfTrailingZeros_73 : decode bjn_numberOfTrailingZeros 73 = .ok (.istore_n 0, 1) := by decide +kernel
theorem djn_numberOfTrailingZeros_74 : decode bjn_numberOfTrailingZeros 74 = .ok (.iload_n 1, 1) := by decide +kernel
theorem djn_numberOfTrailingZeros_75 : decode bjn_numberOfTrailingZeros 75 = .ok (.iload_n 0, 1) := by decide +kernel
theorem djn_numberOfTrailingZeros_76 : decode bjn_numberOfTrailingZeros 76 = .ok (.iconst 1, 1) := by decide +kernel
theorem djn_numberOfTrailingZeros_77 : decode bjn_numberOfTrailingZeros 77 = .ok (.iushr, 1) := by decide +kernel
theorem djn_numberOfTrailingZeros_78 : decode bjn_numberOfTrailingZeros 78 = .ok (.iadd, 1) := by decide +kernel
theorem djn_numberOfTrailingZeros_79 : decode bjn_numberOfTrailingZeros 79 = .ok (.ireturn, 1) := by decide +kernel
section
variable {l : Launch} {D : va_G} {A : Nat → Prop} {z w : va_W} {q : Nat → Nat} {cI cZ cL : ClassId}
set_option maxHeartbeats 4000000 in
set_option maxRecDepth 100000 in
theorem cjn_numberOfTrailingZeros (l0 : Int32) (ur : Int32) (h : sjn_numberOfTrailingZeros l0 = ur) : hq_Ct l yjn_numberOfTrailingZeros bjn_numberOfTrailingZeros 2 (some .int) { frames := 0, cells := 0, slots := 0, locals := 0 } D (hq_tys cI cZ cL) A [.int l0] w w (some (.int ur)) 0 0 := by
  refine hq_of (by decide) ?_ (Nat.le_of_ble_eq_true rfl)
  intro p e s m below meth c R args Q hRm hQ hx hb hr hml hts hown hlocks hnm hP hK hD ls hl hS
  have hl : lv_has ls 2 [(0, .int l0)] := hl
  have hown : s.vm.findClass "java/lang/Integer" = some m.cls := hown
  unfold sjn_numberOfTrailingZeros at h
  have J74 : ∀ (l0 : Int32) (l1 : Int32) {ls : Array Slot} {H : Heap} {locs : List Loc}, lv_has ls 2 [(0, .int l0), (1, .int l1)] → va_P D hq_cl w H → va_D A w → va_S A s.heap H locs → sjn_numberOfTrailingZeros_J74 l0 l1 = ur → W p l e R s m args below meth c H locs 0 0 Q (F0 m 74 ls []) := by
    intro l0 l1 ls H locs hl hP hD hS h
    unfold sjn_numberOfTrailingZeros_J74 at h
    refine lv_iload_n hx hb djn_numberOfTrailingZeros_74 rfl (lv_at hl 1 rfl) ?_
    refine lv_iload_n hx hb djn_numberOfTrailingZeros_75 rfl (lv_at hl 0 rfl) ?_
    refine lv_iconst (v := 1) hx hb djn_numberOfTrailingZeros_76 (by decide) ?_
    refine lv_iushr (v := (l0.toUInt32 >>> ((1 : Int32).toUInt32 &&& Int32.toUInt32 31)).toInt32) hx hb djn_numberOfTrailingZeros_77 rfl ?_
    refine lv_iadd hx hb djn_numberOfTrailingZeros_78 ?_
    exact hq_iret hx hb hr hlocks hQ hK hP hD hS (by rw [← h]) rfl djn_numberOfTrailingZeros_79
  have J62 : ∀ (l0 : Int32) (l1 : Int32) {ls : Array Slot} {H : Heap} {locs : List Loc}, lv_has ls 2 [(0, .int l0), (1, .int l1)] → va_P D hq_cl w H → va_D A w → va_S A s.heap H locs → sjn_numberOfTrailingZeros_J62 l0 l1 = ur → W p l e R s m args below meth c H locs 0 0 Q (F0 m 62 ls []) := by
    intro l0 l1 ls H locs hl hP hD hS h
    unfold sjn_numberOfTrailingZeros_J62 at h
    refine lv_iload_n hx hb djn_numberOfTrailingZeros_62 rfl (lv_at hl 0 rfl) ?_
    refine lv_iconst (v := 4) hx hb djn_numberOfTrailingZeros_63 (by decide) ?_
    refine lv_icmp_le (tgt := 74) hx hb djn_numberOfTrailingZeros_64 (by decide) (fun hc => ?_) (fun hc => ?_)
    · have h := (if_pos hc).symm.trans h
      exact J74 l0 l1 hl hP hD hS h
    · have h := (if_neg hc).symm.trans h
      refine lv_iinc (k := 1) (v := l1 + 2) (lv' := [(1, .int (l1 + 2)), (0, .int l0)]) hx hb djn_numberOfTrailingZeros_67 hl rfl (congrArg (fun j => l1 + j) (by decide)) (by decide) rfl (fun ls hl => ?_)
      refine lv_iload_n hx hb djn_numberOfTrailingZeros_70 rfl (lv_at hl 1 rfl) ?_
      refine lv_iconst (v := 2) hx hb djn_numberOfTrailingZeros_71 (by decide) ?_
      refine lv_iushr (v := (l0.toUInt32 >>> ((2 : Int32).toUInt32 &&& Int32.toUInt32 31)).toInt32) hx hb djn_numberOfTrailingZeros_72 rfl ?_
      refine lv_istore_n (lv' := [(0, .int ((l0.toUInt32 >>> ((2 : Int32).toUInt32 &&& Int32.toUInt32 31)).toInt32)), (1, .int (l1 + 2))]) hx hb djn_numberOfTrailingZeros_73 rfl hl (by decide) rfl (fun ls hl => ?_)
      exact J74 ((l0.toUInt32 >>> ((2 : Int32).toUInt32 &&& Int32.toUInt32 31)).toInt32) (l1 + 2) hl hP hD hS h
  have J49 : ∀ (l0 : Int32) (l1 : Int32) {ls : Array Slot} {H : Heap} {locs : List Loc}, lv_has ls 2 [(0, .int l0), (1, .int l1)] → va_P D hq_cl w H → va_D A w → va_S A s.heap H locs → sjn_numberOfTrailingZeros_J49 l0 l1 = ur → W p l e R s m args below meth c H locs 0 0 Q (F0 m 49 ls []) := by
    intro l0 l1 ls H locs hl hP hD hS h
    unfold sjn_numberOfTrailingZeros_J49 at h
    refine lv_iload_n hx hb djn_numberOfTrailingZeros_49 rfl (lv_at hl 0 rfl) ?_
    refine lv_bipush (v := 16) hx hb djn_numberOfTrailingZeros_50 (by decide) ?_
    refine lv_icmp_le (tgt := 62) hx hb djn_numberOfTrailingZeros_52 (by decide) (fun hc => ?_) (fun hc => ?_)
    · have h := (if_pos hc).symm.trans h
      exact J62 l0 l1 hl hP hD hS h
    · have h := (if_neg hc).symm.trans h
      refine lv_iinc (k := 1) (v := l1 + 4) (lv' := [(1, .int (l1 + 4)), (0, .int l0)]) hx hb djn_numberOfTrailingZeros_55 hl rfl (congrArg (fun j => l1 + j) (by decide)) (by decide) rfl (fun ls hl => ?_)
      refine lv_iload_n hx hb djn_numberOfTrailingZeros_58 rfl (lv_at hl 1 rfl) ?_
      refine lv_iconst (v := 4) hx hb djn_numberOfTrailingZeros_59 (by decide) ?_
      refine lv_iushr (v := (l0.toUInt32 >>> ((4 : Int32).toUInt32 &&& Int32.toUInt32 31)).toInt32) hx hb djn_numberOfTrailingZeros_60 rfl ?_
      refine lv_istore_n (lv' := [(0, .int ((l0.toUInt32 >>> ((4 : Int32).toUInt32 &&& Int32.toUInt32 31)).toInt32)), (1, .int (l1 + 4))]) hx hb djn_numberOfTrailingZeros_61 rfl hl (by decide) rfl (fun ls hl => ?_)
      exact J62 ((l0.toUInt32 >>> ((4 : Int32).toUInt32 &&& Int32.toUInt32 31)).toInt32) (l1 + 4) hl hP hD hS h
  have J34 : ∀ (l0 : Int32) (l1 : Int32) {ls : Array Slot} {H : Heap} {locs : List Loc}, lv_has ls 2 [(0, .int l0), (1, .int l1)] → va_P D hq_cl w H → va_D A w → va_S A s.heap H locs → sjn_numberOfTrailingZeros_J34 l0 l1 = ur → W p l e R s m args below meth c H locs 0 0 Q (F0 m 34 ls []) := by
    intro l0 l1 ls H locs hl hP hD hS h
    unfold sjn_numberOfTrailingZeros_J34 at h
    refine lv_iload_n hx hb djn_numberOfTrailingZeros_34 rfl (lv_at hl 0 rfl) ?_
    refine lv_sipush (v := 256) hx hb djn_numberOfTrailingZeros_35 (by decide) ?_
    refine lv_icmp_le (tgt := 49) hx hb djn_numberOfTrailingZeros_38 (by decide) (fun hc => ?_) (fun hc => ?_)
    · have h := (if_pos hc).symm.trans h
      exact J49 l0 l1 hl hP hD hS h
    · have h := (if_neg hc).symm.trans h
      refine lv_iinc (k := 1) (v := l1 + 8) (lv' := [(1, .int (l1 + 8)), (0, .int l0)]) hx hb djn_numberOfTrailingZeros_41 hl rfl (congrArg (fun j => l1 + j) (by decide)) (by decide) rfl (fun ls hl => ?_)
      refine lv_iload_n hx hb djn_numberOfTrailingZeros_44 rfl (lv_at hl 1 rfl) ?_
      refine lv_bipush (v := 8) hx hb djn_numberOfTrailingZeros_45 (by decide) ?_
      refine lv_iushr (v := (l0.toUInt32 >>> ((8 : Int32).toUInt32 &&& Int32.toUInt32 31)).toInt32) hx hb djn_numberOfTrailingZeros_47 rfl ?_
      refine lv_istore_n (lv' := [(0, .int ((l0.toUInt32 >>> ((8 : Int32).toUInt32 &&& Int32.toUInt32 31)).toInt32)), (1, .int (l1 + 8))]) hx hb djn_numberOfTrailingZeros_48 rfl hl (by decide) rfl (fun ls hl => ?_)
      exact J49 ((l0.toUInt32 >>> ((8 : Int32).toUInt32 &&& Int32.toUInt32 31)).toInt32) (l1 + 8) hl hP hD hS h
  refine lv_iload_n hx hb djn_numberOfTrailingZeros_0 rfl (lv_at hl 0 rfl) ?_
  refine lv_iconst (v := (-1)) hx hb djn_numberOfTrailingZeros_1 (by decide) ?_
  refine lv_ixor hx hb djn_numberOfTrailingZeros_2 ?_
  refine lv_iload_n hx hb djn_numberOfTrailingZeros_3 rfl (lv_at hl 0 rfl) ?_
  refine lv_iconst (v := 1) hx hb djn_numberOfTrailingZeros_4 (by decide) ?_
  refine lv_isub hx hb djn_numberOfTrailingZeros_5 ?_
  refine lv_iand hx hb djn_numberOfTrailingZeros_6 ?_
  refine lv_istore_n (lv' := [(0, .int ((l0 ^^^ (-1)) &&& (l0 - 1)))]) hx hb djn_numberOfTrailingZeros_7 rfl hl (by decide) rfl (fun ls hl => ?_)
  refine lv_iload_n hx hb djn_numberOfTrailingZeros_8 rfl (lv_at hl 0 rfl) ?_
  refine lv_if_gt (tgt := 17) hx hb djn_numberOfTrailingZeros_9 (by decide) (fun hc => ?_) (fun hc => ?_)
  · have h := (if_pos hc).symm.trans h
    refine lv_iconst (v := 1) hx hb djn_numberOfTrailingZeros_17 (by decide) ?_
    refine lv_istore_n (lv' := [(1, .int 1), (0, .int ((l0 ^^^ (-1)) &&& (l0 - 1)))]) hx hb djn_numberOfTrailingZeros_18 rfl hl (by decide) rfl (fun ls hl => ?_)
    refine lv_iload_n hx hb djn_numberOfTrailingZeros_19 rfl (lv_at hl 1 rfl) ?_
    refine lv_ldcw (v := 65536) hx hb hown (hts _ wi_27) djn_numberOfTrailingZeros_20 ?_
    refine lv_icmp_le (tgt := 34) hx hb djn_numberOfTrailingZeros_23 (by decide) (fun hc => ?_) (fun hc => ?_)
    · have h := (if_pos hc).symm.trans h
      exact J34 ((l0 ^^^ (-1)) &&& (l0 - 1)) 1 (lv_sub hl [1, 0] rfl) hP hD hS h
    · have h := (if_neg hc).symm.trans h
      refine lv_iinc (k := 0) (v := 1 + 16) (lv' := [(1, .int (1 + 16)), (0, .int ((l0 ^^^ (-1)) &&& (l0 - 1)))]) hx hb djn_numberOfTrailingZeros_26 hl rfl (congrArg (fun j => 1 + j) (by decide)) (by decide) rfl (fun ls hl => ?_)
      refine lv_iload_n hx hb djn_numberOfTrailingZeros_29 rfl (lv_at hl 1 rfl) ?_
      refine lv_bipush (v := 16) hx hb djn_numberOfTrailingZeros_30 (by decide) ?_
      refine lv_iushr (v := (((l0 ^^^ (-1)) &&& (l0 - 1)).toUInt32 >>> ((16 : Int32).toUInt32 &&& Int32.toUInt32 31)).toInt32) hx hb djn_numberOfTrailingZeros_32 rfl ?_
      refine lv_istore_n (lv' := [(0, .int ((((l0 ^^^ (-1)) &&& (l0 - 1)).toUInt32 >>> ((16 : Int32).toUInt32 &&& Int32.toUInt32 31)).toInt32)), (1, .int (1 + 16))]) hx hb djn_numberOfTrailingZeros_33 rfl hl (by decide) rfl (fun ls hl => ?_)
      exact J34 ((((l0 ^^^ (-1)) &&& (l0 - 1)).toUInt32 >>> ((16 : Int32).toUInt32 &&& Int32.toUInt32 31)).toInt32) (1 + 16) hl hP hD hS h
  · have h := (if_neg hc).symm.trans h
    refine lv_iload_n hx hb djn_numberOfTrailingZeros_12 rfl (lv_at hl 0 rfl) ?_
    refine lv_bipush (v := 32) hx hb djn_numberOfTrailingZeros_13 (by decide) ?_
    refine lv_iand hx hb djn_numberOfTrailingZeros_15 ?_
    exact hq_iret hx hb hr hlocks hQ hK hP hD hS (by rw [← h]) rfl djn_numberOfTrailingZeros_16
end
section
variable {p : Program} {l : Launch} {e : Env} {R : Room} {s : State} {m : MethodId} {args : Array Value} {below : List Frame} {meth : Method} {c : Code} {H H0 : Heap} {locs : List Loc} {cells slots : Nat} {Q : State → Prop}
variable {cc : ByteArray} {pc idx nC : Nat} {ls : Array Slot} {rest : List Value} {D : va_G} {A : Nat → Prop} {own : String} {q : Nat → Nat} {cI cZ cL : ClassId} {z w : va_W}
theorem kjn_numberOfTrailingZeros (l0 : Int32) (ur : Int32) (hu : sjn_numberOfTrailingZeros l0 = ur) (hx : p.tables.exec = Jvm.exec) (hb : c.code = cc) (hml : c.maxLocals = nC) (hts : ∀ x ∈ hq_tbl, x.before args s = true) (hown : s.vm.findClass own = some m.cls) (hK : va_K D hq_cl (hq_tys cI cZ cL) s) (hP : va_P D hq_cl w H) (hD : va_D A w) (hS : va_S A H0 H locs) (h1 : Cond.methodLink own idx yjn_numberOfTrailingZeros ∈ hq_tbl) (hR : 0 + 1 ≤ R.frames ∧ 8 + (2 + 11) + 0 ≤ R.locals) (hls : ls.size = nC) (hW : (rest.map fun v => v.category).sum ≤ 8) (hdg : decode cc pc = .ok (.invokestatic idx, 3)) (hf : cells + 0 ≤ R.cells ∧ slots + 0 ≤ R.slots) (kk : ∀ (H1 : Heap) (locs1 : List Loc), va_P D hq_cl w H1 → va_D A w → va_S A H0 H1 locs1 → W p l e R s m args below meth c H1 locs1 cells slots Q (F0 m (pc + 3) ls (.int ur :: rest))) : W p l e R s m args below meth c H locs cells slots Q (F0 m pc ls (.int l0 :: rest)) :=
  hq_callS hx hb hml hown hts hK hP hD hS (cjn_numberOfTrailingZeros l0 ur hu) h1 wi_254 wi_255 wi_256 1 rfl (by decide +kernel) ⟨rfl, rfl⟩ hR hls rfl hW hdg hf kk
end
theorem dxv_kindOf_0 : decode bxv_kindOf 0 = .ok (.lload_n 0, 1) := by decide +kernel
theorem dxv_kindOf_1 : decode bxv_kindOf 1 = .ok (.bipush 32, 2) := by decide +kernel
theorem dxv_kindOf_3 : decode bxv_kindOf 3 = .ok (.lushr, 1) := by decide +kernel
theorem dxv_kindOf_4 : decode bxv_kindOf 4 = .ok (.l2i, 1) := by decide +kernel
theorem dxv_kindOf_5 : decode bxv_kindOf 5 = .ok (.ireturn, 1) := by decide +kernel
section
variable {l : Launch} {D : va_G} {A : Nat → Prop} {z w : va_W} {q : Nat → Nat} {cI cZ cL : ClassId}
set_option maxHeartbeats 4000000 in
set_option maxRecDepth 100000 in
theorem cxv_kindOf (l0 : Int64) (ur : Int32) (h : sxv_kindOf l0 = ur) : hq_Ct l yxv_kindOf bxv_kindOf 2 (some .int) { frames := 0, cells := 0, slots := 0, locals := 0 } D (hq_tys cI cZ cL) A [.long l0] w w (some (.int ur)) 0 0 := by
  refine hq_of (by decide) ?_ (Nat.le_of_ble_eq_true rfl)
  intro p e s m below meth c R args Q hRm hQ hx hb hr hml hts hown hlocks hnm hP hK hD ls hl hS
  have hl : lv_has ls 2 [(0, .long l0)] := hl
  have hown : s.vm.findClass "HeapQueries$Value" = some m.cls := hown
  unfold sxv_kindOf at h
  refine lv_lload_n hx hb dxv_kindOf_0 rfl (lv_at hl 0 rfl) ?_
  refine lv_bipush (v := 32) hx hb dxv_kindOf_1 (by decide) ?_
  refine lv_lushr (v := (l0.toUInt64 >>> ((32 : Int32).toInt64.toUInt64 &&& Int64.toUInt64 63)).toInt64) hx hb dxv_kindOf_3 rfl ?_
  refine lv_l2i (v := ((l0.toUInt64 >>> ((32 : Int32).toInt64.toUInt64 &&& Int64.toUInt64 63)).toInt64).toInt32) hx hb dxv_kindOf_4 rfl ?_
  exact hq_iret hx hb hr hlocks hQ hK hP hD hS (by rw [← h]) rfl dxv_kindOf_5
end
section
variable {p : Program} {l : Launch} {e : Env} {R : Room} {s : State} {m : MethodId} {args : Array Value} {below : List Frame} {meth : Method} {c : Code} {H H0 : Heap} {locs : List Loc} {cells slots : Nat} {Q : State → Prop}
variable {cc : ByteArray} {pc idx nC : Nat} {ls : Array Slot} {rest : List Value} {D : va_G} {A : Nat → Prop} {own : String} {q : Nat → Nat} {cI cZ cL : ClassId} {z w : va_W}
theorem kxv_kindOf (l0 : Int64) (ur : Int32) (hu : sxv_kindOf l0 = ur) (hx : p.tables.exec = Jvm.exec) (hb : c.code = cc) (hml : c.maxLocals = nC) (hts : ∀ x ∈ hq_tbl, x.before args s = true) (hown : s.vm.findClass own = some m.cls) (hK : va_K D hq_cl (hq_tys cI cZ cL) s) (hP : va_P D hq_cl w H) (hD : va_D A w) (hS : va_S A H0 H locs) (h1 : Cond.methodLink own idx yxv_kindOf ∈ hq_tbl) (hR : 0 + 1 ≤ R.frames ∧ 8 + (2 + 11) + 0 ≤ R.locals) (hls : ls.size = nC) (hW : (rest.map fun v => v.category).sum ≤ 8) (hdg : decode cc pc = .ok (.invokestatic idx, 3)) (hf : cells + 0 ≤ R.cells ∧ slots + 0 ≤ R.slots) (kk : ∀ (H1 : Heap) (locs1 : List Loc), va_P D hq_cl w H1 → va_D A w → va_S A H0 H1 locs1 → W p l e R s m args below meth c H1 locs1 cells slots Q (F0 m (pc + 3) ls (.int ur :: rest))) : W p l e R s m args below meth c H locs cells slots Q (F0 m pc ls (.long l0 :: rest)) :=
  hq_callS hx hb hml hown hts hK hP hD hS (cxv_kindOf l0 ur hu) h1 wi_322 wi_224 wi_323 1 rfl (by decide +kernel) ⟨rfl, rfl⟩ hR hls rfl hW hdg hf kk
end
theorem dxv_isError_0 : decode bxv_isError 0 = .ok (.lload_n 0, 1) := by decide +kernel
theorem dxv_isError_1 : decode bxv_isError 1 = .ok (.bipush 32, 2) := by decide +kernel
theorem dxv_isError_3 : decode bxv_isError 3 = .ok (.lushr, 1) := by decide +kernel
theorem dxv_isError_4 : decode bxv_isError 4 = .ok (.ldc2_w 23, 3) := by decide +kernel
theorem dxv_isError_7 : decode bxv_isError 7 = .ok (.lcmp, 1) := by decide +kernel
theorem dxv_isError_8 : decode bxv_isError 8 = .ok (.ifCond .ne 7, 3) := by decide +kernel
theorem dxv_isError_11 : decode bxv_isError 11 = .ok (.iconst 1, 1) := by decide +kernel
theorem dxv_isError_12 : decode bxv_isError 12 = .ok (.goto 4, 3) := by decide +kernel
theorem dxv_isError_15 : decode bxv_isError 15 = .ok (.iconst 0, 1) := by decide +kernel
theorem dxv_isError_16 : decode bxv_isError 16 = .ok (.ireturn, 1) := by decide +kernel
section
variable {l : Launch} {D : va_G} {A : Nat → Prop} {z w : va_W} {q : Nat → Nat} {cI cZ cL : ClassId}
set_option maxHeartbeats 4000000 in
set_option maxRecDepth 100000 in
theorem cxv_isError (l0 : Int64) (ur : Int32) (h : sxv_isError l0 = ur) : hq_Ct l yxv_isError bxv_isError 2 (some .boolean) { frames := 0, cells := 0, slots := 0, locals := 0 } D (hq_tys cI cZ cL) A [.long l0] w w (some (.int ur)) 0 0 := by
  refine hq_of (by decide) ?_ (Nat.le_of_ble_eq_true rfl)
  intro p e s m below meth c R args Q hRm hQ hx hb hr hml hts hown hlocks hnm hP hK hD ls hl hS
  have hl : lv_has ls 2 [(0, .long l0)] := hl
  have hown : s.vm.findClass "HeapQueries$Value" = some m.cls := hown
  unfold sxv_isError at h
  refine lv_lload_n hx hb dxv_isError_0 rfl (lv_at hl 0 rfl) ?_
  refine lv_bipush (v := 32) hx hb dxv_isError_1 (by decide) ?_
  refine lv_lushr (v := (l0.toUInt64 >>> ((32 : Int32).toInt64.toUInt64 &&& Int64.toUInt64 63)).toInt64) hx hb dxv_isError_3 rfl ?_
  refine lv_ldc2 (v := 3) hx hb hown (hts _ wi_142) dxv_isError_4 ?_
  refine W.lcmp hx hb dxv_isError_7 ?_
  refine lv_if_ne (tgt := 15) hx hb dxv_isError_8 (by decide) (fun hc => ?_) (fun hc => ?_)
  · have h := (if_neg hc).symm.trans h
    refine lv_iconst (v := 0) hx hb dxv_isError_15 (by decide) ?_
    exact hq_zret hx hb hr hlocks hQ hK hP hD hS (by decide) (by rw [← h]) rfl dxv_isError_16
  · have h := (if_pos hc).symm.trans h
    refine lv_iconst (v := 1) hx hb dxv_isError_11 (by decide) ?_
    refine lv_goto (tgt := 16) hx hb dxv_isError_12 (by decide) ?_
    exact hq_zret hx hb hr hlocks hQ hK hP hD hS (by decide) (by rw [← h]) rfl dxv_isError_16
end
section
variable {p : Program} {l : Launch} {e : Env} {R : Room} {s : State} {m : MethodId} {args : Array Value} {below : List Frame} {meth : Method} {c : Code} {H H0 : Heap} {locs : List Loc} {cells slots : Nat} {Q : State → Prop}
variable {cc : ByteArray} {pc idx nC : Nat} {ls : Array Slot} {rest : List Value} {D : va_G} {A : Nat → Prop} {own : String} {q : Nat → Nat} {cI cZ cL : ClassId} {z w : va_W}
theorem kxv_isError (l0 : Int64) (ur : Int32) (hu : sxv_isError l0 = ur) (hx : p.tables.exec = Jvm.exec) (hb : c.code = cc) (hml : c.maxLocals = nC) (hts : ∀ x ∈ hq_tbl, x.before args s = true) (hown : s.vm.findClass own = some m.cls) (hK : va_K D hq_cl (hq_tys cI cZ cL) s) (hP : va_P D hq_cl w H) (hD : va_D A w) (hS : va_S A H0 H locs) (h1 : Cond.methodLink own idx yxv_isError ∈ hq_tbl) (hR : 0 + 1 ≤ R.frames ∧ 8 + (2 + 11) + 0 ≤ R.locals) (hls : ls.size = nC) (hW : (rest.map fun v => v.category).sum ≤ 8) (hdg : decode cc pc = .ok (.invokestatic idx, 3)) (hf : cells + 0 ≤ R.cells ∧ slots + 0 ≤ R.slots) (kk : ∀ (H1 : Heap) (locs1 : List Loc), va_P D hq_cl w H1 → va_D A w → va_S A H0 H1 locs1 → W p l e R s m args below meth c H1 locs1 cells slots Q (F0 m (pc + 3) ls (.int ur :: rest))) : W p l e R s m args below meth c H locs cells slots Q (F0 m pc ls (.long l0 :: rest)) :=
  hq_callS hx hb hml hown hts hK hP hD hS (cxv_isError l0 ur hu) h1 wi_485 wi_224 wi_486 1 rfl (by decide +kernel) ⟨rfl, rfl⟩ hR hls rfl hW hdg hf kk
end
theorem dxv_error_0 : decode bxv_error 0 = .ok (.ldc2_w 17, 3) := by decide +kernel
theorem dxv_error_3 : decode bxv_error 3 = .ok (.iload_n 0, 1) := by decide +kernel
theorem dxv_error_4 : decode bxv_error 4 = .ok (.i2l, 1) := by decide +kernel
theorem dxv_error_5 : decode bxv_error 5 = .ok (.ldc2_w 13, 3) := by decide +kernel
theorem dxv_error_8 : decode bxv_error 8 = .ok (.land, 1) := by decide +kernel
theorem dxv_error_9 : decode bxv_error 9 = .ok (.lor, 1) := by decide +kernel
theorem dxv_error_10 : decode bxv_error 10 = .ok (.lreturn, 1) := by decide +kernel
section
variable {l : Launch} {D : va_G} {A : Nat → Prop} {z w : va_W} {q : Nat → Nat} {cI cZ cL : ClassId}
set_option maxHeartbeats 4000000 in
set_option maxRecDepth 100000 in
theorem cxv_error (l0 : Int32) (ur : Int64) (h : sxv_error l0 = ur) : hq_Ct l yxv_error bxv_error 1 (some .long) { frames := 0, cells := 0, slots := 0, locals := 0 } D (hq_tys cI cZ cL) A [.int l0] w w (some (.long ur)) 0 0 := by
  refine hq_of (by decide) ?_ (Nat.le_of_ble_eq_true rfl)
  intro p e s m below meth c R args Q hRm hQ hx hb hr hml hts hown hlocks hnm hP hK hD ls hl hS
  have hl : lv_has ls 1 [(0, .int l0)] := hl
  have hown : s.vm.findClass "HeapQueries$Value" = some m.cls := hown
  unfold sxv_error at h
  refine lv_ldc2 (v := 12884901888) hx hb hown (hts _ wi_143) dxv_error_0 ?_
  refine lv_iload_n hx hb dxv_error_3 rfl (lv_at hl 0 rfl) ?_
  refine lv_i2l (v := l0.toInt64) hx hb dxv_error_4 rfl ?_
  refine lv_ldc2 (v := 4294967295) hx hb hown (hts _ wi_12) dxv_error_5 ?_
  refine lv_land hx hb dxv_error_8 ?_
  refine lv_lor hx hb dxv_error_9 ?_
  exact hq_lret hx hb hr hlocks hQ hK hP hD hS (by rw [← h]) rfl dxv_error_10
end
section
variable {p : Program} {l : Launch} {e : Env} {R : Room} {s : State} {m : MethodId} {args : Array Value} {below : List Frame} {meth : Method} {c : Code} {H H0 : Heap} {locs : List Loc} {cells slots : Nat} {Q : State → Prop}
variable {cc : ByteArray} {pc idx nC : Nat} {ls : Array Slot} {rest : List Value} {D : va_G} {A : Nat → Prop} {own : String} {q : Nat → Nat} {cI cZ cL : ClassId} {z w : va_W}
theorem kxv_error (l0 : Int32) (ur : Int64) (hu : sxv_error l0 = ur) (hx : p.tables.exec = Jvm.exec) (hb : c.code = cc) (hml : c.maxLocals = nC) (hts : ∀ x ∈ hq_tbl, x.before args s = true) (hown : s.vm.findClass own = some m.cls) (hK : va_K D hq_cl (hq_tys cI cZ cL) s) (hP : va_P D hq_cl w H) (hD : va_D A w) (hS : va_S A H0 H locs) (h1 : Cond.methodLink own idx yxv_error ∈ hq_tbl) (hR : 0 + 1 ≤ R.frames ∧ 8 + (1 + 11) + 0 ≤ R.locals) (hls : ls.size = nC) (hW : (rest.map fun v => v.category).sum ≤ 8) (hdg : decode cc pc = .ok (.invokestatic idx, 3)) (hf : cells + 0 ≤ R.cells ∧ slots + 0 ≤ R.slots) (kk : ∀ (H1 : Heap) (locs1 : List Loc), va_P D hq_cl w H1 → va_D A w → va_S A H0 H1 locs1 → W p l e R s m args below meth c H1 locs1 cells slots Q (F0 m (pc + 3) ls (.long ur :: rest))) : W p l e R s m args below meth c H locs cells slots Q (F0 m pc ls (.int l0 :: rest)) :=
  hq_callS hx hb hml hown hts hK hP hD hS (cxv_error l0 ur hu) h1 wi_487 wi_224 wi_488 1 rfl (by decide +kernel) ⟨rfl, rfl⟩ hR hls rfl hW hdg hf kk
end
theorem dxv_flag_0 : decode bxv_flag 0 = .ok (.iload_n 0, 1) := by decide +kernel
theorem dxv_flag_1 : decode bxv_flag 1 = .ok (.ifCond .eq 9, 3) := by decide +kernel
theorem dxv_flag_4 : decode bxv_flag 4 = .ok (.ldc2_w 19, 3) := by decide +kernel
theorem dxv_flag_7 : decode bxv_flag 7 = .ok (.goto 6, 3) := by decide +kernel
theorem dxv_flag_10 : decode bxv_flag 10 = .ok (.ldc2_w 11, 3) := by decide +kernel
theorem dxv_flag_13 : decode bxv_flag 13 = .ok (.lreturn, 1) := by decide +kernel
section
variable {l : Launch} {D : va_G} {A : Nat → Prop} {z w : va_W} {q : Nat → Nat} {cI cZ cL : ClassId}
set_option maxHeartbeats 4000000 in
set_option maxRecDepth 100000 in
theorem cxv_flag (l0 : Int32) (ur : Int64) (h : sxv_flag l0 = ur) : hq_Ct l yxv_flag bxv_flag 1 (some .long) { frames := 0, cells := 0, slots := 0, locals := 0 } D (hq_tys cI cZ cL) A [.int l0] w w (some (.long ur)) 0 0 := by
  refine hq_of (by decide) ?_ (Nat.le_of_ble_eq_true rfl)
  intro p e s m below meth c R args Q hRm hQ hx hb hr hml hts hown hlocks hnm hP hK hD ls hl hS
  have hl : lv_has ls 1 [(0, .int l0)] := hl
  have hown : s.vm.findClass "HeapQueries$Value" = some m.cls := hown
  unfold sxv_flag at h
  refine lv_iload_n hx hb dxv_flag_0 rfl (lv_at hl 0 rfl) ?_
  refine lv_if_eq (tgt := 10) hx hb dxv_flag_1 (by decide) (fun hc => ?_) (fun hc => ?_)
  · have h := (if_pos hc).symm.trans h
    refine lv_ldc2 (v := 4294967296) hx hb hown (hts _ wi_11) dxv_flag_10 ?_
    exact hq_lret hx hb hr hlocks hQ hK hP hD hS (by rw [← h]) rfl dxv_flag_13
  · have h := (if_neg hc).symm.trans h
    refine lv_ldc2 (v := 4294967297) hx hb hown (hts _ wi_144) dxv_flag_4 ?_
    refine lv_goto (tgt := 13) hx hb dxv_flag_7 (by decide) ?_
    exact hq_lret hx hb hr hlocks hQ hK hP hD hS (by rw [← h]) rfl dxv_flag_13
end
section
variable {p : Program} {l : Launch} {e : Env} {R : Room} {s : State} {m : MethodId} {args : Array Value} {below : List Frame} {meth : Method} {c : Code} {H H0 : Heap} {locs : List Loc} {cells slots : Nat} {Q : State → Prop}
variable {cc : ByteArray} {pc idx nC : Nat} {ls : Array Slot} {rest : List Value} {D : va_G} {A : Nat → Prop} {own : String} {q : Nat → Nat} {cI cZ cL : ClassId} {z w : va_W}
theorem kxv_flag (l0 : Int32) (ur : Int64) (hu : sxv_flag l0 = ur) (hx : p.tables.exec = Jvm.exec) (hb : c.code = cc) (hml : c.maxLocals = nC) (hts : ∀ x ∈ hq_tbl, x.before args s = true) (hown : s.vm.findClass own = some m.cls) (hK : va_K D hq_cl (hq_tys cI cZ cL) s) (hP : va_P D hq_cl w H) (hD : va_D A w) (hS : va_S A H0 H locs) (h1 : Cond.methodLink own idx yxv_flag ∈ hq_tbl) (hR : 0 + 1 ≤ R.frames ∧ 8 + (1 + 11) + 0 ≤ R.locals) (hls : ls.size = nC) (hW : (rest.map fun v => v.category).sum ≤ 8) (hdg : decode cc pc = .ok (.invokestatic idx, 3)) (hf : cells + 0 ≤ R.cells ∧ slots + 0 ≤ R.slots) (kk : ∀ (H1 : Heap) (locs1 : List Loc), va_P D hq_cl w H1 → va_D A w → va_S A H0 H1 locs1 → W p l e R s m args below meth c H1 locs1 cells slots Q (F0 m (pc + 3) ls (.long ur :: rest))) : W p l e R s m args below meth c H locs cells slots Q (F0 m pc ls (.int l0 :: rest)) :=
  hq_callS hx hb hml hown hts hK hP hD hS (cxv_flag l0 ur hu) h1 wi_489 wi_224 wi_490 1 rfl (by decide +kernel) ⟨rfl, rfl⟩ hR hls rfl hW hdg hf kk
end
theorem dxv_truthOf_0 : decode bxv_truthOf 0 = .ok (.lload_n 0, 1) := by decide +kernel
theorem dxv_truthOf_1 : decode bxv_truthOf 1 = .ok (.invokestatic 25, 3) := by decide +kernel
theorem dxv_truthOf_4 : decode bxv_truthOf 4 = .ok (.ifCond .eq 5, 3) := by decide +kernel
theorem dxv_truthOf_7 : decode bxv_truthOf 7 = .ok (.lload_n 0, 1) := by decide +kernel
theorem dxv_truthOf_8 : decode bxv_truthOf 8 = .ok (.lreturn, 1) := by decide +kernel
theorem dxv_truthOf_9 : decode bxv_truthOf 9 = .ok (.lload_n 0, 1) := by decide +kernel
theorem dxv_truthOf_10 : decode bxv_truthOf 10 = .ok (.invokestatic 29, 3) := by decide +kernel
theorem dxv_truthOf_13 : decode bxv_truthOf 13 = .ok (.ifCond .eq 9, 3) := by decide +kernel
theorem dxv_truthOf_16 : decode bxv_truthOf 16 = .ok (.bipush (-3), 2) := by decide +kernel
theorem dxv_truthOf_18 : decode bxv_truthOf 18 = .ok (.invokestatic 32, 3) := by decide +kernel
theorem dxv_truthOf_21 : decode bxv_truthOf 21 = .ok (.lreturn, 1) := by decide +kernel
theorem dxv_truthOf_22 : decode bxv_truthOf 22 = .ok (.lload_n 0, 1) := by decide +kernel
theorem dxv_truthOf_23 : decode bxv_truthOf 23 = .ok (.lconst 0, 1) := by decide +kernel
theorem dxv_truthOf_24 : decode bxv_truthOf 24 = .ok (.lcmp, 1) := by decide +kernel
theorem dxv_truthOf_25 : decode bxv_truthOf 25 = .ok (.ifCond .eq 15, 3) := by decide +kernel
theorem dxv_truthOf_28 : decode bxv_truthOf 28 = .ok (.lload_n 0, 1) := by decide +kernel
theorem dxv_truthOf_29 : decode bxv_truthOf 29 = .ok (.ldc2_w 11, 3) := by decide +kernel
theorem dxv_truthOf_32 : decode bxv_truthOf 32 = .ok (.lcmp, 1) := by decide +kernel
theorem dxv_truthOf_33 : decode bxv_truthOf 33 = .ok (.ifCond .eq 7, 3) := by decide +kernel
theorem dxv_truthOf_36 : decode bxv_truthOf 36 = .ok (.iconst 1, 1) := by decide +kernel
theorem dxv_truthOf_37 : decode bxv_truthOf 37 = .ok (.goto 4, 3) := by decide +kernel
theorem dxv_truthOf_40 : decode bxv_truthOf 40 = .ok (.iconst 0, 1) := by decide +kernel
theorem dxv_truthOf_41 : decode bxv_truthOf 41 = .ok (.invokestatic 36, 3) := by decide +kernel
theorem dxv_truthOf_44 : decode bxv_truthOf 44 = .ok (.lreturn, 1) := by decide +kernel
section
variable {l : Launch} {D : va_G} {A : Nat → Prop} {z w : va_W} {q : Nat → Nat} {cI cZ cL : ClassId}
set_option maxHeartbeats 4000000 in
set_option maxRecDepth 100000 in
theorem cxv_truthOf (l0 : Int64) (ur : Int64) (h : sxv_truthOf l0 = ur) : hq_Ct l yxv_truthOf bxv_truthOf 2 (some .long) { frames := 1, cells := 0, slots := 0, locals := 21 } D (hq_tys cI cZ cL) A [.long l0] w w (some (.long ur)) 0 0 := by
  refine hq_of (by decide) ?_ (Nat.le_of_ble_eq_true rfl)
  intro p e s m below meth c R args Q hRm hQ hx hb hr hml hts hown hlocks hnm hP hK hD ls hl hS
  have hl : lv_has ls 2 [(0, .long l0)] := hl
  have hown : s.vm.findClass "HeapQueries$Value" = some m.cls := hown
  unfold sxv_truthOf at h
  refine lv_lload_n hx hb dxv_truthOf_0 rfl (lv_at hl 0 rfl) ?_
  refine kxv_isError l0 (sxv_isError l0) rfl hx hb hml hts hown hK hP hD hS wi_145 (by rw [hRm]; exact ⟨Nat.le_of_ble_eq_true rfl, Nat.le_of_ble_eq_true rfl⟩) hl.1 (Nat.le_of_ble_eq_true rfl) dxv_truthOf_1 ⟨Nat.zero_le _, Nat.zero_le _⟩ (fun H locs hP hD hS => ?_)
  refine lv_if_eq (tgt := 9) hx hb dxv_truthOf_4 (by decide) (fun hc => ?_) (fun hc => ?_)
  · have h := (if_pos hc).symm.trans h
    refine lv_lload_n hx hb dxv_truthOf_9 rfl (lv_at hl 0 rfl) ?_
    refine kxv_isLink l0 (sxv_isLink l0) rfl hx hb hml hts hown hK hP hD hS wi_146 (by rw [hRm]; exact ⟨Nat.le_of_ble_eq_true rfl, Nat.le_of_ble_eq_true rfl⟩) hl.1 (Nat.le_of_ble_eq_true rfl) dxv_truthOf_10 ⟨Nat.zero_le _, Nat.zero_le _⟩ (fun H locs hP hD hS => ?_)
    refine lv_if_eq (tgt := 22) hx hb dxv_truthOf_13 (by decide) (fun hc => ?_) (fun hc => ?_)
    · have h := (if_pos hc).symm.trans h
      refine lv_lload_n hx hb dxv_truthOf_22 rfl (lv_at hl 0 rfl) ?_
      refine lv_lconst (v := 0) hx hb dxv_truthOf_23 (by decide) ?_
      refine W.lcmp hx hb dxv_truthOf_24 ?_
      refine lv_if_eq (tgt := 40) hx hb dxv_truthOf_25 (by decide) (fun hc => ?_) (fun hc => ?_)
      · have h := (if_pos hc).symm.trans h
        refine lv_iconst (v := 0) hx hb dxv_truthOf_40 (by decide) ?_
        refine kxv_flag 0 (sxv_flag 0) rfl hx hb hml hts hown hK hP hD hS wi_147 (by rw [hRm]; exact ⟨Nat.le_of_ble_eq_true rfl, Nat.le_of_ble_eq_true rfl⟩) hl.1 (Nat.le_of_ble_eq_true rfl) dxv_truthOf_41 ⟨Nat.zero_le _, Nat.zero_le _⟩ (fun H locs hP hD hS => ?_)
        exact hq_lret hx hb hr hlocks hQ hK hP hD hS (by rw [← h]) rfl dxv_truthOf_44
      · have h := (if_neg hc).symm.trans h
        refine lv_lload_n hx hb dxv_truthOf_28 rfl (lv_at hl 0 rfl) ?_
        refine lv_ldc2 (v := 4294967296) hx hb hown (hts _ wi_11) dxv_truthOf_29 ?_
        refine W.lcmp hx hb dxv_truthOf_32 ?_
        refine lv_if_eq (tgt := 40) hx hb dxv_truthOf_33 (by decide) (fun hc => ?_) (fun hc => ?_)
        · have h := (if_pos hc).symm.trans h
          refine lv_iconst (v := 0) hx hb dxv_truthOf_40 (by decide) ?_
          refine kxv_flag 0 (sxv_flag 0) rfl hx hb hml hts hown hK hP hD hS wi_147 (by rw [hRm]; exact ⟨Nat.le_of_ble_eq_true rfl, Nat.le_of_ble_eq_true rfl⟩) hl.1 (Nat.le_of_ble_eq_true rfl) dxv_truthOf_41 ⟨Nat.zero_le _, Nat.zero_le _⟩ (fun H locs hP hD hS => ?_)
          exact hq_lret hx hb hr hlocks hQ hK hP hD hS (by rw [← h]) rfl dxv_truthOf_44
        · have h := (if_neg hc).symm.trans h
          refine lv_iconst (v := 1) hx hb dxv_truthOf_36 (by decide) ?_
          refine lv_goto (tgt := 41) hx hb dxv_truthOf_37 (by decide) ?_
          refine kxv_flag 1 (sxv_flag 1) rfl hx hb hml hts hown hK hP hD hS wi_147 (by rw [hRm]; exact ⟨Nat.le_of_ble_eq_true rfl, Nat.le_of_ble_eq_true rfl⟩) hl.1 (Nat.le_of_ble_eq_true rfl) dxv_truthOf_41 ⟨Nat.zero_le _, Nat.zero_le _⟩ (fun H locs hP hD hS => ?_)
          exact hq_lret hx hb hr hlocks hQ hK hP hD hS (by rw [← h]) rfl dxv_truthOf_44
    · have h := (if_neg hc).symm.trans h
      refine lv_bipush (v := (-3)) hx hb dxv_truthOf_16 (by decide) ?_
      refine kxv_error (-3) (sxv_error (-3)) rfl hx hb hml hts hown hK hP hD hS wi_148 (by rw [hRm]; exact ⟨Nat.le_of_ble_eq_true rfl, Nat.le_of_ble_eq_true rfl⟩) hl.1 (Nat.le_of_ble_eq_true rfl) dxv_truthOf_18 ⟨Nat.zero_le _, Nat.zero_le _⟩ (fun H locs hP hD hS => ?_)
      exact hq_lret hx hb hr hlocks hQ hK hP hD hS (by rw [← h]) rfl dxv_truthOf_21
  · have h := (if_neg hc).symm.trans h
    refine lv_lload_n hx hb dxv_truthOf_7 rfl (lv_at hl 0 rfl) ?_
    exact hq_lret hx hb hr hlocks hQ hK hP hD hS (by rw [← h]) rfl dxv_truthOf_8
end
section
variable {p : Program} {l : Launch} {e : Env} {R : Room} {s : State} {m : MethodId} {args : Array Value} {below : List Frame} {meth : Method} {c : Code} {H H0 : Heap} {locs : List Loc} {cells slots : Nat} {Q : State → Prop}
variable {cc : ByteArray} {pc idx nC : Nat} {ls : Array Slot} {rest : List Value} {D : va_G} {A : Nat → Prop} {own : String} {q : Nat → Nat} {cI cZ cL : ClassId} {z w : va_W}
theorem kxv_truthOf (l0 : Int64) (ur : Int64) (hu : sxv_truthOf l0 = ur) (hx : p.tables.exec = Jvm.exec) (hb : c.code = cc) (hml : c.maxLocals = nC) (hts : ∀ x ∈ hq_tbl, x.before args s = true) (hown : s.vm.findClass own = some m.cls) (hK : va_K D hq_cl (hq_tys cI cZ cL) s) (hP : va_P D hq_cl w H) (hD : va_D A w) (hS : va_S A H0 H locs) (h1 : Cond.methodLink own idx yxv_truthOf ∈ hq_tbl) (hR : 1 + 1 ≤ R.frames ∧ 8 + (2 + 11) + 21 ≤ R.locals) (hls : ls.size = nC) (hW : (rest.map fun v => v.category).sum ≤ 8) (hdg : decode cc pc = .ok (.invokestatic idx, 3)) (hf : cells + 0 ≤ R.cells ∧ slots + 0 ≤ R.slots) (kk : ∀ (H1 : Heap) (locs1 : List Loc), va_P D hq_cl w H1 → va_D A w → va_S A H0 H1 locs1 → W p l e R s m args below meth c H1 locs1 cells slots Q (F0 m (pc + 3) ls (.long ur :: rest))) : W p l e R s m args below meth c H locs cells slots Q (F0 m pc ls (.long l0 :: rest)) :=
  hq_callS hx hb hml hown hts hK hP hD hS (cxv_truthOf l0 ur hu) h1 wi_491 wi_224 wi_492 1 rfl (by decide +kernel) ⟨rfl, rfl⟩ hR hls rfl hW hdg hf kk
end
theorem dxv_isEmpty_0 : decode bxv_isEmpty 0 = .ok (.lload_n 0, 1) := by decide +kernel
theorem dxv_isEmpty_1 : decode bxv_isEmpty 1 = .ok (.lconst 0, 1) := by decide +kernel
theorem dxv_isEmpty_2 : decode bxv_isEmpty 2 = .ok (.lcmp, 1) := by decide +kernel
theorem dxv_isEmpty_3 : decode bxv_isEmpty 3 = .ok (.ifCond .ne 7, 3) := by decide +kernel
theorem dxv_isEmpty_6 : decode bxv_isEmpty 6 = .ok (.iconst 1, 1) := by decide +kernel
theorem dxv_isEmpty_7 : decode bxv_isEmpty 7 = .ok (.goto 4, 3) := by decide +kernel
theorem dxv_isEmpty_10 : decode bxv_isEmpty 10 = .ok (.iconst 0, 1) := by decide +kernel
theorem dxv_isEmpty_11 : decode bxv_isEmpty 11 = .ok (.ireturn, 1) := by decide +kernel
section
variable {l : Launch} {D : va_G} {A : Nat → Prop} {z w : va_W} {q : Nat → Nat} {cI cZ cL : ClassId}
set_option maxHeartbeats 4000000 in
set_option maxRecDepth 100000 in
theorem cxv_isEmpty (l0 : Int64) (ur : Int32) (h : sxv_isEmpty l0 = ur) : hq_Ct l yxv_isEmpty bxv_isEmpty 2 (some .boolean) { frames := 0, cells := 0, slots := 0, locals := 0 } D (hq_tys cI cZ cL) A [.long l0] w w (some (.int ur)) 0 0 := by
  refine hq_of (by decide) ?_ (Nat.le_of_ble_eq_true rfl)
  intro p e s m below meth c R args Q hRm hQ hx hb hr hml hts hown hlocks hnm hP hK hD ls hl hS
  have hl : lv_has ls 2 [(0, .long l0)] := hl
  have hown : s.vm.findClass "HeapQueries$Value" = some m.cls := hown
  unfold sxv_isEmpty at h
  refine lv_lload_n hx hb dxv_isEmpty_0 rfl (lv_at hl 0 rfl) ?_
  refine lv_lconst (v := 0) hx hb dxv_isEmpty_1 (by decide) ?_
  refine W.lcmp hx hb dxv_isEmpty_2 ?_
  refine lv_if_ne (tgt := 10) hx hb dxv_isEmpty_3 (by decide) (fun hc => ?_) (fun hc => ?_)
  · have h := (if_neg hc).symm.trans h
    refine lv_iconst (v := 0) hx hb dxv_isEmpty_10 (by decide) ?_
    exact hq_zret hx hb hr hlocks hQ hK hP hD hS (by decide) (by rw [← h]) rfl dxv_isEmpty_11
  · have h := (if_pos hc).symm.trans h
    refine lv_iconst (v := 1) hx hb dxv_isEmpty_6 (by decide) ?_
    refine lv_goto (tgt := 11) hx hb dxv_isEmpty_7 (by decide) ?_
    exact hq_zret hx hb hr hlocks hQ hK hP hD hS (by decide) (by rw [← h]) rfl dxv_isEmpty_11
end
section
variable {p : Program} {l : Launch} {e : Env} {R : Room} {s : State} {m : MethodId} {args : Array Value} {below : List Frame} {meth : Method} {c : Code} {H H0 : Heap} {locs : List Loc} {cells slots : Nat} {Q : State → Prop}
variable {cc : ByteArray} {pc idx nC : Nat} {ls : Array Slot} {rest : List Value} {D : va_G} {A : Nat → Prop} {own : String} {q : Nat → Nat} {cI cZ cL : ClassId} {z w : va_W}
theorem kxv_isEmpty (l0 : Int64) (ur : Int32) (hu : sxv_isEmpty l0 = ur) (hx : p.tables.exec = Jvm.exec) (hb : c.code = cc) (hml : c.maxLocals = nC) (hts : ∀ x ∈ hq_tbl, x.before args s = true) (hown : s.vm.findClass own = some m.cls) (hK : va_K D hq_cl (hq_tys cI cZ cL) s) (hP : va_P D hq_cl w H) (hD : va_D A w) (hS : va_S A H0 H locs) (h1 : Cond.methodLink own idx yxv_isEmpty ∈ hq_tbl) (hR : 0 + 1 ≤ R.frames ∧ 8 + (2 + 11) + 0 ≤ R.locals) (hls : ls.size = nC) (hW : (rest.map fun v => v.category).sum ≤ 8) (hdg : decode cc pc = .ok (.invokestatic idx, 3)) (hf : cells + 0 ≤ R.cells ∧ slots + 0 ≤ R.slots) (kk : ∀ (H1 : Heap) (locs1 : List Loc), va_P D hq_cl w H1 → va_D A w → va_S A H0 H1 locs1 → W p l e R s m args below meth c H1 locs1 cells slots Q (F0 m (pc + 3) ls (.int ur :: rest))) : W p l e R s m args below meth c H locs cells slots Q (F0 m pc ls (.long l0 :: rest)) :=
  hq_callS hx hb hml hown hts hK hP hD hS (cxv_isEmpty l0 ur hu) h1 wi_493 wi_224 wi_494 1 rfl (by decide +kernel) ⟨rfl, rfl⟩ hR hls rfl hW hdg hf kk
end
theorem dxv_isNumber_0 : decode bxv_isNumber 0 = .ok (.lload_n 0, 1) := by decide +kernel
theorem dxv_isNumber_1 : decode bxv_isNumber 1 = .ok (.bipush 32, 2) := by decide +kernel
theorem dxv_isNumber_3 : decode bxv_isNumber 3 = .ok (.lushr, 1) := by decide +kernel
theorem dxv_isNumber_4 : decode bxv_isNumber 4 = .ok (.lconst 1, 1) := by decide +kernel
theorem dxv_isNumber_5 : decode bxv_isNumber 5 = .ok (.lcmp, 1) := by decide +kernel
theorem dxv_isNumber_6 : decode bxv_isNumber 6 = .ok (.ifCond .ne 7, 3) := by decide +kernel
theorem dxv_isNumber_9 : decode bxv_isNumber 9 = .ok (.iconst 1, 1) := by decide +kernel
theorem dxv_isNumber_10 : decode bxv_isNumber 10 = .ok (.goto 4, 3) := by decide +kernel
theorem dxv_isNumber_13 : decode bxv_isNumber 13 = .ok (.iconst 0, 1) := by decide +kernel
theorem dxv_isNumber_14 : decode bxv_isNumber 14 = .ok (.ireturn, 1) := by decide +kernel
section
variable {l : Launch} {D : va_G} {A : Nat → Prop} {z w : va_W} {q : Nat → Nat} {cI cZ cL : ClassId}
set_option maxHeartbeats 4000000 in
set_option maxRecDepth 100000 in
theorem cxv_isNumber (l0 : Int64) (ur : Int32) (h : sxv_isNumber l0 = ur) : hq_Ct l yxv_isNumber bxv_isNumber 2 (some .boolean) { frames := 0, cells := 0, slots := 0, locals := 0 } D (hq_tys cI cZ cL) A [.long l0] w w (some (.int ur)) 0 0 := by
  refine hq_of (by decide) ?_ (Nat.le_of_ble_eq_true rfl)
  intro p e s m below meth c R args Q hRm hQ hx hb hr hml hts hown hlocks hnm hP hK hD ls hl hS
  have hl : lv_has ls 2 [(0, .long l0)] := hl
  have hown : s.vm.findClass "HeapQueries$Value" = some m.cls := hown
  unfold sxv_isNumber at h
  refine lv_lload_n hx hb dxv_isNumber_0 rfl (lv_at hl 0 rfl) ?_
  refine lv_bipush (v := 32) hx hb dxv_isNumber_1 (by decide) ?_
  refine lv_lushr (v := (l0.toUInt64 >>> ((32 : Int32).toInt64.toUInt64 &&& Int64.toUInt64 63)).toInt64) hx hb dxv_isNumber_3 rfl ?_
  refine lv_lconst (v := 1) hx hb dxv_isNumber_4 (by decide) ?_
  refine W.lcmp hx hb dxv_isNumber_5 ?_
  refine lv_if_ne (tgt := 13) hx hb dxv_isNumber_6 (by decide) (fun hc => ?_) (fun hc => ?_)
  · have h := (if_neg hc).symm.trans h
    refine lv_iconst (v := 0) hx hb dxv_isNumber_13 (by decide) ?_
    exact hq_zret hx hb hr hlocks hQ hK hP hD hS (by decide) (by rw [← h]) rfl dxv_isNumber_14
  · have h := (if_pos hc).symm.trans h
    refine lv_iconst (v := 1) hx hb dxv_isNumber_9 (by decide) ?_
    refine lv_goto (tgt := 14) hx hb dxv_isNumber_10 (by decide) ?_
    exact hq_zret hx hb hr hlocks hQ hK hP hD hS (by decide) (by rw [← h]) rfl dxv_isNumber_14
end
section
variable {p : Program} {l : Launch} {e : Env} {R : Room} {s : State} {m : MethodId} {args : Array Value} {below : List Frame} {meth : Method} {c : Code} {H H0 : Heap} {locs : List Loc} {cells slots : Nat} {Q : State → Prop}
variable {cc : ByteArray} {pc idx nC : Nat} {ls : Array Slot} {rest : List Value} {D : va_G} {A : Nat → Prop} {own : String} {q : Nat → Nat} {cI cZ cL : ClassId} {z w : va_W}
theorem kxv_isNumber (l0 : Int64) (ur : Int32) (hu : sxv_isNumber l0 = ur) (hx : p.tables.exec = Jvm.exec) (hb : c.code = cc) (hml : c.maxLocals = nC) (hts : ∀ x ∈ hq_tbl, x.before args s = true) (hown : s.vm.findClass own = some m.cls) (hK : va_K D hq_cl (hq_tys cI cZ cL) s) (hP : va_P D hq_cl w H) (hD : va_D A w) (hS : va_S A H0 H locs) (h1 : Cond.methodLink own idx yxv_isNumber ∈ hq_tbl) (hR : 0 + 1 ≤ R.frames ∧ 8 + (2 + 11) + 0 ≤ R.locals) (hls : ls.size = nC) (hW : (rest.map fun v => v.category).sum ≤ 8) (hdg : decode cc pc = .ok (.invokestatic idx, 3)) (hf : cells + 0 ≤ R.cells ∧ slots + 0 ≤ R.slots) (kk : ∀ (H1 : Heap) (locs1 : List Loc), va_P D hq_cl w H1 → va_D A w → va_S A H0 H1 locs1 → W p l e R s m args below meth c H1 locs1 cells slots Q (F0 m (pc + 3) ls (.int ur :: rest))) : W p l e R s m args below meth c H locs cells slots Q (F0 m pc ls (.long l0 :: rest)) :=
  hq_callS hx hb hml hown hts hK hP hD hS (cxv_isNumber l0 ur hu) h1 wi_559 wi_224 wi_560 1 rfl (by decide +kernel) ⟨rfl, rfl⟩ hR hls rfl hW hdg hf kk
end
end
