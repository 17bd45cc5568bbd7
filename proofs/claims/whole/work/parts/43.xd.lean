theorem dxw_hasRowSince_0 : decode bxw_hasRowSince 0 = .ok (.iload_n 1, 1) := by decide +kernel
theorem dxw_hasRowSince_1 : decode bxw_hasRowSince 1 = .ok (.istore 4, 2) := by decide +kernel
theorem dxw_hasRowSince_3 : decode bxw_hasRowSince 3 = .ok (.iload 4, 2) := by decide +kernel
theorem dxw_hasRowSince_5 : decode bxw_hasRowSince 5 = .ok (.aload_n 0, 1) := by decide +kernel
theorem dxw_hasRowSince_6 : decode bxw_hasRowSince 6 = .ok (.getfield 15, 3) := by decide +kernel
theorem dxw_hasRowSince_9 : decode bxw_hasRowSince 9 = .ok (.if_icmp .ge 23, 3) := by decide +kernel
theorem dxw_hasRowSince_12 : decode bxw_hasRowSince 12 = .ok (.aload_n 0, 1) := by decide +kernel
theorem dxw_hasRowSince_13 : decode bxw_hasRowSince 13 = .ok (.getfield 9, 3) := by decide +kernel
theorem dxw_hasRowSince_16 : decode bxw_hasRowSince 16 = .ok (.iload 4, 2) := by decide +kernel
theorem dxw_hasRowSince_18 : decode bxw_hasRowSince 18 = .ok (.laload, 1) := by decide +kernel
theorem dxw_hasRowSince_19 : decode bxw_hasRowSince 19 = .ok (.lload_n 2, 1) := by decide +kernel
theorem dxw_hasRowSince_20 : decode bxw_hasRowSince 20 = .ok (.lcmp, 1) := by decide +kernel
theorem dxw_hasRowSince_21 : decode bxw_hasRowSince 21 = .ok (.ifCond .ne 5, 3) := by decide +kernel
theorem dxw_hasRowSince_24 : decode bxw_hasRowSince 24 = .ok (.iconst 1, 1) := by decide +kernel
theorem dxw_hasRowSince_25 : decode bxw_hasRowSince 25 = .ok (.ireturn, 1) := by decide +kernel
theorem dxw_hasRowSince_26 : decode bxw_hasRowSince 26 = .ok (.iinc 4 1, 3) := by decide +kernel
theorem dxw_hasRowSince_29 : decode bxw_hasRowSince 29 = .ok (.goto (-26), 3) := by decide +kernel
theorem dxw_hasRowSince_32 : decode bxw_hasRowSince 32 = .ok (.iconst 0, 1) := by decide +kernel
theorem dxw_hasRowSince_33 : decode bxw_hasRowSince 33 = .ok (.ireturn, 1) := by decide +kernel
section
variable {l : Launch} {D : va_G} {A : Nat → Prop} {z w : va_W} {q : Nat → Nat} {cI cZ cL : ClassId}
variable {hf_classCount hf_objectCount hf_roots hf_changed sf_objectCount sf_roots sf_reachable tf_count tf_bracketCount tf_place tf_inWhere tf_compared wf_count wf_looks n_code n_number s_isDistinct s_isRetained s_sourceClass s_withDescendants : Int32}
variable {ha_parents ha_classes ha_sizes sa_linkedFrom sa_linkCounts sa_retainedSets sa_retainedSizes sa_dominators sa_immediateDominators ta_codes ta_numbers ta_brackets : Nat → Int32}
variable {ha_fields wa_rows : Nat → Int64}
variable {xq_query n_left n_right s_row s_nested s_condition s_next : Option Nat}
variable {pa_n pk_n pa_s pk_s : Nat}
set_option maxHeartbeats 4000000 in
set_option maxRecDepth 100000 in
theorem cxw_hasRowSince (l1 : Int32) (l2 : Int64) (ur : Int32) (h : sxw_hasRowSince l1 l2 wa_rows wf_count = some ur) : hq_Ct l yxw_hasRowSince bxw_hasRowSince 5 (some .boolean) { frames := 0, cells := 0, slots := 0, locals := 0 } D (hq_tys cI cZ cL) A [.ref (q 4), .int l1, .long l2] (hx_w q cI cZ cL xq_query ha_parents hf_classCount ha_classes ha_sizes ha_fields hf_objectCount hf_roots hf_changed sa_linkedFrom sa_linkCounts sa_retainedSets sa_retainedSizes sa_dominators sa_immediateDominators sf_objectCount sf_roots sf_reachable ta_codes ta_numbers tf_count ta_brackets tf_bracketCount tf_place tf_inWhere tf_compared wa_rows wf_count wf_looks ++ z) (hx_w q cI cZ cL xq_query ha_parents hf_classCount ha_classes ha_sizes ha_fields hf_objectCount hf_roots hf_changed sa_linkedFrom sa_linkCounts sa_retainedSets sa_retainedSizes sa_dominators sa_immediateDominators sf_objectCount sf_roots sf_reachable ta_codes ta_numbers tf_count ta_brackets tf_bracketCount tf_place tf_inWhere tf_compared wa_rows wf_count wf_looks ++ z) (some (.int ur)) 0 0 := by
  refine hq_of (by decide) ?_ (Nat.le_of_ble_eq_true rfl)
  intro p e s m below meth c R args Q hRm hQ hx hb hr hml hts hown hlocks hnm hP hK hD ls hl hS
  have hl : lv_has ls 5 [(0, .ref (q 4)), (1, .int l1), (2, .long l2)] := hl
  have hown : s.vm.findClass "HeapQueries$Worker" = some m.cls := hown
  unfold sxw_hasRowSince at h
  have L3 : ∀ (n : Nat) (l2 : Int64) (l4 : Int32) {ls : Array Slot} {H : Heap} {locs : List Loc}, lv_has ls 5 [(0, .ref (q 4)), (2, .long l2), (4, .int l4)] → va_P D hq_cl (hx_w q cI cZ cL xq_query ha_parents hf_classCount ha_classes ha_sizes ha_fields hf_objectCount hf_roots hf_changed sa_linkedFrom sa_linkCounts sa_retainedSets sa_retainedSizes sa_dominators sa_immediateDominators sf_objectCount sf_roots sf_reachable ta_codes ta_numbers tf_count ta_brackets tf_bracketCount tf_place tf_inWhere tf_compared wa_rows wf_count wf_looks ++ z) H → va_D A (hx_w q cI cZ cL xq_query ha_parents hf_classCount ha_classes ha_sizes ha_fields hf_objectCount hf_roots hf_changed sa_linkedFrom sa_linkCounts sa_retainedSets sa_retainedSizes sa_dominators sa_immediateDominators sf_objectCount sf_roots sf_reachable ta_codes ta_numbers tf_count ta_brackets tf_bracketCount tf_place tf_inWhere tf_compared wa_rows wf_count wf_looks ++ z) → va_S A s.heap H locs → sxw_hasRowSince_L3 n l2 l4 wa_rows wf_count = some ur → W p l e R s m args below meth c H locs 0 0 Q (F0 m 3 ls []) := by
    intro n
    induction n with
    | zero =>
      intro l2 l4 ls H locs hl hP hD hS h
      have h : (none : Option (Int32)) = some ur := h
      cases h
    | succ n ih =>
      intro l2 l4 ls H locs hl hP hD hS h
      have h : sxw_hasRowSince_L3_B (sxw_hasRowSince_L3 n) l2 l4 wa_rows wf_count = some ur := h
      unfold sxw_hasRowSince_L3_B at h
      refine lv_iload hx hb dxw_hasRowSince_3 (lv_at hl 2 rfl) ?_
      refine lv_aload_n hx hb dxw_hasRowSince_5 rfl (lv_at hl 0 rfl) ?_
      refine gx_4_count hx hb hts hown hK hP wi_56 dxw_hasRowSince_6 ?_
      refine lv_icmp_ge (tgt := 32) hx hb dxw_hasRowSince_9 (by decide) (fun hc => ?_) (fun hc => ?_)
      · have h := (if_pos hc).symm.trans h
        refine lv_iconst (v := 0) hx hb dxw_hasRowSince_32 (by decide) ?_
        have h := Option.some.inj h
        exact hq_zret hx hb hr hlocks hQ hK hP hD hS (by decide) (by rw [← h]) rfl dxw_hasRowSince_33
      · have h := (if_neg hc).symm.trans h
        refine lv_aload_n hx hb dxw_hasRowSince_12 rfl (lv_at hl 0 rfl) ?_
        refine gx_4_rows hx hb hts hown hK hP wi_59 dxw_hasRowSince_13 ?_
        refine lv_iload hx hb dxw_hasRowSince_16 (lv_at hl 2 rfl) ?_
        obtain ⟨hin, h⟩ := hq_idx h
        refine ax_18 hx hb hK hP hin dxw_hasRowSince_18 ?_
        refine lv_lload_n hx hb dxw_hasRowSince_19 rfl (lv_at hl 1 rfl) ?_
        refine W.lcmp hx hb dxw_hasRowSince_20 ?_
        refine lv_if_ne (tgt := 26) hx hb dxw_hasRowSince_21 (by decide) (fun hc => ?_) (fun hc => ?_)
        · have h := (if_neg hc).symm.trans h
          refine lv_iinc (k := 2) (v := l4 + 1) (lv' := [(4, .int (l4 + 1)), (0, .ref (q 4)), (2, .long l2)]) hx hb dxw_hasRowSince_26 hl rfl (congrArg (fun j => l4 + j) (by decide)) (by decide) rfl (fun ls hl => ?_)
          refine lv_goto (tgt := 3) hx hb dxw_hasRowSince_29 (by decide) ?_
          exact ih l2 (l4 + 1) (lv_sub hl [1, 2, 0] rfl) hP hD hS h
        · have h := (if_pos hc).symm.trans h
          refine lv_iconst (v := 1) hx hb dxw_hasRowSince_24 (by decide) ?_
          have h := Option.some.inj h
          exact hq_zret hx hb hr hlocks hQ hK hP hD hS (by decide) (by rw [← h]) rfl dxw_hasRowSince_25
  refine lv_iload_n hx hb dxw_hasRowSince_0 rfl (lv_at hl 1 rfl) ?_
  refine lv_istore (lv' := [(4, .int l1), (0, .ref (q 4)), (1, .int l1), (2, .long l2)]) hx hb dxw_hasRowSince_1 hl (by decide) rfl (fun ls hl => ?_)
  exact L3 kF l2 l1 (lv_sub hl [1, 3, 0] rfl) hP hD hS h
end
section
variable {p : Program} {l : Launch} {e : Env} {R : Room} {s : State} {m : MethodId} {args : Array Value} {below : List Frame} {meth : Method} {c : Code} {H H0 : Heap} {locs : List Loc} {cells slots : Nat} {Q : State → Prop}
variable {cc : ByteArray} {pc idx nC : Nat} {ls : Array Slot} {rest : List Value} {D : va_G} {A : Nat → Prop} {own : String} {q : Nat → Nat} {cI cZ cL : ClassId} {z w : va_W}
variable {hf_classCount hf_objectCount hf_roots hf_changed sf_objectCount sf_roots sf_reachable tf_count tf_bracketCount tf_place tf_inWhere tf_compared wf_count wf_looks n_code n_number s_isDistinct s_isRetained s_sourceClass s_withDescendants : Int32}
variable {ha_parents ha_classes ha_sizes sa_linkedFrom sa_linkCounts sa_retainedSets sa_retainedSizes sa_dominators sa_immediateDominators ta_codes ta_numbers ta_brackets : Nat → Int32}
variable {ha_fields wa_rows : Nat → Int64}
variable {xq_query n_left n_right s_row s_nested s_condition s_next : Option Nat}
variable {pa_n pk_n pa_s pk_s : Nat}
theorem kxw_hasRowSince (l1 : Int32) (l2 : Int64) (ur : Int32) (hu : sxw_hasRowSince l1 l2 wa_rows wf_count = some ur) (hx : p.tables.exec = Jvm.exec) (hb : c.code = cc) (hml : c.maxLocals = nC) (hts : ∀ x ∈ hq_tbl, x.before args s = true) (hown : s.vm.findClass own = some m.cls) (hK : va_K D hq_cl (hq_tys cI cZ cL) s) (hP : va_P D hq_cl (hx_w q cI cZ cL xq_query ha_parents hf_classCount ha_classes ha_sizes ha_fields hf_objectCount hf_roots hf_changed sa_linkedFrom sa_linkCounts sa_retainedSets sa_retainedSizes sa_dominators sa_immediateDominators sf_objectCount sf_roots sf_reachable ta_codes ta_numbers tf_count ta_brackets tf_bracketCount tf_place tf_inWhere tf_compared wa_rows wf_count wf_looks ++ z) H) (hD : va_D A (hx_w q cI cZ cL xq_query ha_parents hf_classCount ha_classes ha_sizes ha_fields hf_objectCount hf_roots hf_changed sa_linkedFrom sa_linkCounts sa_retainedSets sa_retainedSizes sa_dominators sa_immediateDominators sf_objectCount sf_roots sf_reachable ta_codes ta_numbers tf_count ta_brackets tf_bracketCount tf_place tf_inWhere tf_compared wa_rows wf_count wf_looks ++ z)) (hS : va_S A H0 H locs) (h1 : Cond.methodLink own idx yxw_hasRowSince ∈ hq_tbl) (hR : 0 + 1 ≤ R.frames ∧ 8 + (5 + 11) + 0 ≤ R.locals) (hls : ls.size = nC) (hW : (rest.map fun v => v.category).sum ≤ 8) (hdg : decode cc pc = .ok (.invokevirtual idx, 3)) (hf : cells + 0 ≤ R.cells ∧ slots + 0 ≤ R.slots) (kk : ∀ (H1 : Heap) (locs1 : List Loc), va_P D hq_cl (hx_w q cI cZ cL xq_query ha_parents hf_classCount ha_classes ha_sizes ha_fields hf_objectCount hf_roots hf_changed sa_linkedFrom sa_linkCounts sa_retainedSets sa_retainedSizes sa_dominators sa_immediateDominators sf_objectCount sf_roots sf_reachable ta_codes ta_numbers tf_count ta_brackets tf_bracketCount tf_place tf_inWhere tf_compared wa_rows wf_count wf_looks ++ z) H1 → va_D A (hx_w q cI cZ cL xq_query ha_parents hf_classCount ha_classes ha_sizes ha_fields hf_objectCount hf_roots hf_changed sa_linkedFrom sa_linkCounts sa_retainedSets sa_retainedSizes sa_dominators sa_immediateDominators sf_objectCount sf_roots sf_reachable ta_codes ta_numbers tf_count ta_brackets tf_bracketCount tf_place tf_inWhere tf_compared wa_rows wf_count wf_looks ++ z) → va_S A H0 H1 locs1 → W p l e R s m args below meth c H1 locs1 cells slots Q (F0 m (pc + 3) ls (.int ur :: rest))) : W p l e R s m args below meth c H locs cells slots Q (F0 m pc ls (.long l2 :: .int l1 :: .ref (q 4) :: rest)) :=
  hq_callV (q0 := 4) hx hb hml hown hts hK hP hD hS (cxw_hasRowSince l1 l2 ur hu) rfl rfl h1 wi_579 wi_580 wi_311 wi_581 2 rfl (by decide +kernel) ⟨rfl, rfl⟩ hR hls rfl hW hdg hf kk
end
theorem dxw_leaveOutRepeated_0 : decode bxw_leaveOutRepeated 0 = .ok (.aload_n 0, 1) := by decide +kernel
theorem dxw_leaveOutRepeated_1 : decode bxw_leaveOutRepeated 1 = .ok (.getfield 15, 3) := by decide +kernel
theorem dxw_leaveOutRepeated_4 : decode bxw_leaveOutRepeated 4 = .ok (.istore_n 2, 1) := by decide +kernel
theorem dxw_leaveOutRepeated_5 : decode bxw_leaveOutRepeated 5 = .ok (.aload_n 0, 1) := by decide +kernel
theorem dxw_leaveOutRepeated_6 : decode bxw_leaveOutRepeated 6 = .ok (.iload_n 1, 1) := by decide +kernel
theorem dxw_leaveOutRepeated_7 : decode bxw_leaveOutRepeated 7 = .ok (.putfield 15, 3) := by decide +kernel
theorem dxw_leaveOutRepeated_10 : decode bxw_leaveOutRepeated 10 = .ok (.iload_n 1, 1) := by decide +kernel
theorem dxw_leaveOutRepeated_11 : decode bxw_leaveOutRepeated 11 = .ok (.istore_n 3, 1) := by decide +kernel
theorem dxw_leaveOutRepeated_12 : decode bxw_leaveOutRepeated 12 = .ok (.iload_n 3, 1) := by decide +kernel
theorem dxw_leaveOutRepeated_13 : decode bxw_leaveOutRepeated 13 = .ok (.iload_n 2, 1) := by decide +kernel
theorem dxw_leaveOutRepeated_14 : decode bxw_leaveOutRepeated 14 = .ok (.if_icmp .ge 33, 3) := by decide +kernel
theorem dxw_leaveOutRepeated_17 : decode bxw_leaveOutRepeated 17 = .ok (.aload_n 0, 1) := by decide +kernel
theorem dxw_leaveOutRepeated_18 : decode bxw_leaveOutRepeated 18 = .ok (.iload_n 1, 1) := by decide +kernel
theorem dxw_leaveOutRepeated_19 : decode bxw_leaveOutRepeated 19 = .ok (.aload_n 0, 1) := by decide +kernel
theorem dxw_leaveOutRepeated_20 : decode bxw_leaveOutRepeated 20 = .ok (.getfield 9, 3) := by decide +kernel
theorem dxw_leaveOutRepeated_23 : decode bxw_leaveOutRepeated 23 = .ok (.iload_n 3, 1) := by decide +kernel
theorem dxw_leaveOutRepeated_24 : decode bxw_leaveOutRepeated 24 = .ok (.laload, 1) := by decide +kernel
theorem dxw_leaveOutRepeated_25 : decode bxw_leaveOutRepeated 25 = .ok (.invokevirtual 141, 3) := by decide +kernel
theorem dxw_leaveOutRepeated_28 : decode bxw_leaveOutRepeated 28 = .ok (.ifCond .ne 13, 3) := by decide +kernel
theorem dxw_leaveOutRepeated_31 : decode bxw_leaveOutRepeated 31 = .ok (.aload_n 0, 1) := by decide +kernel
theorem dxw_leaveOutRepeated_32 : decode bxw_leaveOutRepeated 32 = .ok (.aload_n 0, 1) := by decide +kernel
theorem dxw_leaveOutRepeated_33 : decode bxw_leaveOutRepeated 33 = .ok (.getfield 9, 3) := by decide +kernel
theorem dxw_leaveOutRepeated_36 : decode bxw_leaveOutRepeated 36 = .ok (.iload_n 3, 1) := by decide +kernel
theorem dxw_leaveOutRepeated_37 : decode bxw_leaveOutRepeated 37 = .ok (.laload, 1) := by decide +kernel
theorem dxw_leaveOutRepeated_38 : decode bxw_leaveOutRepeated 38 = .ok (.invokevirtual 96, 3) := by decide +kernel
theorem dxw_leaveOutRepeated_41 : decode bxw_leaveOutRepeated 41 = .ok (.iinc 3 1, 3) := by decide +kernel
theorem dxw_leaveOutRepeated_44 : decode bxw_leaveOutRepeated 44 = .ok (.goto (-32), 3) := by decide +kernel
theorem dxw_leaveOutRepeated_47 : decode bxw_leaveOutRepeated 47 = .ok (.return_, 1) := by decide +kernel
section
variable {l : Launch} {D : va_G} {A : Nat → Prop} {z w : va_W} {q : Nat → Nat} {cI cZ cL : ClassId}
variable {hf_classCount hf_objectCount hf_roots hf_changed sf_objectCount sf_roots sf_reachable tf_count tf_bracketCount tf_place tf_inWhere tf_compared wf_count wf_looks n_code n_number s_isDistinct s_isRetained s_sourceClass s_withDescendants : Int32}
variable {ha_parents ha_classes ha_sizes sa_linkedFrom sa_linkCounts sa_retainedSets sa_retainedSizes sa_dominators sa_immediateDominators ta_codes ta_numbers ta_brackets : Nat → Int32}
variable {ha_fields wa_rows : Nat → Int64}
variable {xq_query n_left n_right s_row s_nested s_condition s_next : Option Nat}
variable {pa_n pk_n pa_s pk_s : Nat}
set_option maxHeartbeats 4000000 in
set_option maxRecDepth 100000 in
theorem cxw_leaveOutRepeated (l1 : Int32) (ur : (Nat → Int64) × Int32) (h : sxw_leaveOutRepeated l1 wa_rows wf_count = some ur) : hq_Ct l yxw_leaveOutRepeated bxw_leaveOutRepeated 4 none { frames := 1, cells := 0, slots := 0, locals := 24 } D (hq_tys cI cZ cL) A [.ref (q 4), .int l1] (hx_w q cI cZ cL xq_query ha_parents hf_classCount ha_classes ha_sizes ha_fields hf_objectCount hf_roots hf_changed sa_linkedFrom sa_linkCounts sa_retainedSets sa_retainedSizes sa_dominators sa_immediateDominators sf_objectCount sf_roots sf_reachable ta_codes ta_numbers tf_count ta_brackets tf_bracketCount tf_place tf_inWhere tf_compared wa_rows wf_count wf_looks ++ z) (hx_w q cI cZ cL xq_query ha_parents hf_classCount ha_classes ha_sizes ha_fields hf_objectCount hf_roots hf_changed sa_linkedFrom sa_linkCounts sa_retainedSets sa_retainedSizes sa_dominators sa_immediateDominators sf_objectCount sf_roots sf_reachable ta_codes ta_numbers tf_count ta_brackets tf_bracketCount tf_place tf_inWhere tf_compared ur.1 ur.2 wf_looks ++ z) none 0 0 := by
  refine hq_of (by decide) ?_ (Nat.le_of_ble_eq_true rfl)
  intro p e s m below meth c R args Q hRm hQ hx hb hr hml hts hown hlocks hnm hP hK hD ls hl hS
  have hl : lv_has ls 4 [(0, .ref (q 4)), (1, .int l1)] := hl
  have hown : s.vm.findClass "HeapQueries$Worker" = some m.cls := hown
  unfold sxw_leaveOutRepeated at h
  have L12 : ∀ (n : Nat) (l1 : Int32) (l2 : Int32) (l3 : Int32) {wa_rows : Nat → Int64} {wf_count : Int32} {ls : Array Slot} {H : Heap} {locs : List Loc}, lv_has ls 4 [(0, .ref (q 4)), (1, .int l1), (2, .int l2), (3, .int l3)] → va_P D hq_cl (hx_w q cI cZ cL xq_query ha_parents hf_classCount ha_classes ha_sizes ha_fields hf_objectCount hf_roots hf_changed sa_linkedFrom sa_linkCounts sa_retainedSets sa_retainedSizes sa_dominators sa_immediateDominators sf_objectCount sf_roots sf_reachable ta_codes ta_numbers tf_count ta_brackets tf_bracketCount tf_place tf_inWhere tf_compared wa_rows wf_count wf_looks ++ z) H → va_D A (hx_w q cI cZ cL xq_query ha_parents hf_classCount ha_classes ha_sizes ha_fields hf_objectCount hf_roots hf_changed sa_linkedFrom sa_linkCounts sa_retainedSets sa_retainedSizes sa_dominators sa_immediateDominators sf_objectCount sf_roots sf_reachable ta_codes ta_numbers tf_count ta_brackets tf_bracketCount tf_place tf_inWhere tf_compared wa_rows wf_count wf_looks ++ z) → va_S A s.heap H locs → ∀ u12, sxw_leaveOutRepeated_L12 n l1 l2 l3 wa_rows wf_count = some u12 → (∀ (ls : Array Slot) (H : Heap) (locs : List Loc), lv_has ls 4 [] → va_P D hq_cl (hx_w q cI cZ cL xq_query ha_parents hf_classCount ha_classes ha_sizes ha_fields hf_objectCount hf_roots hf_changed sa_linkedFrom sa_linkCounts sa_retainedSets sa_retainedSizes sa_dominators sa_immediateDominators sf_objectCount sf_roots sf_reachable ta_codes ta_numbers tf_count ta_brackets tf_bracketCount tf_place tf_inWhere tf_compared u12.1 u12.2 wf_looks ++ z) H → va_D A (hx_w q cI cZ cL xq_query ha_parents hf_classCount ha_classes ha_sizes ha_fields hf_objectCount hf_roots hf_changed sa_linkedFrom sa_linkCounts sa_retainedSets sa_retainedSizes sa_dominators sa_immediateDominators sf_objectCount sf_roots sf_reachable ta_codes ta_numbers tf_count ta_brackets tf_bracketCount tf_place tf_inWhere tf_compared u12.1 u12.2 wf_looks ++ z) → va_S A s.heap H locs → W p l e R s m args below meth c H locs 0 0 Q (F0 m 47 ls [])) → W p l e R s m args below meth c H locs 0 0 Q (F0 m 12 ls []) := by
    intro n
    induction n with
    | zero =>
      intro l1 l2 l3 wa_rows wf_count ls H locs hl hP hD hS u12 h kx
      have h : (none : Option ((Nat → Int64) × Int32)) = some u12 := h
      cases h
    | succ n ih =>
      intro l1 l2 l3 wa_rows wf_count ls H locs hl hP hD hS u12 h kx
      have h : sxw_leaveOutRepeated_L12_B (sxw_leaveOutRepeated_L12 n) l1 l2 l3 wa_rows wf_count = some u12 := h
      unfold sxw_leaveOutRepeated_L12_B at h
      refine lv_iload_n hx hb dxw_leaveOutRepeated_12 rfl (lv_at hl 3 rfl) ?_
      refine lv_iload_n hx hb dxw_leaveOutRepeated_13 rfl (lv_at hl 2 rfl) ?_
      refine lv_icmp_ge (tgt := 47) hx hb dxw_leaveOutRepeated_14 (by decide) (fun hc => ?_) (fun hc => ?_)
      · have h := (if_pos hc).symm.trans h
        have h := Option.some.inj h
        subst h
        exact kx ls H locs (lv_sub hl [] rfl) hP hD hS
      · have h := (if_neg hc).symm.trans h
        refine lv_aload_n hx hb dxw_leaveOutRepeated_17 rfl (lv_at hl 0 rfl) ?_
        refine lv_iload_n hx hb dxw_leaveOutRepeated_18 rfl (lv_at hl 1 rfl) ?_
        refine lv_aload_n hx hb dxw_leaveOutRepeated_19 rfl (lv_at hl 0 rfl) ?_
        refine gx_4_rows hx hb hts hown hK hP wi_59 dxw_leaveOutRepeated_20 ?_
        refine lv_iload_n hx hb dxw_leaveOutRepeated_23 rfl (lv_at hl 3 rfl) ?_
        obtain ⟨hin, h⟩ := hq_idx h
        refine ax_18 hx hb hK hP hin dxw_leaveOutRepeated_24 ?_
        obtain ⟨v25, h25, h⟩ := hq_bind h
        refine kxw_hasRowSince l1 (wa_rows l3.toNatClampNeg) v25 h25 hx hb hml hts hown hK hP hD hS wi_198 (by rw [hRm]; exact ⟨Nat.le_of_ble_eq_true rfl, Nat.le_of_ble_eq_true rfl⟩) hl.1 (Nat.le_of_ble_eq_true rfl) dxw_leaveOutRepeated_25 ⟨Nat.zero_le _, Nat.zero_le _⟩ (fun H locs hP hD hS => ?_)
        refine lv_if_ne (tgt := 41) hx hb dxw_leaveOutRepeated_28 (by decide) (fun hc => ?_) (fun hc => ?_)
        · have h := (if_neg hc).symm.trans h
          refine lv_iinc (k := 3) (v := l3 + 1) (lv' := [(3, .int (l3 + 1)), (0, .ref (q 4)), (1, .int l1), (2, .int l2)]) hx hb dxw_leaveOutRepeated_41 hl rfl (congrArg (fun j => l3 + j) (by decide)) (by decide) rfl (fun ls hl => ?_)
          refine lv_goto (tgt := 12) hx hb dxw_leaveOutRepeated_44 (by decide) ?_
          exact ih l1 l2 (l3 + 1) (lv_sub hl [1, 2, 3, 0] rfl) hP hD hS u12 h kx
        · have h := (if_pos hc).symm.trans h
          refine lv_aload_n hx hb dxw_leaveOutRepeated_31 rfl (lv_at hl 0 rfl) ?_
          refine lv_aload_n hx hb dxw_leaveOutRepeated_32 rfl (lv_at hl 0 rfl) ?_
          refine gx_4_rows hx hb hts hown hK hP wi_59 dxw_leaveOutRepeated_33 ?_
          refine lv_iload_n hx hb dxw_leaveOutRepeated_36 rfl (lv_at hl 3 rfl) ?_
          obtain ⟨hin, h⟩ := hq_idx h
          refine ax_18 hx hb hK hP hin dxw_leaveOutRepeated_37 ?_
          obtain ⟨v38, h38, h⟩ := hq_bind h
          refine kxw_add (wa_rows l3.toNatClampNeg) v38 h38 hx hb hml hts hown hK hP hD hS wi_186 (by rw [hRm]; exact ⟨Nat.le_of_ble_eq_true rfl, Nat.le_of_ble_eq_true rfl⟩) hl.1 (Nat.le_of_ble_eq_true rfl) dxw_leaveOutRepeated_38 ⟨Nat.zero_le _, Nat.zero_le _⟩ (fun H locs hP hD hS => ?_)
          refine lv_iinc (k := 3) (v := l3 + 1) (lv' := [(3, .int (l3 + 1)), (0, .ref (q 4)), (1, .int l1), (2, .int l2)]) hx hb dxw_leaveOutRepeated_41 hl rfl (congrArg (fun j => l3 + j) (by decide)) (by decide) rfl (fun ls hl => ?_)
          refine lv_goto (tgt := 12) hx hb dxw_leaveOutRepeated_44 (by decide) ?_
          exact ih l1 l2 (l3 + 1) (lv_sub hl [1, 2, 3, 0] rfl) hP hD hS u12 h kx
  refine lv_aload_n hx hb dxw_leaveOutRepeated_0 rfl (lv_at hl 0 rfl) ?_
  refine gx_4_count hx hb hts hown hK hP wi_56 dxw_leaveOutRepeated_1 ?_
  refine lv_istore_n (lv' := [(2, .int wf_count), (0, .ref (q 4)), (1, .int l1)]) hx hb dxw_leaveOutRepeated_4 rfl hl (by decide) rfl (fun ls hl => ?_)
  refine lv_aload_n hx hb dxw_leaveOutRepeated_5 rfl (lv_at hl 1 rfl) ?_
  refine lv_iload_n hx hb dxw_leaveOutRepeated_6 rfl (lv_at hl 2 rfl) ?_
  refine px_4_count hx hb hts hown hK hP hD hS wi_56 dxw_leaveOutRepeated_7 (fun H locs hP hD hS => ?_)
  refine lv_iload_n hx hb dxw_leaveOutRepeated_10 rfl (lv_at hl 2 rfl) ?_
  refine lv_istore_n (lv' := [(3, .int l1), (2, .int wf_count), (0, .ref (q 4)), (1, .int l1)]) hx hb dxw_leaveOutRepeated_11 rfl hl (by decide) rfl (fun ls hl => ?_)
  obtain ⟨u12, h12, h⟩ := hq_bind h
  refine L12 kF l1 wf_count l1 (lv_sub hl [2, 3, 1, 0] rfl) hP hD hS u12 h12 (fun ls H locs hl hP hD hS => ?_)
  have h := Option.some.inj h
  exact hq_vret hx hb hr hlocks hQ hK hP hD hS rfl (by rw [← h]) dxw_leaveOutRepeated_47
end
section
variable {p : Program} {l : Launch} {e : Env} {R : Room} {s : State} {m : MethodId} {args : Array Value} {below : List Frame} {meth : Method} {c : Code} {H H0 : Heap} {locs : List Loc} {cells slots : Nat} {Q : State → Prop}
variable {cc : ByteArray} {pc idx nC : Nat} {ls : Array Slot} {rest : List Value} {D : va_G} {A : Nat → Prop} {own : String} {q : Nat → Nat} {cI cZ cL : ClassId} {z w : va_W}
variable {hf_classCount hf_objectCount hf_roots hf_changed sf_objectCount sf_roots sf_reachable tf_count tf_bracketCount tf_place tf_inWhere tf_compared wf_count wf_looks n_code n_number s_isDistinct s_isRetained s_sourceClass s_withDescendants : Int32}
variable {ha_parents ha_classes ha_sizes sa_linkedFrom sa_linkCounts sa_retainedSets sa_retainedSizes sa_dominators sa_immediateDominators ta_codes ta_numbers ta_brackets : Nat → Int32}
variable {ha_fields wa_rows : Nat → Int64}
variable {xq_query n_left n_right s_row s_nested s_condition s_next : Option Nat}
variable {pa_n pk_n pa_s pk_s : Nat}
theorem kxw_leaveOutRepeated (l1 : Int32) (ur : (Nat → Int64) × Int32) (hu : sxw_leaveOutRepeated l1 wa_rows wf_count = some ur) (hx : p.tables.exec = Jvm.exec) (hb : c.code = cc) (hml : c.maxLocals = nC) (hts : ∀ x ∈ hq_tbl, x.before args s = true) (hown : s.vm.findClass own = some m.cls) (hK : va_K D hq_cl (hq_tys cI cZ cL) s) (hP : va_P D hq_cl (hx_w q cI cZ cL xq_query ha_parents hf_classCount ha_classes ha_sizes ha_fields hf_objectCount hf_roots hf_changed sa_linkedFrom sa_linkCounts sa_retainedSets sa_retainedSizes sa_dominators sa_immediateDominators sf_objectCount sf_roots sf_reachable ta_codes ta_numbers tf_count ta_brackets tf_bracketCount tf_place tf_inWhere tf_compared wa_rows wf_count wf_looks ++ z) H) (hD : va_D A (hx_w q cI cZ cL xq_query ha_parents hf_classCount ha_classes ha_sizes ha_fields hf_objectCount hf_roots hf_changed sa_linkedFrom sa_linkCounts sa_retainedSets sa_retainedSizes sa_dominators sa_immediateDominators sf_objectCount sf_roots sf_reachable ta_codes ta_numbers tf_count ta_brackets tf_bracketCount tf_place tf_inWhere tf_compared wa_rows wf_count wf_looks ++ z)) (hS : va_S A H0 H locs) (h1 : Cond.methodLink own idx yxw_leaveOutRepeated ∈ hq_tbl) (hR : 1 + 1 ≤ R.frames ∧ 8 + (4 + 11) + 24 ≤ R.locals) (hls : ls.size = nC) (hW : (rest.map fun v => v.category).sum ≤ 8) (hdg : decode cc pc = .ok (.invokevirtual idx, 3)) (hf : cells + 0 ≤ R.cells ∧ slots + 0 ≤ R.slots) (kk : ∀ (H1 : Heap) (locs1 : List Loc), va_P D hq_cl (hx_w q cI cZ cL xq_query ha_parents hf_classCount ha_classes ha_sizes ha_fields hf_objectCount hf_roots hf_changed sa_linkedFrom sa_linkCounts sa_retainedSets sa_retainedSizes sa_dominators sa_immediateDominators sf_objectCount sf_roots sf_reachable ta_codes ta_numbers tf_count ta_brackets tf_bracketCount tf_place tf_inWhere tf_compared ur.1 ur.2 wf_looks ++ z) H1 → va_D A (hx_w q cI cZ cL xq_query ha_parents hf_classCount ha_classes ha_sizes ha_fields hf_objectCount hf_roots hf_changed sa_linkedFrom sa_linkCounts sa_retainedSets sa_retainedSizes sa_dominators sa_immediateDominators sf_objectCount sf_roots sf_reachable ta_codes ta_numbers tf_count ta_brackets tf_bracketCount tf_place tf_inWhere tf_compared ur.1 ur.2 wf_looks ++ z) → va_S A H0 H1 locs1 → W p l e R s m args below meth c H1 locs1 cells slots Q (F0 m (pc + 3) ls (rest))) : W p l e R s m args below meth c H locs cells slots Q (F0 m pc ls (.int l1 :: .ref (q 4) :: rest)) :=
  hq_callV (q0 := 4) hx hb hml hown hts hK hP hD hS (cxw_leaveOutRepeated l1 ur hu) rfl rfl h1 wi_582 wi_583 wi_311 wi_584 1 rfl (by decide +kernel) ⟨rfl, rfl⟩ hR hls rfl hW hdg hf kk
end
theorem dxw_leaveOutEmpty_0 : decode bxw_leaveOutEmpty 0 = .ok (.aload_n 0, 1) := by decide +kernel
theorem dxw_leaveOutEmpty_1 : decode bxw_leaveOutEmpty 1 = .ok (.getfield 15, 3) := by decide +kernel
theorem dxw_leaveOutEmpty_4 : decode bxw_leaveOutEmpty 4 = .ok (.istore_n 2, 1) := by decide +kernel
theorem dxw_leaveOutEmpty_5 : decode bxw_leaveOutEmpty 5 = .ok (.aload_n 0, 1) := by decide +kernel
theorem dxw_leaveOutEmpty_6 : decode bxw_leaveOutEmpty 6 = .ok (.iload_n 1, 1) := by decide +kernel
theorem dxw_leaveOutEmpty_7 : decode bxw_leaveOutEmpty 7 = .ok (.putfield 15, 3) := by decide +kernel
theorem dxw_leaveOutEmpty_10 : decode bxw_leaveOutEmpty 10 = .ok (.iload_n 1, 1) := by decide +kernel
theorem dxw_leaveOutEmpty_11 : decode bxw_leaveOutEmpty 11 = .ok (.istore_n 3, 1) := by decide +kernel
theorem dxw_leaveOutEmpty_12 : decode bxw_leaveOutEmpty 12 = .ok (.iload_n 3, 1) := by decide +kernel
theorem dxw_leaveOutEmpty_13 : decode bxw_leaveOutEmpty 13 = .ok (.iload_n 2, 1) := by decide +kernel
theorem dxw_leaveOutEmpty_14 : decode bxw_leaveOutEmpty 14 = .ok (.if_icmp .ge 31, 3) := by decide +kernel
theorem dxw_leaveOutEmpty_17 : decode bxw_leaveOutEmpty 17 = .ok (.aload_n 0, 1) := by decide +kernel
theorem dxw_leaveOutEmpty_18 : decode bxw_leaveOutEmpty 18 = .ok (.getfield 9, 3) := by decide +kernel
theorem dxw_leaveOutEmpty_21 : decode bxw_leaveOutEmpty 21 = .ok (.iload_n 3, 1) := by decide +kernel
theorem dxw_leaveOutEmpty_22 : decode bxw_leaveOutEmpty 22 = .ok (.laload, 1) := by decide +kernel
theorem dxw_leaveOutEmpty_23 : decode bxw_leaveOutEmpty 23 = .ok (.invokestatic 145, 3) := by decide +kernel
theorem dxw_leaveOutEmpty_26 : decode bxw_leaveOutEmpty 26 = .ok (.ifCond .ne 13, 3) := by decide +kernel
theorem dxw_leaveOutEmpty_29 : decode bxw_leaveOutEmpty 29 = .ok (.aload_n 0, 1) := by decide +kernel
theorem dxw_leaveOutEmpty_30 : decode bxw_leaveOutEmpty 30 = .ok (.aload_n 0, 1) := by decide +kernel
theorem dxw_leaveOutEmpty_31 : decode bxw_leaveOutEmpty 31 = .ok (.getfield 9, 3) := by decide +kernel
theorem dxw_leaveOutEmpty_34 : decode bxw_leaveOutEmpty 34 = .ok (.iload_n 3, 1) := by decide +kernel
theorem dxw_leaveOutEmpty_35 : decode bxw_leaveOutEmpty 35 = .ok (.laload, 1) := by decide +kernel
theorem dxw_leaveOutEmpty_36 : decode bxw_leaveOutEmpty 36 = .ok (.invokevirtual 96, 3) := by decide +kernel
theorem dxw_leaveOutEmpty_39 : decode bxw_leaveOutEmpty 39 = .ok (.iinc 3 1, 3) := by decide +kernel
theorem dxw_leaveOutEmpty_42 : decode bxw_leaveOutEmpty 42 = .ok (.goto (-30), 3) := by decide +kernel
theorem dxw_leaveOutEmpty_45 : decode bxw_leaveOutEmpty 45 = .ok (.return_, 1) := by decide +kernel
section
variable {l : Launch} {D : va_G} {A : Nat → Prop} {z w : va_W} {q : Nat → Nat} {cI cZ cL : ClassId}
variable {hf_classCount hf_objectCount hf_roots hf_changed sf_objectCount sf_roots sf_reachable tf_count tf_bracketCount tf_place tf_inWhere tf_compared wf_count wf_looks n_code n_number s_isDistinct s_isRetained s_sourceClass s_withDescendants : Int32}
variable {ha_parents ha_classes ha_sizes sa_linkedFrom sa_linkCounts sa_retainedSets sa_retainedSizes sa_dominators sa_immediateDominators ta_codes ta_numbers ta_brackets : Nat → Int32}
variable {ha_fields wa_rows : Nat → Int64}
variable {xq_query n_left n_right s_row s_nested s_condition s_next : Option Nat}
variable {pa_n pk_n pa_s pk_s : Nat}
set_option maxHeartbeats 4000000 in
set_option maxRecDepth 100000 in
theorem cxw_leaveOutEmpty (l1 : Int32) (ur : (Nat → Int64) × Int32) (h : sxw_leaveOutEmpty l1 wa_rows wf_count = some ur) : hq_Ct l yxw_leaveOutEmpty bxw_leaveOutEmpty 4 none { frames := 1, cells := 0, slots := 0, locals := 22 } D (hq_tys cI cZ cL) A [.ref (q 4), .int l1] (hx_w q cI cZ cL xq_query ha_parents hf_classCount ha_classes ha_sizes ha_fields hf_objectCount hf_roots hf_changed sa_linkedFrom sa_linkCounts sa_retainedSets sa_retainedSizes sa_dominators sa_immediateDominators sf_objectCount sf_roots sf_reachable ta_codes ta_numbers tf_count ta_brackets tf_bracketCount tf_place tf_inWhere tf_compared wa_rows wf_count wf_looks ++ z) (hx_w q cI cZ cL xq_query ha_parents hf_classCount ha_classes ha_sizes ha_fields hf_objectCount hf_roots hf_changed sa_linkedFrom sa_linkCounts sa_retainedSets sa_retainedSizes sa_dominators sa_immediateDominators sf_objectCount sf_roots sf_reachable ta_codes ta_numbers tf_count ta_brackets tf_bracketCount tf_place tf_inWhere tf_compared ur.1 ur.2 wf_looks ++ z) none 0 0 := by
  refine hq_of (by decide) ?_ (Nat.le_of_ble_eq_true rfl)
  intro p e s m below meth c R args Q hRm hQ hx hb hr hml hts hown hlocks hnm hP hK hD ls hl hS
  have hl : lv_has ls 4 [(0, .ref (q 4)), (1, .int l1)] := hl
  have hown : s.vm.findClass "HeapQueries$Worker" = some m.cls := hown
  unfold sxw_leaveOutEmpty at h
  have L12 : ∀ (n : Nat) (l2 : Int32) (l3 : Int32) {wa_rows : Nat → Int64} {wf_count : Int32} {ls : Array Slot} {H : Heap} {locs : List Loc}, lv_has ls 4 [(0, .ref (q 4)), (2, .int l2), (3, .int l3)] → va_P D hq_cl (hx_w q cI cZ cL xq_query ha_parents hf_classCount ha_classes ha_sizes ha_fields hf_objectCount hf_roots hf_changed sa_linkedFrom sa_linkCounts sa_retainedSets sa_retainedSizes sa_dominators sa_immediateDominators sf_objectCount sf_roots sf_reachable ta_codes ta_numbers tf_count ta_brackets tf_bracketCount tf_place tf_inWhere tf_compared wa_rows wf_count wf_looks ++ z) H → va_D A (hx_w q cI cZ cL xq_query ha_parents hf_classCount ha_classes ha_sizes ha_fields hf_objectCount hf_roots hf_changed sa_linkedFrom sa_linkCounts sa_retainedSets sa_retainedSizes sa_dominators sa_immediateDominators sf_objectCount sf_roots sf_reachable ta_codes ta_numbers tf_count ta_brackets tf_bracketCount tf_place tf_inWhere tf_compared wa_rows wf_count wf_looks ++ z) → va_S A s.heap H locs → ∀ u12, sxw_leaveOutEmpty_L12 n l2 l3 wa_rows wf_count = some u12 → (∀ (ls : Array Slot) (H : Heap) (locs : List Loc), lv_has ls 4 [] → va_P D hq_cl (hx_w q cI cZ cL xq_query ha_parents hf_classCount ha_classes ha_sizes ha_fields hf_objectCount hf_roots hf_changed sa_linkedFrom sa_linkCounts sa_retainedSets sa_retainedSizes sa_dominators sa_immediateDominators sf_objectCount sf_roots sf_reachable ta_codes ta_numbers tf_count ta_brackets tf_bracketCount tf_place tf_inWhere tf_compared u12.1 u12.2 wf_looks ++ z) H → va_D A (hx_w q cI cZ cL xq_query ha_parents hf_classCount ha_classes ha_sizes ha_fields hf_objectCount hf_roots hf_changed sa_linkedFrom sa_linkCounts sa_retainedSets sa_retainedSizes sa_dominators sa_immediateDominators sf_objectCount sf_roots sf_reachable ta_codes ta_numbers tf_count ta_brackets tf_bracketCount tf_place tf_inWhere tf_compared u12.1 u12.2 wf_looks ++ z) → va_S A s.heap H locs → W p l e R s m args below meth c H locs 0 0 Q (F0 m 45 ls [])) → W p l e R s m args below meth c H locs 0 0 Q (F0 m 12 ls []) := by
    intro n
    induction n with
    | zero =>
      intro l2 l3 wa_rows wf_count ls H locs hl hP hD hS u12 h kx
      have h : (none : Option ((Nat → Int64) × Int32)) = some u12 := h
      cases h
    | succ n ih =>
      intro l2 l3 wa_rows wf_count ls H locs hl hP hD hS u12 h kx
      have h : sxw_leaveOutEmpty_L12_B (sxw_leaveOutEmpty_L12 n) l2 l3 wa_rows wf_count = some u12 := h
      unfold sxw_leaveOutEmpty_L12_B at h
      refine lv_iload_n hx hb dxw_leaveOutEmpty_12 rfl (lv_at hl 2 rfl) ?_
      refine lv_iload_n hx hb dxw_leaveOutEmpty_13 rfl (lv_at hl 1 rfl) ?_
      refine lv_icmp_ge (tgt := 45) hx hb dxw_leaveOutEmpty_14 (by decide) (fun hc => ?_) (fun hc => ?_)
      · have h := (if_pos hc).symm.trans h
        have h := Option.some.inj h
        subst h
        exact kx ls H locs (lv_sub hl [] rfl) hP hD hS
      · have h := (if_neg hc).symm.trans h
        refine lv_aload_n hx hb dxw_leaveOutEmpty_17 rfl (lv_at hl 0 rfl) ?_
        refine gx_4_rows hx hb hts hown hK hP wi_59 dxw_leaveOutEmpty_18 ?_
        refine lv_iload_n hx hb dxw_leaveOutEmpty_21 rfl (lv_at hl 2 rfl) ?_
        obtain ⟨hin, h⟩ := hq_idx h
        refine ax_18 hx hb hK hP hin dxw_leaveOutEmpty_22 ?_
        refine kxv_isEmpty (wa_rows l3.toNatClampNeg) (sxv_isEmpty (wa_rows l3.toNatClampNeg)) rfl hx hb hml hts hown hK hP hD hS wi_199 (by rw [hRm]; exact ⟨Nat.le_of_ble_eq_true rfl, Nat.le_of_ble_eq_true rfl⟩) hl.1 (Nat.le_of_ble_eq_true rfl) dxw_leaveOutEmpty_23 ⟨Nat.zero_le _, Nat.zero_le _⟩ (fun H locs hP hD hS => ?_)
        refine lv_if_ne (tgt := 39) hx hb dxw_leaveOutEmpty_26 (by decide) (fun hc => ?_) (fun hc => ?_)
        · have h := (if_neg hc).symm.trans h
          refine lv_iinc (k := 2) (v := l3 + 1) (lv' := [(3, .int (l3 + 1)), (0, .ref (q 4)), (2, .int l2)]) hx hb dxw_leaveOutEmpty_39 hl rfl (congrArg (fun j => l3 + j) (by decide)) (by decide) rfl (fun ls hl => ?_)
          refine lv_goto (tgt := 12) hx hb dxw_leaveOutEmpty_42 (by decide) ?_
          exact ih l2 (l3 + 1) (lv_sub hl [1, 2, 0] rfl) hP hD hS u12 h kx
        · have h := (if_pos hc).symm.trans h
          refine lv_aload_n hx hb dxw_leaveOutEmpty_29 rfl (lv_at hl 0 rfl) ?_
          refine lv_aload_n hx hb dxw_leaveOutEmpty_30 rfl (lv_at hl 0 rfl) ?_
          refine gx_4_rows hx hb hts hown hK hP wi_59 dxw_leaveOutEmpty_31 ?_
          refine lv_iload_n hx hb dxw_leaveOutEmpty_34 rfl (lv_at hl 2 rfl) ?_
          obtain ⟨hin, h⟩ := hq_idx h
          refine ax_18 hx hb hK hP hin dxw_leaveOutEmpty_35 ?_
          obtain ⟨v36, h36, h⟩ := hq_bind h
          refine kxw_add (wa_rows l3.toNatClampNeg) v36 h36 hx hb hml hts hown hK hP hD hS wi_186 (by rw [hRm]; exact ⟨Nat.le_of_ble_eq_true rfl, Nat.le_of_ble_eq_true rfl⟩) hl.1 (Nat.le_of_ble_eq_true rfl) dxw_leaveOutEmpty_36 ⟨Nat.zero_le _, Nat.zero_le _⟩ (fun H locs hP hD hS => ?_)
          refine lv_iinc (k := 2) (v := l3 + 1) (lv' := [(3, .int (l3 + 1)), (0, .ref (q 4)), (2, .int l2)]) hx hb dxw_leaveOutEmpty_39 hl rfl (congrArg (fun j => l3 + j) (by decide)) (by decide) rfl (fun ls hl => ?_)
          refine lv_goto (tgt := 12) hx hb dxw_leaveOutEmpty_42 (by decide) ?_
          exact ih l2 (l3 + 1) (lv_sub hl [1, 2, 0] rfl) hP hD hS u12 h kx
  refine lv_aload_n hx hb dxw_leaveOutEmpty_0 rfl (lv_at hl 0 rfl) ?_
  refine gx_4_count hx hb hts hown hK hP wi_56 dxw_leaveOutEmpty_1 ?_
  refine lv_istore_n (lv' := [(2, .int wf_count), (0, .ref (q 4)), (1, .int l1)]) hx hb dxw_leaveOutEmpty_4 rfl hl (by decide) rfl (fun ls hl => ?_)
  refine lv_aload_n hx hb dxw_leaveOutEmpty_5 rfl (lv_at hl 1 rfl) ?_
  refine lv_iload_n hx hb dxw_leaveOutEmpty_6 rfl (lv_at hl 2 rfl) ?_
  refine px_4_count hx hb hts hown hK hP hD hS wi_56 dxw_leaveOutEmpty_7 (fun H locs hP hD hS => ?_)
  refine lv_iload_n hx hb dxw_leaveOutEmpty_10 rfl (lv_at hl 2 rfl) ?_
  refine lv_istore_n (lv' := [(3, .int l1), (2, .int wf_count), (0, .ref (q 4)), (1, .int l1)]) hx hb dxw_leaveOutEmpty_11 rfl hl (by decide) rfl (fun ls hl => ?_)
  obtain ⟨u12, h12, h⟩ := hq_bind h
  refine L12 kF wf_count l1 (lv_sub hl [2, 1, 0] rfl) hP hD hS u12 h12 (fun ls H locs hl hP hD hS => ?_)
  have h := Option.some.inj h
  exact hq_vret hx hb hr hlocks hQ hK hP hD hS rfl (by rw [← h]) dxw_leaveOutEmpty_45
end
section
variable {p : Program} {l : Launch} {e : Env} {R : Room} {s : State} {m : MethodId} {args : Array Value} {below : List Frame} {meth : Method} {c : Code} {H H0 : Heap} {locs : List Loc} {cells slots : Nat} {Q : State → Prop}
variable {cc : ByteArray} {pc idx nC : Nat} {ls : Array Slot} {rest : List Value} {D : va_G} {A : Nat → Prop} {own : String} {q : Nat → Nat} {cI cZ cL : ClassId} {z w : va_W}
variable {hf_classCount hf_objectCount hf_roots hf_changed sf_objectCount sf_roots sf_reachable tf_count tf_bracketCount tf_place tf_inWhere tf_compared wf_count wf_looks n_code n_number s_isDistinct s_isRetained s_sourceClass s_withDescendants : Int32}
variable {ha_parents ha_classes ha_sizes sa_linkedFrom sa_linkCounts sa_retainedSets sa_retainedSizes sa_dominators sa_immediateDominators ta_codes ta_numbers ta_brackets : Nat → Int32}
variable {ha_fields wa_rows : Nat → Int64}
variable {xq_query n_left n_right s_row s_nested s_condition s_next : Option Nat}
variable {pa_n pk_n pa_s pk_s : Nat}
theorem kxw_leaveOutEmpty (l1 : Int32) (ur : (Nat → Int64) × Int32) (hu : sxw_leaveOutEmpty l1 wa_rows wf_count = some ur) (hx : p.tables.exec = Jvm.exec) (hb : c.code = cc) (hml : c.maxLocals = nC) (hts : ∀ x ∈ hq_tbl, x.before args s = true) (hown : s.vm.findClass own = some m.cls) (hK : va_K D hq_cl (hq_tys cI cZ cL) s) (hP : va_P D hq_cl (hx_w q cI cZ cL xq_query ha_parents hf_classCount ha_classes ha_sizes ha_fields hf_objectCount hf_roots hf_changed sa_linkedFrom sa_linkCounts sa_retainedSets sa_retainedSizes sa_dominators sa_immediateDominators sf_objectCount sf_roots sf_reachable ta_codes ta_numbers tf_count ta_brackets tf_bracketCount tf_place tf_inWhere tf_compared wa_rows wf_count wf_looks ++ z) H) (hD : va_D A (hx_w q cI cZ cL xq_query ha_parents hf_classCount ha_classes ha_sizes ha_fields hf_objectCount hf_roots hf_changed sa_linkedFrom sa_linkCounts sa_retainedSets sa_retainedSizes sa_dominators sa_immediateDominators sf_objectCount sf_roots sf_reachable ta_codes ta_numbers tf_count ta_brackets tf_bracketCount tf_place tf_inWhere tf_compared wa_rows wf_count wf_looks ++ z)) (hS : va_S A H0 H locs) (h1 : Cond.methodLink own idx yxw_leaveOutEmpty ∈ hq_tbl) (hR : 1 + 1 ≤ R.frames ∧ 8 + (4 + 11) + 22 ≤ R.locals) (hls : ls.size = nC) (hW : (rest.map fun v => v.category).sum ≤ 8) (hdg : decode cc pc = .ok (.invokevirtual idx, 3)) (hf : cells + 0 ≤ R.cells ∧ slots + 0 ≤ R.slots) (kk : ∀ (H1 : Heap) (locs1 : List Loc), va_P D hq_cl (hx_w q cI cZ cL xq_query ha_parents hf_classCount ha_classes ha_sizes ha_fields hf_objectCount hf_roots hf_changed sa_linkedFrom sa_linkCounts sa_retainedSets sa_retainedSizes sa_dominators sa_immediateDominators sf_objectCount sf_roots sf_reachable ta_codes ta_numbers tf_count ta_brackets tf_bracketCount tf_place tf_inWhere tf_compared ur.1 ur.2 wf_looks ++ z) H1 → va_D A (hx_w q cI cZ cL xq_query ha_parents hf_classCount ha_classes ha_sizes ha_fields hf_objectCount hf_roots hf_changed sa_linkedFrom sa_linkCounts sa_retainedSets sa_retainedSizes sa_dominators sa_immediateDominators sf_objectCount sf_roots sf_reachable ta_codes ta_numbers tf_count ta_brackets tf_bracketCount tf_place tf_inWhere tf_compared ur.1 ur.2 wf_looks ++ z) → va_S A H0 H1 locs1 → W p l e R s m args below meth c H1 locs1 cells slots Q (F0 m (pc + 3) ls (rest))) : W p l e R s m args below meth c H locs cells slots Q (F0 m pc ls (.int l1 :: .ref (q 4) :: rest)) :=
  hq_callV (q0 := 4) hx hb hml hown hts hK hP hD hS (cxw_leaveOutEmpty l1 ur hu) rfl rfl h1 wi_585 wi_586 wi_311 wi_587 1 rfl (by decide +kernel) ⟨rfl, rfl⟩ hR hls rfl hW hdg hf kk
end
