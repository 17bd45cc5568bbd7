theorem dxh_hasClass_0 : decode bxh_hasClass 0 = .ok (.iload_n 1, 1) := by decide +kernel
theorem dxh_hasClass_1 : decode bxh_hasClass 1 = .ok (.ifCond .lt 15, 3) := by decide +kernel
theorem dxh_hasClass_4 : decode bxh_hasClass 4 = .ok (.iload_n 1, 1) := by decide +kernel
theorem dxh_hasClass_5 : decode bxh_hasClass 5 = .ok (.aload_n 0, 1) := by decide +kernel
theorem dxh_hasClass_6 : decode bxh_hasClass 6 = .ok (.getfield 32, 3) := by decide +kernel
theorem dxh_hasClass_9 : decode bxh_hasClass 9 = .ok (.if_icmp .ge 7, 3) := by decide +kernel
theorem dxh_hasClass_12 : decode bxh_hasClass 12 = .ok (.iconst 1, 1) := by decide +kernel
theorem dxh_hasClass_13 : decode bxh_hasClass 13 = .ok (.goto 4, 3) := by decide +kernel
theorem dxh_hasClass_16 : decode bxh_hasClass 16 = .ok (.iconst 0, 1) := by decide +kernel
theorem dxh_hasClass_17 : decode bxh_hasClass 17 = .ok (.ireturn, 1) := by decide +kernel
section
variable {l : Launch} {D : va_G} {A : Nat → Prop} {z w : va_W} {q : Nat → Nat} {cI cZ cL : ClassId}
variable {hf_classCount hf_objectCount hf_roots hf_changed sf_objectCount sf_roots sf_reachable tf_count tf_bracketCount tf_place tf_inWhere tf_compared wf_count wf_looks n_code n_number s_isDistinct s_isRetained s_sourceClass s_withDescendants : Int32}
variable {ha_parents ha_classes ha_sizes sa_linkedFrom sa_linkCounts sa_retainedSets sa_retainedSizes sa_dominators sa_immediateDominators ta_codes ta_numbers ta_brackets : Nat → Int32}
variable {ha_fields wa_rows : Nat → Int64}
variable {xq_query n_left n_right s_row s_nested s_condition s_next : Option Nat}
variable {pa_n pk_n pa_s pk_s : Nat}
set_option maxHeartbeats 4000000 in
set_option maxRecDepth 100000 in
theorem cxh_hasClass (l1 : Int32) (ur : Int32) (h : sxh_hasClass l1 hf_classCount = ur) : hq_Ct l yxh_hasClass bxh_hasClass 2 (some .boolean) { frames := 0, cells := 0, slots := 0, locals := 0 } D (hq_tys cI cZ cL) A [.ref (q 1), .int l1] (hx_w q cI cZ cL xq_query ha_parents hf_classCount ha_classes ha_sizes ha_fields hf_objectCount hf_roots hf_changed sa_linkedFrom sa_linkCounts sa_retainedSets sa_retainedSizes sa_dominators sa_immediateDominators sf_objectCount sf_roots sf_reachable ta_codes ta_numbers tf_count ta_brackets tf_bracketCount tf_place tf_inWhere tf_compared wa_rows wf_count wf_looks ++ z) (hx_w q cI cZ cL xq_query ha_parents hf_classCount ha_classes ha_sizes ha_fields hf_objectCount hf_roots hf_changed sa_linkedFrom sa_linkCounts sa_retainedSets sa_retainedSizes sa_dominators sa_immediateDominators sf_objectCount sf_roots sf_reachable ta_codes ta_numbers tf_count ta_brackets tf_bracketCount tf_place tf_inWhere tf_compared wa_rows wf_count wf_looks ++ z) (some (.int ur)) 0 0 := by
  refine hq_of (by decide) ?_ (Nat.le_of_ble_eq_true rfl)
  intro p e s m below meth c R args Q hRm hQ hx hb hr hml hts hown hlocks hnm hP hK hD ls hl hS
  have hl : lv_has ls 2 [(0, .ref (q 1)), (1, .int l1)] := hl
  have hown : s.vm.findClass "HeapQueries$Heap" = some m.cls := hown
  unfold sxh_hasClass at h
  refine lv_iload_n hx hb dxh_hasClass_0 rfl (lv_at hl 1 rfl) ?_
  refine lv_if_lt (tgt := 16) hx hb dxh_hasClass_1 (by decide) (fun hc => ?_) (fun hc => ?_)
  · have h := (if_pos hc).symm.trans h
    refine lv_iconst (v := 0) hx hb dxh_hasClass_16 (by decide) ?_
    exact hq_zret hx hb hr hlocks hQ hK hP hD hS (by decide) (by rw [← h]) rfl dxh_hasClass_17
  · have h := (if_neg hc).symm.trans h
    refine lv_iload_n hx hb dxh_hasClass_4 rfl (lv_at hl 1 rfl) ?_
    refine lv_aload_n hx hb dxh_hasClass_5 rfl (lv_at hl 0 rfl) ?_
    refine gx_1_classCount hx hb hts hown hK hP wi_0 dxh_hasClass_6 ?_
    refine lv_icmp_ge (tgt := 16) hx hb dxh_hasClass_9 (by decide) (fun hc => ?_) (fun hc => ?_)
    · have h := (if_pos hc).symm.trans h
      refine lv_iconst (v := 0) hx hb dxh_hasClass_16 (by decide) ?_
      exact hq_zret hx hb hr hlocks hQ hK hP hD hS (by decide) (by rw [← h]) rfl dxh_hasClass_17
    · have h := (if_neg hc).symm.trans h
      refine lv_iconst (v := 1) hx hb dxh_hasClass_12 (by decide) ?_
      refine lv_goto (tgt := 17) hx hb dxh_hasClass_13 (by decide) ?_
      exact hq_zret hx hb hr hlocks hQ hK hP hD hS (by decide) (by rw [← h]) rfl dxh_hasClass_17
end
section
variable {p : Program} {l : Launch} {e : Env} {R : Room} {s : State} {m : MethodId} {args : Array Value} {below : List Frame} {meth : Method} {c : Code} {H H0 : Heap} {locs : List Loc} {cells slots : Nat} {Q : State → Prop}
variable {cc : ByteArray} {pc idx nC : Nat} {ls : Array Slot} {rest : List Value} {D : va_G} {A : Nat → Prop} {own : String} {q : Nat → Nat} {cI cZ cL : ClassId} {z w : va_W}
variable {hf_classCount hf_objectCount hf_roots hf_changed sf_objectCount sf_roots sf_reachable tf_count tf_bracketCount tf_place tf_inWhere tf_compared wf_count wf_looks n_code n_number s_isDistinct s_isRetained s_sourceClass s_withDescendants : Int32}
variable {ha_parents ha_classes ha_sizes sa_linkedFrom sa_linkCounts sa_retainedSets sa_retainedSizes sa_dominators sa_immediateDominators ta_codes ta_numbers ta_brackets : Nat → Int32}
variable {ha_fields wa_rows : Nat → Int64}
variable {xq_query n_left n_right s_row s_nested s_condition s_next : Option Nat}
variable {pa_n pk_n pa_s pk_s : Nat}
theorem kxh_hasClass (l1 : Int32) (ur : Int32) (hu : sxh_hasClass l1 hf_classCount = ur) (hx : p.tables.exec = Jvm.exec) (hb : c.code = cc) (hml : c.maxLocals = nC) (hts : ∀ x ∈ hq_tbl, x.before args s = true) (hown : s.vm.findClass own = some m.cls) (hK : va_K D hq_cl (hq_tys cI cZ cL) s) (hP : va_P D hq_cl (hx_w q cI cZ cL xq_query ha_parents hf_classCount ha_classes ha_sizes ha_fields hf_objectCount hf_roots hf_changed sa_linkedFrom sa_linkCounts sa_retainedSets sa_retainedSizes sa_dominators sa_immediateDominators sf_objectCount sf_roots sf_reachable ta_codes ta_numbers tf_count ta_brackets tf_bracketCount tf_place tf_inWhere tf_compared wa_rows wf_count wf_looks ++ z) H) (hD : va_D A (hx_w q cI cZ cL xq_query ha_parents hf_classCount ha_classes ha_sizes ha_fields hf_objectCount hf_roots hf_changed sa_linkedFrom sa_linkCounts sa_retainedSets sa_retainedSizes sa_dominators sa_immediateDominators sf_objectCount sf_roots sf_reachable ta_codes ta_numbers tf_count ta_brackets tf_bracketCount tf_place tf_inWhere tf_compared wa_rows wf_count wf_looks ++ z)) (hS : va_S A H0 H locs) (h1 : Cond.methodLink own idx yxh_hasClass ∈ hq_tbl) (hR : 0 + 1 ≤ R.frames ∧ 8 + (2 + 11) + 0 ≤ R.locals) (hls : ls.size = nC) (hW : (rest.map fun v => v.category).sum ≤ 8) (hdg : decode cc pc = .ok (.invokevirtual idx, 3)) (hf : cells + 0 ≤ R.cells ∧ slots + 0 ≤ R.slots) (kk : ∀ (H1 : Heap) (locs1 : List Loc), va_P D hq_cl (hx_w q cI cZ cL xq_query ha_parents hf_classCount ha_classes ha_sizes ha_fields hf_objectCount hf_roots hf_changed sa_linkedFrom sa_linkCounts sa_retainedSets sa_retainedSizes sa_dominators sa_immediateDominators sf_objectCount sf_roots sf_reachable ta_codes ta_numbers tf_count ta_brackets tf_bracketCount tf_place tf_inWhere tf_compared wa_rows wf_count wf_looks ++ z) H1 → va_D A (hx_w q cI cZ cL xq_query ha_parents hf_classCount ha_classes ha_sizes ha_fields hf_objectCount hf_roots hf_changed sa_linkedFrom sa_linkCounts sa_retainedSets sa_retainedSizes sa_dominators sa_immediateDominators sf_objectCount sf_roots sf_reachable ta_codes ta_numbers tf_count ta_brackets tf_bracketCount tf_place tf_inWhere tf_compared wa_rows wf_count wf_looks ++ z) → va_S A H0 H1 locs1 → W p l e R s m args below meth c H1 locs1 cells slots Q (F0 m (pc + 3) ls (.int ur :: rest))) : W p l e R s m args below meth c H locs cells slots Q (F0 m pc ls (.int l1 :: .ref (q 1) :: rest)) :=
  hq_callV (q0 := 1) hx hb hml hown hts hK hP hD hS (cxh_hasClass l1 ur hu) rfl rfl h1 wi_200 wi_201 wi_202 wi_203 1 rfl (by decide +kernel) ⟨rfl, rfl⟩ hR hls rfl hW hdg hf kk
end
theorem dxh_makeClass_0 : decode bxh_makeClass 0 = .ok (.aload_n 0, 1) := by decide +kernel
theorem dxh_makeClass_1 : decode bxh_makeClass 1 = .ok (.getfield 32, 3) := by decide +kernel
theorem dxh_makeClass_4 : decode bxh_makeClass 4 = .ok (.bipush 8, 2) := by decide +kernel
theorem dxh_makeClass_6 : decode bxh_makeClass 6 = .ok (.if_icmp .ge 16, 3) := by decide +kernel
theorem dxh_makeClass_9 : decode bxh_makeClass 9 = .ok (.iload_n 1, 1) := by decide +kernel
theorem dxh_makeClass_10 : decode bxh_makeClass 10 = .ok (.iconst (-1), 1) := by decide +kernel
theorem dxh_makeClass_11 : decode bxh_makeClass 11 = .ok (.if_icmp .eq 13, 3) := by decide +kernel
theorem dxh_makeClass_14 : decode bxh_makeClass 14 = .ok (.aload_n 0, 1) := by decide +kernel
theorem dxh_makeClass_15 : decode bxh_makeClass 15 = .ok (.iload_n 1, 1) := by decide +kernel
theorem dxh_makeClass_16 : decode bxh_makeClass 16 = .ok (.invokevirtual 36, 3) := by decide +kernel
theorem dxh_makeClass_19 : decode bxh_makeClass 19 = .ok (.ifCond .ne 5, 3) := by decide +kernel
theorem dxh_makeClass_22 : decode bxh_makeClass 22 = .ok (.iconst (-1), 1) := by decide +kernel
theorem dxh_makeClass_23 : decode bxh_makeClass 23 = .ok (.ireturn, 1) := by decide +kernel
theorem dxh_makeClass_24 : decode bxh_makeClass 24 = .ok (.aload_n 0, 1) := by decide +kernel
theorem dxh_makeClass_25 : decode bxh_makeClass 25 = .ok (.getfield 9, 3) := by decide +kernel
theorem dxh_makeClass_28 : decode bxh_makeClass 28 = .ok (.aload_n 0, 1) := by decide +kernel
theorem dxh_makeClass_29 : decode bxh_makeClass 29 = .ok (.getfield 32, 3) := by decide +kernel
theorem dxh_makeClass_32 : decode bxh_makeClass 32 = .ok (.iload_n 1, 1) := by decide +kernel
theorem dxh_makeClass_33 : decode bxh_makeClass 33 = .ok (.iastore, 1) := by decide +kernel
theorem dxh_makeClass_34 : decode bxh_makeClass 34 = .ok (.aload_n 0, 1) := by decide +kernel
theorem dxh_makeClass_35 : decode bxh_makeClass 35 = .ok (.dup, 1) := by decide +kernel
theorem dxh_makeClass_36 : decode bxh_makeClass 36 = .ok (.getfield 32, 3) := by decide +kernel
theorem dxh_makeClass_39 : decode bxh_makeClass 39 = .ok (.iconst 1, 1) := by decide +kernel
theorem dxh_makeClass_40 : decode bxh_makeClass 40 = .ok (.iadd, 1) := by decide +kernel
theorem dxh_makeClass_41 : decode bxh_makeClass 41 = .ok (.putfield 32, 3) := by decide +kernel
theorem dxh_makeClass_44 : decode bxh_makeClass 44 = .ok (.aload_n 0, 1) := by decide +kernel
theorem dxh_makeClass_45 : decode bxh_makeClass 45 = .ok (.getfield 32, 3) := by decide +kernel
theorem dxh_makeClass_48 : decode bxh_makeClass 48 = .ok (.iconst 1, 1) := by decide +kernel
theorem dxh_makeClass_49 : decode bxh_makeClass 49 = .ok (.isub, 1) := by decide +kernel
theorem dxh_makeClass_50 : decode bxh_makeClass 50 = .ok (.ireturn, 1) := by decide +kernel
section
variable {l : Launch} {D : va_G} {A : Nat → Prop} {z w : va_W} {q : Nat → Nat} {cI cZ cL : ClassId}
variable {hf_classCount hf_objectCount hf_roots hf_changed sf_objectCount sf_roots sf_reachable tf_count tf_bracketCount tf_place tf_inWhere tf_compared wf_count wf_looks n_code n_number s_isDistinct s_isRetained s_sourceClass s_withDescendants : Int32}
variable {ha_parents ha_classes ha_sizes sa_linkedFrom sa_linkCounts sa_retainedSets sa_retainedSizes sa_dominators sa_immediateDominators ta_codes ta_numbers ta_brackets : Nat → Int32}
variable {ha_fields wa_rows : Nat → Int64}
variable {xq_query n_left n_right s_row s_nested s_condition s_next : Option Nat}
variable {pa_n pk_n pa_s pk_s : Nat}
set_option maxHeartbeats 4000000 in
set_option maxRecDepth 100000 in
theorem cxh_makeClass (l1 : Int32) (ur : Int32 × (Nat → Int32) × Int32) (h : sxh_makeClass l1 ha_parents hf_classCount = some ur) : hq_Ct l yxh_makeClass bxh_makeClass 2 (some .int) { frames := 1, cells := 0, slots := 0, locals := 21 } D (hq_tys cI cZ cL) A [.ref (q 1), .int l1] (hx_w q cI cZ cL xq_query ha_parents hf_classCount ha_classes ha_sizes ha_fields hf_objectCount hf_roots hf_changed sa_linkedFrom sa_linkCounts sa_retainedSets sa_retainedSizes sa_dominators sa_immediateDominators sf_objectCount sf_roots sf_reachable ta_codes ta_numbers tf_count ta_brackets tf_bracketCount tf_place tf_inWhere tf_compared wa_rows wf_count wf_looks ++ z) (hx_w q cI cZ cL xq_query ur.2.1 ur.2.2 ha_classes ha_sizes ha_fields hf_objectCount hf_roots hf_changed sa_linkedFrom sa_linkCounts sa_retainedSets sa_retainedSizes sa_dominators sa_immediateDominators sf_objectCount sf_roots sf_reachable ta_codes ta_numbers tf_count ta_brackets tf_bracketCount tf_place tf_inWhere tf_compared wa_rows wf_count wf_looks ++ z) (some (.int ur.1)) 0 0 := by
  refine hq_of (by decide) ?_ (Nat.le_of_ble_eq_true rfl)
  intro p e s m below meth c R args Q hRm hQ hx hb hr hml hts hown hlocks hnm hP hK hD ls hl hS
  have hl : lv_has ls 2 [(0, .ref (q 1)), (1, .int l1)] := hl
  have hown : s.vm.findClass "HeapQueries$Heap" = some m.cls := hown
  unfold sxh_makeClass at h
  have J24 : ∀ (l1 : Int32) {ha_parents : Nat → Int32} {hf_classCount : Int32} {ls : Array Slot} {H : Heap} {locs : List Loc}, lv_has ls 2 [(0, .ref (q 1)), (1, .int l1)] → va_P D hq_cl (hx_w q cI cZ cL xq_query ha_parents hf_classCount ha_classes ha_sizes ha_fields hf_objectCount hf_roots hf_changed sa_linkedFrom sa_linkCounts sa_retainedSets sa_retainedSizes sa_dominators sa_immediateDominators sf_objectCount sf_roots sf_reachable ta_codes ta_numbers tf_count ta_brackets tf_bracketCount tf_place tf_inWhere tf_compared wa_rows wf_count wf_looks ++ z) H → va_D A (hx_w q cI cZ cL xq_query ha_parents hf_classCount ha_classes ha_sizes ha_fields hf_objectCount hf_roots hf_changed sa_linkedFrom sa_linkCounts sa_retainedSets sa_retainedSizes sa_dominators sa_immediateDominators sf_objectCount sf_roots sf_reachable ta_codes ta_numbers tf_count ta_brackets tf_bracketCount tf_place tf_inWhere tf_compared wa_rows wf_count wf_looks ++ z) → va_S A s.heap H locs → sxh_makeClass_J24 l1 ha_parents hf_classCount = some ur → W p l e R s m args below meth c H locs 0 0 Q (F0 m 24 ls []) := by
    intro l1 ha_parents hf_classCount ls H locs hl hP hD hS h
    unfold sxh_makeClass_J24 at h
    refine lv_aload_n hx hb dxh_makeClass_24 rfl (lv_at hl 0 rfl) ?_
    refine gx_1_parents hx hb hts hown hK hP wi_1 dxh_makeClass_25 ?_
    refine lv_aload_n hx hb dxh_makeClass_28 rfl (lv_at hl 0 rfl) ?_
    refine gx_1_classCount hx hb hts hown hK hP wi_0 dxh_makeClass_29 ?_
    refine lv_iload_n hx hb dxh_makeClass_32 rfl (lv_at hl 1 rfl) ?_
    obtain ⟨hin, h⟩ := hq_idx h
    refine tx_5 hx hb hK hP hD hS hin dxh_makeClass_33 (fun H locs hP hD hS => ?_)
    refine lv_aload_n hx hb dxh_makeClass_34 rfl (lv_at hl 0 rfl) ?_
    refine lv_dup hx hb dxh_makeClass_35 rfl ?_
    refine gx_1_classCount hx hb hts hown hK hP wi_0 dxh_makeClass_36 ?_
    refine lv_iconst (v := 1) hx hb dxh_makeClass_39 (by decide) ?_
    refine lv_iadd hx hb dxh_makeClass_40 ?_
    refine px_1_classCount hx hb hts hown hK hP hD hS wi_0 dxh_makeClass_41 (fun H locs hP hD hS => ?_)
    refine lv_aload_n hx hb dxh_makeClass_44 rfl (lv_at hl 0 rfl) ?_
    refine gx_1_classCount hx hb hts hown hK hP wi_0 dxh_makeClass_45 ?_
    refine lv_iconst (v := 1) hx hb dxh_makeClass_48 (by decide) ?_
    refine lv_isub hx hb dxh_makeClass_49 ?_
    have h := Option.some.inj h
    exact hq_iret hx hb hr hlocks hQ hK hP hD hS (by rw [← h]) (by rw [← h]) dxh_makeClass_50
  refine lv_aload_n hx hb dxh_makeClass_0 rfl (lv_at hl 0 rfl) ?_
  refine gx_1_classCount hx hb hts hown hK hP wi_0 dxh_makeClass_1 ?_
  refine lv_bipush (v := 8) hx hb dxh_makeClass_4 (by decide) ?_
  refine lv_icmp_ge (tgt := 22) hx hb dxh_makeClass_6 (by decide) (fun hc => ?_) (fun hc => ?_)
  · have h := (if_pos hc).symm.trans h
    refine lv_iconst (v := (-1)) hx hb dxh_makeClass_22 (by decide) ?_
    have h := Option.some.inj h
    exact hq_iret hx hb hr hlocks hQ hK hP hD hS (by rw [← h]) (by rw [← h]) dxh_makeClass_23
  · have h := (if_neg hc).symm.trans h
    refine lv_iload_n hx hb dxh_makeClass_9 rfl (lv_at hl 1 rfl) ?_
    refine lv_iconst (v := (-1)) hx hb dxh_makeClass_10 (by decide) ?_
    refine lv_icmp_eq (tgt := 24) hx hb dxh_makeClass_11 (by decide) (fun hc => ?_) (fun hc => ?_)
    · have h := (if_pos hc).symm.trans h
      exact J24 l1 hl hP hD hS h
    · have h := (if_neg hc).symm.trans h
      refine lv_aload_n hx hb dxh_makeClass_14 rfl (lv_at hl 0 rfl) ?_
      refine lv_iload_n hx hb dxh_makeClass_15 rfl (lv_at hl 1 rfl) ?_
      refine kxh_hasClass l1 (sxh_hasClass l1 hf_classCount) rfl hx hb hml hts hown hK hP hD hS wi_2 (by rw [hRm]; exact ⟨Nat.le_of_ble_eq_true rfl, Nat.le_of_ble_eq_true rfl⟩) hl.1 (Nat.le_of_ble_eq_true rfl) dxh_makeClass_16 ⟨Nat.zero_le _, Nat.zero_le _⟩ (fun H locs hP hD hS => ?_)
      refine lv_if_ne (tgt := 24) hx hb dxh_makeClass_19 (by decide) (fun hc => ?_) (fun hc => ?_)
      · have h := (if_neg hc).symm.trans h
        exact J24 l1 hl hP hD hS h
      · have h := (if_pos hc).symm.trans h
        refine lv_iconst (v := (-1)) hx hb dxh_makeClass_22 (by decide) ?_
        have h := Option.some.inj h
        exact hq_iret hx hb hr hlocks hQ hK hP hD hS (by rw [← h]) (by rw [← h]) dxh_makeClass_23
end
section
variable {p : Program} {l : Launch} {e : Env} {R : Room} {s : State} {m : MethodId} {args : Array Value} {below : List Frame} {meth : Method} {c : Code} {H H0 : Heap} {locs : List Loc} {cells slots : Nat} {Q : State → Prop}
variable {cc : ByteArray} {pc idx nC : Nat} {ls : Array Slot} {rest : List Value} {D : va_G} {A : Nat → Prop} {own : String} {q : Nat → Nat} {cI cZ cL : ClassId} {z w : va_W}
variable {hf_classCount hf_objectCount hf_roots hf_changed sf_objectCount sf_roots sf_reachable tf_count tf_bracketCount tf_place tf_inWhere tf_compared wf_count wf_looks n_code n_number s_isDistinct s_isRetained s_sourceClass s_withDescendants : Int32}
variable {ha_parents ha_classes ha_sizes sa_linkedFrom sa_linkCounts sa_retainedSets sa_retainedSizes sa_dominators sa_immediateDominators ta_codes ta_numbers ta_brackets : Nat → Int32}
variable {ha_fields wa_rows : Nat → Int64}
variable {xq_query n_left n_right s_row s_nested s_condition s_next : Option Nat}
variable {pa_n pk_n pa_s pk_s : Nat}
theorem kxh_makeClass (l1 : Int32) (ur : Int32 × (Nat → Int32) × Int32) (hu : sxh_makeClass l1 ha_parents hf_classCount = some ur) (hx : p.tables.exec = Jvm.exec) (hb : c.code = cc) (hml : c.maxLocals = nC) (hts : ∀ x ∈ hq_tbl, x.before args s = true) (hown : s.vm.findClass own = some m.cls) (hK : va_K D hq_cl (hq_tys cI cZ cL) s) (hP : va_P D hq_cl (hx_w q cI cZ cL xq_query ha_parents hf_classCount ha_classes ha_sizes ha_fields hf_objectCount hf_roots hf_changed sa_linkedFrom sa_linkCounts sa_retainedSets sa_retainedSizes sa_dominators sa_immediateDominators sf_objectCount sf_roots sf_reachable ta_codes ta_numbers tf_count ta_brackets tf_bracketCount tf_place tf_inWhere tf_compared wa_rows wf_count wf_looks ++ z) H) (hD : va_D A (hx_w q cI cZ cL xq_query ha_parents hf_classCount ha_classes ha_sizes ha_fields hf_objectCount hf_roots hf_changed sa_linkedFrom sa_linkCounts sa_retainedSets sa_retainedSizes sa_dominators sa_immediateDominators sf_objectCount sf_roots sf_reachable ta_codes ta_numbers tf_count ta_brackets tf_bracketCount tf_place tf_inWhere tf_compared wa_rows wf_count wf_looks ++ z)) (hS : va_S A H0 H locs) (h1 : Cond.methodLink own idx yxh_makeClass ∈ hq_tbl) (hR : 1 + 1 ≤ R.frames ∧ 8 + (2 + 11) + 21 ≤ R.locals) (hls : ls.size = nC) (hW : (rest.map fun v => v.category).sum ≤ 8) (hdg : decode cc pc = .ok (.invokevirtual idx, 3)) (hf : cells + 0 ≤ R.cells ∧ slots + 0 ≤ R.slots) (kk : ∀ (H1 : Heap) (locs1 : List Loc), va_P D hq_cl (hx_w q cI cZ cL xq_query ur.2.1 ur.2.2 ha_classes ha_sizes ha_fields hf_objectCount hf_roots hf_changed sa_linkedFrom sa_linkCounts sa_retainedSets sa_retainedSizes sa_dominators sa_immediateDominators sf_objectCount sf_roots sf_reachable ta_codes ta_numbers tf_count ta_brackets tf_bracketCount tf_place tf_inWhere tf_compared wa_rows wf_count wf_looks ++ z) H1 → va_D A (hx_w q cI cZ cL xq_query ur.2.1 ur.2.2 ha_classes ha_sizes ha_fields hf_objectCount hf_roots hf_changed sa_linkedFrom sa_linkCounts sa_retainedSets sa_retainedSizes sa_dominators sa_immediateDominators sf_objectCount sf_roots sf_reachable ta_codes ta_numbers tf_count ta_brackets tf_bracketCount tf_place tf_inWhere tf_compared wa_rows wf_count wf_looks ++ z) → va_S A H0 H1 locs1 → W p l e R s m args below meth c H1 locs1 cells slots Q (F0 m (pc + 3) ls (.int ur.1 :: rest))) : W p l e R s m args below meth c H locs cells slots Q (F0 m pc ls (.int l1 :: .ref (q 1) :: rest)) :=
  hq_callV (q0 := 1) hx hb hml hown hts hK hP hD hS (cxh_makeClass l1 ur hu) rfl rfl h1 wi_204 wi_205 wi_202 wi_206 1 rfl (by decide +kernel) ⟨rfl, rfl⟩ hR hls rfl hW hdg hf kk
end
theorem dxq_addClass_0 : decode bxq_addClass 0 = .ok (.aload_n 0, 1) := by decide +kernel
theorem dxq_addClass_1 : decode bxq_addClass 1 = .ok (.getfield 12, 3) := by decide +kernel
theorem dxq_addClass_4 : decode bxq_addClass 4 = .ok (.iload_n 1, 1) := by decide +kernel
theorem dxq_addClass_5 : decode bxq_addClass 5 = .ok (.invokevirtual 30, 3) := by decide +kernel
theorem dxq_addClass_8 : decode bxq_addClass 8 = .ok (.ireturn, 1) := by decide +kernel
section
variable {l : Launch} {D : va_G} {A : Nat → Prop} {z w : va_W} {q : Nat → Nat} {cI cZ cL : ClassId}
variable {hf_classCount hf_objectCount hf_roots hf_changed sf_objectCount sf_roots sf_reachable tf_count tf_bracketCount tf_place tf_inWhere tf_compared wf_count wf_looks n_code n_number s_isDistinct s_isRetained s_sourceClass s_withDescendants : Int32}
variable {ha_parents ha_classes ha_sizes sa_linkedFrom sa_linkCounts sa_retainedSets sa_retainedSizes sa_dominators sa_immediateDominators ta_codes ta_numbers ta_brackets : Nat → Int32}
variable {ha_fields wa_rows : Nat → Int64}
variable {xq_query n_left n_right s_row s_nested s_condition s_next : Option Nat}
variable {pa_n pk_n pa_s pk_s : Nat}
set_option maxHeartbeats 4000000 in
set_option maxRecDepth 100000 in
theorem cxq_addClass (l1 : Int32) (ur : Int32 × (Nat → Int32) × Int32) (h : sxq_addClass l1 ha_parents hf_classCount = some ur) : hq_Ct l yxq_addClass bxq_addClass 2 (some .int) { frames := 2, cells := 0, slots := 0, locals := 42 } D (hq_tys cI cZ cL) A [.ref (q 0), .int l1] (hx_w q cI cZ cL xq_query ha_parents hf_classCount ha_classes ha_sizes ha_fields hf_objectCount hf_roots hf_changed sa_linkedFrom sa_linkCounts sa_retainedSets sa_retainedSizes sa_dominators sa_immediateDominators sf_objectCount sf_roots sf_reachable ta_codes ta_numbers tf_count ta_brackets tf_bracketCount tf_place tf_inWhere tf_compared wa_rows wf_count wf_looks ++ z) (hx_w q cI cZ cL xq_query ur.2.1 ur.2.2 ha_classes ha_sizes ha_fields hf_objectCount hf_roots hf_changed sa_linkedFrom sa_linkCounts sa_retainedSets sa_retainedSizes sa_dominators sa_immediateDominators sf_objectCount sf_roots sf_reachable ta_codes ta_numbers tf_count ta_brackets tf_bracketCount tf_place tf_inWhere tf_compared wa_rows wf_count wf_looks ++ z) (some (.int ur.1)) 0 0 := by
  refine hq_of (by decide) ?_ (Nat.le_of_ble_eq_true rfl)
  intro p e s m below meth c R args Q hRm hQ hx hb hr hml hts hown hlocks hnm hP hK hD ls hl hS
  have hl : lv_has ls 2 [(0, .ref (q 0)), (1, .int l1)] := hl
  have hown : s.vm.findClass "HeapQueries" = some m.cls := hown
  unfold sxq_addClass at h
  refine lv_aload_n hx hb dxq_addClass_0 rfl (lv_at hl 0 rfl) ?_
  refine gx_0_heap hx hb hts hown hK hP wi_3 dxq_addClass_1 ?_
  refine lv_iload_n hx hb dxq_addClass_4 rfl (lv_at hl 1 rfl) ?_
  obtain ⟨v5, h5, h⟩ := hq_bind h
  refine kxh_makeClass l1 v5 h5 hx hb hml hts hown hK hP hD hS wi_4 (by rw [hRm]; exact ⟨Nat.le_of_ble_eq_true rfl, Nat.le_of_ble_eq_true rfl⟩) hl.1 (Nat.le_of_ble_eq_true rfl) dxq_addClass_5 ⟨Nat.zero_le _, Nat.zero_le _⟩ (fun H locs hP hD hS => ?_)
  have h := Option.some.inj h
  exact hq_iret hx hb hr hlocks hQ hK hP hD hS (by rw [← h]) (by rw [← h]) dxq_addClass_8
end
section
variable {p : Program} {l : Launch} {e : Env} {R : Room} {s : State} {m : MethodId} {args : Array Value} {below : List Frame} {meth : Method} {c : Code} {H H0 : Heap} {locs : List Loc} {cells slots : Nat} {Q : State → Prop}
variable {cc : ByteArray} {pc idx nC : Nat} {ls : Array Slot} {rest : List Value} {D : va_G} {A : Nat → Prop} {own : String} {q : Nat → Nat} {cI cZ cL : ClassId} {z w : va_W}
variable {hf_classCount hf_objectCount hf_roots hf_changed sf_objectCount sf_roots sf_reachable tf_count tf_bracketCount tf_place tf_inWhere tf_compared wf_count wf_looks n_code n_number s_isDistinct s_isRetained s_sourceClass s_withDescendants : Int32}
variable {ha_parents ha_classes ha_sizes sa_linkedFrom sa_linkCounts sa_retainedSets sa_retainedSizes sa_dominators sa_immediateDominators ta_codes ta_numbers ta_brackets : Nat → Int32}
variable {ha_fields wa_rows : Nat → Int64}
variable {xq_query n_left n_right s_row s_nested s_condition s_next : Option Nat}
variable {pa_n pk_n pa_s pk_s : Nat}
theorem kxq_addClass (l1 : Int32) (ur : Int32 × (Nat → Int32) × Int32) (hu : sxq_addClass l1 ha_parents hf_classCount = some ur) (hx : p.tables.exec = Jvm.exec) (hb : c.code = cc) (hml : c.maxLocals = nC) (hts : ∀ x ∈ hq_tbl, x.before args s = true) (hown : s.vm.findClass own = some m.cls) (hK : va_K D hq_cl (hq_tys cI cZ cL) s) (hP : va_P D hq_cl (hx_w q cI cZ cL xq_query ha_parents hf_classCount ha_classes ha_sizes ha_fields hf_objectCount hf_roots hf_changed sa_linkedFrom sa_linkCounts sa_retainedSets sa_retainedSizes sa_dominators sa_immediateDominators sf_objectCount sf_roots sf_reachable ta_codes ta_numbers tf_count ta_brackets tf_bracketCount tf_place tf_inWhere tf_compared wa_rows wf_count wf_looks ++ z) H) (hD : va_D A (hx_w q cI cZ cL xq_query ha_parents hf_classCount ha_classes ha_sizes ha_fields hf_objectCount hf_roots hf_changed sa_linkedFrom sa_linkCounts sa_retainedSets sa_retainedSizes sa_dominators sa_immediateDominators sf_objectCount sf_roots sf_reachable ta_codes ta_numbers tf_count ta_brackets tf_bracketCount tf_place tf_inWhere tf_compared wa_rows wf_count wf_looks ++ z)) (hS : va_S A H0 H locs) (h1 : Cond.methodLink own idx yxq_addClass ∈ hq_tbl) (hR : 2 + 1 ≤ R.frames ∧ 8 + (2 + 11) + 42 ≤ R.locals) (hls : ls.size = nC) (hW : (rest.map fun v => v.category).sum ≤ 8) (hdg : decode cc pc = .ok (.invokevirtual idx, 3)) (hf : cells + 0 ≤ R.cells ∧ slots + 0 ≤ R.slots) (kk : ∀ (H1 : Heap) (locs1 : List Loc), va_P D hq_cl (hx_w q cI cZ cL xq_query ur.2.1 ur.2.2 ha_classes ha_sizes ha_fields hf_objectCount hf_roots hf_changed sa_linkedFrom sa_linkCounts sa_retainedSets sa_retainedSizes sa_dominators sa_immediateDominators sf_objectCount sf_roots sf_reachable ta_codes ta_numbers tf_count ta_brackets tf_bracketCount tf_place tf_inWhere tf_compared wa_rows wf_count wf_looks ++ z) H1 → va_D A (hx_w q cI cZ cL xq_query ur.2.1 ur.2.2 ha_classes ha_sizes ha_fields hf_objectCount hf_roots hf_changed sa_linkedFrom sa_linkCounts sa_retainedSets sa_retainedSizes sa_dominators sa_immediateDominators sf_objectCount sf_roots sf_reachable ta_codes ta_numbers tf_count ta_brackets tf_bracketCount tf_place tf_inWhere tf_compared wa_rows wf_count wf_looks ++ z) → va_S A H0 H1 locs1 → W p l e R s m args below meth c H1 locs1 cells slots Q (F0 m (pc + 3) ls (.int ur.1 :: rest))) : W p l e R s m args below meth c H locs cells slots Q (F0 m pc ls (.int l1 :: .ref (q 0) :: rest)) :=
  hq_callV (q0 := 0) hx hb hml hown hts hK hP hD hS (cxq_addClass l1 ur hu) rfl rfl h1 wi_207 wi_208 wi_209 wi_210 1 rfl (by decide +kernel) ⟨rfl, rfl⟩ hR hls rfl hW hdg hf kk
end
theorem dxh_makeObject_0 : decode bxh_makeObject 0 = .ok (.aload_n 0, 1) := by decide +kernel
theorem dxh_makeObject_1 : decode bxh_makeObject 1 = .ok (.getfield 40, 3) := by decide +kernel
theorem dxh_makeObject_4 : decode bxh_makeObject 4 = .ok (.bipush 24, 2) := by decide +kernel
theorem dxh_makeObject_6 : decode bxh_makeObject 6 = .ok (.if_icmp .ge 23, 3) := by decide +kernel
theorem dxh_makeObject_9 : decode bxh_makeObject 9 = .ok (.aload_n 0, 1) := by decide +kernel
theorem dxh_makeObject_10 : decode bxh_makeObject 10 = .ok (.iload_n 1, 1) := by decide +kernel
theorem dxh_makeObject_11 : decode bxh_makeObject 11 = .ok (.invokevirtual 36, 3) := by decide +kernel
theorem dxh_makeObject_14 : decode bxh_makeObject 14 = .ok (.ifCond .eq 15, 3) := by decide +kernel
theorem dxh_makeObject_17 : decode bxh_makeObject 17 = .ok (.iload_n 2, 1) := by decide +kernel
theorem dxh_makeObject_18 : decode bxh_makeObject 18 = .ok (.iconst 1, 1) := by decide +kernel
theorem dxh_makeObject_19 : decode bxh_makeObject 19 = .ok (.if_icmp .lt 10, 3) := by decide +kernel
theorem dxh_makeObject_22 : decode bxh_makeObject 22 = .ok (.iload_n 2, 1) := by decide +kernel
theorem dxh_makeObject_23 : decode bxh_makeObject 23 = .ok (.sipush 1000, 3) := by decide +kernel
theorem dxh_makeObject_26 : decode bxh_makeObject 26 = .ok (.if_icmp .le 5, 3) := by decide +kernel
theorem dxh_makeObject_29 : decode bxh_makeObject 29 = .ok (.iconst (-1), 1) := by decide +kernel
theorem dxh_makeObject_30 : decode bxh_makeObject 30 = .ok (.ireturn, 1) := by decide +kernel
theorem dxh_makeObject_31 : decode bxh_makeObject 31 = .ok (.aload_n 0, 1) := by decide +kernel
theorem dxh_makeObject_32 : decode bxh_makeObject 32 = .ok (.getfield 15, 3) := by decide +kernel
theorem dxh_makeObject_35 : decode bxh_makeObject 35 = .ok (.aload_n 0, 1) := by decide +kernel
theorem dxh_makeObject_36 : decode bxh_makeObject 36 = .ok (.getfield 40, 3) := by decide +kernel
theorem dxh_makeObject_39 : decode bxh_makeObject 39 = .ok (.iload_n 1, 1) := by decide +kernel
theorem dxh_makeObject_40 : decode bxh_makeObject 40 = .ok (.iastore, 1) := by decide +kernel
theorem dxh_makeObject_41 : decode bxh_makeObject 41 = .ok (.aload_n 0, 1) := by decide +kernel
theorem dxh_makeObject_42 : decode bxh_makeObject 42 = .ok (.getfield 18, 3) := by decide +kernel
theorem dxh_makeObject_45 : decode bxh_makeObject 45 = .ok (.aload_n 0, 1) := by decide +kernel
theorem dxh_makeObject_46 : decode bxh_makeObject 46 = .ok (.getfield 40, 3) := by decide +kernel
theorem dxh_makeObject_49 : decode bxh_makeObject 49 = .ok (.iload_n 2, 1) := by decide +kernel
theorem dxh_makeObject_50 : decode bxh_makeObject 50 = .ok (.iastore, 1) := by decide +kernel
theorem dxh_makeObject_51 : decode bxh_makeObject 51 = .ok (.aload_n 0, 1) := by decide +kernel
theorem dxh_makeObject_52 : decode bxh_makeObject 52 = .ok (.dup, 1) := by decide +kernel
theorem dxh_makeObject_53 : decode bxh_makeObject 53 = .ok (.getfield 40, 3) := by decide +kernel
theorem dxh_makeObject_56 : decode bxh_makeObject 56 = .ok (.iconst 1, 1) := by decide +kernel
theorem dxh_makeObject_57 : decode bxh_makeObject 57 = .ok (.iadd, 1) := by decide +kernel
theorem dxh_makeObject_58 : decode bxh_makeObject 58 = .ok (.putfield 40, 3) := by decide +kernel
theorem dxh_makeObject_61 : decode bxh_makeObject 61 = .ok (.aload_n 0, 1) := by decide +kernel
theorem dxh_makeObject_62 : decode bxh_makeObject 62 = .ok (.iconst 1, 1) := by decide +kernel
theorem dxh_makeObject_63 : decode bxh_makeObject 63 = .ok (.putfield 43, 3) := by decide +kernel
theorem dxh_makeObject_66 : decode bxh_makeObject 66 = .ok (.aload_n 0, 1) := by decide +kernel
theorem dxh_makeObject_67 : decode bxh_makeObject 67 = .ok (.getfield 40, 3) := by decide +kernel
theorem dxh_makeObject_70 : decode bxh_makeObject 70 = .ok (.iconst 1, 1) := by decide +kernel
theorem dxh_makeObject_71 : decode bxh_makeObject 71 = .ok (.isub, 1) := by decide +kernel
theorem dxh_makeObject_72 : decode bxh_makeObject 72 = .ok (.ireturn, 1) := by decide +kernel
section
variable {l : Launch} {D : va_G} {A : Nat → Prop} {z w : va_W} {q : Nat → Nat} {cI cZ cL : ClassId}
variable {hf_classCount hf_objectCount hf_roots hf_changed sf_objectCount sf_roots sf_reachable tf_count tf_bracketCount tf_place tf_inWhere tf_compared wf_count wf_looks n_code n_number s_isDistinct s_isRetained s_sourceClass s_withDescendants : Int32}
variable {ha_parents ha_classes ha_sizes sa_linkedFrom sa_linkCounts sa_retainedSets sa_retainedSizes sa_dominators sa_immediateDominators ta_codes ta_numbers ta_brackets : Nat → Int32}
variable {ha_fields wa_rows : Nat → Int64}
variable {xq_query n_left n_right s_row s_nested s_condition s_next : Option Nat}
variable {pa_n pk_n pa_s pk_s : Nat}
set_option maxHeartbeats 4000000 in
set_option maxRecDepth 100000 in
theorem cxh_makeObject (l1 : Int32) (l2 : Int32) (ur : Int32 × (Nat → Int32) × (Nat → Int32) × Int32 × Int32) (h : sxh_makeObject l1 l2 hf_classCount ha_classes ha_sizes hf_objectCount hf_changed = some ur) : hq_Ct l yxh_makeObject bxh_makeObject 3 (some .int) { frames := 1, cells := 0, slots := 0, locals := 21 } D (hq_tys cI cZ cL) A [.ref (q 1), .int l1, .int l2] (hx_w q cI cZ cL xq_query ha_parents hf_classCount ha_classes ha_sizes ha_fields hf_objectCount hf_roots hf_changed sa_linkedFrom sa_linkCounts sa_retainedSets sa_retainedSizes sa_dominators sa_immediateDominators sf_objectCount sf_roots sf_reachable ta_codes ta_numbers tf_count ta_brackets tf_bracketCount tf_place tf_inWhere tf_compared wa_rows wf_count wf_looks ++ z) (hx_w q cI cZ cL xq_query ha_parents hf_classCount ur.2.1 ur.2.2.1 ha_fields ur.2.2.2.1 hf_roots ur.2.2.2.2 sa_linkedFrom sa_linkCounts sa_retainedSets sa_retainedSizes sa_dominators sa_immediateDominators sf_objectCount sf_roots sf_reachable ta_codes ta_numbers tf_count ta_brackets tf_bracketCount tf_place tf_inWhere tf_compared wa_rows wf_count wf_looks ++ z) (some (.int ur.1)) 0 0 := by
  refine hq_of (by decide) ?_ (Nat.le_of_ble_eq_true rfl)
  intro p e s m below meth c R args Q hRm hQ hx hb hr hml hts hown hlocks hnm hP hK hD ls hl hS
  have hl : lv_has ls 3 [(0, .ref (q 1)), (1, .int l1), (2, .int l2)] := hl
  have hown : s.vm.findClass "HeapQueries$Heap" = some m.cls := hown
  unfold sxh_makeObject at h
  refine lv_aload_n hx hb dxh_makeObject_0 rfl (lv_at hl 0 rfl) ?_
  refine gx_1_objectCount hx hb hts hown hK hP wi_5 dxh_makeObject_1 ?_
  refine lv_bipush (v := 24) hx hb dxh_makeObject_4 (by decide) ?_
  refine lv_icmp_ge (tgt := 29) hx hb dxh_makeObject_6 (by decide) (fun hc => ?_) (fun hc => ?_)
  · have h := (if_pos hc).symm.trans h
    refine lv_iconst (v := (-1)) hx hb dxh_makeObject_29 (by decide) ?_
    have h := Option.some.inj h
    exact hq_iret hx hb hr hlocks hQ hK hP hD hS (by rw [← h]) (by rw [← h]) dxh_makeObject_30
  · have h := (if_neg hc).symm.trans h
    refine lv_aload_n hx hb dxh_makeObject_9 rfl (lv_at hl 0 rfl) ?_
    refine lv_iload_n hx hb dxh_makeObject_10 rfl (lv_at hl 1 rfl) ?_
    refine kxh_hasClass l1 (sxh_hasClass l1 hf_classCount) rfl hx hb hml hts hown hK hP hD hS wi_2 (by rw [hRm]; exact ⟨Nat.le_of_ble_eq_true rfl, Nat.le_of_ble_eq_true rfl⟩) hl.1 (Nat.le_of_ble_eq_true rfl) dxh_makeObject_11 ⟨Nat.zero_le _, Nat.zero_le _⟩ (fun H locs hP hD hS => ?_)
    refine lv_if_eq (tgt := 29) hx hb dxh_makeObject_14 (by decide) (fun hc => ?_) (fun hc => ?_)
    · have h := (if_pos hc).symm.trans h
      refine lv_iconst (v := (-1)) hx hb dxh_makeObject_29 (by decide) ?_
      have h := Option.some.inj h
      exact hq_iret hx hb hr hlocks hQ hK hP hD hS (by rw [← h]) (by rw [← h]) dxh_makeObject_30
    · have h := (if_neg hc).symm.trans h
      refine lv_iload_n hx hb dxh_makeObject_17 rfl (lv_at hl 2 rfl) ?_
      refine lv_iconst (v := 1) hx hb dxh_makeObject_18 (by decide) ?_
      refine lv_icmp_lt (tgt := 29) hx hb dxh_makeObject_19 (by decide) (fun hc => ?_) (fun hc => ?_)
      · have h := (if_pos hc).symm.trans h
        refine lv_iconst (v := (-1)) hx hb dxh_makeObject_29 (by decide) ?_
        have h := Option.some.inj h
        exact hq_iret hx hb hr hlocks hQ hK hP hD hS (by rw [← h]) (by rw [← h]) dxh_makeObject_30
      · have h := (if_neg hc).symm.trans h
        refine lv_iload_n hx hb dxh_makeObject_22 rfl (lv_at hl 2 rfl) ?_
        refine lv_sipush (v := 1000) hx hb dxh_makeObject_23 (by decide) ?_
        refine lv_icmp_le (tgt := 31) hx hb dxh_makeObject_26 (by decide) (fun hc => ?_) (fun hc => ?_)
        · have h := (if_pos hc).symm.trans h
          refine lv_aload_n hx hb dxh_makeObject_31 rfl (lv_at hl 0 rfl) ?_
          refine gx_1_classes hx hb hts hown hK hP wi_6 dxh_makeObject_32 ?_
          refine lv_aload_n hx hb dxh_makeObject_35 rfl (lv_at hl 0 rfl) ?_
          refine gx_1_objectCount hx hb hts hown hK hP wi_5 dxh_makeObject_36 ?_
          refine lv_iload_n hx hb dxh_makeObject_39 rfl (lv_at hl 1 rfl) ?_
          obtain ⟨hin, h⟩ := hq_idx h
          refine tx_6 hx hb hK hP hD hS hin dxh_makeObject_40 (fun H locs hP hD hS => ?_)
          refine lv_aload_n hx hb dxh_makeObject_41 rfl (lv_at hl 0 rfl) ?_
          refine gx_1_sizes hx hb hts hown hK hP wi_7 dxh_makeObject_42 ?_
          refine lv_aload_n hx hb dxh_makeObject_45 rfl (lv_at hl 0 rfl) ?_
          refine gx_1_objectCount hx hb hts hown hK hP wi_5 dxh_makeObject_46 ?_
          refine lv_iload_n hx hb dxh_makeObject_49 rfl (lv_at hl 2 rfl) ?_
          obtain ⟨hin, h⟩ := hq_idx h
          refine tx_7 hx hb hK hP hD hS hin dxh_makeObject_50 (fun H locs hP hD hS => ?_)
          refine lv_aload_n hx hb dxh_makeObject_51 rfl (lv_at hl 0 rfl) ?_
          refine lv_dup hx hb dxh_makeObject_52 rfl ?_
          refine gx_1_objectCount hx hb hts hown hK hP wi_5 dxh_makeObject_53 ?_
          refine lv_iconst (v := 1) hx hb dxh_makeObject_56 (by decide) ?_
          refine lv_iadd hx hb dxh_makeObject_57 ?_
          refine px_1_objectCount hx hb hts hown hK hP hD hS wi_5 dxh_makeObject_58 (fun H locs hP hD hS => ?_)
          refine lv_aload_n hx hb dxh_makeObject_61 rfl (lv_at hl 0 rfl) ?_
          refine lv_iconst (v := 1) hx hb dxh_makeObject_62 (by decide) ?_
          refine px_1_changed hx hb hts hown hK hP hD hS wi_8 (by decide) dxh_makeObject_63 (fun H locs hP hD hS => ?_)
          refine lv_aload_n hx hb dxh_makeObject_66 rfl (lv_at hl 0 rfl) ?_
          refine gx_1_objectCount hx hb hts hown hK hP wi_5 dxh_makeObject_67 ?_
          refine lv_iconst (v := 1) hx hb dxh_makeObject_70 (by decide) ?_
          refine lv_isub hx hb dxh_makeObject_71 ?_
          have h := Option.some.inj h
          exact hq_iret hx hb hr hlocks hQ hK hP hD hS (by rw [← h]) (by rw [← h]) dxh_makeObject_72
        · have h := (if_neg hc).symm.trans h
          refine lv_iconst (v := (-1)) hx hb dxh_makeObject_29 (by decide) ?_
          have h := Option.some.inj h
          exact hq_iret hx hb hr hlocks hQ hK hP hD hS (by rw [← h]) (by rw [← h]) dxh_makeObject_30
end
section
variable {p : Program} {l : Launch} {e : Env} {R : Room} {s : State} {m : MethodId} {args : Array Value} {below : List Frame} {meth : Method} {c : Code} {H H0 : Heap} {locs : List Loc} {cells slots : Nat} {Q : State → Prop}
variable {cc : ByteArray} {pc idx nC : Nat} {ls : Array Slot} {rest : List Value} {D : va_G} {A : Nat → Prop} {own : String} {q : Nat → Nat} {cI cZ cL : ClassId} {z w : va_W}
variable {hf_classCount hf_objectCount hf_roots hf_changed sf_objectCount sf_roots sf_reachable tf_count tf_bracketCount tf_place tf_inWhere tf_compared wf_count wf_looks n_code n_number s_isDistinct s_isRetained s_sourceClass s_withDescendants : Int32}
variable {ha_parents ha_classes ha_sizes sa_linkedFrom sa_linkCounts sa_retainedSets sa_retainedSizes sa_dominators sa_immediateDominators ta_codes ta_numbers ta_brackets : Nat → Int32}
variable {ha_fields wa_rows : Nat → Int64}
variable {xq_query n_left n_right s_row s_nested s_condition s_next : Option Nat}
variable {pa_n pk_n pa_s pk_s : Nat}
theorem kxh_makeObject (l1 : Int32) (l2 : Int32) (ur : Int32 × (Nat → Int32) × (Nat → Int32) × Int32 × Int32) (hu : sxh_makeObject l1 l2 hf_classCount ha_classes ha_sizes hf_objectCount hf_changed = some ur) (hx : p.tables.exec = Jvm.exec) (hb : c.code = cc) (hml : c.maxLocals = nC) (hts : ∀ x ∈ hq_tbl, x.before args s = true) (hown : s.vm.findClass own = some m.cls) (hK : va_K D hq_cl (hq_tys cI cZ cL) s) (hP : va_P D hq_cl (hx_w q cI cZ cL xq_query ha_parents hf_classCount ha_classes ha_sizes ha_fields hf_objectCount hf_roots hf_changed sa_linkedFrom sa_linkCounts sa_retainedSets sa_retainedSizes sa_dominators sa_immediateDominators sf_objectCount sf_roots sf_reachable ta_codes ta_numbers tf_count ta_brackets tf_bracketCount tf_place tf_inWhere tf_compared wa_rows wf_count wf_looks ++ z) H) (hD : va_D A (hx_w q cI cZ cL xq_query ha_parents hf_classCount ha_classes ha_sizes ha_fields hf_objectCount hf_roots hf_changed sa_linkedFrom sa_linkCounts sa_retainedSets sa_retainedSizes sa_dominators sa_immediateDominators sf_objectCount sf_roots sf_reachable ta_codes ta_numbers tf_count ta_brackets tf_bracketCount tf_place tf_inWhere tf_compared wa_rows wf_count wf_looks ++ z)) (hS : va_S A H0 H locs) (h1 : Cond.methodLink own idx yxh_makeObject ∈ hq_tbl) (hR : 1 + 1 ≤ R.frames ∧ 8 + (3 + 11) + 21 ≤ R.locals) (hls : ls.size = nC) (hW : (rest.map fun v => v.category).sum ≤ 8) (hdg : decode cc pc = .ok (.invokevirtual idx, 3)) (hf : cells + 0 ≤ R.cells ∧ slots + 0 ≤ R.slots) (kk : ∀ (H1 : Heap) (locs1 : List Loc), va_P D hq_cl (hx_w q cI cZ cL xq_query ha_parents hf_classCount ur.2.1 ur.2.2.1 ha_fields ur.2.2.2.1 hf_roots ur.2.2.2.2 sa_linkedFrom sa_linkCounts sa_retainedSets sa_retainedSizes sa_dominators sa_immediateDominators sf_objectCount sf_roots sf_reachable ta_codes ta_numbers tf_count ta_brackets tf_bracketCount tf_place tf_inWhere tf_compared wa_rows wf_count wf_looks ++ z) H1 → va_D A (hx_w q cI cZ cL xq_query ha_parents hf_classCount ur.2.1 ur.2.2.1 ha_fields ur.2.2.2.1 hf_roots ur.2.2.2.2 sa_linkedFrom sa_linkCounts sa_retainedSets sa_retainedSizes sa_dominators sa_immediateDominators sf_objectCount sf_roots sf_reachable ta_codes ta_numbers tf_count ta_brackets tf_bracketCount tf_place tf_inWhere tf_compared wa_rows wf_count wf_looks ++ z) → va_S A H0 H1 locs1 → W p l e R s m args below meth c H1 locs1 cells slots Q (F0 m (pc + 3) ls (.int ur.1 :: rest))) : W p l e R s m args below meth c H locs cells slots Q (F0 m pc ls (.int l2 :: .int l1 :: .ref (q 1) :: rest)) :=
  hq_callV (q0 := 1) hx hb hml hown hts hK hP hD hS (cxh_makeObject l1 l2 ur hu) rfl rfl h1 wi_211 wi_212 wi_202 wi_213 2 rfl (by decide +kernel) ⟨rfl, rfl⟩ hR hls rfl hW hdg hf kk
end
theorem dxq_addObject_0 : decode bxq_addObject 0 = .ok (.aload_n 0, 1) := by decide +kernel
theorem dxq_addObject_1 : decode bxq_addObject 1 = .ok (.getfield 12, 3) := by decide +kernel
theorem dxq_addObject_4 : decode bxq_addObject 4 = .ok (.iload_n 1, 1) := by decide +kernel
theorem dxq_addObject_5 : decode bxq_addObject 5 = .ok (.iload_n 2, 1) := by decide +kernel
theorem dxq_addObject_6 : decode bxq_addObject 6 = .ok (.invokevirtual 34, 3) := by decide +kernel
theorem dxq_addObject_9 : decode bxq_addObject 9 = .ok (.ireturn, 1) := by decide +kernel
section
variable {l : Launch} {D : va_G} {A : Nat → Prop} {z w : va_W} {q : Nat → Nat} {cI cZ cL : ClassId}
variable {hf_classCount hf_objectCount hf_roots hf_changed sf_objectCount sf_roots sf_reachable tf_count tf_bracketCount tf_place tf_inWhere tf_compared wf_count wf_looks n_code n_number s_isDistinct s_isRetained s_sourceClass s_withDescendants : Int32}
variable {ha_parents ha_classes ha_sizes sa_linkedFrom sa_linkCounts sa_retainedSets sa_retainedSizes sa_dominators sa_immediateDominators ta_codes ta_numbers ta_brackets : Nat → Int32}
variable {ha_fields wa_rows : Nat → Int64}
variable {xq_query n_left n_right s_row s_nested s_condition s_next : Option Nat}
variable {pa_n pk_n pa_s pk_s : Nat}
set_option maxHeartbeats 4000000 in
set_option maxRecDepth 100000 in
theorem cxq_addObject (l1 : Int32) (l2 : Int32) (ur : Int32 × (Nat → Int32) × (Nat → Int32) × Int32 × Int32) (h : sxq_addObject l1 l2 hf_classCount ha_classes ha_sizes hf_objectCount hf_changed = some ur) : hq_Ct l yxq_addObject bxq_addObject 3 (some .int) { frames := 2, cells := 0, slots := 0, locals := 43 } D (hq_tys cI cZ cL) A [.ref (q 0), .int l1, .int l2] (hx_w q cI cZ cL xq_query ha_parents hf_classCount ha_classes ha_sizes ha_fields hf_objectCount hf_roots hf_changed sa_linkedFrom sa_linkCounts sa_retainedSets sa_retainedSizes sa_dominators sa_immediateDominators sf_objectCount sf_roots sf_reachable ta_codes ta_numbers tf_count ta_brackets tf_bracketCount tf_place tf_inWhere tf_compared wa_rows wf_count wf_looks ++ z) (hx_w q cI cZ cL xq_query ha_parents hf_classCount ur.2.1 ur.2.2.1 ha_fields ur.2.2.2.1 hf_roots ur.2.2.2.2 sa_linkedFrom sa_linkCounts sa_retainedSets sa_retainedSizes sa_dominators sa_immediateDominators sf_objectCount sf_roots sf_reachable ta_codes ta_numbers tf_count ta_brackets tf_bracketCount tf_place tf_inWhere tf_compared wa_rows wf_count wf_looks ++ z) (some (.int ur.1)) 0 0 := by
  refine hq_of (by decide) ?_ (Nat.le_of_ble_eq_true rfl)
  intro p e s m below meth c R args Q hRm hQ hx hb hr hml hts hown hlocks hnm hP hK hD ls hl hS
  have hl : lv_has ls 3 [(0, .ref (q 0)), (1, .int l1), (2, .int l2)] := hl
  have hown : s.vm.findClass "HeapQueries" = some m.cls := hown
  unfold sxq_addObject at h
  refine lv_aload_n hx hb dxq_addObject_0 rfl (lv_at hl 0 rfl) ?_
  refine gx_0_heap hx hb hts hown hK hP wi_3 dxq_addObject_1 ?_
  refine lv_iload_n hx hb dxq_addObject_4 rfl (lv_at hl 1 rfl) ?_
  refine lv_iload_n hx hb dxq_addObject_5 rfl (lv_at hl 2 rfl) ?_
  obtain ⟨v6, h6, h⟩ := hq_bind h
  refine kxh_makeObject l1 l2 v6 h6 hx hb hml hts hown hK hP hD hS wi_9 (by rw [hRm]; exact ⟨Nat.le_of_ble_eq_true rfl, Nat.le_of_ble_eq_true rfl⟩) hl.1 (Nat.le_of_ble_eq_true rfl) dxq_addObject_6 ⟨Nat.zero_le _, Nat.zero_le _⟩ (fun H locs hP hD hS => ?_)
  have h := Option.some.inj h
  exact hq_iret hx hb hr hlocks hQ hK hP hD hS (by rw [← h]) (by rw [← h]) dxq_addObject_9
end
section
variable {p : Program} {l : Launch} {e : Env} {R : Room} {s : State} {m : MethodId} {args : Array Value} {below : List Frame} {meth : Method} {c : Code} {H H0 : Heap} {locs : List Loc} {cells slots : Nat} {Q : State → Prop}
variable {cc : ByteArray} {pc idx nC : Nat} {ls : Array Slot} {rest : List Value} {D : va_G} {A : Nat → Prop} {own : String} {q : Nat → Nat} {cI cZ cL : ClassId} {z w : va_W}
variable {hf_classCount hf_objectCount hf_roots hf_changed sf_objectCount sf_roots sf_reachable tf_count tf_bracketCount tf_place tf_inWhere tf_compared wf_count wf_looks n_code n_number s_isDistinct s_isRetained s_sourceClass s_withDescendants : Int32}
variable {ha_parents ha_classes ha_sizes sa_linkedFrom sa_linkCounts sa_retainedSets sa_retainedSizes sa_dominators sa_immediateDominators ta_codes ta_numbers ta_brackets : Nat → Int32}
variable {ha_fields wa_rows : Nat → Int64}
variable {xq_query n_left n_right s_row s_nested s_condition s_next : Option Nat}
variable {pa_n pk_n pa_s pk_s : Nat}
theorem kxq_addObject (l1 : Int32) (l2 : Int32) (ur : Int32 × (Nat → Int32) × (Nat → Int32) × Int32 × Int32) (hu : sxq_addObject l1 l2 hf_classCount ha_classes ha_sizes hf_objectCount hf_changed = some ur) (hx : p.tables.exec = Jvm.exec) (hb : c.code = cc) (hml : c.maxLocals = nC) (hts : ∀ x ∈ hq_tbl, x.before args s = true) (hown : s.vm.findClass own = some m.cls) (hK : va_K D hq_cl (hq_tys cI cZ cL) s) (hP : va_P D hq_cl (hx_w q cI cZ cL xq_query ha_parents hf_classCount ha_classes ha_sizes ha_fields hf_objectCount hf_roots hf_changed sa_linkedFrom sa_linkCounts sa_retainedSets sa_retainedSizes sa_dominators sa_immediateDominators sf_objectCount sf_roots sf_reachable ta_codes ta_numbers tf_count ta_brackets tf_bracketCount tf_place tf_inWhere tf_compared wa_rows wf_count wf_looks ++ z) H) (hD : va_D A (hx_w q cI cZ cL xq_query ha_parents hf_classCount ha_classes ha_sizes ha_fields hf_objectCount hf_roots hf_changed sa_linkedFrom sa_linkCounts sa_retainedSets sa_retainedSizes sa_dominators sa_immediateDominators sf_objectCount sf_roots sf_reachable ta_codes ta_numbers tf_count ta_brackets tf_bracketCount tf_place tf_inWhere tf_compared wa_rows wf_count wf_looks ++ z)) (hS : va_S A H0 H locs) (h1 : Cond.methodLink own idx yxq_addObject ∈ hq_tbl) (hR : 2 + 1 ≤ R.frames ∧ 8 + (3 + 11) + 43 ≤ R.locals) (hls : ls.size = nC) (hW : (rest.map fun v => v.category).sum ≤ 8) (hdg : decode cc pc = .ok (.invokevirtual idx, 3)) (hf : cells + 0 ≤ R.cells ∧ slots + 0 ≤ R.slots) (kk : ∀ (H1 : Heap) (locs1 : List Loc), va_P D hq_cl (hx_w q cI cZ cL xq_query ha_parents hf_classCount ur.2.1 ur.2.2.1 ha_fields ur.2.2.2.1 hf_roots ur.2.2.2.2 sa_linkedFrom sa_linkCounts sa_retainedSets sa_retainedSizes sa_dominators sa_immediateDominators sf_objectCount sf_roots sf_reachable ta_codes ta_numbers tf_count ta_brackets tf_bracketCount tf_place tf_inWhere tf_compared wa_rows wf_count wf_looks ++ z) H1 → va_D A (hx_w q cI cZ cL xq_query ha_parents hf_classCount ur.2.1 ur.2.2.1 ha_fields ur.2.2.2.1 hf_roots ur.2.2.2.2 sa_linkedFrom sa_linkCounts sa_retainedSets sa_retainedSizes sa_dominators sa_immediateDominators sf_objectCount sf_roots sf_reachable ta_codes ta_numbers tf_count ta_brackets tf_bracketCount tf_place tf_inWhere tf_compared wa_rows wf_count wf_looks ++ z) → va_S A H0 H1 locs1 → W p l e R s m args below meth c H1 locs1 cells slots Q (F0 m (pc + 3) ls (.int ur.1 :: rest))) : W p l e R s m args below meth c H locs cells slots Q (F0 m pc ls (.int l2 :: .int l1 :: .ref (q 0) :: rest)) :=
  hq_callV (q0 := 0) hx hb hml hown hts hK hP hD hS (cxq_addObject l1 l2 ur hu) rfl rfl h1 wi_214 wi_215 wi_209 wi_216 2 rfl (by decide +kernel) ⟨rfl, rfl⟩ hR hls rfl hW hdg hf kk
end
theorem dxh_hasObject_0 : decode bxh_hasObject 0 = .ok (.iload_n 1, 1) := by decide +kernel
theorem dxh_hasObject_1 : decode bxh_hasObject 1 = .ok (.ifCond .lt 15, 3) := by decide +kernel
theorem dxh_hasObject_4 : decode bxh_hasObject 4 = .ok (.iload_n 1, 1) := by decide +kernel
theorem dxh_hasObject_5 : decode bxh_hasObject 5 = .ok (.aload_n 0, 1) := by decide +kernel
theorem dxh_hasObject_6 : decode bxh_hasObject 6 = .ok (.getfield 40, 3) := by decide +kernel
theorem dxh_hasObject_9 : decode bxh_hasObject 9 = .ok (.if_icmp .ge 7, 3) := by decide +kernel
theorem dxh_hasObject_12 : decode bxh_hasObject 12 = .ok (.iconst 1, 1) := by decide +kernel
theorem dxh_hasObject_13 : decode bxh_hasObject 13 = .ok (.goto 4, 3) := by decide +kernel
theorem dxh_hasObject_16 : decode bxh_hasObject 16 = .ok (.iconst 0, 1) := by decide +kernel
theorem dxh_hasObject_17 : decode bxh_hasObject 17 = .ok (.ireturn, 1) := by decide +kernel
section
variable {l : Launch} {D : va_G} {A : Nat → Prop} {z w : va_W} {q : Nat → Nat} {cI cZ cL : ClassId}
variable {hf_classCount hf_objectCount hf_roots hf_changed sf_objectCount sf_roots sf_reachable tf_count tf_bracketCount tf_place tf_inWhere tf_compared wf_count wf_looks n_code n_number s_isDistinct s_isRetained s_sourceClass s_withDescendants : Int32}
variable {ha_parents ha_classes ha_sizes sa_linkedFrom sa_linkCounts sa_retainedSets sa_retainedSizes sa_dominators sa_immediateDominators ta_codes ta_numbers ta_brackets : Nat → Int32}
variable {ha_fields wa_rows : Nat → Int64}
variable {xq_query n_left n_right s_row s_nested s_condition s_next : Option Nat}
variable {pa_n pk_n pa_s pk_s : Nat}
set_option maxHeartbeats 4000000 in
set_option maxRecDepth 100000 in
theorem cxh_hasObject (l1 : Int32) (ur : Int32) (h : sxh_hasObject l1 hf_objectCount = ur) : hq_Ct l yxh_hasObject bxh_hasObject 2 (some .boolean) { frames := 0, cells := 0, slots := 0, locals := 0 } D (hq_tys cI cZ cL) A [.ref (q 1), .int l1] (hx_w q cI cZ cL xq_query ha_parents hf_classCount ha_classes ha_sizes ha_fields hf_objectCount hf_roots hf_changed sa_linkedFrom sa_linkCounts sa_retainedSets sa_retainedSizes sa_dominators sa_immediateDominators sf_objectCount sf_roots sf_reachable ta_codes ta_numbers tf_count ta_brackets tf_bracketCount tf_place tf_inWhere tf_compared wa_rows wf_count wf_looks ++ z) (hx_w q cI cZ cL xq_query ha_parents hf_classCount ha_classes ha_sizes ha_fields hf_objectCount hf_roots hf_changed sa_linkedFrom sa_linkCounts sa_retainedSets sa_retainedSizes sa_dominators sa_immediateDominators sf_objectCount sf_roots sf_reachable ta_codes ta_numbers tf_count ta_brackets tf_bracketCount tf_place tf_inWhere tf_compared wa_rows wf_count wf_looks ++ z) (some (.int ur)) 0 0 := by
  refine hq_of (by decide) ?_ (Nat.le_of_ble_eq_true rfl)
  intro p e s m below meth c R args Q hRm hQ hx hb hr hml hts hown hlocks hnm hP hK hD ls hl hS
  have hl : lv_has ls 2 [(0, .ref (q 1)), (1, .int l1)] := hl
  have hown : s.vm.findClass "HeapQueries$Heap" = some m.cls := hown
  unfold sxh_hasObject at h
  refine lv_iload_n hx hb dxh_hasObject_0 rfl (lv_at hl 1 rfl) ?_
  refine lv_if_lt (tgt := 16) hx hb dxh_hasObject_1 (by decide) (fun hc => ?_) (fun hc => ?_)
  · have h := (if_pos hc).symm.trans h
    refine lv_iconst (v := 0) hx hb dxh_hasObject_16 (by decide) ?_
    exact hq_zret hx hb hr hlocks hQ hK hP hD hS (by decide) (by rw [← h]) rfl dxh_hasObject_17
  · have h := (if_neg hc).symm.trans h
    refine lv_iload_n hx hb dxh_hasObject_4 rfl (lv_at hl 1 rfl) ?_
    refine lv_aload_n hx hb dxh_hasObject_5 rfl (lv_at hl 0 rfl) ?_
    refine gx_1_objectCount hx hb hts hown hK hP wi_5 dxh_hasObject_6 ?_
    refine lv_icmp_ge (tgt := 16) hx hb dxh_hasObject_9 (by decide) (fun hc => ?_) (fun hc => ?_)
    · have h := (if_pos hc).symm.trans h
      refine lv_iconst (v := 0) hx hb dxh_hasObject_16 (by decide) ?_
      exact hq_zret hx hb hr hlocks hQ hK hP hD hS (by decide) (by rw [← h]) rfl dxh_hasObject_17
    · have h := (if_neg hc).symm.trans h
      refine lv_iconst (v := 1) hx hb dxh_hasObject_12 (by decide) ?_
      refine lv_goto (tgt := 17) hx hb dxh_hasObject_13 (by decide) ?_
      exact hq_zret hx hb hr hlocks hQ hK hP hD hS (by decide) (by rw [← h]) rfl dxh_hasObject_17
end
section
variable {p : Program} {l : Launch} {e : Env} {R : Room} {s : State} {m : MethodId} {args : Array Value} {below : List Frame} {meth : Method} {c : Code} {H H0 : Heap} {locs : List Loc} {cells slots : Nat} {Q : State → Prop}
variable {cc : ByteArray} {pc idx nC : Nat} {ls : Array Slot} {rest : List Value} {D : va_G} {A : Nat → Prop} {own : String} {q : Nat → Nat} {cI cZ cL : ClassId} {z w : va_W}
variable {hf_classCount hf_objectCount hf_roots hf_changed sf_objectCount sf_roots sf_reachable tf_count tf_bracketCount tf_place tf_inWhere tf_compared wf_count wf_looks n_code n_number s_isDistinct s_isRetained s_sourceClass s_withDescendants : Int32}
variable {ha_parents ha_classes ha_sizes sa_linkedFrom sa_linkCounts sa_retainedSets sa_retainedSizes sa_dominators sa_immediateDominators ta_codes ta_numbers ta_brackets : Nat → Int32}
variable {ha_fields wa_rows : Nat → Int64}
variable {xq_query n_left n_right s_row s_nested s_condition s_next : Option Nat}
variable {pa_n pk_n pa_s pk_s : Nat}
theorem kxh_hasObject (l1 : Int32) (ur : Int32) (hu : sxh_hasObject l1 hf_objectCount = ur) (hx : p.tables.exec = Jvm.exec) (hb : c.code = cc) (hml : c.maxLocals = nC) (hts : ∀ x ∈ hq_tbl, x.before args s = true) (hown : s.vm.findClass own = some m.cls) (hK : va_K D hq_cl (hq_tys cI cZ cL) s) (hP : va_P D hq_cl (hx_w q cI cZ cL xq_query ha_parents hf_classCount ha_classes ha_sizes ha_fields hf_objectCount hf_roots hf_changed sa_linkedFrom sa_linkCounts sa_retainedSets sa_retainedSizes sa_dominators sa_immediateDominators sf_objectCount sf_roots sf_reachable ta_codes ta_numbers tf_count ta_brackets tf_bracketCount tf_place tf_inWhere tf_compared wa_rows wf_count wf_looks ++ z) H) (hD : va_D A (hx_w q cI cZ cL xq_query ha_parents hf_classCount ha_classes ha_sizes ha_fields hf_objectCount hf_roots hf_changed sa_linkedFrom sa_linkCounts sa_retainedSets sa_retainedSizes sa_dominators sa_immediateDominators sf_objectCount sf_roots sf_reachable ta_codes ta_numbers tf_count ta_brackets tf_bracketCount tf_place tf_inWhere tf_compared wa_rows wf_count wf_looks ++ z)) (hS : va_S A H0 H locs) (h1 : Cond.methodLink own idx yxh_hasObject ∈ hq_tbl) (hR : 0 + 1 ≤ R.frames ∧ 8 + (2 + 11) + 0 ≤ R.locals) (hls : ls.size = nC) (hW : (rest.map fun v => v.category).sum ≤ 8) (hdg : decode cc pc = .ok (.invokevirtual idx, 3)) (hf : cells + 0 ≤ R.cells ∧ slots + 0 ≤ R.slots) (kk : ∀ (H1 : Heap) (locs1 : List Loc), va_P D hq_cl (hx_w q cI cZ cL xq_query ha_parents hf_classCount ha_classes ha_sizes ha_fields hf_objectCount hf_roots hf_changed sa_linkedFrom sa_linkCounts sa_retainedSets sa_retainedSizes sa_dominators sa_immediateDominators sf_objectCount sf_roots sf_reachable ta_codes ta_numbers tf_count ta_brackets tf_bracketCount tf_place tf_inWhere tf_compared wa_rows wf_count wf_looks ++ z) H1 → va_D A (hx_w q cI cZ cL xq_query ha_parents hf_classCount ha_classes ha_sizes ha_fields hf_objectCount hf_roots hf_changed sa_linkedFrom sa_linkCounts sa_retainedSets sa_retainedSizes sa_dominators sa_immediateDominators sf_objectCount sf_roots sf_reachable ta_codes ta_numbers tf_count ta_brackets tf_bracketCount tf_place tf_inWhere tf_compared wa_rows wf_count wf_looks ++ z) → va_S A H0 H1 locs1 → W p l e R s m args below meth c H1 locs1 cells slots Q (F0 m (pc + 3) ls (.int ur :: rest))) : W p l e R s m args below meth c H locs cells slots Q (F0 m pc ls (.int l1 :: .ref (q 1) :: rest)) :=
  hq_callV (q0 := 1) hx hb hml hown hts hK hP hD hS (cxh_hasObject l1 ur hu) rfl rfl h1 wi_217 wi_218 wi_202 wi_219 1 rfl (by decide +kernel) ⟨rfl, rfl⟩ hR hls rfl hW hdg hf kk
end
theorem dxh_putField_0 : decode bxh_putField 0 = .ok (.aload_n 0, 1) := by decide +kernel
theorem dxh_putField_1 : decode bxh_putField 1 = .ok (.getfield 21, 3) := by decide +kernel
theorem dxh_putField_4 : decode bxh_putField 4 = .ok (.iload_n 1, 1) := by decide +kernel
theorem dxh_putField_5 : decode bxh_putField 5 = .ok (.iconst 4, 1) := by decide +kernel
theorem dxh_putField_6 : decode bxh_putField 6 = .ok (.imul, 1) := by decide +kernel
theorem dxh_putField_7 : decode bxh_putField 7 = .ok (.iload_n 2, 1) := by decide +kernel
theorem dxh_putField_8 : decode bxh_putField 8 = .ok (.iadd, 1) := by decide +kernel
theorem dxh_putField_9 : decode bxh_putField 9 = .ok (.lload_n 3, 1) := by decide +kernel
theorem dxh_putField_10 : decode bxh_putField 10 = .ok (.lastore, 1) := by decide +kernel
theorem dxh_putField_11 : decode bxh_putField 11 = .ok (.aload_n 0, 1) := by decide +kernel
theorem dxh_putField_12 : decode bxh_putField 12 = .ok (.iconst 1, 1) := by decide +kernel
theorem dxh_putField_13 : decode bxh_putField 13 = .ok (.putfield 43, 3) := by decide +kernel
theorem dxh_putField_16 : decode bxh_putField 16 = .ok (.return_, 1) := by decide +kernel
section
variable {l : Launch} {D : va_G} {A : Nat → Prop} {z w : va_W} {q : Nat → Nat} {cI cZ cL : ClassId}
variable {hf_classCount hf_objectCount hf_roots hf_changed sf_objectCount sf_roots sf_reachable tf_count tf_bracketCount tf_place tf_inWhere tf_compared wf_count wf_looks n_code n_number s_isDistinct s_isRetained s_sourceClass s_withDescendants : Int32}
variable {ha_parents ha_classes ha_sizes sa_linkedFrom sa_linkCounts sa_retainedSets sa_retainedSizes sa_dominators sa_immediateDominators ta_codes ta_numbers ta_brackets : Nat → Int32}
variable {ha_fields wa_rows : Nat → Int64}
variable {xq_query n_left n_right s_row s_nested s_condition s_next : Option Nat}
variable {pa_n pk_n pa_s pk_s : Nat}
set_option maxHeartbeats 4000000 in
set_option maxRecDepth 100000 in
theorem cxh_putField (l1 : Int32) (l2 : Int32) (l3 : Int64) (ur : (Nat → Int64) × Int32) (h : sxh_putField l1 l2 l3 ha_fields hf_changed = some ur) : hq_Ct l yxh_putField bxh_putField 5 none { frames := 0, cells := 0, slots := 0, locals := 0 } D (hq_tys cI cZ cL) A [.ref (q 1), .int l1, .int l2, .long l3] (hx_w q cI cZ cL xq_query ha_parents hf_classCount ha_classes ha_sizes ha_fields hf_objectCount hf_roots hf_changed sa_linkedFrom sa_linkCounts sa_retainedSets sa_retainedSizes sa_dominators sa_immediateDominators sf_objectCount sf_roots sf_reachable ta_codes ta_numbers tf_count ta_brackets tf_bracketCount tf_place tf_inWhere tf_compared wa_rows wf_count wf_looks ++ z) (hx_w q cI cZ cL xq_query ha_parents hf_classCount ha_classes ha_sizes ur.1 hf_objectCount hf_roots ur.2 sa_linkedFrom sa_linkCounts sa_retainedSets sa_retainedSizes sa_dominators sa_immediateDominators sf_objectCount sf_roots sf_reachable ta_codes ta_numbers tf_count ta_brackets tf_bracketCount tf_place tf_inWhere tf_compared wa_rows wf_count wf_looks ++ z) none 0 0 := by
  refine hq_of (by decide) ?_ (Nat.le_of_ble_eq_true rfl)
  intro p e s m below meth c R args Q hRm hQ hx hb hr hml hts hown hlocks hnm hP hK hD ls hl hS
  have hl : lv_has ls 5 [(0, .ref (q 1)), (1, .int l1), (2, .int l2), (3, .long l3)] := hl
  have hown : s.vm.findClass "HeapQueries$Heap" = some m.cls := hown
  unfold sxh_putField at h
  refine lv_aload_n hx hb dxh_putField_0 rfl (lv_at hl 0 rfl) ?_
  refine gx_1_fields hx hb hts hown hK hP wi_10 dxh_putField_1 ?_
  refine lv_iload_n hx hb dxh_putField_4 rfl (lv_at hl 1 rfl) ?_
  refine lv_iconst (v := 4) hx hb dxh_putField_5 (by decide) ?_
  refine lv_imul hx hb dxh_putField_6 ?_
  refine lv_iload_n hx hb dxh_putField_7 rfl (lv_at hl 2 rfl) ?_
  refine lv_iadd hx hb dxh_putField_8 ?_
  refine lv_lload_n hx hb dxh_putField_9 rfl (lv_at hl 3 rfl) ?_
  obtain ⟨hin, h⟩ := hq_idx h
  refine tx_8 hx hb hK hP hD hS hin dxh_putField_10 (fun H locs hP hD hS => ?_)
  refine lv_aload_n hx hb dxh_putField_11 rfl (lv_at hl 0 rfl) ?_
  refine lv_iconst (v := 1) hx hb dxh_putField_12 (by decide) ?_
  refine px_1_changed hx hb hts hown hK hP hD hS wi_8 (by decide) dxh_putField_13 (fun H locs hP hD hS => ?_)
  have h := Option.some.inj h
  exact hq_vret hx hb hr hlocks hQ hK hP hD hS rfl (by rw [← h]) dxh_putField_16
end
section
variable {p : Program} {l : Launch} {e : Env} {R : Room} {s : State} {m : MethodId} {args : Array Value} {below : List Frame} {meth : Method} {c : Code} {H H0 : Heap} {locs : List Loc} {cells slots : Nat} {Q : State → Prop}
variable {cc : ByteArray} {pc idx nC : Nat} {ls : Array Slot} {rest : List Value} {D : va_G} {A : Nat → Prop} {own : String} {q : Nat → Nat} {cI cZ cL : ClassId} {z w : va_W}
variable {hf_classCount hf_objectCount hf_roots hf_changed sf_objectCount sf_roots sf_reachable tf_count tf_bracketCount tf_place tf_inWhere tf_compared wf_count wf_looks n_code n_number s_isDistinct s_isRetained s_sourceClass s_withDescendants : Int32}
variable {ha_parents ha_classes ha_sizes sa_linkedFrom sa_linkCounts sa_retainedSets sa_retainedSizes sa_dominators sa_immediateDominators ta_codes ta_numbers ta_brackets : Nat → Int32}
variable {ha_fields wa_rows : Nat → Int64}
variable {xq_query n_left n_right s_row s_nested s_condition s_next : Option Nat}
variable {pa_n pk_n pa_s pk_s : Nat}
theorem kxh_putField (l1 : Int32) (l2 : Int32) (l3 : Int64) (ur : (Nat → Int64) × Int32) (hu : sxh_putField l1 l2 l3 ha_fields hf_changed = some ur) (hx : p.tables.exec = Jvm.exec) (hb : c.code = cc) (hml : c.maxLocals = nC) (hts : ∀ x ∈ hq_tbl, x.before args s = true) (hown : s.vm.findClass own = some m.cls) (hK : va_K D hq_cl (hq_tys cI cZ cL) s) (hP : va_P D hq_cl (hx_w q cI cZ cL xq_query ha_parents hf_classCount ha_classes ha_sizes ha_fields hf_objectCount hf_roots hf_changed sa_linkedFrom sa_linkCounts sa_retainedSets sa_retainedSizes sa_dominators sa_immediateDominators sf_objectCount sf_roots sf_reachable ta_codes ta_numbers tf_count ta_brackets tf_bracketCount tf_place tf_inWhere tf_compared wa_rows wf_count wf_looks ++ z) H) (hD : va_D A (hx_w q cI cZ cL xq_query ha_parents hf_classCount ha_classes ha_sizes ha_fields hf_objectCount hf_roots hf_changed sa_linkedFrom sa_linkCounts sa_retainedSets sa_retainedSizes sa_dominators sa_immediateDominators sf_objectCount sf_roots sf_reachable ta_codes ta_numbers tf_count ta_brackets tf_bracketCount tf_place tf_inWhere tf_compared wa_rows wf_count wf_looks ++ z)) (hS : va_S A H0 H locs) (h1 : Cond.methodLink own idx yxh_putField ∈ hq_tbl) (hR : 0 + 1 ≤ R.frames ∧ 8 + (5 + 11) + 0 ≤ R.locals) (hls : ls.size = nC) (hW : (rest.map fun v => v.category).sum ≤ 8) (hdg : decode cc pc = .ok (.invokevirtual idx, 3)) (hf : cells + 0 ≤ R.cells ∧ slots + 0 ≤ R.slots) (kk : ∀ (H1 : Heap) (locs1 : List Loc), va_P D hq_cl (hx_w q cI cZ cL xq_query ha_parents hf_classCount ha_classes ha_sizes ur.1 hf_objectCount hf_roots ur.2 sa_linkedFrom sa_linkCounts sa_retainedSets sa_retainedSizes sa_dominators sa_immediateDominators sf_objectCount sf_roots sf_reachable ta_codes ta_numbers tf_count ta_brackets tf_bracketCount tf_place tf_inWhere tf_compared wa_rows wf_count wf_looks ++ z) H1 → va_D A (hx_w q cI cZ cL xq_query ha_parents hf_classCount ha_classes ha_sizes ur.1 hf_objectCount hf_roots ur.2 sa_linkedFrom sa_linkCounts sa_retainedSets sa_retainedSizes sa_dominators sa_immediateDominators sf_objectCount sf_roots sf_reachable ta_codes ta_numbers tf_count ta_brackets tf_bracketCount tf_place tf_inWhere tf_compared wa_rows wf_count wf_looks ++ z) → va_S A H0 H1 locs1 → W p l e R s m args below meth c H1 locs1 cells slots Q (F0 m (pc + 3) ls (rest))) : W p l e R s m args below meth c H locs cells slots Q (F0 m pc ls (.long l3 :: .int l2 :: .int l1 :: .ref (q 1) :: rest)) :=
  hq_callV (q0 := 1) hx hb hml hown hts hK hP hD hS (cxh_putField l1 l2 l3 ur hu) rfl rfl h1 wi_220 wi_221 wi_202 wi_222 3 rfl (by decide +kernel) ⟨rfl, rfl⟩ hR hls rfl hW hdg hf kk
end
theorem dxq_set_0 : decode bxq_set 0 = .ok (.aload_n 0, 1) := by decide +kernel
theorem dxq_set_1 : decode bxq_set 1 = .ok (.getfield 12, 3) := by decide +kernel
theorem dxq_set_4 : decode bxq_set 4 = .ok (.iload_n 1, 1) := by decide +kernel
theorem dxq_set_5 : decode bxq_set 5 = .ok (.invokevirtual 38, 3) := by decide +kernel
theorem dxq_set_8 : decode bxq_set 8 = .ok (.ifCond .eq 12, 3) := by decide +kernel
theorem dxq_set_11 : decode bxq_set 11 = .ok (.iload_n 2, 1) := by decide +kernel
theorem dxq_set_12 : decode bxq_set 12 = .ok (.ifCond .lt 8, 3) := by decide +kernel
theorem dxq_set_15 : decode bxq_set 15 = .ok (.iload_n 2, 1) := by decide +kernel
theorem dxq_set_16 : decode bxq_set 16 = .ok (.iconst 4, 1) := by decide +kernel
theorem dxq_set_17 : decode bxq_set 17 = .ok (.if_icmp .lt 5, 3) := by decide +kernel
theorem dxq_set_20 : decode bxq_set 20 = .ok (.iconst 0, 1) := by decide +kernel
theorem dxq_set_21 : decode bxq_set 21 = .ok (.ireturn, 1) := by decide +kernel
theorem dxq_set_22 : decode bxq_set 22 = .ok (.iload_n 3, 1) := by decide +kernel
theorem dxq_set_23 : decode bxq_set 23 = .ok (.tableswitch 83 0 2 #[25, 37, 53], 25) := by decide +kernel
theorem dxq_set_48 : decode bxq_set 48 = .ok (.aload_n 0, 1) := by decide +kernel
theorem dxq_set_49 : decode bxq_set 49 = .ok (.getfield 12, 3) := by decide +kernel
theorem dxq_set_52 : decode bxq_set 52 = .ok (.iload_n 1, 1) := by decide +kernel
theorem dxq_set_53 : decode bxq_set 53 = .ok (.iload_n 2, 1) := by decide +kernel
theorem dxq_set_54 : decode bxq_set 54 = .ok (.lconst 0, 1) := by decide +kernel
theorem dxq_set_55 : decode bxq_set 55 = .ok (.invokevirtual 44, 3) := by decide +kernel
theorem dxq_set_58 : decode bxq_set 58 = .ok (.iconst 1, 1) := by decide +kernel
theorem dxq_set_59 : decode bxq_set 59 = .ok (.ireturn, 1) := by decide +kernel
theorem dxq_set_60 : decode bxq_set 60 = .ok (.aload_n 0, 1) := by decide +kernel
theorem dxq_set_61 : decode bxq_set 61 = .ok (.getfield 12, 3) := by decide +kernel
theorem dxq_set_64 : decode bxq_set 64 = .ok (.iload_n 1, 1) := by decide +kernel
theorem dxq_set_65 : decode bxq_set 65 = .ok (.iload_n 2, 1) := by decide +kernel
theorem dxq_set_66 : decode bxq_set 66 = .ok (.iload 4, 2) := by decide +kernel
theorem dxq_set_68 : decode bxq_set 68 = .ok (.invokestatic 48, 3) := by decide +kernel
theorem dxq_set_71 : decode bxq_set 71 = .ok (.invokevirtual 44, 3) := by decide +kernel
theorem dxq_set_74 : decode bxq_set 74 = .ok (.iconst 1, 1) := by decide +kernel
theorem dxq_set_75 : decode bxq_set 75 = .ok (.ireturn, 1) := by decide +kernel
theorem dxq_set_76 : decode bxq_set 76 = .ok (.aload_n 0, 1) := by decide +kernel
theorem dxq_set_77 : decode bxq_set 77 = .ok (.getfield 12, 3) := by decide +kernel
theorem dxq_set_80 : decode bxq_set 80 = .ok (.iload 4, 2) := by decide +kernel
theorem dxq_set_82 : decode bxq_set 82 = .ok (.invokevirtual 38, 3) := by decide +kernel
theorem dxq_set_85 : decode bxq_set 85 = .ok (.ifCond .ne 5, 3) := by decide +kernel
theorem dxq_set_88 : decode bxq_set 88 = .ok (.iconst 0, 1) := by decide +kernel
theorem dxq_set_89 : decode bxq_set 89 = .ok (.ireturn, 1) := by decide +kernel
theorem dxq_set_90 : decode bxq_set 90 = .ok (.aload_n 0, 1) := by decide +kernel
theorem dxq_set_91 : decode bxq_set 91 = .ok (.getfield 12, 3) := by decide +kernel
theorem dxq_set_94 : decode bxq_set 94 = .ok (.iload_n 1, 1) := by decide +kernel
theorem dxq_set_95 : decode bxq_set 95 = .ok (.iload_n 2, 1) := by decide +kernel
theorem dxq_set_96 : decode bxq_set 96 = .ok (.iload 4, 2) := by decide +kernel
theorem dxq_set_98 : decode bxq_set 98 = .ok (.invokestatic 52, 3) := by decide +kernel
theorem dxq_set_101 : decode bxq_set 101 = .ok (.invokevirtual 44, 3) := by decide +kernel
theorem dxq_set_104 : decode bxq_set 104 = .ok (.iconst 1, 1) := by decide +kernel
theorem dxq_set_105 : decode bxq_set 105 = .ok (.ireturn, 1) := by decide +kernel
theorem dxq_set_106 : decode bxq_set 106 = .ok (.iconst 0, 1) := by decide +kernel
theorem dxq_set_107 : decode bxq_set 107 = .ok (.ireturn, 1) := by decide +kernel
section
variable {l : Launch} {D : va_G} {A : Nat → Prop} {z w : va_W} {q : Nat → Nat} {cI cZ cL : ClassId}
variable {hf_classCount hf_objectCount hf_roots hf_changed sf_objectCount sf_roots sf_reachable tf_count tf_bracketCount tf_place tf_inWhere tf_compared wf_count wf_looks n_code n_number s_isDistinct s_isRetained s_sourceClass s_withDescendants : Int32}
variable {ha_parents ha_classes ha_sizes sa_linkedFrom sa_linkCounts sa_retainedSets sa_retainedSizes sa_dominators sa_immediateDominators ta_codes ta_numbers ta_brackets : Nat → Int32}
variable {ha_fields wa_rows : Nat → Int64}
variable {xq_query n_left n_right s_row s_nested s_condition s_next : Option Nat}
variable {pa_n pk_n pa_s pk_s : Nat}
set_option maxHeartbeats 4000000 in
set_option maxRecDepth 100000 in
theorem cxq_set (l1 : Int32) (l2 : Int32) (l3 : Int32) (l4 : Int32) (ur : Int32 × (Nat → Int64) × Int32) (h : sxq_set l1 l2 l3 l4 ha_fields hf_objectCount hf_changed = some ur) : hq_Ct l yxq_set bxq_set 5 (some .boolean) { frames := 1, cells := 0, slots := 0, locals := 24 } D (hq_tys cI cZ cL) A [.ref (q 0), .int l1, .int l2, .int l3, .int l4] (hx_w q cI cZ cL xq_query ha_parents hf_classCount ha_classes ha_sizes ha_fields hf_objectCount hf_roots hf_changed sa_linkedFrom sa_linkCounts sa_retainedSets sa_retainedSizes sa_dominators sa_immediateDominators sf_objectCount sf_roots sf_reachable ta_codes ta_numbers tf_count ta_brackets tf_bracketCount tf_place tf_inWhere tf_compared wa_rows wf_count wf_looks ++ z) (hx_w q cI cZ cL xq_query ha_parents hf_classCount ha_classes ha_sizes ur.2.1 hf_objectCount hf_roots ur.2.2 sa_linkedFrom sa_linkCounts sa_retainedSets sa_retainedSizes sa_dominators sa_immediateDominators sf_objectCount sf_roots sf_reachable ta_codes ta_numbers tf_count ta_brackets tf_bracketCount tf_place tf_inWhere tf_compared wa_rows wf_count wf_looks ++ z) (some (.int ur.1)) 0 0 := by
  refine hq_of (by decide) ?_ (Nat.le_of_ble_eq_true rfl)
  intro p e s m below meth c R args Q hRm hQ hx hb hr hml hts hown hlocks hnm hP hK hD ls hl hS
  have hl : lv_has ls 5 [(0, .ref (q 0)), (1, .int l1), (2, .int l2), (3, .int l3), (4, .int l4)] := hl
  have hown : s.vm.findClass "HeapQueries" = some m.cls := hown
  unfold sxq_set at h
  refine lv_aload_n hx hb dxq_set_0 rfl (lv_at hl 0 rfl) ?_
  refine gx_0_heap hx hb hts hown hK hP wi_3 dxq_set_1 ?_
  refine lv_iload_n hx hb dxq_set_4 rfl (lv_at hl 1 rfl) ?_
  refine kxh_hasObject l1 (sxh_hasObject l1 hf_objectCount) rfl hx hb hml hts hown hK hP hD hS wi_14 (by rw [hRm]; exact ⟨Nat.le_of_ble_eq_true rfl, Nat.le_of_ble_eq_true rfl⟩) hl.1 (Nat.le_of_ble_eq_true rfl) dxq_set_5 ⟨Nat.zero_le _, Nat.zero_le _⟩ (fun H locs hP hD hS => ?_)
  refine lv_if_eq (tgt := 20) hx hb dxq_set_8 (by decide) (fun hc => ?_) (fun hc => ?_)
  · have h := (if_pos hc).symm.trans h
    refine lv_iconst (v := 0) hx hb dxq_set_20 (by decide) ?_
    have h := Option.some.inj h
    exact hq_zret hx hb hr hlocks hQ hK hP hD hS (by decide) (by rw [← h]) (by rw [← h]) dxq_set_21
  · have h := (if_neg hc).symm.trans h
    refine lv_iload_n hx hb dxq_set_11 rfl (lv_at hl 2 rfl) ?_
    refine lv_if_lt (tgt := 20) hx hb dxq_set_12 (by decide) (fun hc => ?_) (fun hc => ?_)
    · have h := (if_pos hc).symm.trans h
      refine lv_iconst (v := 0) hx hb dxq_set_20 (by decide) ?_
      have h := Option.some.inj h
      exact hq_zret hx hb hr hlocks hQ hK hP hD hS (by decide) (by rw [← h]) (by rw [← h]) dxq_set_21
    · have h := (if_neg hc).symm.trans h
      refine lv_iload_n hx hb dxq_set_15 rfl (lv_at hl 2 rfl) ?_
      refine lv_iconst (v := 4) hx hb dxq_set_16 (by decide) ?_
      refine lv_icmp_lt (tgt := 22) hx hb dxq_set_17 (by decide) (fun hc => ?_) (fun hc => ?_)
      · have h := (if_pos hc).symm.trans h
        refine lv_iload_n hx hb dxq_set_22 rfl (lv_at hl 3 rfl) ?_
        by_cases hk0 : l3 = 0
        · have h := (if_pos hk0).symm.trans h
          refine lv_tableIn (off := 25) (tgt := 48) hx hb dxq_set_23 (by rw [hk0]; decide) (by rw [hk0]; decide) (by rw [hk0]; rfl) (by decide) ?_
          refine lv_aload_n hx hb dxq_set_48 rfl (lv_at hl 0 rfl) ?_
          refine gx_0_heap hx hb hts hown hK hP wi_3 dxq_set_49 ?_
          refine lv_iload_n hx hb dxq_set_52 rfl (lv_at hl 1 rfl) ?_
          refine lv_iload_n hx hb dxq_set_53 rfl (lv_at hl 2 rfl) ?_
          refine lv_lconst (v := 0) hx hb dxq_set_54 (by decide) ?_
          obtain ⟨v55, h55, h⟩ := hq_bind h
          refine kxh_putField l1 l2 0 v55 h55 hx hb hml hts hown hK hP hD hS wi_15 (by rw [hRm]; exact ⟨Nat.le_of_ble_eq_true rfl, Nat.le_of_ble_eq_true rfl⟩) hl.1 (Nat.le_of_ble_eq_true rfl) dxq_set_55 ⟨Nat.zero_le _, Nat.zero_le _⟩ (fun H locs hP hD hS => ?_)
          refine lv_iconst (v := 1) hx hb dxq_set_58 (by decide) ?_
          have h := Option.some.inj h
          exact hq_zret hx hb hr hlocks hQ hK hP hD hS (by decide) (by rw [← h]) (by rw [← h]) dxq_set_59
        · have h := (if_neg hk0).symm.trans h
          by_cases hk1 : l3 = 1
          · have h := (if_pos hk1).symm.trans h
            refine lv_tableIn (off := 37) (tgt := 60) hx hb dxq_set_23 (by rw [hk1]; decide) (by rw [hk1]; decide) (by rw [hk1]; rfl) (by decide) ?_
            refine lv_aload_n hx hb dxq_set_60 rfl (lv_at hl 0 rfl) ?_
            refine gx_0_heap hx hb hts hown hK hP wi_3 dxq_set_61 ?_
            refine lv_iload_n hx hb dxq_set_64 rfl (lv_at hl 1 rfl) ?_
            refine lv_iload_n hx hb dxq_set_65 rfl (lv_at hl 2 rfl) ?_
            refine lv_iload hx hb dxq_set_66 (lv_at hl 4 rfl) ?_
            refine kxv_number l4 (sxv_number l4) rfl hx hb hml hts hown hK hP hD hS wi_16 (by rw [hRm]; exact ⟨Nat.le_of_ble_eq_true rfl, Nat.le_of_ble_eq_true rfl⟩) hl.1 (Nat.le_of_ble_eq_true rfl) dxq_set_68 ⟨Nat.zero_le _, Nat.zero_le _⟩ (fun H locs hP hD hS => ?_)
            obtain ⟨v71, h71, h⟩ := hq_bind h
            refine kxh_putField l1 l2 (sxv_number l4) v71 h71 hx hb hml hts hown hK hP hD hS wi_15 (by rw [hRm]; exact ⟨Nat.le_of_ble_eq_true rfl, Nat.le_of_ble_eq_true rfl⟩) hl.1 (Nat.le_of_ble_eq_true rfl) dxq_set_71 ⟨Nat.zero_le _, Nat.zero_le _⟩ (fun H locs hP hD hS => ?_)
            refine lv_iconst (v := 1) hx hb dxq_set_74 (by decide) ?_
            have h := Option.some.inj h
            exact hq_zret hx hb hr hlocks hQ hK hP hD hS (by decide) (by rw [← h]) (by rw [← h]) dxq_set_75
          · have h := (if_neg hk1).symm.trans h
            by_cases hk2 : l3 = 2
            · have h := (if_pos hk2).symm.trans h
              refine lv_tableIn (off := 53) (tgt := 76) hx hb dxq_set_23 (by rw [hk2]; decide) (by rw [hk2]; decide) (by rw [hk2]; rfl) (by decide) ?_
              refine lv_aload_n hx hb dxq_set_76 rfl (lv_at hl 0 rfl) ?_
              refine gx_0_heap hx hb hts hown hK hP wi_3 dxq_set_77 ?_
              refine lv_iload hx hb dxq_set_80 (lv_at hl 4 rfl) ?_
              refine kxh_hasObject l4 (sxh_hasObject l4 hf_objectCount) rfl hx hb hml hts hown hK hP hD hS wi_14 (by rw [hRm]; exact ⟨Nat.le_of_ble_eq_true rfl, Nat.le_of_ble_eq_true rfl⟩) hl.1 (Nat.le_of_ble_eq_true rfl) dxq_set_82 ⟨Nat.zero_le _, Nat.zero_le _⟩ (fun H locs hP hD hS => ?_)
              refine lv_if_ne (tgt := 90) hx hb dxq_set_85 (by decide) (fun hc => ?_) (fun hc => ?_)
              · have h := (if_neg hc).symm.trans h
                refine lv_aload_n hx hb dxq_set_90 rfl (lv_at hl 0 rfl) ?_
                refine gx_0_heap hx hb hts hown hK hP wi_3 dxq_set_91 ?_
                refine lv_iload_n hx hb dxq_set_94 rfl (lv_at hl 1 rfl) ?_
                refine lv_iload_n hx hb dxq_set_95 rfl (lv_at hl 2 rfl) ?_
                refine lv_iload hx hb dxq_set_96 (lv_at hl 4 rfl) ?_
                refine kxv_link l4 (sxv_link l4) rfl hx hb hml hts hown hK hP hD hS wi_17 (by rw [hRm]; exact ⟨Nat.le_of_ble_eq_true rfl, Nat.le_of_ble_eq_true rfl⟩) hl.1 (Nat.le_of_ble_eq_true rfl) dxq_set_98 ⟨Nat.zero_le _, Nat.zero_le _⟩ (fun H locs hP hD hS => ?_)
                obtain ⟨v101, h101, h⟩ := hq_bind h
                refine kxh_putField l1 l2 (sxv_link l4) v101 h101 hx hb hml hts hown hK hP hD hS wi_15 (by rw [hRm]; exact ⟨Nat.le_of_ble_eq_true rfl, Nat.le_of_ble_eq_true rfl⟩) hl.1 (Nat.le_of_ble_eq_true rfl) dxq_set_101 ⟨Nat.zero_le _, Nat.zero_le _⟩ (fun H locs hP hD hS => ?_)
                refine lv_iconst (v := 1) hx hb dxq_set_104 (by decide) ?_
                have h := Option.some.inj h
                exact hq_zret hx hb hr hlocks hQ hK hP hD hS (by decide) (by rw [← h]) (by rw [← h]) dxq_set_105
              · have h := (if_pos hc).symm.trans h
                refine lv_iconst (v := 0) hx hb dxq_set_88 (by decide) ?_
                have h := Option.some.inj h
                exact hq_zret hx hb hr hlocks hQ hK hP hD hS (by decide) (by rw [← h]) (by rw [← h]) dxq_set_89
            · have h := (if_neg hk2).symm.trans h
              refine lv_tableOut (tgt := 106) hx hb dxq_set_23 (by have a0 := lv_neT (a := 0) hk0 (by decide); have a1 := lv_neT (a := 1) hk1 (by decide); have a2 := lv_neT (a := 2) hk2 (by decide); omega) (by decide) ?_
              refine lv_iconst (v := 0) hx hb dxq_set_106 (by decide) ?_
              have h := Option.some.inj h
              exact hq_zret hx hb hr hlocks hQ hK hP hD hS (by decide) (by rw [← h]) (by rw [← h]) dxq_set_107
      · have h := (if_neg hc).symm.trans h
        refine lv_iconst (v := 0) hx hb dxq_set_20 (by decide) ?_
        have h := Option.some.inj h
        exact hq_zret hx hb hr hlocks hQ hK hP hD hS (by decide) (by rw [← h]) (by rw [← h]) dxq_set_21
end
section
variable {p : Program} {l : Launch} {e : Env} {R : Room} {s : State} {m : MethodId} {args : Array Value} {below : List Frame} {meth : Method} {c : Code} {H H0 : Heap} {locs : List Loc} {cells slots : Nat} {Q : State → Prop}
variable {cc : ByteArray} {pc idx nC : Nat} {ls : Array Slot} {rest : List Value} {D : va_G} {A : Nat → Prop} {own : String} {q : Nat → Nat} {cI cZ cL : ClassId} {z w : va_W}
variable {hf_classCount hf_objectCount hf_roots hf_changed sf_objectCount sf_roots sf_reachable tf_count tf_bracketCount tf_place tf_inWhere tf_compared wf_count wf_looks n_code n_number s_isDistinct s_isRetained s_sourceClass s_withDescendants : Int32}
variable {ha_parents ha_classes ha_sizes sa_linkedFrom sa_linkCounts sa_retainedSets sa_retainedSizes sa_dominators sa_immediateDominators ta_codes ta_numbers ta_brackets : Nat → Int32}
variable {ha_fields wa_rows : Nat → Int64}
variable {xq_query n_left n_right s_row s_nested s_condition s_next : Option Nat}
variable {pa_n pk_n pa_s pk_s : Nat}
theorem kxq_set (l1 : Int32) (l2 : Int32) (l3 : Int32) (l4 : Int32) (ur : Int32 × (Nat → Int64) × Int32) (hu : sxq_set l1 l2 l3 l4 ha_fields hf_objectCount hf_changed = some ur) (hx : p.tables.exec = Jvm.exec) (hb : c.code = cc) (hml : c.maxLocals = nC) (hts : ∀ x ∈ hq_tbl, x.before args s = true) (hown : s.vm.findClass own = some m.cls) (hK : va_K D hq_cl (hq_tys cI cZ cL) s) (hP : va_P D hq_cl (hx_w q cI cZ cL xq_query ha_parents hf_classCount ha_classes ha_sizes ha_fields hf_objectCount hf_roots hf_changed sa_linkedFrom sa_linkCounts sa_retainedSets sa_retainedSizes sa_dominators sa_immediateDominators sf_objectCount sf_roots sf_reachable ta_codes ta_numbers tf_count ta_brackets tf_bracketCount tf_place tf_inWhere tf_compared wa_rows wf_count wf_looks ++ z) H) (hD : va_D A (hx_w q cI cZ cL xq_query ha_parents hf_classCount ha_classes ha_sizes ha_fields hf_objectCount hf_roots hf_changed sa_linkedFrom sa_linkCounts sa_retainedSets sa_retainedSizes sa_dominators sa_immediateDominators sf_objectCount sf_roots sf_reachable ta_codes ta_numbers tf_count ta_brackets tf_bracketCount tf_place tf_inWhere tf_compared wa_rows wf_count wf_looks ++ z)) (hS : va_S A H0 H locs) (h1 : Cond.methodLink own idx yxq_set ∈ hq_tbl) (hR : 1 + 1 ≤ R.frames ∧ 8 + (5 + 11) + 24 ≤ R.locals) (hls : ls.size = nC) (hW : (rest.map fun v => v.category).sum ≤ 8) (hdg : decode cc pc = .ok (.invokevirtual idx, 3)) (hf : cells + 0 ≤ R.cells ∧ slots + 0 ≤ R.slots) (kk : ∀ (H1 : Heap) (locs1 : List Loc), va_P D hq_cl (hx_w q cI cZ cL xq_query ha_parents hf_classCount ha_classes ha_sizes ur.2.1 hf_objectCount hf_roots ur.2.2 sa_linkedFrom sa_linkCounts sa_retainedSets sa_retainedSizes sa_dominators sa_immediateDominators sf_objectCount sf_roots sf_reachable ta_codes ta_numbers tf_count ta_brackets tf_bracketCount tf_place tf_inWhere tf_compared wa_rows wf_count wf_looks ++ z) H1 → va_D A (hx_w q cI cZ cL xq_query ha_parents hf_classCount ha_classes ha_sizes ur.2.1 hf_objectCount hf_roots ur.2.2 sa_linkedFrom sa_linkCounts sa_retainedSets sa_retainedSizes sa_dominators sa_immediateDominators sf_objectCount sf_roots sf_reachable ta_codes ta_numbers tf_count ta_brackets tf_bracketCount tf_place tf_inWhere tf_compared wa_rows wf_count wf_looks ++ z) → va_S A H0 H1 locs1 → W p l e R s m args below meth c H1 locs1 cells slots Q (F0 m (pc + 3) ls (.int ur.1 :: rest))) : W p l e R s m args below meth c H locs cells slots Q (F0 m pc ls (.int l4 :: .int l3 :: .int l2 :: .int l1 :: .ref (q 0) :: rest)) :=
  hq_callV (q0 := 0) hx hb hml hown hts hK hP hD hS (cxq_set l1 l2 l3 l4 ur hu) rfl rfl h1 wi_228 wi_229 wi_209 wi_230 4 rfl (by decide +kernel) ⟨rfl, rfl⟩ hR hls rfl hW hdg hf kk
end
theorem dxh_markRoot_0 : decode bxh_markRoot 0 = .ok (.iconst 1, 1) := by decide +kernel
theorem dxh_markRoot_1 : decode bxh_markRoot 1 = .ok (.iload_n 1, 1) := by decide +kernel
theorem dxh_markRoot_2 : decode bxh_markRoot 2 = .ok (.ishl, 1) := by decide +kernel
theorem dxh_markRoot_3 : decode bxh_markRoot 3 = .ok (.istore_n 3, 1) := by decide +kernel
theorem dxh_markRoot_4 : decode bxh_markRoot 4 = .ok (.aload_n 0, 1) := by decide +kernel
theorem dxh_markRoot_5 : decode bxh_markRoot 5 = .ok (.iload_n 2, 1) := by decide +kernel
theorem dxh_markRoot_6 : decode bxh_markRoot 6 = .ok (.ifCond .eq 12, 3) := by decide +kernel
theorem dxh_markRoot_9 : decode bxh_markRoot 9 = .ok (.aload_n 0, 1) := by decide +kernel
theorem dxh_markRoot_10 : decode bxh_markRoot 10 = .ok (.getfield 47, 3) := by decide +kernel
theorem dxh_markRoot_13 : decode bxh_markRoot 13 = .ok (.iload_n 3, 1) := by decide +kernel
theorem dxh_markRoot_14 : decode bxh_markRoot 14 = .ok (.ior, 1) := by decide +kernel
theorem dxh_markRoot_15 : decode bxh_markRoot 15 = .ok (.goto 11, 3) := by decide +kernel
theorem dxh_markRoot_18 : decode bxh_markRoot 18 = .ok (.aload_n 0, 1) := by decide +kernel
theorem dxh_markRoot_19 : decode bxh_markRoot 19 = .ok (.getfield 47, 3) := by decide +kernel
theorem dxh_markRoot_22 : decode bxh_markRoot 22 = .ok (.iload_n 3, 1) := by decide +kernel
theorem dxh_markRoot_23 : decode bxh_markRoot 23 = .ok (.iconst (-1), 1) := by decide +kernel
theorem dxh_markRoot_24 : decode bxh_markRoot 24 = .ok (.ixor, 1) := by decide +kernel
theorem dxh_markRoot_25 : decode bxh_markRoot 25 = .ok (.iand, 1) := by decide +kernel
theorem dxh_markRoot_26 : decode bxh_markRoot 26 = .ok (.putfield 47, 3) := by decide +kernel
theorem dxh_markRoot_29 : decode bxh_markRoot 29 = .ok (.aload_n 0, 1) := by decide +kernel
theorem dxh_markRoot_30 : decode bxh_markRoot 30 = .ok (.iconst 1, 1) := by decide +kernel
theorem dxh_markRoot_31 : decode bxh_markRoot 31 = .ok (.putfield 43, 3) := by decide +kernel
theorem dxh_markRoot_34 : decode bxh_markRoot 34 = .ok (.return_, 1) := by decide +kernel
section
variable {l : Launch} {D : va_G} {A : Nat → Prop} {z w : va_W} {q : Nat → Nat} {cI cZ cL : ClassId}
variable {hf_classCount hf_objectCount hf_roots hf_changed sf_objectCount sf_roots sf_reachable tf_count tf_bracketCount tf_place tf_inWhere tf_compared wf_count wf_looks n_code n_number s_isDistinct s_isRetained s_sourceClass s_withDescendants : Int32}
variable {ha_parents ha_classes ha_sizes sa_linkedFrom sa_linkCounts sa_retainedSets sa_retainedSizes sa_dominators sa_immediateDominators ta_codes ta_numbers ta_brackets : Nat → Int32}
variable {ha_fields wa_rows : Nat → Int64}
variable {xq_query n_left n_right s_row s_nested s_condition s_next : Option Nat}
variable {pa_n pk_n pa_s pk_s : Nat}
set_option maxHeartbeats 4000000 in
set_option maxRecDepth 100000 in
theorem cxh_markRoot (l1 : Int32) (l2 : Int32) (ur : Int32 × Int32) (h : sxh_markRoot l1 l2 hf_roots hf_changed = ur) : hq_Ct l yxh_markRoot bxh_markRoot 4 none { frames := 0, cells := 0, slots := 0, locals := 0 } D (hq_tys cI cZ cL) A [.ref (q 1), .int l1, .int l2] (hx_w q cI cZ cL xq_query ha_parents hf_classCount ha_classes ha_sizes ha_fields hf_objectCount hf_roots hf_changed sa_linkedFrom sa_linkCounts sa_retainedSets sa_retainedSizes sa_dominators sa_immediateDominators sf_objectCount sf_roots sf_reachable ta_codes ta_numbers tf_count ta_brackets tf_bracketCount tf_place tf_inWhere tf_compared wa_rows wf_count wf_looks ++ z) (hx_w q cI cZ cL xq_query ha_parents hf_classCount ha_classes ha_sizes ha_fields hf_objectCount ur.1 ur.2 sa_linkedFrom sa_linkCounts sa_retainedSets sa_retainedSizes sa_dominators sa_immediateDominators sf_objectCount sf_roots sf_reachable ta_codes ta_numbers tf_count ta_brackets tf_bracketCount tf_place tf_inWhere tf_compared wa_rows wf_count wf_looks ++ z) none 0 0 := by
  refine hq_of (by decide) ?_ (Nat.le_of_ble_eq_true rfl)
  intro p e s m below meth c R args Q hRm hQ hx hb hr hml hts hown hlocks hnm hP hK hD ls hl hS
  have hl : lv_has ls 4 [(0, .ref (q 1)), (1, .int l1), (2, .int l2)] := hl
  have hown : s.vm.findClass "HeapQueries$Heap" = some m.cls := hown
  unfold sxh_markRoot at h
  refine lv_iconst (v := 1) hx hb dxh_markRoot_0 (by decide) ?_
  refine lv_iload_n hx hb dxh_markRoot_1 rfl (lv_at hl 1 rfl) ?_
  refine lv_ishl hx hb dxh_markRoot_2 ?_
  refine lv_istore_n (lv' := [(3, .int ((1 : Int32) <<< (l1 &&& 31))), (0, .ref (q 1)), (1, .int l1), (2, .int l2)]) hx hb dxh_markRoot_3 rfl hl (by decide) rfl (fun ls hl => ?_)
  refine lv_aload_n hx hb dxh_markRoot_4 rfl (lv_at hl 1 rfl) ?_
  refine lv_iload_n hx hb dxh_markRoot_5 rfl (lv_at hl 3 rfl) ?_
  refine lv_if_eq (tgt := 18) hx hb dxh_markRoot_6 (by decide) (fun hc => ?_) (fun hc => ?_)
  · have h := (if_pos hc).symm.trans h
    refine lv_aload_n hx hb dxh_markRoot_18 rfl (lv_at hl 1 rfl) ?_
    refine gx_1_roots hx hb hts hown hK hP wi_18 dxh_markRoot_19 ?_
    refine lv_iload_n hx hb dxh_markRoot_22 rfl (lv_at hl 0 rfl) ?_
    refine lv_iconst (v := (-1)) hx hb dxh_markRoot_23 (by decide) ?_
    refine lv_ixor hx hb dxh_markRoot_24 ?_
    refine lv_iand hx hb dxh_markRoot_25 ?_
    refine px_1_roots hx hb hts hown hK hP hD hS wi_18 dxh_markRoot_26 (fun H locs hP hD hS => ?_)
    refine lv_aload_n hx hb dxh_markRoot_29 rfl (lv_at hl 1 rfl) ?_
    refine lv_iconst (v := 1) hx hb dxh_markRoot_30 (by decide) ?_
    refine px_1_changed hx hb hts hown hK hP hD hS wi_8 (by decide) dxh_markRoot_31 (fun H locs hP hD hS => ?_)
    exact hq_vret hx hb hr hlocks hQ hK hP hD hS rfl (by rw [← h]) dxh_markRoot_34
  · have h := (if_neg hc).symm.trans h
    refine lv_aload_n hx hb dxh_markRoot_9 rfl (lv_at hl 1 rfl) ?_
    refine gx_1_roots hx hb hts hown hK hP wi_18 dxh_markRoot_10 ?_
    refine lv_iload_n hx hb dxh_markRoot_13 rfl (lv_at hl 0 rfl) ?_
    refine lv_ior hx hb dxh_markRoot_14 ?_
    refine lv_goto (tgt := 26) hx hb dxh_markRoot_15 (by decide) ?_
    refine px_1_roots hx hb hts hown hK hP hD hS wi_18 dxh_markRoot_26 (fun H locs hP hD hS => ?_)
    refine lv_aload_n hx hb dxh_markRoot_29 rfl (lv_at hl 1 rfl) ?_
    refine lv_iconst (v := 1) hx hb dxh_markRoot_30 (by decide) ?_
    refine px_1_changed hx hb hts hown hK hP hD hS wi_8 (by decide) dxh_markRoot_31 (fun H locs hP hD hS => ?_)
    exact hq_vret hx hb hr hlocks hQ hK hP hD hS rfl (by rw [← h]) dxh_markRoot_34
end
section
variable {p : Program} {l : Launch} {e : Env} {R : Room} {s : State} {m : MethodId} {args : Array Value} {below : List Frame} {meth : Method} {c : Code} {H H0 : Heap} {locs : List Loc} {cells slots : Nat} {Q : State → Prop}
variable {cc : ByteArray} {pc idx nC : Nat} {ls : Array Slot} {rest : List Value} {D : va_G} {A : Nat → Prop} {own : String} {q : Nat → Nat} {cI cZ cL : ClassId} {z w : va_W}
variable {hf_classCount hf_objectCount hf_roots hf_changed sf_objectCount sf_roots sf_reachable tf_count tf_bracketCount tf_place tf_inWhere tf_compared wf_count wf_looks n_code n_number s_isDistinct s_isRetained s_sourceClass s_withDescendants : Int32}
variable {ha_parents ha_classes ha_sizes sa_linkedFrom sa_linkCounts sa_retainedSets sa_retainedSizes sa_dominators sa_immediateDominators ta_codes ta_numbers ta_brackets : Nat → Int32}
variable {ha_fields wa_rows : Nat → Int64}
variable {xq_query n_left n_right s_row s_nested s_condition s_next : Option Nat}
variable {pa_n pk_n pa_s pk_s : Nat}
theorem kxh_markRoot (l1 : Int32) (l2 : Int32) (ur : Int32 × Int32) (hu : sxh_markRoot l1 l2 hf_roots hf_changed = ur) (hx : p.tables.exec = Jvm.exec) (hb : c.code = cc) (hml : c.maxLocals = nC) (hts : ∀ x ∈ hq_tbl, x.before args s = true) (hown : s.vm.findClass own = some m.cls) (hK : va_K D hq_cl (hq_tys cI cZ cL) s) (hP : va_P D hq_cl (hx_w q cI cZ cL xq_query ha_parents hf_classCount ha_classes ha_sizes ha_fields hf_objectCount hf_roots hf_changed sa_linkedFrom sa_linkCounts sa_retainedSets sa_retainedSizes sa_dominators sa_immediateDominators sf_objectCount sf_roots sf_reachable ta_codes ta_numbers tf_count ta_brackets tf_bracketCount tf_place tf_inWhere tf_compared wa_rows wf_count wf_looks ++ z) H) (hD : va_D A (hx_w q cI cZ cL xq_query ha_parents hf_classCount ha_classes ha_sizes ha_fields hf_objectCount hf_roots hf_changed sa_linkedFrom sa_linkCounts sa_retainedSets sa_retainedSizes sa_dominators sa_immediateDominators sf_objectCount sf_roots sf_reachable ta_codes ta_numbers tf_count ta_brackets tf_bracketCount tf_place tf_inWhere tf_compared wa_rows wf_count wf_looks ++ z)) (hS : va_S A H0 H locs) (h1 : Cond.methodLink own idx yxh_markRoot ∈ hq_tbl) (hR : 0 + 1 ≤ R.frames ∧ 8 + (4 + 11) + 0 ≤ R.locals) (hls : ls.size = nC) (hW : (rest.map fun v => v.category).sum ≤ 8) (hdg : decode cc pc = .ok (.invokevirtual idx, 3)) (hf : cells + 0 ≤ R.cells ∧ slots + 0 ≤ R.slots) (kk : ∀ (H1 : Heap) (locs1 : List Loc), va_P D hq_cl (hx_w q cI cZ cL xq_query ha_parents hf_classCount ha_classes ha_sizes ha_fields hf_objectCount ur.1 ur.2 sa_linkedFrom sa_linkCounts sa_retainedSets sa_retainedSizes sa_dominators sa_immediateDominators sf_objectCount sf_roots sf_reachable ta_codes ta_numbers tf_count ta_brackets tf_bracketCount tf_place tf_inWhere tf_compared wa_rows wf_count wf_looks ++ z) H1 → va_D A (hx_w q cI cZ cL xq_query ha_parents hf_classCount ha_classes ha_sizes ha_fields hf_objectCount ur.1 ur.2 sa_linkedFrom sa_linkCounts sa_retainedSets sa_retainedSizes sa_dominators sa_immediateDominators sf_objectCount sf_roots sf_reachable ta_codes ta_numbers tf_count ta_brackets tf_bracketCount tf_place tf_inWhere tf_compared wa_rows wf_count wf_looks ++ z) → va_S A H0 H1 locs1 → W p l e R s m args below meth c H1 locs1 cells slots Q (F0 m (pc + 3) ls (rest))) : W p l e R s m args below meth c H locs cells slots Q (F0 m pc ls (.int l2 :: .int l1 :: .ref (q 1) :: rest)) :=
  hq_callV (q0 := 1) hx hb hml hown hts hK hP hD hS (cxh_markRoot l1 l2 ur hu) rfl rfl h1 wi_231 wi_232 wi_202 wi_233 2 rfl (by decide +kernel) ⟨rfl, rfl⟩ hR hls rfl hW hdg hf kk
end
theorem dxq_setRoot_0 : decode bxq_setRoot 0 = .ok (.aload_n 0, 1) := by decide +kernel
theorem dxq_setRoot_1 : decode bxq_setRoot 1 = .ok (.getfield 12, 3) := by decide +kernel
theorem dxq_setRoot_4 : decode bxq_setRoot 4 = .ok (.iload_n 1, 1) := by decide +kernel
theorem dxq_setRoot_5 : decode bxq_setRoot 5 = .ok (.invokevirtual 38, 3) := by decide +kernel
theorem dxq_setRoot_8 : decode bxq_setRoot 8 = .ok (.ifCond .ne 5, 3) := by decide +kernel
theorem dxq_setRoot_11 : decode bxq_setRoot 11 = .ok (.iconst 0, 1) := by decide +kernel
theorem dxq_setRoot_12 : decode bxq_setRoot 12 = .ok (.ireturn, 1) := by decide +kernel
theorem dxq_setRoot_13 : decode bxq_setRoot 13 = .ok (.aload_n 0, 1) := by decide +kernel
theorem dxq_setRoot_14 : decode bxq_setRoot 14 = .ok (.getfield 12, 3) := by decide +kernel
theorem dxq_setRoot_17 : decode bxq_setRoot 17 = .ok (.iload_n 1, 1) := by decide +kernel
theorem dxq_setRoot_18 : decode bxq_setRoot 18 = .ok (.iload_n 2, 1) := by decide +kernel
theorem dxq_setRoot_19 : decode bxq_setRoot 19 = .ok (.invokevirtual 55, 3) := by decide +kernel
theorem dxq_setRoot_22 : decode bxq_setRoot 22 = .ok (.iconst 1, 1) := by decide +kernel
theorem dxq_setRoot_23 : decode bxq_setRoot 23 = .ok (.ireturn, 1) := by decide +kernel
section
variable {l : Launch} {D : va_G} {A : Nat → Prop} {z w : va_W} {q : Nat → Nat} {cI cZ cL : ClassId}
variable {hf_classCount hf_objectCount hf_roots hf_changed sf_objectCount sf_roots sf_reachable tf_count tf_bracketCount tf_place tf_inWhere tf_compared wf_count wf_looks n_code n_number s_isDistinct s_isRetained s_sourceClass s_withDescendants : Int32}
variable {ha_parents ha_classes ha_sizes sa_linkedFrom sa_linkCounts sa_retainedSets sa_retainedSizes sa_dominators sa_immediateDominators ta_codes ta_numbers ta_brackets : Nat → Int32}
variable {ha_fields wa_rows : Nat → Int64}
variable {xq_query n_left n_right s_row s_nested s_condition s_next : Option Nat}
variable {pa_n pk_n pa_s pk_s : Nat}
set_option maxHeartbeats 4000000 in
set_option maxRecDepth 100000 in
theorem cxq_setRoot (l1 : Int32) (l2 : Int32) (ur : Int32 × Int32 × Int32) (h : sxq_setRoot l1 l2 hf_objectCount hf_roots hf_changed = ur) : hq_Ct l yxq_setRoot bxq_setRoot 3 (some .boolean) { frames := 1, cells := 0, slots := 0, locals := 23 } D (hq_tys cI cZ cL) A [.ref (q 0), .int l1, .int l2] (hx_w q cI cZ cL xq_query ha_parents hf_classCount ha_classes ha_sizes ha_fields hf_objectCount hf_roots hf_changed sa_linkedFrom sa_linkCounts sa_retainedSets sa_retainedSizes sa_dominators sa_immediateDominators sf_objectCount sf_roots sf_reachable ta_codes ta_numbers tf_count ta_brackets tf_bracketCount tf_place tf_inWhere tf_compared wa_rows wf_count wf_looks ++ z) (hx_w q cI cZ cL xq_query ha_parents hf_classCount ha_classes ha_sizes ha_fields hf_objectCount ur.2.1 ur.2.2 sa_linkedFrom sa_linkCounts sa_retainedSets sa_retainedSizes sa_dominators sa_immediateDominators sf_objectCount sf_roots sf_reachable ta_codes ta_numbers tf_count ta_brackets tf_bracketCount tf_place tf_inWhere tf_compared wa_rows wf_count wf_looks ++ z) (some (.int ur.1)) 0 0 := by
  refine hq_of (by decide) ?_ (Nat.le_of_ble_eq_true rfl)
  intro p e s m below meth c R args Q hRm hQ hx hb hr hml hts hown hlocks hnm hP hK hD ls hl hS
  have hl : lv_has ls 3 [(0, .ref (q 0)), (1, .int l1), (2, .int l2)] := hl
  have hown : s.vm.findClass "HeapQueries" = some m.cls := hown
  unfold sxq_setRoot at h
  refine lv_aload_n hx hb dxq_setRoot_0 rfl (lv_at hl 0 rfl) ?_
  refine gx_0_heap hx hb hts hown hK hP wi_3 dxq_setRoot_1 ?_
  refine lv_iload_n hx hb dxq_setRoot_4 rfl (lv_at hl 1 rfl) ?_
  refine kxh_hasObject l1 (sxh_hasObject l1 hf_objectCount) rfl hx hb hml hts hown hK hP hD hS wi_14 (by rw [hRm]; exact ⟨Nat.le_of_ble_eq_true rfl, Nat.le_of_ble_eq_true rfl⟩) hl.1 (Nat.le_of_ble_eq_true rfl) dxq_setRoot_5 ⟨Nat.zero_le _, Nat.zero_le _⟩ (fun H locs hP hD hS => ?_)
  refine lv_if_ne (tgt := 13) hx hb dxq_setRoot_8 (by decide) (fun hc => ?_) (fun hc => ?_)
  · have h := (if_neg hc).symm.trans h
    refine lv_aload_n hx hb dxq_setRoot_13 rfl (lv_at hl 0 rfl) ?_
    refine gx_0_heap hx hb hts hown hK hP wi_3 dxq_setRoot_14 ?_
    refine lv_iload_n hx hb dxq_setRoot_17 rfl (lv_at hl 1 rfl) ?_
    refine lv_iload_n hx hb dxq_setRoot_18 rfl (lv_at hl 2 rfl) ?_
    refine kxh_markRoot l1 l2 (sxh_markRoot l1 l2 hf_roots hf_changed) rfl hx hb hml hts hown hK hP hD hS wi_19 (by rw [hRm]; exact ⟨Nat.le_of_ble_eq_true rfl, Nat.le_of_ble_eq_true rfl⟩) hl.1 (Nat.le_of_ble_eq_true rfl) dxq_setRoot_19 ⟨Nat.zero_le _, Nat.zero_le _⟩ (fun H locs hP hD hS => ?_)
    refine lv_iconst (v := 1) hx hb dxq_setRoot_22 (by decide) ?_
    exact hq_zret hx hb hr hlocks hQ hK hP hD hS (by decide) (by rw [← h]) (by rw [← h]) dxq_setRoot_23
  · have h := (if_pos hc).symm.trans h
    refine lv_iconst (v := 0) hx hb dxq_setRoot_11 (by decide) ?_
    exact hq_zret hx hb hr hlocks hQ hK hP hD hS (by decide) (by rw [← h]) (by rw [← h]) dxq_setRoot_12
end
section
variable {p : Program} {l : Launch} {e : Env} {R : Room} {s : State} {m : MethodId} {args : Array Value} {below : List Frame} {meth : Method} {c : Code} {H H0 : Heap} {locs : List Loc} {cells slots : Nat} {Q : State → Prop}
variable {cc : ByteArray} {pc idx nC : Nat} {ls : Array Slot} {rest : List Value} {D : va_G} {A : Nat → Prop} {own : String} {q : Nat → Nat} {cI cZ cL : ClassId} {z w : va_W}
variable {hf_classCount hf_objectCount hf_roots hf_changed sf_objectCount sf_roots sf_reachable tf_count tf_bracketCount tf_place tf_inWhere tf_compared wf_count wf_looks n_code n_number s_isDistinct s_isRetained s_sourceClass s_withDescendants : Int32}
variable {ha_parents ha_classes ha_sizes sa_linkedFrom sa_linkCounts sa_retainedSets sa_retainedSizes sa_dominators sa_immediateDominators ta_codes ta_numbers ta_brackets : Nat → Int32}
variable {ha_fields wa_rows : Nat → Int64}
variable {xq_query n_left n_right s_row s_nested s_condition s_next : Option Nat}
variable {pa_n pk_n pa_s pk_s : Nat}
theorem kxq_setRoot (l1 : Int32) (l2 : Int32) (ur : Int32 × Int32 × Int32) (hu : sxq_setRoot l1 l2 hf_objectCount hf_roots hf_changed = ur) (hx : p.tables.exec = Jvm.exec) (hb : c.code = cc) (hml : c.maxLocals = nC) (hts : ∀ x ∈ hq_tbl, x.before args s = true) (hown : s.vm.findClass own = some m.cls) (hK : va_K D hq_cl (hq_tys cI cZ cL) s) (hP : va_P D hq_cl (hx_w q cI cZ cL xq_query ha_parents hf_classCount ha_classes ha_sizes ha_fields hf_objectCount hf_roots hf_changed sa_linkedFrom sa_linkCounts sa_retainedSets sa_retainedSizes sa_dominators sa_immediateDominators sf_objectCount sf_roots sf_reachable ta_codes ta_numbers tf_count ta_brackets tf_bracketCount tf_place tf_inWhere tf_compared wa_rows wf_count wf_looks ++ z) H) (hD : va_D A (hx_w q cI cZ cL xq_query ha_parents hf_classCount ha_classes ha_sizes ha_fields hf_objectCount hf_roots hf_changed sa_linkedFrom sa_linkCounts sa_retainedSets sa_retainedSizes sa_dominators sa_immediateDominators sf_objectCount sf_roots sf_reachable ta_codes ta_numbers tf_count ta_brackets tf_bracketCount tf_place tf_inWhere tf_compared wa_rows wf_count wf_looks ++ z)) (hS : va_S A H0 H locs) (h1 : Cond.methodLink own idx yxq_setRoot ∈ hq_tbl) (hR : 1 + 1 ≤ R.frames ∧ 8 + (3 + 11) + 23 ≤ R.locals) (hls : ls.size = nC) (hW : (rest.map fun v => v.category).sum ≤ 8) (hdg : decode cc pc = .ok (.invokevirtual idx, 3)) (hf : cells + 0 ≤ R.cells ∧ slots + 0 ≤ R.slots) (kk : ∀ (H1 : Heap) (locs1 : List Loc), va_P D hq_cl (hx_w q cI cZ cL xq_query ha_parents hf_classCount ha_classes ha_sizes ha_fields hf_objectCount ur.2.1 ur.2.2 sa_linkedFrom sa_linkCounts sa_retainedSets sa_retainedSizes sa_dominators sa_immediateDominators sf_objectCount sf_roots sf_reachable ta_codes ta_numbers tf_count ta_brackets tf_bracketCount tf_place tf_inWhere tf_compared wa_rows wf_count wf_looks ++ z) H1 → va_D A (hx_w q cI cZ cL xq_query ha_parents hf_classCount ha_classes ha_sizes ha_fields hf_objectCount ur.2.1 ur.2.2 sa_linkedFrom sa_linkCounts sa_retainedSets sa_retainedSizes sa_dominators sa_immediateDominators sf_objectCount sf_roots sf_reachable ta_codes ta_numbers tf_count ta_brackets tf_bracketCount tf_place tf_inWhere tf_compared wa_rows wf_count wf_looks ++ z) → va_S A H0 H1 locs1 → W p l e R s m args below meth c H1 locs1 cells slots Q (F0 m (pc + 3) ls (.int ur.1 :: rest))) : W p l e R s m args below meth c H locs cells slots Q (F0 m pc ls (.int l2 :: .int l1 :: .ref (q 0) :: rest)) :=
  hq_callV (q0 := 0) hx hb hml hown hts hK hP hD hS (cxq_setRoot l1 l2 ur hu) rfl rfl h1 wi_234 wi_235 wi_209 wi_236 2 rfl (by decide +kernel) ⟨rfl, rfl⟩ hR hls rfl hW hdg hf kk
end
theorem dxh_size_0 : decode bxh_size 0 = .ok (.aload_n 0, 1) := by decide +kernel
theorem dxh_size_1 : decode bxh_size 1 = .ok (.getfield 40, 3) := by decide +kernel
theorem dxh_size_4 : decode bxh_size 4 = .ok (.ireturn, 1) := by decide +kernel
section
variable {l : Launch} {D : va_G} {A : Nat → Prop} {z w : va_W} {q : Nat → Nat} {cI cZ cL : ClassId}
variable {hf_classCount hf_objectCount hf_roots hf_changed sf_objectCount sf_roots sf_reachable tf_count tf_bracketCount tf_place tf_inWhere tf_compared wf_count wf_looks n_code n_number s_isDistinct s_isRetained s_sourceClass s_withDescendants : Int32}
variable {ha_parents ha_classes ha_sizes sa_linkedFrom sa_linkCounts sa_retainedSets sa_retainedSizes sa_dominators sa_immediateDominators ta_codes ta_numbers ta_brackets : Nat → Int32}
variable {ha_fields wa_rows : Nat → Int64}
variable {xq_query n_left n_right s_row s_nested s_condition s_next : Option Nat}
variable {pa_n pk_n pa_s pk_s : Nat}
set_option maxHeartbeats 4000000 in
set_option maxRecDepth 100000 in
theorem cxh_size  (ur : Int32) (h : sxh_size hf_objectCount = ur) : hq_Ct l yxh_size bxh_size 1 (some .int) { frames := 0, cells := 0, slots := 0, locals := 0 } D (hq_tys cI cZ cL) A [.ref (q 1)] (hx_w q cI cZ cL xq_query ha_parents hf_classCount ha_classes ha_sizes ha_fields hf_objectCount hf_roots hf_changed sa_linkedFrom sa_linkCounts sa_retainedSets sa_retainedSizes sa_dominators sa_immediateDominators sf_objectCount sf_roots sf_reachable ta_codes ta_numbers tf_count ta_brackets tf_bracketCount tf_place tf_inWhere tf_compared wa_rows wf_count wf_looks ++ z) (hx_w q cI cZ cL xq_query ha_parents hf_classCount ha_classes ha_sizes ha_fields hf_objectCount hf_roots hf_changed sa_linkedFrom sa_linkCounts sa_retainedSets sa_retainedSizes sa_dominators sa_immediateDominators sf_objectCount sf_roots sf_reachable ta_codes ta_numbers tf_count ta_brackets tf_bracketCount tf_place tf_inWhere tf_compared wa_rows wf_count wf_looks ++ z) (some (.int ur)) 0 0 := by
  refine hq_of (by decide) ?_ (Nat.le_of_ble_eq_true rfl)
  intro p e s m below meth c R args Q hRm hQ hx hb hr hml hts hown hlocks hnm hP hK hD ls hl hS
  have hl : lv_has ls 1 [(0, .ref (q 1))] := hl
  have hown : s.vm.findClass "HeapQueries$Heap" = some m.cls := hown
  unfold sxh_size at h
  refine lv_aload_n hx hb dxh_size_0 rfl (lv_at hl 0 rfl) ?_
  refine gx_1_objectCount hx hb hts hown hK hP wi_5 dxh_size_1 ?_
  exact hq_iret hx hb hr hlocks hQ hK hP hD hS (by rw [← h]) rfl dxh_size_4
end
section
variable {p : Program} {l : Launch} {e : Env} {R : Room} {s : State} {m : MethodId} {args : Array Value} {below : List Frame} {meth : Method} {c : Code} {H H0 : Heap} {locs : List Loc} {cells slots : Nat} {Q : State → Prop}
variable {cc : ByteArray} {pc idx nC : Nat} {ls : Array Slot} {rest : List Value} {D : va_G} {A : Nat → Prop} {own : String} {q : Nat → Nat} {cI cZ cL : ClassId} {z w : va_W}
variable {hf_classCount hf_objectCount hf_roots hf_changed sf_objectCount sf_roots sf_reachable tf_count tf_bracketCount tf_place tf_inWhere tf_compared wf_count wf_looks n_code n_number s_isDistinct s_isRetained s_sourceClass s_withDescendants : Int32}
variable {ha_parents ha_classes ha_sizes sa_linkedFrom sa_linkCounts sa_retainedSets sa_retainedSizes sa_dominators sa_immediateDominators ta_codes ta_numbers ta_brackets : Nat → Int32}
variable {ha_fields wa_rows : Nat → Int64}
variable {xq_query n_left n_right s_row s_nested s_condition s_next : Option Nat}
variable {pa_n pk_n pa_s pk_s : Nat}
theorem kxh_size  (ur : Int32) (hu : sxh_size hf_objectCount = ur) (hx : p.tables.exec = Jvm.exec) (hb : c.code = cc) (hml : c.maxLocals = nC) (hts : ∀ x ∈ hq_tbl, x.before args s = true) (hown : s.vm.findClass own = some m.cls) (hK : va_K D hq_cl (hq_tys cI cZ cL) s) (hP : va_P D hq_cl (hx_w q cI cZ cL xq_query ha_parents hf_classCount ha_classes ha_sizes ha_fields hf_objectCount hf_roots hf_changed sa_linkedFrom sa_linkCounts sa_retainedSets sa_retainedSizes sa_dominators sa_immediateDominators sf_objectCount sf_roots sf_reachable ta_codes ta_numbers tf_count ta_brackets tf_bracketCount tf_place tf_inWhere tf_compared wa_rows wf_count wf_looks ++ z) H) (hD : va_D A (hx_w q cI cZ cL xq_query ha_parents hf_classCount ha_classes ha_sizes ha_fields hf_objectCount hf_roots hf_changed sa_linkedFrom sa_linkCounts sa_retainedSets sa_retainedSizes sa_dominators sa_immediateDominators sf_objectCount sf_roots sf_reachable ta_codes ta_numbers tf_count ta_brackets tf_bracketCount tf_place tf_inWhere tf_compared wa_rows wf_count wf_looks ++ z)) (hS : va_S A H0 H locs) (h1 : Cond.methodLink own idx yxh_size ∈ hq_tbl) (hR : 0 + 1 ≤ R.frames ∧ 8 + (1 + 11) + 0 ≤ R.locals) (hls : ls.size = nC) (hW : (rest.map fun v => v.category).sum ≤ 8) (hdg : decode cc pc = .ok (.invokevirtual idx, 3)) (hf : cells + 0 ≤ R.cells ∧ slots + 0 ≤ R.slots) (kk : ∀ (H1 : Heap) (locs1 : List Loc), va_P D hq_cl (hx_w q cI cZ cL xq_query ha_parents hf_classCount ha_classes ha_sizes ha_fields hf_objectCount hf_roots hf_changed sa_linkedFrom sa_linkCounts sa_retainedSets sa_retainedSizes sa_dominators sa_immediateDominators sf_objectCount sf_roots sf_reachable ta_codes ta_numbers tf_count ta_brackets tf_bracketCount tf_place tf_inWhere tf_compared wa_rows wf_count wf_looks ++ z) H1 → va_D A (hx_w q cI cZ cL xq_query ha_parents hf_classCount ha_classes ha_sizes ha_fields hf_objectCount hf_roots hf_changed sa_linkedFrom sa_linkCounts sa_retainedSets sa_retainedSizes sa_dominators sa_immediateDominators sf_objectCount sf_roots sf_reachable ta_codes ta_numbers tf_count ta_brackets tf_bracketCount tf_place tf_inWhere tf_compared wa_rows wf_count wf_looks ++ z) → va_S A H0 H1 locs1 → W p l e R s m args below meth c H1 locs1 cells slots Q (F0 m (pc + 3) ls (.int ur :: rest))) : W p l e R s m args below meth c H locs cells slots Q (F0 m pc ls (.ref (q 1) :: rest)) :=
  hq_callV (q0 := 1) hx hb hml hown hts hK hP hD hS (cxh_size  ur hu) rfl rfl h1 wi_237 wi_238 wi_202 wi_239 0 rfl (by decide +kernel) ⟨rfl, rfl⟩ hR hls rfl hW hdg hf kk
end
theorem dxh_roots_0 : decode bxh_roots 0 = .ok (.aload_n 0, 1) := by decide +kernel
theorem dxh_roots_1 : decode bxh_roots 1 = .ok (.getfield 47, 3) := by decide +kernel
theorem dxh_roots_4 : decode bxh_roots 4 = .ok (.ireturn, 1) := by decide +kernel
section
variable {l : Launch} {D : va_G} {A : Nat → Prop} {z w : va_W} {q : Nat → Nat} {cI cZ cL : ClassId}
variable {hf_classCount hf_objectCount hf_roots hf_changed sf_objectCount sf_roots sf_reachable tf_count tf_bracketCount tf_place tf_inWhere tf_compared wf_count wf_looks n_code n_number s_isDistinct s_isRetained s_sourceClass s_withDescendants : Int32}
variable {ha_parents ha_classes ha_sizes sa_linkedFrom sa_linkCounts sa_retainedSets sa_retainedSizes sa_dominators sa_immediateDominators ta_codes ta_numbers ta_brackets : Nat → Int32}
variable {ha_fields wa_rows : Nat → Int64}
variable {xq_query n_left n_right s_row s_nested s_condition s_next : Option Nat}
variable {pa_n pk_n pa_s pk_s : Nat}
set_option maxHeartbeats 4000000 in
set_option maxRecDepth 100000 in
theorem cxh_roots  (ur : Int32) (h : sxh_roots hf_roots = ur) : hq_Ct l yxh_roots bxh_roots 1 (some .int) { frames := 0, cells := 0, slots := 0, locals := 0 } D (hq_tys cI cZ cL) A [.ref (q 1)] (hx_w q cI cZ cL xq_query ha_parents hf_classCount ha_classes ha_sizes ha_fields hf_objectCount hf_roots hf_changed sa_linkedFrom sa_linkCounts sa_retainedSets sa_retainedSizes sa_dominators sa_immediateDominators sf_objectCount sf_roots sf_reachable ta_codes ta_numbers tf_count ta_brackets tf_bracketCount tf_place tf_inWhere tf_compared wa_rows wf_count wf_looks ++ z) (hx_w q cI cZ cL xq_query ha_parents hf_classCount ha_classes ha_sizes ha_fields hf_objectCount hf_roots hf_changed sa_linkedFrom sa_linkCounts sa_retainedSets sa_retainedSizes sa_dominators sa_immediateDominators sf_objectCount sf_roots sf_reachable ta_codes ta_numbers tf_count ta_brackets tf_bracketCount tf_place tf_inWhere tf_compared wa_rows wf_count wf_looks ++ z) (some (.int ur)) 0 0 := by
  refine hq_of (by decide) ?_ (Nat.le_of_ble_eq_true rfl)
  intro p e s m below meth c R args Q hRm hQ hx hb hr hml hts hown hlocks hnm hP hK hD ls hl hS
  have hl : lv_has ls 1 [(0, .ref (q 1))] := hl
  have hown : s.vm.findClass "HeapQueries$Heap" = some m.cls := hown
  unfold sxh_roots at h
  refine lv_aload_n hx hb dxh_roots_0 rfl (lv_at hl 0 rfl) ?_
  refine gx_1_roots hx hb hts hown hK hP wi_18 dxh_roots_1 ?_
  exact hq_iret hx hb hr hlocks hQ hK hP hD hS (by rw [← h]) rfl dxh_roots_4
end
section
variable {p : Program} {l : Launch} {e : Env} {R : Room} {s : State} {m : MethodId} {args : Array Value} {below : List Frame} {meth : Method} {c : Code} {H H0 : Heap} {locs : List Loc} {cells slots : Nat} {Q : State → Prop}
variable {cc : ByteArray} {pc idx nC : Nat} {ls : Array Slot} {rest : List Value} {D : va_G} {A : Nat → Prop} {own : String} {q : Nat → Nat} {cI cZ cL : ClassId} {z w : va_W}
variable {hf_classCount hf_objectCount hf_roots hf_changed sf_objectCount sf_roots sf_reachable tf_count tf_bracketCount tf_place tf_inWhere tf_compared wf_count wf_looks n_code n_number s_isDistinct s_isRetained s_sourceClass s_withDescendants : Int32}
variable {ha_parents ha_classes ha_sizes sa_linkedFrom sa_linkCounts sa_retainedSets sa_retainedSizes sa_dominators sa_immediateDominators ta_codes ta_numbers ta_brackets : Nat → Int32}
variable {ha_fields wa_rows : Nat → Int64}
variable {xq_query n_left n_right s_row s_nested s_condition s_next : Option Nat}
variable {pa_n pk_n pa_s pk_s : Nat}
theorem kxh_roots  (ur : Int32) (hu : sxh_roots hf_roots = ur) (hx : p.tables.exec = Jvm.exec) (hb : c.code = cc) (hml : c.maxLocals = nC) (hts : ∀ x ∈ hq_tbl, x.before args s = true) (hown : s.vm.findClass own = some m.cls) (hK : va_K D hq_cl (hq_tys cI cZ cL) s) (hP : va_P D hq_cl (hx_w q cI cZ cL xq_query ha_parents hf_classCount ha_classes ha_sizes ha_fields hf_objectCount hf_roots hf_changed sa_linkedFrom sa_linkCounts sa_retainedSets sa_retainedSizes sa_dominators sa_immediateDominators sf_objectCount sf_roots sf_reachable ta_codes ta_numbers tf_count ta_brackets tf_bracketCount tf_place tf_inWhere tf_compared wa_rows wf_count wf_looks ++ z) H) (hD : va_D A (hx_w q cI cZ cL xq_query ha_parents hf_classCount ha_classes ha_sizes ha_fields hf_objectCount hf_roots hf_changed sa_linkedFrom sa_linkCounts sa_retainedSets sa_retainedSizes sa_dominators sa_immediateDominators sf_objectCount sf_roots sf_reachable ta_codes ta_numbers tf_count ta_brackets tf_bracketCount tf_place tf_inWhere tf_compared wa_rows wf_count wf_looks ++ z)) (hS : va_S A H0 H locs) (h1 : Cond.methodLink own idx yxh_roots ∈ hq_tbl) (hR : 0 + 1 ≤ R.frames ∧ 8 + (1 + 11) + 0 ≤ R.locals) (hls : ls.size = nC) (hW : (rest.map fun v => v.category).sum ≤ 8) (hdg : decode cc pc = .ok (.invokevirtual idx, 3)) (hf : cells + 0 ≤ R.cells ∧ slots + 0 ≤ R.slots) (kk : ∀ (H1 : Heap) (locs1 : List Loc), va_P D hq_cl (hx_w q cI cZ cL xq_query ha_parents hf_classCount ha_classes ha_sizes ha_fields hf_objectCount hf_roots hf_changed sa_linkedFrom sa_linkCounts sa_retainedSets sa_retainedSizes sa_dominators sa_immediateDominators sf_objectCount sf_roots sf_reachable ta_codes ta_numbers tf_count ta_brackets tf_bracketCount tf_place tf_inWhere tf_compared wa_rows wf_count wf_looks ++ z) H1 → va_D A (hx_w q cI cZ cL xq_query ha_parents hf_classCount ha_classes ha_sizes ha_fields hf_objectCount hf_roots hf_changed sa_linkedFrom sa_linkCounts sa_retainedSets sa_retainedSizes sa_dominators sa_immediateDominators sf_objectCount sf_roots sf_reachable ta_codes ta_numbers tf_count ta_brackets tf_bracketCount tf_place tf_inWhere tf_compared wa_rows wf_count wf_looks ++ z) → va_S A H0 H1 locs1 → W p l e R s m args below meth c H1 locs1 cells slots Q (F0 m (pc + 3) ls (.int ur :: rest))) : W p l e R s m args below meth c H locs cells slots Q (F0 m pc ls (.ref (q 1) :: rest)) :=
  hq_callV (q0 := 1) hx hb hml hown hts hK hP hD hS (cxh_roots  ur hu) rfl rfl h1 wi_240 wi_241 wi_202 wi_242 0 rfl (by decide +kernel) ⟨rfl, rfl⟩ hR hls rfl hW hdg hf kk
end
theorem dxh_fieldOf_0 : decode bxh_fieldOf 0 = .ok (.aload_n 0, 1) := by decide +kernel
theorem dxh_fieldOf_1 : decode bxh_fieldOf 1 = .ok (.getfield 21, 3) := by decide +kernel
theorem dxh_fieldOf_4 : decode bxh_fieldOf 4 = .ok (.iload_n 1, 1) := by decide +kernel
theorem dxh_fieldOf_5 : decode bxh_fieldOf 5 = .ok (.iconst 4, 1) := by decide +kernel
theorem dxh_fieldOf_6 : decode bxh_fieldOf 6 = .ok (.imul, 1) := by decide +kernel
theorem dxh_fieldOf_7 : decode bxh_fieldOf 7 = .ok (.iload_n 2, 1) := by decide +kernel
theorem dxh_fieldOf_8 : decode bxh_fieldOf 8 = .ok (.iadd, 1) := by decide +kernel
theorem dxh_fieldOf_9 : decode bxh_fieldOf 9 = .ok (.laload, 1) := by decide +kernel
theorem dxh_fieldOf_10 : decode bxh_fieldOf 10 = .ok (.lreturn, 1) := by decide +kernel
section
variable {l : Launch} {D : va_G} {A : Nat → Prop} {z w : va_W} {q : Nat → Nat} {cI cZ cL : ClassId}
variable {hf_classCount hf_objectCount hf_roots hf_changed sf_objectCount sf_roots sf_reachable tf_count tf_bracketCount tf_place tf_inWhere tf_compared wf_count wf_looks n_code n_number s_isDistinct s_isRetained s_sourceClass s_withDescendants : Int32}
variable {ha_parents ha_classes ha_sizes sa_linkedFrom sa_linkCounts sa_retainedSets sa_retainedSizes sa_dominators sa_immediateDominators ta_codes ta_numbers ta_brackets : Nat → Int32}
variable {ha_fields wa_rows : Nat → Int64}
variable {xq_query n_left n_right s_row s_nested s_condition s_next : Option Nat}
variable {pa_n pk_n pa_s pk_s : Nat}
set_option maxHeartbeats 4000000 in
set_option maxRecDepth 100000 in
theorem cxh_fieldOf (l1 : Int32) (l2 : Int32) (ur : Int64) (h : sxh_fieldOf l1 l2 ha_fields = some ur) : hq_Ct l yxh_fieldOf bxh_fieldOf 3 (some .long) { frames := 0, cells := 0, slots := 0, locals := 0 } D (hq_tys cI cZ cL) A [.ref (q 1), .int l1, .int l2] (hx_w q cI cZ cL xq_query ha_parents hf_classCount ha_classes ha_sizes ha_fields hf_objectCount hf_roots hf_changed sa_linkedFrom sa_linkCounts sa_retainedSets sa_retainedSizes sa_dominators sa_immediateDominators sf_objectCount sf_roots sf_reachable ta_codes ta_numbers tf_count ta_brackets tf_bracketCount tf_place tf_inWhere tf_compared wa_rows wf_count wf_looks ++ z) (hx_w q cI cZ cL xq_query ha_parents hf_classCount ha_classes ha_sizes ha_fields hf_objectCount hf_roots hf_changed sa_linkedFrom sa_linkCounts sa_retainedSets sa_retainedSizes sa_dominators sa_immediateDominators sf_objectCount sf_roots sf_reachable ta_codes ta_numbers tf_count ta_brackets tf_bracketCount tf_place tf_inWhere tf_compared wa_rows wf_count wf_looks ++ z) (some (.long ur)) 0 0 := by
  refine hq_of (by decide) ?_ (Nat.le_of_ble_eq_true rfl)
  intro p e s m below meth c R args Q hRm hQ hx hb hr hml hts hown hlocks hnm hP hK hD ls hl hS
  have hl : lv_has ls 3 [(0, .ref (q 1)), (1, .int l1), (2, .int l2)] := hl
  have hown : s.vm.findClass "HeapQueries$Heap" = some m.cls := hown
  unfold sxh_fieldOf at h
  refine lv_aload_n hx hb dxh_fieldOf_0 rfl (lv_at hl 0 rfl) ?_
  refine gx_1_fields hx hb hts hown hK hP wi_10 dxh_fieldOf_1 ?_
  refine lv_iload_n hx hb dxh_fieldOf_4 rfl (lv_at hl 1 rfl) ?_
  refine lv_iconst (v := 4) hx hb dxh_fieldOf_5 (by decide) ?_
  refine lv_imul hx hb dxh_fieldOf_6 ?_
  refine lv_iload_n hx hb dxh_fieldOf_7 rfl (lv_at hl 2 rfl) ?_
  refine lv_iadd hx hb dxh_fieldOf_8 ?_
  obtain ⟨hin, h⟩ := hq_idx h
  refine ax_8 hx hb hK hP hin dxh_fieldOf_9 ?_
  have h := Option.some.inj h
  exact hq_lret hx hb hr hlocks hQ hK hP hD hS (by rw [← h]) rfl dxh_fieldOf_10
end
section
variable {p : Program} {l : Launch} {e : Env} {R : Room} {s : State} {m : MethodId} {args : Array Value} {below : List Frame} {meth : Method} {c : Code} {H H0 : Heap} {locs : List Loc} {cells slots : Nat} {Q : State → Prop}
variable {cc : ByteArray} {pc idx nC : Nat} {ls : Array Slot} {rest : List Value} {D : va_G} {A : Nat → Prop} {own : String} {q : Nat → Nat} {cI cZ cL : ClassId} {z w : va_W}
variable {hf_classCount hf_objectCount hf_roots hf_changed sf_objectCount sf_roots sf_reachable tf_count tf_bracketCount tf_place tf_inWhere tf_compared wf_count wf_looks n_code n_number s_isDistinct s_isRetained s_sourceClass s_withDescendants : Int32}
variable {ha_parents ha_classes ha_sizes sa_linkedFrom sa_linkCounts sa_retainedSets sa_retainedSizes sa_dominators sa_immediateDominators ta_codes ta_numbers ta_brackets : Nat → Int32}
variable {ha_fields wa_rows : Nat → Int64}
variable {xq_query n_left n_right s_row s_nested s_condition s_next : Option Nat}
variable {pa_n pk_n pa_s pk_s : Nat}
theorem kxh_fieldOf (l1 : Int32) (l2 : Int32) (ur : Int64) (hu : sxh_fieldOf l1 l2 ha_fields = some ur) (hx : p.tables.exec = Jvm.exec) (hb : c.code = cc) (hml : c.maxLocals = nC) (hts : ∀ x ∈ hq_tbl, x.before args s = true) (hown : s.vm.findClass own = some m.cls) (hK : va_K D hq_cl (hq_tys cI cZ cL) s) (hP : va_P D hq_cl (hx_w q cI cZ cL xq_query ha_parents hf_classCount ha_classes ha_sizes ha_fields hf_objectCount hf_roots hf_changed sa_linkedFrom sa_linkCounts sa_retainedSets sa_retainedSizes sa_dominators sa_immediateDominators sf_objectCount sf_roots sf_reachable ta_codes ta_numbers tf_count ta_brackets tf_bracketCount tf_place tf_inWhere tf_compared wa_rows wf_count wf_looks ++ z) H) (hD : va_D A (hx_w q cI cZ cL xq_query ha_parents hf_classCount ha_classes ha_sizes ha_fields hf_objectCount hf_roots hf_changed sa_linkedFrom sa_linkCounts sa_retainedSets sa_retainedSizes sa_dominators sa_immediateDominators sf_objectCount sf_roots sf_reachable ta_codes ta_numbers tf_count ta_brackets tf_bracketCount tf_place tf_inWhere tf_compared wa_rows wf_count wf_looks ++ z)) (hS : va_S A H0 H locs) (h1 : Cond.methodLink own idx yxh_fieldOf ∈ hq_tbl) (hR : 0 + 1 ≤ R.frames ∧ 8 + (3 + 11) + 0 ≤ R.locals) (hls : ls.size = nC) (hW : (rest.map fun v => v.category).sum ≤ 8) (hdg : decode cc pc = .ok (.invokevirtual idx, 3)) (hf : cells + 0 ≤ R.cells ∧ slots + 0 ≤ R.slots) (kk : ∀ (H1 : Heap) (locs1 : List Loc), va_P D hq_cl (hx_w q cI cZ cL xq_query ha_parents hf_classCount ha_classes ha_sizes ha_fields hf_objectCount hf_roots hf_changed sa_linkedFrom sa_linkCounts sa_retainedSets sa_retainedSizes sa_dominators sa_immediateDominators sf_objectCount sf_roots sf_reachable ta_codes ta_numbers tf_count ta_brackets tf_bracketCount tf_place tf_inWhere tf_compared wa_rows wf_count wf_looks ++ z) H1 → va_D A (hx_w q cI cZ cL xq_query ha_parents hf_classCount ha_classes ha_sizes ha_fields hf_objectCount hf_roots hf_changed sa_linkedFrom sa_linkCounts sa_retainedSets sa_retainedSizes sa_dominators sa_immediateDominators sf_objectCount sf_roots sf_reachable ta_codes ta_numbers tf_count ta_brackets tf_bracketCount tf_place tf_inWhere tf_compared wa_rows wf_count wf_looks ++ z) → va_S A H0 H1 locs1 → W p l e R s m args below meth c H1 locs1 cells slots Q (F0 m (pc + 3) ls (.long ur :: rest))) : W p l e R s m args below meth c H locs cells slots Q (F0 m pc ls (.int l2 :: .int l1 :: .ref (q 1) :: rest)) :=
  hq_callV (q0 := 1) hx hb hml hown hts hK hP hD hS (cxh_fieldOf l1 l2 ur hu) rfl rfl h1 wi_243 wi_244 wi_202 wi_245 2 rfl (by decide +kernel) ⟨rfl, rfl⟩ hR hls rfl hW hdg hf kk
end
theorem dxs_findLinks_0 : decode bxs_findLinks 0 = .ok (.iconst 0, 1) := by decide +kernel
theorem dxs_findLinks_1 : decode bxs_findLinks 1 = .ok (.istore_n 2, 1) := by decide +kernel
theorem dxs_findLinks_2 : decode bxs_findLinks 2 = .ok (.iload_n 2, 1) := by decide +kernel
theorem dxs_findLinks_3 : decode bxs_findLinks 3 = .ok (.aload_n 0, 1) := by decide +kernel
theorem dxs_findLinks_4 : decode bxs_findLinks 4 = .ok (.getfield 36, 3) := by decide +kernel
theorem dxs_findLinks_7 : decode bxs_findLinks 7 = .ok (.if_icmp .ge 23, 3) := by decide +kernel
theorem dxs_findLinks_10 : decode bxs_findLinks 10 = .ok (.aload_n 0, 1) := by decide +kernel
theorem dxs_findLinks_11 : decode bxs_findLinks 11 = .ok (.getfield 9, 3) := by decide +kernel
theorem dxs_findLinks_14 : decode bxs_findLinks 14 = .ok (.iload_n 2, 1) := by decide +kernel
theorem dxs_findLinks_15 : decode bxs_findLinks 15 = .ok (.iconst 0, 1) := by decide +kernel
theorem dxs_findLinks_16 : decode bxs_findLinks 16 = .ok (.iastore, 1) := by decide +kernel
theorem dxs_findLinks_17 : decode bxs_findLinks 17 = .ok (.aload_n 0, 1) := by decide +kernel
theorem dxs_findLinks_18 : decode bxs_findLinks 18 = .ok (.getfield 15, 3) := by decide +kernel
theorem dxs_findLinks_21 : decode bxs_findLinks 21 = .ok (.iload_n 2, 1) := by decide +kernel
theorem dxs_findLinks_22 : decode bxs_findLinks 22 = .ok (.iconst 0, 1) := by decide +kernel
theorem dxs_findLinks_23 : decode bxs_findLinks 23 = .ok (.iastore, 1) := by decide +kernel
theorem dxs_findLinks_24 : decode bxs_findLinks 24 = .ok (.iinc 2 1, 3) := by decide +kernel
theorem dxs_findLinks_27 : decode bxs_findLinks 27 = .ok (.goto (-25), 3) := by decide +kernel
theorem dxs_findLinks_30 : decode bxs_findLinks 30 = .ok (.iconst 0, 1) := by decide +kernel
theorem dxs_findLinks_31 : decode bxs_findLinks 31 = .ok (.istore_n 2, 1) := by decide +kernel
theorem dxs_findLinks_32 : decode bxs_findLinks 32 = .ok (.iload_n 2, 1) := by decide +kernel
theorem dxs_findLinks_33 : decode bxs_findLinks 33 = .ok (.aload_n 0, 1) := by decide +kernel
theorem dxs_findLinks_34 : decode bxs_findLinks 34 = .ok (.getfield 36, 3) := by decide +kernel
theorem dxs_findLinks_37 : decode bxs_findLinks 37 = .ok (.if_icmp .ge 69, 3) := by decide +kernel
theorem dxs_findLinks_40 : decode bxs_findLinks 40 = .ok (.iconst 0, 1) := by decide +kernel
theorem dxs_findLinks_41 : decode bxs_findLinks 41 = .ok (.istore_n 3, 1) := by decide +kernel
theorem dxs_findLinks_42 : decode bxs_findLinks 42 = .ok (.iload_n 3, 1) := by decide +kernel
theorem dxs_findLinks_43 : decode bxs_findLinks 43 = .ok (.iconst 4, 1) := by decide +kernel
theorem dxs_findLinks_44 : decode bxs_findLinks 44 = .ok (.if_icmp .ge 56, 3) := by decide +kernel
theorem dxs_findLinks_47 : decode bxs_findLinks 47 = .ok (.aload_n 1, 1) := by decide +kernel
theorem dxs_findLinks_48 : decode bxs_findLinks 48 = .ok (.iload_n 2, 1) := by decide +kernel
theorem dxs_findLinks_49 : decode bxs_findLinks 49 = .ok (.iload_n 3, 1) := by decide +kernel
theorem dxs_findLinks_50 : decode bxs_findLinks 50 = .ok (.invokevirtual 69, 3) := by decide +kernel
theorem dxs_findLinks_53 : decode bxs_findLinks 53 = .ok (.lstore 4, 2) := by decide +kernel
theorem dxs_findLinks_55 : decode bxs_findLinks 55 = .ok (.lload 4, 2) := by decide +kernel
theorem dxs_findLinks_57 : decode bxs_findLinks 57 = .ok (.invokestatic 73, 3) := by decide +kernel
theorem dxs_findLinks_60 : decode bxs_findLinks 60 = .ok (.ifCond .eq 34, 3) := by decide +kernel
theorem dxs_findLinks_63 : decode bxs_findLinks 63 = .ok (.lload 4, 2) := by decide +kernel
theorem dxs_findLinks_65 : decode bxs_findLinks 65 = .ok (.invokestatic 79, 3) := by decide +kernel
theorem dxs_findLinks_68 : decode bxs_findLinks 68 = .ok (.istore 6, 2) := by decide +kernel
theorem dxs_findLinks_70 : decode bxs_findLinks 70 = .ok (.aload_n 0, 1) := by decide +kernel
theorem dxs_findLinks_71 : decode bxs_findLinks 71 = .ok (.getfield 9, 3) := by decide +kernel
theorem dxs_findLinks_74 : decode bxs_findLinks 74 = .ok (.iload_n 2, 1) := by decide +kernel
theorem dxs_findLinks_75 : decode bxs_findLinks 75 = .ok (.dup2, 1) := by decide +kernel
theorem dxs_findLinks_76 : decode bxs_findLinks 76 = .ok (.iaload, 1) := by decide +kernel
theorem dxs_findLinks_77 : decode bxs_findLinks 77 = .ok (.iconst 1, 1) := by decide +kernel
theorem dxs_findLinks_78 : decode bxs_findLinks 78 = .ok (.iload 6, 2) := by decide +kernel
theorem dxs_findLinks_80 : decode bxs_findLinks 80 = .ok (.ishl, 1) := by decide +kernel
theorem dxs_findLinks_81 : decode bxs_findLinks 81 = .ok (.ior, 1) := by decide +kernel
theorem dxs_findLinks_82 : decode bxs_findLinks 82 = .ok (.iastore, 1) := by decide +kernel
theorem dxs_findLinks_83 : decode bxs_findLinks 83 = .ok (.aload_n 0, 1) := by decide +kernel
theorem dxs_findLinks_84 : decode bxs_findLinks 84 = .ok (.getfield 15, 3) := by decide +kernel
theorem dxs_findLinks_87 : decode bxs_findLinks 87 = .ok (.iload 6, 2) := by decide +kernel
theorem dxs_findLinks_89 : decode bxs_findLinks 89 = .ok (.dup2, 1) := by decide +kernel
theorem dxs_findLinks_90 : decode bxs_findLinks 90 = .ok (.iaload, 1) := by decide +kernel
theorem dxs_findLinks_91 : decode bxs_findLinks 91 = .ok (.iconst 1, 1) := by decide +kernel
theorem dxs_findLinks_92 : decode bxs_findLinks 92 = .ok (.iadd, 1) := by decide +kernel
theorem dxs_findLinks_93 : decode bxs_findLinks 93 = .ok (.iastore, 1) := by decide +kernel
theorem dxs_findLinks_94 : decode bxs_findLinks 94 = .ok (.iinc 3 1, 3) := by decide +kernel
theorem dxs_findLinks_97 : decode bxs_findLinks 97 = .ok (.goto (-55), 3) := by decide +kernel
theorem dxs_findLinks_100 : decode bxs_findLinks 100 = .ok (.iinc 2 1, 3) := by decide +kernel
theorem dxs_findLinks_103 : decode bxs_findLinks 103 = .ok (.goto (-71), 3) := by decide +kernel
theorem dxs_findLinks_106 : decode bxs_findLinks 106 = .ok (.return_, 1) := by decide +kernel
section
variable {l : Launch} {D : va_G} {A : Nat → Prop} {z w : va_W} {q : Nat → Nat} {cI cZ cL : ClassId}
variable {hf_classCount hf_objectCount hf_roots hf_changed sf_objectCount sf_roots sf_reachable tf_count tf_bracketCount tf_place tf_inWhere tf_compared wf_count wf_looks n_code n_number s_isDistinct s_isRetained s_sourceClass s_withDescendants : Int32}
variable {ha_parents ha_classes ha_sizes sa_linkedFrom sa_linkCounts sa_retainedSets sa_retainedSizes sa_dominators sa_immediateDominators ta_codes ta_numbers ta_brackets : Nat → Int32}
variable {ha_fields wa_rows : Nat → Int64}
variable {xq_query n_left n_right s_row s_nested s_condition s_next : Option Nat}
variable {pa_n pk_n pa_s pk_s : Nat}
set_option maxHeartbeats 4000000 in
set_option maxRecDepth 100000 in
theorem cxs_findLinks  (ur : (Nat → Int32) × (Nat → Int32)) (h : sxs_findLinks ha_fields sa_linkedFrom sa_linkCounts sf_objectCount = some ur) : hq_Ct l yxs_findLinks bxs_findLinks 7 none { frames := 1, cells := 0, slots := 0, locals := 22 } D (hq_tys cI cZ cL) A [.ref (q 2), .ref (q 1)] (hx_w q cI cZ cL xq_query ha_parents hf_classCount ha_classes ha_sizes ha_fields hf_objectCount hf_roots hf_changed sa_linkedFrom sa_linkCounts sa_retainedSets sa_retainedSizes sa_dominators sa_immediateDominators sf_objectCount sf_roots sf_reachable ta_codes ta_numbers tf_count ta_brackets tf_bracketCount tf_place tf_inWhere tf_compared wa_rows wf_count wf_looks ++ z) (hx_w q cI cZ cL xq_query ha_parents hf_classCount ha_classes ha_sizes ha_fields hf_objectCount hf_roots hf_changed ur.1 ur.2 sa_retainedSets sa_retainedSizes sa_dominators sa_immediateDominators sf_objectCount sf_roots sf_reachable ta_codes ta_numbers tf_count ta_brackets tf_bracketCount tf_place tf_inWhere tf_compared wa_rows wf_count wf_looks ++ z) none 0 0 := by
  refine hq_of (by decide) ?_ (Nat.le_of_ble_eq_true rfl)
  intro p e s m below meth c R args Q hRm hQ hx hb hr hml hts hown hlocks hnm hP hK hD ls hl hS
  have hl : lv_has ls 7 [(0, .ref (q 2)), (1, .ref (q 1))] := hl
  have hown : s.vm.findClass "HeapQueries$Survey" = some m.cls := hown
  unfold sxs_findLinks at h
  have L42 : ∀ (n : Nat) (l2 : Int32) (l3 : Int32) {sa_linkedFrom : Nat → Int32} {sa_linkCounts : Nat → Int32} {ls : Array Slot} {H : Heap} {locs : List Loc}, lv_has ls 7 [(0, .ref (q 2)), (1, .ref (q 1)), (2, .int l2), (3, .int l3)] → va_P D hq_cl (hx_w q cI cZ cL xq_query ha_parents hf_classCount ha_classes ha_sizes ha_fields hf_objectCount hf_roots hf_changed sa_linkedFrom sa_linkCounts sa_retainedSets sa_retainedSizes sa_dominators sa_immediateDominators sf_objectCount sf_roots sf_reachable ta_codes ta_numbers tf_count ta_brackets tf_bracketCount tf_place tf_inWhere tf_compared wa_rows wf_count wf_looks ++ z) H → va_D A (hx_w q cI cZ cL xq_query ha_parents hf_classCount ha_classes ha_sizes ha_fields hf_objectCount hf_roots hf_changed sa_linkedFrom sa_linkCounts sa_retainedSets sa_retainedSizes sa_dominators sa_immediateDominators sf_objectCount sf_roots sf_reachable ta_codes ta_numbers tf_count ta_brackets tf_bracketCount tf_place tf_inWhere tf_compared wa_rows wf_count wf_looks ++ z) → va_S A s.heap H locs → ∀ u42, sxs_findLinks_L42 n l2 l3 ha_fields sa_linkedFrom sa_linkCounts = some u42 → (∀ (ls : Array Slot) (H : Heap) (locs : List Loc), lv_has ls 7 [(0, .ref (q 2)), (1, .ref (q 1)), (2, .int l2)] → va_P D hq_cl (hx_w q cI cZ cL xq_query ha_parents hf_classCount ha_classes ha_sizes ha_fields hf_objectCount hf_roots hf_changed u42.1 u42.2 sa_retainedSets sa_retainedSizes sa_dominators sa_immediateDominators sf_objectCount sf_roots sf_reachable ta_codes ta_numbers tf_count ta_brackets tf_bracketCount tf_place tf_inWhere tf_compared wa_rows wf_count wf_looks ++ z) H → va_D A (hx_w q cI cZ cL xq_query ha_parents hf_classCount ha_classes ha_sizes ha_fields hf_objectCount hf_roots hf_changed u42.1 u42.2 sa_retainedSets sa_retainedSizes sa_dominators sa_immediateDominators sf_objectCount sf_roots sf_reachable ta_codes ta_numbers tf_count ta_brackets tf_bracketCount tf_place tf_inWhere tf_compared wa_rows wf_count wf_looks ++ z) → va_S A s.heap H locs → W p l e R s m args below meth c H locs 0 0 Q (F0 m 100 ls [])) → W p l e R s m args below meth c H locs 0 0 Q (F0 m 42 ls []) := by
    intro n
    induction n with
    | zero =>
      intro l2 l3 sa_linkedFrom sa_linkCounts ls H locs hl hP hD hS u42 h kx
      have h : (none : Option ((Nat → Int32) × (Nat → Int32))) = some u42 := h
      cases h
    | succ n ih =>
      intro l2 l3 sa_linkedFrom sa_linkCounts ls H locs hl hP hD hS u42 h kx
      have h : sxs_findLinks_L42_B (sxs_findLinks_L42 n) l2 l3 ha_fields sa_linkedFrom sa_linkCounts = some u42 := h
      unfold sxs_findLinks_L42_B at h
      refine lv_iload_n hx hb dxs_findLinks_42 rfl (lv_at hl 3 rfl) ?_
      refine lv_iconst (v := 4) hx hb dxs_findLinks_43 (by decide) ?_
      refine lv_icmp_ge (tgt := 100) hx hb dxs_findLinks_44 (by decide) (fun hc => ?_) (fun hc => ?_)
      · have h := (if_pos hc).symm.trans h
        have h := Option.some.inj h
        subst h
        exact kx ls H locs (lv_sub hl [0, 1, 2] rfl) hP hD hS
      · have h := (if_neg hc).symm.trans h
        refine lv_aload_n hx hb dxs_findLinks_47 rfl (lv_at hl 1 rfl) ?_
        refine lv_iload_n hx hb dxs_findLinks_48 rfl (lv_at hl 2 rfl) ?_
        refine lv_iload_n hx hb dxs_findLinks_49 rfl (lv_at hl 3 rfl) ?_
        obtain ⟨v50, h50, h⟩ := hq_bind h
        refine kxh_fieldOf l2 l3 v50 h50 hx hb hml hts hown hK hP hD hS wi_21 (by rw [hRm]; exact ⟨Nat.le_of_ble_eq_true rfl, Nat.le_of_ble_eq_true rfl⟩) hl.1 (Nat.le_of_ble_eq_true rfl) dxs_findLinks_50 ⟨Nat.zero_le _, Nat.zero_le _⟩ (fun H locs hP hD hS => ?_)
        refine lv_lstore (lv' := [(4, .long v50), (0, .ref (q 2)), (1, .ref (q 1)), (2, .int l2), (3, .int l3)]) hx hb dxs_findLinks_53 hl (by decide) rfl (fun ls hl => ?_)
        refine lv_lload hx hb dxs_findLinks_55 (lv_at hl 0 rfl) ?_
        refine kxv_isLink v50 (sxv_isLink v50) rfl hx hb hml hts hown hK hP hD hS wi_22 (by rw [hRm]; exact ⟨Nat.le_of_ble_eq_true rfl, Nat.le_of_ble_eq_true rfl⟩) hl.1 (Nat.le_of_ble_eq_true rfl) dxs_findLinks_57 ⟨Nat.zero_le _, Nat.zero_le _⟩ (fun H locs hP hD hS => ?_)
        refine lv_if_eq (tgt := 94) hx hb dxs_findLinks_60 (by decide) (fun hc => ?_) (fun hc => ?_)
        · have h := (if_pos hc).symm.trans h
          refine lv_iinc (k := 4) (v := l3 + 1) (lv' := [(3, .int (l3 + 1)), (4, .long v50), (0, .ref (q 2)), (1, .ref (q 1)), (2, .int l2)]) hx hb dxs_findLinks_94 hl rfl (congrArg (fun j => l3 + j) (by decide)) (by decide) rfl (fun ls hl => ?_)
          refine lv_goto (tgt := 42) hx hb dxs_findLinks_97 (by decide) ?_
          exact ih l2 (l3 + 1) (lv_sub hl [2, 3, 4, 0] rfl) hP hD hS u42 h kx
        · have h := (if_neg hc).symm.trans h
          refine lv_lload hx hb dxs_findLinks_63 (lv_at hl 0 rfl) ?_
          refine kxv_contentOf v50 (sxv_contentOf v50) rfl hx hb hml hts hown hK hP hD hS wi_23 (by rw [hRm]; exact ⟨Nat.le_of_ble_eq_true rfl, Nat.le_of_ble_eq_true rfl⟩) hl.1 (Nat.le_of_ble_eq_true rfl) dxs_findLinks_65 ⟨Nat.zero_le _, Nat.zero_le _⟩ (fun H locs hP hD hS => ?_)
          refine lv_istore (lv' := [(6, .int (sxv_contentOf v50)), (4, .long v50), (0, .ref (q 2)), (1, .ref (q 1)), (2, .int l2), (3, .int l3)]) hx hb dxs_findLinks_68 hl (by decide) rfl (fun ls hl => ?_)
          refine lv_aload_n hx hb dxs_findLinks_70 rfl (lv_at hl 2 rfl) ?_
          refine gx_2_linkedFrom hx hb hts hown hK hP wi_24 dxs_findLinks_71 ?_
          refine lv_iload_n hx hb dxs_findLinks_74 rfl (lv_at hl 4 rfl) ?_
          refine lv_dup2_11 hx hb dxs_findLinks_75 rfl rfl ?_
          obtain ⟨hin, h⟩ := hq_idx h
          refine ax_9 hx hb hK hP hin dxs_findLinks_76 ?_
          refine lv_iconst (v := 1) hx hb dxs_findLinks_77 (by decide) ?_
          refine lv_iload hx hb dxs_findLinks_78 (lv_at hl 0 rfl) ?_
          refine lv_ishl hx hb dxs_findLinks_80 ?_
          refine lv_ior hx hb dxs_findLinks_81 ?_
          obtain ⟨hin, h⟩ := hq_idx h
          refine tx_9 hx hb hK hP hD hS hin dxs_findLinks_82 (fun H locs hP hD hS => ?_)
          refine lv_aload_n hx hb dxs_findLinks_83 rfl (lv_at hl 2 rfl) ?_
          refine gx_2_linkCounts hx hb hts hown hK hP wi_25 dxs_findLinks_84 ?_
          refine lv_iload hx hb dxs_findLinks_87 (lv_at hl 0 rfl) ?_
          refine lv_dup2_11 hx hb dxs_findLinks_89 rfl rfl ?_
          obtain ⟨hin, h⟩ := hq_idx h
          refine ax_10 hx hb hK hP hin dxs_findLinks_90 ?_
          refine lv_iconst (v := 1) hx hb dxs_findLinks_91 (by decide) ?_
          refine lv_iadd hx hb dxs_findLinks_92 ?_
          obtain ⟨hin, h⟩ := hq_idx h
          refine tx_10 hx hb hK hP hD hS hin dxs_findLinks_93 (fun H locs hP hD hS => ?_)
          refine lv_iinc (k := 5) (v := l3 + 1) (lv' := [(3, .int (l3 + 1)), (6, .int (sxv_contentOf v50)), (4, .long v50), (0, .ref (q 2)), (1, .ref (q 1)), (2, .int l2)]) hx hb dxs_findLinks_94 hl rfl (congrArg (fun j => l3 + j) (by decide)) (by decide) rfl (fun ls hl => ?_)
          refine lv_goto (tgt := 42) hx hb dxs_findLinks_97 (by decide) ?_
          exact ih l2 (l3 + 1) (lv_sub hl [3, 4, 5, 0] rfl) hP hD hS u42 h kx
  have L32 : ∀ (n : Nat) (l2 : Int32) {sa_linkedFrom : Nat → Int32} {sa_linkCounts : Nat → Int32} {ls : Array Slot} {H : Heap} {locs : List Loc}, lv_has ls 7 [(0, .ref (q 2)), (1, .ref (q 1)), (2, .int l2)] → va_P D hq_cl (hx_w q cI cZ cL xq_query ha_parents hf_classCount ha_classes ha_sizes ha_fields hf_objectCount hf_roots hf_changed sa_linkedFrom sa_linkCounts sa_retainedSets sa_retainedSizes sa_dominators sa_immediateDominators sf_objectCount sf_roots sf_reachable ta_codes ta_numbers tf_count ta_brackets tf_bracketCount tf_place tf_inWhere tf_compared wa_rows wf_count wf_looks ++ z) H → va_D A (hx_w q cI cZ cL xq_query ha_parents hf_classCount ha_classes ha_sizes ha_fields hf_objectCount hf_roots hf_changed sa_linkedFrom sa_linkCounts sa_retainedSets sa_retainedSizes sa_dominators sa_immediateDominators sf_objectCount sf_roots sf_reachable ta_codes ta_numbers tf_count ta_brackets tf_bracketCount tf_place tf_inWhere tf_compared wa_rows wf_count wf_looks ++ z) → va_S A s.heap H locs → ∀ u32, sxs_findLinks_L32 n l2 ha_fields sa_linkedFrom sa_linkCounts sf_objectCount = some u32 → (∀ (ls : Array Slot) (H : Heap) (locs : List Loc), lv_has ls 7 [] → va_P D hq_cl (hx_w q cI cZ cL xq_query ha_parents hf_classCount ha_classes ha_sizes ha_fields hf_objectCount hf_roots hf_changed u32.1 u32.2 sa_retainedSets sa_retainedSizes sa_dominators sa_immediateDominators sf_objectCount sf_roots sf_reachable ta_codes ta_numbers tf_count ta_brackets tf_bracketCount tf_place tf_inWhere tf_compared wa_rows wf_count wf_looks ++ z) H → va_D A (hx_w q cI cZ cL xq_query ha_parents hf_classCount ha_classes ha_sizes ha_fields hf_objectCount hf_roots hf_changed u32.1 u32.2 sa_retainedSets sa_retainedSizes sa_dominators sa_immediateDominators sf_objectCount sf_roots sf_reachable ta_codes ta_numbers tf_count ta_brackets tf_bracketCount tf_place tf_inWhere tf_compared wa_rows wf_count wf_looks ++ z) → va_S A s.heap H locs → W p l e R s m args below meth c H locs 0 0 Q (F0 m 106 ls [])) → W p l e R s m args below meth c H locs 0 0 Q (F0 m 32 ls []) := by
    intro n
    induction n with
    | zero =>
      intro l2 sa_linkedFrom sa_linkCounts ls H locs hl hP hD hS u32 h kx
      have h : (none : Option ((Nat → Int32) × (Nat → Int32))) = some u32 := h
      cases h
    | succ n ih =>
      intro l2 sa_linkedFrom sa_linkCounts ls H locs hl hP hD hS u32 h kx
      have h : sxs_findLinks_L32_B (sxs_findLinks_L32 n) l2 ha_fields sa_linkedFrom sa_linkCounts sf_objectCount = some u32 := h
      unfold sxs_findLinks_L32_B at h
      refine lv_iload_n hx hb dxs_findLinks_32 rfl (lv_at hl 2 rfl) ?_
      refine lv_aload_n hx hb dxs_findLinks_33 rfl (lv_at hl 0 rfl) ?_
      refine gx_2_objectCount hx hb hts hown hK hP wi_26 dxs_findLinks_34 ?_
      refine lv_icmp_ge (tgt := 106) hx hb dxs_findLinks_37 (by decide) (fun hc => ?_) (fun hc => ?_)
      · have h := (if_pos hc).symm.trans h
        have h := Option.some.inj h
        subst h
        exact kx ls H locs (lv_sub hl [] rfl) hP hD hS
      · have h := (if_neg hc).symm.trans h
        refine lv_iconst (v := 0) hx hb dxs_findLinks_40 (by decide) ?_
        refine lv_istore_n (lv' := [(3, .int 0), (0, .ref (q 2)), (1, .ref (q 1)), (2, .int l2)]) hx hb dxs_findLinks_41 rfl hl (by decide) rfl (fun ls hl => ?_)
        obtain ⟨u42, h42, h⟩ := hq_bind h
        refine L42 kF l2 0 (lv_sub hl [1, 2, 3, 0] rfl) hP hD hS u42 h42 (fun ls H locs hl hP hD hS => ?_)
        refine lv_iinc (k := 2) (v := l2 + 1) (lv' := [(2, .int (l2 + 1)), (0, .ref (q 2)), (1, .ref (q 1))]) hx hb dxs_findLinks_100 hl rfl (congrArg (fun j => l2 + j) (by decide)) (by decide) rfl (fun ls hl => ?_)
        refine lv_goto (tgt := 32) hx hb dxs_findLinks_103 (by decide) ?_
        exact ih (l2 + 1) (lv_sub hl [1, 2, 0] rfl) hP hD hS u32 h kx
  have L2 : ∀ (n : Nat) (l2 : Int32) {sa_linkedFrom : Nat → Int32} {sa_linkCounts : Nat → Int32} {ls : Array Slot} {H : Heap} {locs : List Loc}, lv_has ls 7 [(0, .ref (q 2)), (1, .ref (q 1)), (2, .int l2)] → va_P D hq_cl (hx_w q cI cZ cL xq_query ha_parents hf_classCount ha_classes ha_sizes ha_fields hf_objectCount hf_roots hf_changed sa_linkedFrom sa_linkCounts sa_retainedSets sa_retainedSizes sa_dominators sa_immediateDominators sf_objectCount sf_roots sf_reachable ta_codes ta_numbers tf_count ta_brackets tf_bracketCount tf_place tf_inWhere tf_compared wa_rows wf_count wf_looks ++ z) H → va_D A (hx_w q cI cZ cL xq_query ha_parents hf_classCount ha_classes ha_sizes ha_fields hf_objectCount hf_roots hf_changed sa_linkedFrom sa_linkCounts sa_retainedSets sa_retainedSizes sa_dominators sa_immediateDominators sf_objectCount sf_roots sf_reachable ta_codes ta_numbers tf_count ta_brackets tf_bracketCount tf_place tf_inWhere tf_compared wa_rows wf_count wf_looks ++ z) → va_S A s.heap H locs → ∀ u2, sxs_findLinks_L2 n l2 sa_linkedFrom sa_linkCounts sf_objectCount = some u2 → (∀ (ls : Array Slot) (H : Heap) (locs : List Loc), lv_has ls 7 [(0, .ref (q 2)), (1, .ref (q 1))] → va_P D hq_cl (hx_w q cI cZ cL xq_query ha_parents hf_classCount ha_classes ha_sizes ha_fields hf_objectCount hf_roots hf_changed u2.1 u2.2 sa_retainedSets sa_retainedSizes sa_dominators sa_immediateDominators sf_objectCount sf_roots sf_reachable ta_codes ta_numbers tf_count ta_brackets tf_bracketCount tf_place tf_inWhere tf_compared wa_rows wf_count wf_looks ++ z) H → va_D A (hx_w q cI cZ cL xq_query ha_parents hf_classCount ha_classes ha_sizes ha_fields hf_objectCount hf_roots hf_changed u2.1 u2.2 sa_retainedSets sa_retainedSizes sa_dominators sa_immediateDominators sf_objectCount sf_roots sf_reachable ta_codes ta_numbers tf_count ta_brackets tf_bracketCount tf_place tf_inWhere tf_compared wa_rows wf_count wf_looks ++ z) → va_S A s.heap H locs → W p l e R s m args below meth c H locs 0 0 Q (F0 m 30 ls [])) → W p l e R s m args below meth c H locs 0 0 Q (F0 m 2 ls []) := by
    intro n
    induction n with
    | zero =>
      intro l2 sa_linkedFrom sa_linkCounts ls H locs hl hP hD hS u2 h kx
      have h : (none : Option ((Nat → Int32) × (Nat → Int32))) = some u2 := h
      cases h
    | succ n ih =>
      intro l2 sa_linkedFrom sa_linkCounts ls H locs hl hP hD hS u2 h kx
      have h : sxs_findLinks_L2_B (sxs_findLinks_L2 n) l2 sa_linkedFrom sa_linkCounts sf_objectCount = some u2 := h
      unfold sxs_findLinks_L2_B at h
      refine lv_iload_n hx hb dxs_findLinks_2 rfl (lv_at hl 2 rfl) ?_
      refine lv_aload_n hx hb dxs_findLinks_3 rfl (lv_at hl 0 rfl) ?_
      refine gx_2_objectCount hx hb hts hown hK hP wi_26 dxs_findLinks_4 ?_
      refine lv_icmp_ge (tgt := 30) hx hb dxs_findLinks_7 (by decide) (fun hc => ?_) (fun hc => ?_)
      · have h := (if_pos hc).symm.trans h
        have h := Option.some.inj h
        subst h
        exact kx ls H locs (lv_sub hl [0, 1] rfl) hP hD hS
      · have h := (if_neg hc).symm.trans h
        refine lv_aload_n hx hb dxs_findLinks_10 rfl (lv_at hl 0 rfl) ?_
        refine gx_2_linkedFrom hx hb hts hown hK hP wi_24 dxs_findLinks_11 ?_
        refine lv_iload_n hx hb dxs_findLinks_14 rfl (lv_at hl 2 rfl) ?_
        refine lv_iconst (v := 0) hx hb dxs_findLinks_15 (by decide) ?_
        obtain ⟨hin, h⟩ := hq_idx h
        refine tx_9 hx hb hK hP hD hS hin dxs_findLinks_16 (fun H locs hP hD hS => ?_)
        refine lv_aload_n hx hb dxs_findLinks_17 rfl (lv_at hl 0 rfl) ?_
        refine gx_2_linkCounts hx hb hts hown hK hP wi_25 dxs_findLinks_18 ?_
        refine lv_iload_n hx hb dxs_findLinks_21 rfl (lv_at hl 2 rfl) ?_
        refine lv_iconst (v := 0) hx hb dxs_findLinks_22 (by decide) ?_
        obtain ⟨hin, h⟩ := hq_idx h
        refine tx_10 hx hb hK hP hD hS hin dxs_findLinks_23 (fun H locs hP hD hS => ?_)
        refine lv_iinc (k := 2) (v := l2 + 1) (lv' := [(2, .int (l2 + 1)), (0, .ref (q 2)), (1, .ref (q 1))]) hx hb dxs_findLinks_24 hl rfl (congrArg (fun j => l2 + j) (by decide)) (by decide) rfl (fun ls hl => ?_)
        refine lv_goto (tgt := 2) hx hb dxs_findLinks_27 (by decide) ?_
        exact ih (l2 + 1) (lv_sub hl [1, 2, 0] rfl) hP hD hS u2 h kx
  refine lv_iconst (v := 0) hx hb dxs_findLinks_0 (by decide) ?_
  refine lv_istore_n (lv' := [(2, .int 0), (0, .ref (q 2)), (1, .ref (q 1))]) hx hb dxs_findLinks_1 rfl hl (by decide) rfl (fun ls hl => ?_)
  obtain ⟨u2, h2, h⟩ := hq_bind h
  refine L2 kF 0 (lv_sub hl [1, 2, 0] rfl) hP hD hS u2 h2 (fun ls H locs hl hP hD hS => ?_)
  refine lv_iconst (v := 0) hx hb dxs_findLinks_30 (by decide) ?_
  refine lv_istore_n (lv' := [(2, .int 0), (0, .ref (q 2)), (1, .ref (q 1))]) hx hb dxs_findLinks_31 rfl hl (by decide) rfl (fun ls hl => ?_)
  obtain ⟨u32, h32, h⟩ := hq_bind h
  refine L32 kF 0 (lv_sub hl [1, 2, 0] rfl) hP hD hS u32 h32 (fun ls H locs hl hP hD hS => ?_)
  have h := Option.some.inj h
  exact hq_vret hx hb hr hlocks hQ hK hP hD hS rfl (by rw [← h]) dxs_findLinks_106
end
section
variable {p : Program} {l : Launch} {e : Env} {R : Room} {s : State} {m : MethodId} {args : Array Value} {below : List Frame} {meth : Method} {c : Code} {H H0 : Heap} {locs : List Loc} {cells slots : Nat} {Q : State → Prop}
variable {cc : ByteArray} {pc idx nC : Nat} {ls : Array Slot} {rest : List Value} {D : va_G} {A : Nat → Prop} {own : String} {q : Nat → Nat} {cI cZ cL : ClassId} {z w : va_W}
variable {hf_classCount hf_objectCount hf_roots hf_changed sf_objectCount sf_roots sf_reachable tf_count tf_bracketCount tf_place tf_inWhere tf_compared wf_count wf_looks n_code n_number s_isDistinct s_isRetained s_sourceClass s_withDescendants : Int32}
variable {ha_parents ha_classes ha_sizes sa_linkedFrom sa_linkCounts sa_retainedSets sa_retainedSizes sa_dominators sa_immediateDominators ta_codes ta_numbers ta_brackets : Nat → Int32}
variable {ha_fields wa_rows : Nat → Int64}
variable {xq_query n_left n_right s_row s_nested s_condition s_next : Option Nat}
variable {pa_n pk_n pa_s pk_s : Nat}
theorem kxs_findLinks  (ur : (Nat → Int32) × (Nat → Int32)) (hu : sxs_findLinks ha_fields sa_linkedFrom sa_linkCounts sf_objectCount = some ur) (hx : p.tables.exec = Jvm.exec) (hb : c.code = cc) (hml : c.maxLocals = nC) (hts : ∀ x ∈ hq_tbl, x.before args s = true) (hown : s.vm.findClass own = some m.cls) (hK : va_K D hq_cl (hq_tys cI cZ cL) s) (hP : va_P D hq_cl (hx_w q cI cZ cL xq_query ha_parents hf_classCount ha_classes ha_sizes ha_fields hf_objectCount hf_roots hf_changed sa_linkedFrom sa_linkCounts sa_retainedSets sa_retainedSizes sa_dominators sa_immediateDominators sf_objectCount sf_roots sf_reachable ta_codes ta_numbers tf_count ta_brackets tf_bracketCount tf_place tf_inWhere tf_compared wa_rows wf_count wf_looks ++ z) H) (hD : va_D A (hx_w q cI cZ cL xq_query ha_parents hf_classCount ha_classes ha_sizes ha_fields hf_objectCount hf_roots hf_changed sa_linkedFrom sa_linkCounts sa_retainedSets sa_retainedSizes sa_dominators sa_immediateDominators sf_objectCount sf_roots sf_reachable ta_codes ta_numbers tf_count ta_brackets tf_bracketCount tf_place tf_inWhere tf_compared wa_rows wf_count wf_looks ++ z)) (hS : va_S A H0 H locs) (h1 : Cond.methodLink own idx yxs_findLinks ∈ hq_tbl) (hR : 1 + 1 ≤ R.frames ∧ 8 + (7 + 11) + 22 ≤ R.locals) (hls : ls.size = nC) (hW : (rest.map fun v => v.category).sum ≤ 8) (hdg : decode cc pc = .ok (.invokevirtual idx, 3)) (hf : cells + 0 ≤ R.cells ∧ slots + 0 ≤ R.slots) (kk : ∀ (H1 : Heap) (locs1 : List Loc), va_P D hq_cl (hx_w q cI cZ cL xq_query ha_parents hf_classCount ha_classes ha_sizes ha_fields hf_objectCount hf_roots hf_changed ur.1 ur.2 sa_retainedSets sa_retainedSizes sa_dominators sa_immediateDominators sf_objectCount sf_roots sf_reachable ta_codes ta_numbers tf_count ta_brackets tf_bracketCount tf_place tf_inWhere tf_compared wa_rows wf_count wf_looks ++ z) H1 → va_D A (hx_w q cI cZ cL xq_query ha_parents hf_classCount ha_classes ha_sizes ha_fields hf_objectCount hf_roots hf_changed ur.1 ur.2 sa_retainedSets sa_retainedSizes sa_dominators sa_immediateDominators sf_objectCount sf_roots sf_reachable ta_codes ta_numbers tf_count ta_brackets tf_bracketCount tf_place tf_inWhere tf_compared wa_rows wf_count wf_looks ++ z) → va_S A H0 H1 locs1 → W p l e R s m args below meth c H1 locs1 cells slots Q (F0 m (pc + 3) ls (rest))) : W p l e R s m args below meth c H locs cells slots Q (F0 m pc ls (.ref (q 1) :: .ref (q 2) :: rest)) :=
  hq_callV (q0 := 2) hx hb hml hown hts hK hP hD hS (cxs_findLinks  ur hu) rfl rfl h1 wi_250 wi_251 wi_252 wi_253 1 rfl (by decide +kernel) ⟨rfl, rfl⟩ hR hls rfl hW hdg hf kk
end
theorem dxs_reachableWithout_0 : decode bxs_reachableWithout 0 = .ok (.aload_n 0, 1) := by decide +kernel
theorem dxs_reachableWithout_1 : decode bxs_reachableWithout 1 = .ok (.getfield 43, 3) := by decide +kernel
theorem dxs_reachableWithout_4 : decode bxs_reachableWithout 4 = .ok (.iload_n 1, 1) := by decide +kernel
theorem dxs_reachableWithout_5 : decode bxs_reachableWithout 5 = .ok (.iconst (-1), 1) := by decide +kernel
theorem dxs_reachableWithout_6 : decode bxs_reachableWithout 6 = .ok (.ixor, 1) := by decide +kernel
theorem dxs_reachableWithout_7 : decode bxs_reachableWithout 7 = .ok (.iand, 1) := by decide +kernel
theorem dxs_reachableWithout_8 : decode bxs_reachableWithout 8 = .ok (.istore_n 2, 1) := by decide +kernel
theorem dxs_reachableWithout_9 : decode bxs_reachableWithout 9 = .ok (.iload_n 2, 1) := by decide +kernel
theorem dxs_reachableWithout_10 : decode bxs_reachableWithout 10 = .ok (.istore_n 3, 1) := by decide +kernel
theorem dxs_reachableWithout_11 : decode bxs_reachableWithout 11 = .ok (.iconst 0, 1) := by decide +kernel
theorem dxs_reachableWithout_12 : decode bxs_reachableWithout 12 = .ok (.istore 4, 2) := by decide +kernel
theorem dxs_reachableWithout_14 : decode bxs_reachableWithout 14 = .ok (.iload 4, 2) := by decide +kernel
theorem dxs_reachableWithout_16 : decode bxs_reachableWithout 16 = .ok (.bipush 24, 2) := by decide +kernel
theorem dxs_reachableWithout_18 : decode bxs_reachableWithout 18 = .ok (.if_icmp .ge 53, 3) := by decide +kernel
theorem dxs_reachableWithout_21 : decode bxs_reachableWithout 21 = .ok (.iload_n 3, 1) := by decide +kernel
theorem dxs_reachableWithout_22 : decode bxs_reachableWithout 22 = .ok (.ifCond .eq 49, 3) := by decide +kernel
theorem dxs_reachableWithout_25 : decode bxs_reachableWithout 25 = .ok (.iload_n 3, 1) := by decide +kernel
theorem dxs_reachableWithout_26 : decode bxs_reachableWithout 26 = .ok (.invokestatic 83, 3) := by decide +kernel
theorem dxs_reachableWithout_29 : decode bxs_reachableWithout 29 = .ok (.istore 5, 2) := by decide +kernel
theorem dxs_reachableWithout_31 : decode bxs_reachableWithout 31 = .ok (.aload_n 0, 1) := by decide +kernel
theorem dxs_reachableWithout_32 : decode bxs_reachableWithout 32 = .ok (.getfield 9, 3) := by decide +kernel
theorem dxs_reachableWithout_35 : decode bxs_reachableWithout 35 = .ok (.iload 5, 2) := by decide +kernel
theorem dxs_reachableWithout_37 : decode bxs_reachableWithout 37 = .ok (.iaload, 1) := by decide +kernel
theorem dxs_reachableWithout_38 : decode bxs_reachableWithout 38 = .ok (.iload_n 1, 1) := by decide +kernel
theorem dxs_reachableWithout_39 : decode bxs_reachableWithout 39 = .ok (.iconst (-1), 1) := by decide +kernel
theorem dxs_reachableWithout_40 : decode bxs_reachableWithout 40 = .ok (.ixor, 1) := by decide +kernel
theorem dxs_reachableWithout_41 : decode bxs_reachableWithout 41 = .ok (.iand, 1) := by decide +kernel
theorem dxs_reachableWithout_42 : decode bxs_reachableWithout 42 = .ok (.iload_n 2, 1) := by decide +kernel
theorem dxs_reachableWithout_43 : decode bxs_reachableWithout 43 = .ok (.iconst (-1), 1) := by decide +kernel
theorem dxs_reachableWithout_44 : decode bxs_reachableWithout 44 = .ok (.ixor, 1) := by decide +kernel
theorem dxs_reachableWithout_45 : decode bxs_reachableWithout 45 = .ok (.iand, 1) := by decide +kernel
theorem dxs_reachableWithout_46 : decode bxs_reachableWithout 46 = .ok (.istore 6, 2) := by decide +kernel
theorem dxs_reachableWithout_48 : decode bxs_reachableWithout 48 = .ok (.iload_n 2, 1) := by decide +kernel
theorem dxs_reachableWithout_49 : decode bxs_reachableWithout 49 = .ok (.iload 6, 2) := by decide +kernel
theorem dxs_reachableWithout_51 : decode bxs_reachableWithout 51 = .ok (.ior, 1) := by decide +kernel
theorem dxs_reachableWithout_52 : decode bxs_reachableWithout 52 = .ok (.istore_n 2, 1) := by decide +kernel
theorem dxs_reachableWithout_53 : decode bxs_reachableWithout 53 = .ok (.iload_n 3, 1) := by decide +kernel
theorem dxs_reachableWithout_54 : decode bxs_reachableWithout 54 = .ok (.iconst 1, 1) := by decide +kernel
theorem dxs_reachableWithout_55 : decode bxs_reachableWithout 55 = .ok (.iload 5, 2) := by decide +kernel
theorem dxs_reachableWithout_57 : decode bxs_reachableWithout 57 = .ok (.ishl, 1) := by decide +kernel
theorem dxs_reachableWithout_58 : decode bxs_reachableWithout 58 = .ok (.iconst (-1), 1) := by decide +kernel
theorem dxs_reachableWithout_59 : decode bxs_reachableWithout 59 = .ok (.ixor, 1) := by decide +kernel
theorem dxs_reachableWithout_60 : decode bxs_reachableWithout 60 = .ok (.iand, 1) := by decide +kernel
theorem dxs_reachableWithout_61 : decode bxs_reachableWithout 61 = .ok (.iload 6, 2) := by decide +kernel
theorem dxs_reachableWithout_63 : decode bxs_reachableWithout 63 = .ok (.ior, 1) := by decide +kernel
theorem dxs_reachableWithout_64 : decode bxs_reachableWithout 64 = .ok (.istore_n 3, 1) := by decide +kernel
theorem dxs_reachableWithout_65 : decode bxs_reachableWithout 65 = .ok (.iinc 4 1, 3) := by decide +kernel
theorem dxs_reachableWithout_68 : decode bxs_reachableWithout 68 = .ok (.goto (-54), 3) := by decide +kernel
theorem dxs_reachableWithout_71 : decode bxs_reachableWithout 71 = .ok (.iload_n 2, 1) := by decide +kernel
theorem dxs_reachableWithout_72 : decode bxs_reachableWithout 72 = .ok (.ireturn, 1) := by decide +kernel
section
variable {l : Launch} {D : va_G} {A : Nat → Prop} {z w : va_W} {q : Nat → Nat} {cI cZ cL : ClassId}
variable {hf_classCount hf_objectCount hf_roots hf_changed sf_objectCount sf_roots sf_reachable tf_count tf_bracketCount tf_place tf_inWhere tf_compared wf_count wf_looks n_code n_number s_isDistinct s_isRetained s_sourceClass s_withDescendants : Int32}
variable {ha_parents ha_classes ha_sizes sa_linkedFrom sa_linkCounts sa_retainedSets sa_retainedSizes sa_dominators sa_immediateDominators ta_codes ta_numbers ta_brackets : Nat → Int32}
variable {ha_fields wa_rows : Nat → Int64}
variable {xq_query n_left n_right s_row s_nested s_condition s_next : Option Nat}
variable {pa_n pk_n pa_s pk_s : Nat}
set_option maxHeartbeats 4000000 in
set_option maxRecDepth 100000 in
theorem cxs_reachableWithout (l1 : Int32) (ur : Int32) (h : sxs_reachableWithout l1 sa_linkedFrom sf_roots = some ur) : hq_Ct l yxs_reachableWithout bxs_reachableWithout 7 (some .int) { frames := 1, cells := 0, slots := 0, locals := 21 } D (hq_tys cI cZ cL) A [.ref (q 2), .int l1] (hx_w q cI cZ cL xq_query ha_parents hf_classCount ha_classes ha_sizes ha_fields hf_objectCount hf_roots hf_changed sa_linkedFrom sa_linkCounts sa_retainedSets sa_retainedSizes sa_dominators sa_immediateDominators sf_objectCount sf_roots sf_reachable ta_codes ta_numbers tf_count ta_brackets tf_bracketCount tf_place tf_inWhere tf_compared wa_rows wf_count wf_looks ++ z) (hx_w q cI cZ cL xq_query ha_parents hf_classCount ha_classes ha_sizes ha_fields hf_objectCount hf_roots hf_changed sa_linkedFrom sa_linkCounts sa_retainedSets sa_retainedSizes sa_dominators sa_immediateDominators sf_objectCount sf_roots sf_reachable ta_codes ta_numbers tf_count ta_brackets tf_bracketCount tf_place tf_inWhere tf_compared wa_rows wf_count wf_looks ++ z) (some (.int ur)) 0 0 := by
  refine hq_of (by decide) ?_ (Nat.le_of_ble_eq_true rfl)
  intro p e s m below meth c R args Q hRm hQ hx hb hr hml hts hown hlocks hnm hP hK hD ls hl hS
  have hl : lv_has ls 7 [(0, .ref (q 2)), (1, .int l1)] := hl
  have hown : s.vm.findClass "HeapQueries$Survey" = some m.cls := hown
  unfold sxs_reachableWithout at h
  have L14 : ∀ (n : Nat) (l1 : Int32) (l2 : Int32) (l3 : Int32) (l4 : Int32) {ls : Array Slot} {H : Heap} {locs : List Loc}, lv_has ls 7 [(0, .ref (q 2)), (1, .int l1), (2, .int l2), (3, .int l3), (4, .int l4)] → va_P D hq_cl (hx_w q cI cZ cL xq_query ha_parents hf_classCount ha_classes ha_sizes ha_fields hf_objectCount hf_roots hf_changed sa_linkedFrom sa_linkCounts sa_retainedSets sa_retainedSizes sa_dominators sa_immediateDominators sf_objectCount sf_roots sf_reachable ta_codes ta_numbers tf_count ta_brackets tf_bracketCount tf_place tf_inWhere tf_compared wa_rows wf_count wf_looks ++ z) H → va_D A (hx_w q cI cZ cL xq_query ha_parents hf_classCount ha_classes ha_sizes ha_fields hf_objectCount hf_roots hf_changed sa_linkedFrom sa_linkCounts sa_retainedSets sa_retainedSizes sa_dominators sa_immediateDominators sf_objectCount sf_roots sf_reachable ta_codes ta_numbers tf_count ta_brackets tf_bracketCount tf_place tf_inWhere tf_compared wa_rows wf_count wf_looks ++ z) → va_S A s.heap H locs → ∀ u14, sxs_reachableWithout_L14 n l1 l2 l3 l4 sa_linkedFrom = some u14 → (∀ (ls : Array Slot) (H : Heap) (locs : List Loc), lv_has ls 7 [(2, .int u14)] → va_P D hq_cl (hx_w q cI cZ cL xq_query ha_parents hf_classCount ha_classes ha_sizes ha_fields hf_objectCount hf_roots hf_changed sa_linkedFrom sa_linkCounts sa_retainedSets sa_retainedSizes sa_dominators sa_immediateDominators sf_objectCount sf_roots sf_reachable ta_codes ta_numbers tf_count ta_brackets tf_bracketCount tf_place tf_inWhere tf_compared wa_rows wf_count wf_looks ++ z) H → va_D A (hx_w q cI cZ cL xq_query ha_parents hf_classCount ha_classes ha_sizes ha_fields hf_objectCount hf_roots hf_changed sa_linkedFrom sa_linkCounts sa_retainedSets sa_retainedSizes sa_dominators sa_immediateDominators sf_objectCount sf_roots sf_reachable ta_codes ta_numbers tf_count ta_brackets tf_bracketCount tf_place tf_inWhere tf_compared wa_rows wf_count wf_looks ++ z) → va_S A s.heap H locs → W p l e R s m args below meth c H locs 0 0 Q (F0 m 71 ls [])) → W p l e R s m args below meth c H locs 0 0 Q (F0 m 14 ls []) := by
    intro n
    induction n with
    | zero =>
      intro l1 l2 l3 l4 ls H locs hl hP hD hS u14 h kx
      have h : (none : Option (Int32)) = some u14 := h
      cases h
    | succ n ih =>
      intro l1 l2 l3 l4 ls H locs hl hP hD hS u14 h kx
      have h : sxs_reachableWithout_L14_B (sxs_reachableWithout_L14 n) l1 l2 l3 l4 sa_linkedFrom = some u14 := h
      unfold sxs_reachableWithout_L14_B at h
      refine lv_iload hx hb dxs_reachableWithout_14 (lv_at hl 4 rfl) ?_
      refine lv_bipush (v := 24) hx hb dxs_reachableWithout_16 (by decide) ?_
      refine lv_icmp_ge (tgt := 71) hx hb dxs_reachableWithout_18 (by decide) (fun hc => ?_) (fun hc => ?_)
      · have h := (if_pos hc).symm.trans h
        have h := Option.some.inj h
        subst h
        exact kx ls H locs (lv_sub hl [2] rfl) hP hD hS
      · have h := (if_neg hc).symm.trans h
        refine lv_iload_n hx hb dxs_reachableWithout_21 rfl (lv_at hl 3 rfl) ?_
        refine lv_if_eq (tgt := 71) hx hb dxs_reachableWithout_22 (by decide) (fun hc => ?_) (fun hc => ?_)
        · have h := (if_pos hc).symm.trans h
          have h := Option.some.inj h
          subst h
          exact kx ls H locs (lv_sub hl [2] rfl) hP hD hS
        · have h := (if_neg hc).symm.trans h
          refine lv_iload_n hx hb dxs_reachableWithout_25 rfl (lv_at hl 3 rfl) ?_
          refine kjn_numberOfTrailingZeros l3 (sjn_numberOfTrailingZeros l3) rfl hx hb hml hts hown hK hP hD hS wi_28 (by rw [hRm]; exact ⟨Nat.le_of_ble_eq_true rfl, Nat.le_of_ble_eq_true rfl⟩) hl.1 (Nat.le_of_ble_eq_true rfl) dxs_reachableWithout_26 ⟨Nat.zero_le _, Nat.zero_le _⟩ (fun H locs hP hD hS => ?_)
          refine lv_istore (lv' := [(5, .int (sjn_numberOfTrailingZeros l3)), (0, .ref (q 2)), (1, .int l1), (2, .int l2), (3, .int l3), (4, .int l4)]) hx hb dxs_reachableWithout_29 hl (by decide) rfl (fun ls hl => ?_)
          refine lv_aload_n hx hb dxs_reachableWithout_31 rfl (lv_at hl 1 rfl) ?_
          refine gx_2_linkedFrom hx hb hts hown hK hP wi_24 dxs_reachableWithout_32 ?_
          refine lv_iload hx hb dxs_reachableWithout_35 (lv_at hl 0 rfl) ?_
          obtain ⟨hin, h⟩ := hq_idx h
          refine ax_9 hx hb hK hP hin dxs_reachableWithout_37 ?_
          refine lv_iload_n hx hb dxs_reachableWithout_38 rfl (lv_at hl 2 rfl) ?_
          refine lv_iconst (v := (-1)) hx hb dxs_reachableWithout_39 (by decide) ?_
          refine lv_ixor hx hb dxs_reachableWithout_40 ?_
          refine lv_iand hx hb dxs_reachableWithout_41 ?_
          refine lv_iload_n hx hb dxs_reachableWithout_42 rfl (lv_at hl 3 rfl) ?_
          refine lv_iconst (v := (-1)) hx hb dxs_reachableWithout_43 (by decide) ?_
          refine lv_ixor hx hb dxs_reachableWithout_44 ?_
          refine lv_iand hx hb dxs_reachableWithout_45 ?_
          refine lv_istore (lv' := [(6, .int (((sa_linkedFrom (sjn_numberOfTrailingZeros l3).toNatClampNeg) &&& (l1 ^^^ (-1))) &&& (l2 ^^^ (-1)))), (5, .int (sjn_numberOfTrailingZeros l3)), (0, .ref (q 2)), (1, .int l1), (2, .int l2), (3, .int l3), (4, .int l4)]) hx hb dxs_reachableWithout_46 hl (by decide) rfl (fun ls hl => ?_)
          refine lv_iload_n hx hb dxs_reachableWithout_48 rfl (lv_at hl 4 rfl) ?_
          refine lv_iload hx hb dxs_reachableWithout_49 (lv_at hl 0 rfl) ?_
          refine lv_ior hx hb dxs_reachableWithout_51 ?_
          refine lv_istore_n (lv' := [(2, .int (l2 ||| (((sa_linkedFrom (sjn_numberOfTrailingZeros l3).toNatClampNeg) &&& (l1 ^^^ (-1))) &&& (l2 ^^^ (-1))))), (6, .int (((sa_linkedFrom (sjn_numberOfTrailingZeros l3).toNatClampNeg) &&& (l1 ^^^ (-1))) &&& (l2 ^^^ (-1)))), (5, .int (sjn_numberOfTrailingZeros l3)), (0, .ref (q 2)), (1, .int l1), (3, .int l3), (4, .int l4)]) hx hb dxs_reachableWithout_52 rfl hl (by decide) rfl (fun ls hl => ?_)
          refine lv_iload_n hx hb dxs_reachableWithout_53 rfl (lv_at hl 5 rfl) ?_
          refine lv_iconst (v := 1) hx hb dxs_reachableWithout_54 (by decide) ?_
          refine lv_iload hx hb dxs_reachableWithout_55 (lv_at hl 2 rfl) ?_
          refine lv_ishl hx hb dxs_reachableWithout_57 ?_
          refine lv_iconst (v := (-1)) hx hb dxs_reachableWithout_58 (by decide) ?_
          refine lv_ixor hx hb dxs_reachableWithout_59 ?_
          refine lv_iand hx hb dxs_reachableWithout_60 ?_
          refine lv_iload hx hb dxs_reachableWithout_61 (lv_at hl 1 rfl) ?_
          refine lv_ior hx hb dxs_reachableWithout_63 ?_
          refine lv_istore_n (lv' := [(3, .int ((l3 &&& (((1 : Int32) <<< ((sjn_numberOfTrailingZeros l3) &&& 31)) ^^^ (-1))) ||| (((sa_linkedFrom (sjn_numberOfTrailingZeros l3).toNatClampNeg) &&& (l1 ^^^ (-1))) &&& (l2 ^^^ (-1))))), (2, .int (l2 ||| (((sa_linkedFrom (sjn_numberOfTrailingZeros l3).toNatClampNeg) &&& (l1 ^^^ (-1))) &&& (l2 ^^^ (-1))))), (6, .int (((sa_linkedFrom (sjn_numberOfTrailingZeros l3).toNatClampNeg) &&& (l1 ^^^ (-1))) &&& (l2 ^^^ (-1)))), (5, .int (sjn_numberOfTrailingZeros l3)), (0, .ref (q 2)), (1, .int l1), (4, .int l4)]) hx hb dxs_reachableWithout_64 rfl hl (by decide) rfl (fun ls hl => ?_)
          refine lv_iinc (k := 6) (v := l4 + 1) (lv' := [(4, .int (l4 + 1)), (3, .int ((l3 &&& (((1 : Int32) <<< ((sjn_numberOfTrailingZeros l3) &&& 31)) ^^^ (-1))) ||| (((sa_linkedFrom (sjn_numberOfTrailingZeros l3).toNatClampNeg) &&& (l1 ^^^ (-1))) &&& (l2 ^^^ (-1))))), (2, .int (l2 ||| (((sa_linkedFrom (sjn_numberOfTrailingZeros l3).toNatClampNeg) &&& (l1 ^^^ (-1))) &&& (l2 ^^^ (-1))))), (6, .int (((sa_linkedFrom (sjn_numberOfTrailingZeros l3).toNatClampNeg) &&& (l1 ^^^ (-1))) &&& (l2 ^^^ (-1)))), (5, .int (sjn_numberOfTrailingZeros l3)), (0, .ref (q 2)), (1, .int l1)]) hx hb dxs_reachableWithout_65 hl rfl (congrArg (fun j => l4 + j) (by decide)) (by decide) rfl (fun ls hl => ?_)
          refine lv_goto (tgt := 14) hx hb dxs_reachableWithout_68 (by decide) ?_
          exact ih l1 (l2 ||| (((sa_linkedFrom (sjn_numberOfTrailingZeros l3).toNatClampNeg) &&& (l1 ^^^ (-1))) &&& (l2 ^^^ (-1)))) ((l3 &&& (((1 : Int32) <<< ((sjn_numberOfTrailingZeros l3) &&& 31)) ^^^ (-1))) ||| (((sa_linkedFrom (sjn_numberOfTrailingZeros l3).toNatClampNeg) &&& (l1 ^^^ (-1))) &&& (l2 ^^^ (-1)))) (l4 + 1) (lv_sub hl [5, 6, 2, 1, 0] rfl) hP hD hS u14 h kx
  refine lv_aload_n hx hb dxs_reachableWithout_0 rfl (lv_at hl 0 rfl) ?_
  refine gx_2_roots hx hb hts hown hK hP wi_29 dxs_reachableWithout_1 ?_
  refine lv_iload_n hx hb dxs_reachableWithout_4 rfl (lv_at hl 1 rfl) ?_
  refine lv_iconst (v := (-1)) hx hb dxs_reachableWithout_5 (by decide) ?_
  refine lv_ixor hx hb dxs_reachableWithout_6 ?_
  refine lv_iand hx hb dxs_reachableWithout_7 ?_
  refine lv_istore_n (lv' := [(2, .int (sf_roots &&& (l1 ^^^ (-1)))), (0, .ref (q 2)), (1, .int l1)]) hx hb dxs_reachableWithout_8 rfl hl (by decide) rfl (fun ls hl => ?_)
  refine lv_iload_n hx hb dxs_reachableWithout_9 rfl (lv_at hl 0 rfl) ?_
  refine lv_istore_n (lv' := [(3, .int (sf_roots &&& (l1 ^^^ (-1)))), (2, .int (sf_roots &&& (l1 ^^^ (-1)))), (0, .ref (q 2)), (1, .int l1)]) hx hb dxs_reachableWithout_10 rfl hl (by decide) rfl (fun ls hl => ?_)
  refine lv_iconst (v := 0) hx hb dxs_reachableWithout_11 (by decide) ?_
  refine lv_istore (lv' := [(4, .int 0), (3, .int (sf_roots &&& (l1 ^^^ (-1)))), (2, .int (sf_roots &&& (l1 ^^^ (-1)))), (0, .ref (q 2)), (1, .int l1)]) hx hb dxs_reachableWithout_12 hl (by decide) rfl (fun ls hl => ?_)
  obtain ⟨u14, h14, h⟩ := hq_bind h
  refine L14 kF l1 (sf_roots &&& (l1 ^^^ (-1))) (sf_roots &&& (l1 ^^^ (-1))) 0 (lv_sub hl [3, 4, 2, 1, 0] rfl) hP hD hS u14 h14 (fun ls H locs hl hP hD hS => ?_)
  refine lv_iload_n hx hb dxs_reachableWithout_71 rfl (lv_at hl 0 rfl) ?_
  have h := Option.some.inj h
  exact hq_iret hx hb hr hlocks hQ hK hP hD hS (by rw [← h]) rfl dxs_reachableWithout_72
end
section
variable {p : Program} {l : Launch} {e : Env} {R : Room} {s : State} {m : MethodId} {args : Array Value} {below : List Frame} {meth : Method} {c : Code} {H H0 : Heap} {locs : List Loc} {cells slots : Nat} {Q : State → Prop}
variable {cc : ByteArray} {pc idx nC : Nat} {ls : Array Slot} {rest : List Value} {D : va_G} {A : Nat → Prop} {own : String} {q : Nat → Nat} {cI cZ cL : ClassId} {z w : va_W}
variable {hf_classCount hf_objectCount hf_roots hf_changed sf_objectCount sf_roots sf_reachable tf_count tf_bracketCount tf_place tf_inWhere tf_compared wf_count wf_looks n_code n_number s_isDistinct s_isRetained s_sourceClass s_withDescendants : Int32}
variable {ha_parents ha_classes ha_sizes sa_linkedFrom sa_linkCounts sa_retainedSets sa_retainedSizes sa_dominators sa_immediateDominators ta_codes ta_numbers ta_brackets : Nat → Int32}
variable {ha_fields wa_rows : Nat → Int64}
variable {xq_query n_left n_right s_row s_nested s_condition s_next : Option Nat}
variable {pa_n pk_n pa_s pk_s : Nat}
theorem kxs_reachableWithout (l1 : Int32) (ur : Int32) (hu : sxs_reachableWithout l1 sa_linkedFrom sf_roots = some ur) (hx : p.tables.exec = Jvm.exec) (hb : c.code = cc) (hml : c.maxLocals = nC) (hts : ∀ x ∈ hq_tbl, x.before args s = true) (hown : s.vm.findClass own = some m.cls) (hK : va_K D hq_cl (hq_tys cI cZ cL) s) (hP : va_P D hq_cl (hx_w q cI cZ cL xq_query ha_parents hf_classCount ha_classes ha_sizes ha_fields hf_objectCount hf_roots hf_changed sa_linkedFrom sa_linkCounts sa_retainedSets sa_retainedSizes sa_dominators sa_immediateDominators sf_objectCount sf_roots sf_reachable ta_codes ta_numbers tf_count ta_brackets tf_bracketCount tf_place tf_inWhere tf_compared wa_rows wf_count wf_looks ++ z) H) (hD : va_D A (hx_w q cI cZ cL xq_query ha_parents hf_classCount ha_classes ha_sizes ha_fields hf_objectCount hf_roots hf_changed sa_linkedFrom sa_linkCounts sa_retainedSets sa_retainedSizes sa_dominators sa_immediateDominators sf_objectCount sf_roots sf_reachable ta_codes ta_numbers tf_count ta_brackets tf_bracketCount tf_place tf_inWhere tf_compared wa_rows wf_count wf_looks ++ z)) (hS : va_S A H0 H locs) (h1 : Cond.methodLink own idx yxs_reachableWithout ∈ hq_tbl) (hR : 1 + 1 ≤ R.frames ∧ 8 + (7 + 11) + 21 ≤ R.locals) (hls : ls.size = nC) (hW : (rest.map fun v => v.category).sum ≤ 8) (hdg : decode cc pc = .ok (.invokevirtual idx, 3)) (hf : cells + 0 ≤ R.cells ∧ slots + 0 ≤ R.slots) (kk : ∀ (H1 : Heap) (locs1 : List Loc), va_P D hq_cl (hx_w q cI cZ cL xq_query ha_parents hf_classCount ha_classes ha_sizes ha_fields hf_objectCount hf_roots hf_changed sa_linkedFrom sa_linkCounts sa_retainedSets sa_retainedSizes sa_dominators sa_immediateDominators sf_objectCount sf_roots sf_reachable ta_codes ta_numbers tf_count ta_brackets tf_bracketCount tf_place tf_inWhere tf_compared wa_rows wf_count wf_looks ++ z) H1 → va_D A (hx_w q cI cZ cL xq_query ha_parents hf_classCount ha_classes ha_sizes ha_fields hf_objectCount hf_roots hf_changed sa_linkedFrom sa_linkCounts sa_retainedSets sa_retainedSizes sa_dominators sa_immediateDominators sf_objectCount sf_roots sf_reachable ta_codes ta_numbers tf_count ta_brackets tf_bracketCount tf_place tf_inWhere tf_compared wa_rows wf_count wf_looks ++ z) → va_S A H0 H1 locs1 → W p l e R s m args below meth c H1 locs1 cells slots Q (F0 m (pc + 3) ls (.int ur :: rest))) : W p l e R s m args below meth c H locs cells slots Q (F0 m pc ls (.int l1 :: .ref (q 2) :: rest)) :=
  hq_callV (q0 := 2) hx hb hml hown hts hK hP hD hS (cxs_reachableWithout l1 ur hu) rfl rfl h1 wi_257 wi_258 wi_252 wi_259 1 rfl (by decide +kernel) ⟨rfl, rfl⟩ hR hls rfl hW hdg hf kk
end
theorem dxs_retainedBy_0 : decode bxs_retainedBy 0 = .ok (.aload_n 0, 1) := by decide +kernel
theorem dxs_retainedBy_1 : decode bxs_retainedBy 1 = .ok (.getfield 53, 3) := by decide +kernel
theorem dxs_retainedBy_4 : decode bxs_retainedBy 4 = .ok (.aload_n 0, 1) := by decide +kernel
theorem dxs_retainedBy_5 : decode bxs_retainedBy 5 = .ok (.iload_n 1, 1) := by decide +kernel
theorem dxs_retainedBy_6 : decode bxs_retainedBy 6 = .ok (.invokevirtual 49, 3) := by decide +kernel
theorem dxs_retainedBy_9 : decode bxs_retainedBy 9 = .ok (.iconst (-1), 1) := by decide +kernel
theorem dxs_retainedBy_10 : decode bxs_retainedBy 10 = .ok (.ixor, 1) := by decide +kernel
theorem dxs_retainedBy_11 : decode bxs_retainedBy 11 = .ok (.iand, 1) := by decide +kernel
theorem dxs_retainedBy_12 : decode bxs_retainedBy 12 = .ok (.ireturn, 1) := by decide +kernel
section
variable {l : Launch} {D : va_G} {A : Nat → Prop} {z w : va_W} {q : Nat → Nat} {cI cZ cL : ClassId}
variable {hf_classCount hf_objectCount hf_roots hf_changed sf_objectCount sf_roots sf_reachable tf_count tf_bracketCount tf_place tf_inWhere tf_compared wf_count wf_looks n_code n_number s_isDistinct s_isRetained s_sourceClass s_withDescendants : Int32}
variable {ha_parents ha_classes ha_sizes sa_linkedFrom sa_linkCounts sa_retainedSets sa_retainedSizes sa_dominators sa_immediateDominators ta_codes ta_numbers ta_brackets : Nat → Int32}
variable {ha_fields wa_rows : Nat → Int64}
variable {xq_query n_left n_right s_row s_nested s_condition s_next : Option Nat}
variable {pa_n pk_n pa_s pk_s : Nat}
set_option maxHeartbeats 4000000 in
set_option maxRecDepth 100000 in
theorem cxs_retainedBy (l1 : Int32) (ur : Int32) (h : sxs_retainedBy l1 sa_linkedFrom sf_roots sf_reachable = some ur) : hq_Ct l yxs_retainedBy bxs_retainedBy 2 (some .int) { frames := 2, cells := 0, slots := 0, locals := 47 } D (hq_tys cI cZ cL) A [.ref (q 2), .int l1] (hx_w q cI cZ cL xq_query ha_parents hf_classCount ha_classes ha_sizes ha_fields hf_objectCount hf_roots hf_changed sa_linkedFrom sa_linkCounts sa_retainedSets sa_retainedSizes sa_dominators sa_immediateDominators sf_objectCount sf_roots sf_reachable ta_codes ta_numbers tf_count ta_brackets tf_bracketCount tf_place tf_inWhere tf_compared wa_rows wf_count wf_looks ++ z) (hx_w q cI cZ cL xq_query ha_parents hf_classCount ha_classes ha_sizes ha_fields hf_objectCount hf_roots hf_changed sa_linkedFrom sa_linkCounts sa_retainedSets sa_retainedSizes sa_dominators sa_immediateDominators sf_objectCount sf_roots sf_reachable ta_codes ta_numbers tf_count ta_brackets tf_bracketCount tf_place tf_inWhere tf_compared wa_rows wf_count wf_looks ++ z) (some (.int ur)) 0 0 := by
  refine hq_of (by decide) ?_ (Nat.le_of_ble_eq_true rfl)
  intro p e s m below meth c R args Q hRm hQ hx hb hr hml hts hown hlocks hnm hP hK hD ls hl hS
  have hl : lv_has ls 2 [(0, .ref (q 2)), (1, .int l1)] := hl
  have hown : s.vm.findClass "HeapQueries$Survey" = some m.cls := hown
  unfold sxs_retainedBy at h
  refine lv_aload_n hx hb dxs_retainedBy_0 rfl (lv_at hl 0 rfl) ?_
  refine gx_2_reachable hx hb hts hown hK hP wi_30 dxs_retainedBy_1 ?_
  refine lv_aload_n hx hb dxs_retainedBy_4 rfl (lv_at hl 0 rfl) ?_
  refine lv_iload_n hx hb dxs_retainedBy_5 rfl (lv_at hl 1 rfl) ?_
  obtain ⟨v6, h6, h⟩ := hq_bind h
  refine kxs_reachableWithout l1 v6 h6 hx hb hml hts hown hK hP hD hS wi_31 (by rw [hRm]; exact ⟨Nat.le_of_ble_eq_true rfl, Nat.le_of_ble_eq_true rfl⟩) hl.1 (Nat.le_of_ble_eq_true rfl) dxs_retainedBy_6 ⟨Nat.zero_le _, Nat.zero_le _⟩ (fun H locs hP hD hS => ?_)
  refine lv_iconst (v := (-1)) hx hb dxs_retainedBy_9 (by decide) ?_
  refine lv_ixor hx hb dxs_retainedBy_10 ?_
  refine lv_iand hx hb dxs_retainedBy_11 ?_
  have h := Option.some.inj h
  exact hq_iret hx hb hr hlocks hQ hK hP hD hS (by rw [← h]) rfl dxs_retainedBy_12
end
section
variable {p : Program} {l : Launch} {e : Env} {R : Room} {s : State} {m : MethodId} {args : Array Value} {below : List Frame} {meth : Method} {c : Code} {H H0 : Heap} {locs : List Loc} {cells slots : Nat} {Q : State → Prop}
variable {cc : ByteArray} {pc idx nC : Nat} {ls : Array Slot} {rest : List Value} {D : va_G} {A : Nat → Prop} {own : String} {q : Nat → Nat} {cI cZ cL : ClassId} {z w : va_W}
variable {hf_classCount hf_objectCount hf_roots hf_changed sf_objectCount sf_roots sf_reachable tf_count tf_bracketCount tf_place tf_inWhere tf_compared wf_count wf_looks n_code n_number s_isDistinct s_isRetained s_sourceClass s_withDescendants : Int32}
variable {ha_parents ha_classes ha_sizes sa_linkedFrom sa_linkCounts sa_retainedSets sa_retainedSizes sa_dominators sa_immediateDominators ta_codes ta_numbers ta_brackets : Nat → Int32}
variable {ha_fields wa_rows : Nat → Int64}
variable {xq_query n_left n_right s_row s_nested s_condition s_next : Option Nat}
variable {pa_n pk_n pa_s pk_s : Nat}
theorem kxs_retainedBy (l1 : Int32) (ur : Int32) (hu : sxs_retainedBy l1 sa_linkedFrom sf_roots sf_reachable = some ur) (hx : p.tables.exec = Jvm.exec) (hb : c.code = cc) (hml : c.maxLocals = nC) (hts : ∀ x ∈ hq_tbl, x.before args s = true) (hown : s.vm.findClass own = some m.cls) (hK : va_K D hq_cl (hq_tys cI cZ cL) s) (hP : va_P D hq_cl (hx_w q cI cZ cL xq_query ha_parents hf_classCount ha_classes ha_sizes ha_fields hf_objectCount hf_roots hf_changed sa_linkedFrom sa_linkCounts sa_retainedSets sa_retainedSizes sa_dominators sa_immediateDominators sf_objectCount sf_roots sf_reachable ta_codes ta_numbers tf_count ta_brackets tf_bracketCount tf_place tf_inWhere tf_compared wa_rows wf_count wf_looks ++ z) H) (hD : va_D A (hx_w q cI cZ cL xq_query ha_parents hf_classCount ha_classes ha_sizes ha_fields hf_objectCount hf_roots hf_changed sa_linkedFrom sa_linkCounts sa_retainedSets sa_retainedSizes sa_dominators sa_immediateDominators sf_objectCount sf_roots sf_reachable ta_codes ta_numbers tf_count ta_brackets tf_bracketCount tf_place tf_inWhere tf_compared wa_rows wf_count wf_looks ++ z)) (hS : va_S A H0 H locs) (h1 : Cond.methodLink own idx yxs_retainedBy ∈ hq_tbl) (hR : 2 + 1 ≤ R.frames ∧ 8 + (2 + 11) + 47 ≤ R.locals) (hls : ls.size = nC) (hW : (rest.map fun v => v.category).sum ≤ 8) (hdg : decode cc pc = .ok (.invokevirtual idx, 3)) (hf : cells + 0 ≤ R.cells ∧ slots + 0 ≤ R.slots) (kk : ∀ (H1 : Heap) (locs1 : List Loc), va_P D hq_cl (hx_w q cI cZ cL xq_query ha_parents hf_classCount ha_classes ha_sizes ha_fields hf_objectCount hf_roots hf_changed sa_linkedFrom sa_linkCounts sa_retainedSets sa_retainedSizes sa_dominators sa_immediateDominators sf_objectCount sf_roots sf_reachable ta_codes ta_numbers tf_count ta_brackets tf_bracketCount tf_place tf_inWhere tf_compared wa_rows wf_count wf_looks ++ z) H1 → va_D A (hx_w q cI cZ cL xq_query ha_parents hf_classCount ha_classes ha_sizes ha_fields hf_objectCount hf_roots hf_changed sa_linkedFrom sa_linkCounts sa_retainedSets sa_retainedSizes sa_dominators sa_immediateDominators sf_objectCount sf_roots sf_reachable ta_codes ta_numbers tf_count ta_brackets tf_bracketCount tf_place tf_inWhere tf_compared wa_rows wf_count wf_looks ++ z) → va_S A H0 H1 locs1 → W p l e R s m args below meth c H1 locs1 cells slots Q (F0 m (pc + 3) ls (.int ur :: rest))) : W p l e R s m args below meth c H locs cells slots Q (F0 m pc ls (.int l1 :: .ref (q 2) :: rest)) :=
  hq_callV (q0 := 2) hx hb hml hown hts hK hP hD hS (cxs_retainedBy l1 ur hu) rfl rfl h1 wi_260 wi_261 wi_252 wi_262 1 rfl (by decide +kernel) ⟨rfl, rfl⟩ hR hls rfl hW hdg hf kk
end
theorem dxh_sizeOf_0 : decode bxh_sizeOf 0 = .ok (.aload_n 0, 1) := by decide +kernel
theorem dxh_sizeOf_1 : decode bxh_sizeOf 1 = .ok (.getfield 18, 3) := by decide +kernel
theorem dxh_sizeOf_4 : decode bxh_sizeOf 4 = .ok (.iload_n 1, 1) := by decide +kernel
theorem dxh_sizeOf_5 : decode bxh_sizeOf 5 = .ok (.iaload, 1) := by decide +kernel
theorem dxh_sizeOf_6 : decode bxh_sizeOf 6 = .ok (.ireturn, 1) := by decide +kernel
section
variable {l : Launch} {D : va_G} {A : Nat → Prop} {z w : va_W} {q : Nat → Nat} {cI cZ cL : ClassId}
variable {hf_classCount hf_objectCount hf_roots hf_changed sf_objectCount sf_roots sf_reachable tf_count tf_bracketCount tf_place tf_inWhere tf_compared wf_count wf_looks n_code n_number s_isDistinct s_isRetained s_sourceClass s_withDescendants : Int32}
variable {ha_parents ha_classes ha_sizes sa_linkedFrom sa_linkCounts sa_retainedSets sa_retainedSizes sa_dominators sa_immediateDominators ta_codes ta_numbers ta_brackets : Nat → Int32}
variable {ha_fields wa_rows : Nat → Int64}
variable {xq_query n_left n_right s_row s_nested s_condition s_next : Option Nat}
variable {pa_n pk_n pa_s pk_s : Nat}
set_option maxHeartbeats 4000000 in
set_option maxRecDepth 100000 in
theorem cxh_sizeOf (l1 : Int32) (ur : Int32) (h : sxh_sizeOf l1 ha_sizes = some ur) : hq_Ct l yxh_sizeOf bxh_sizeOf 2 (some .int) { frames := 0, cells := 0, slots := 0, locals := 0 } D (hq_tys cI cZ cL) A [.ref (q 1), .int l1] (hx_w q cI cZ cL xq_query ha_parents hf_classCount ha_classes ha_sizes ha_fields hf_objectCount hf_roots hf_changed sa_linkedFrom sa_linkCounts sa_retainedSets sa_retainedSizes sa_dominators sa_immediateDominators sf_objectCount sf_roots sf_reachable ta_codes ta_numbers tf_count ta_brackets tf_bracketCount tf_place tf_inWhere tf_compared wa_rows wf_count wf_looks ++ z) (hx_w q cI cZ cL xq_query ha_parents hf_classCount ha_classes ha_sizes ha_fields hf_objectCount hf_roots hf_changed sa_linkedFrom sa_linkCounts sa_retainedSets sa_retainedSizes sa_dominators sa_immediateDominators sf_objectCount sf_roots sf_reachable ta_codes ta_numbers tf_count ta_brackets tf_bracketCount tf_place tf_inWhere tf_compared wa_rows wf_count wf_looks ++ z) (some (.int ur)) 0 0 := by
  refine hq_of (by decide) ?_ (Nat.le_of_ble_eq_true rfl)
  intro p e s m below meth c R args Q hRm hQ hx hb hr hml hts hown hlocks hnm hP hK hD ls hl hS
  have hl : lv_has ls 2 [(0, .ref (q 1)), (1, .int l1)] := hl
  have hown : s.vm.findClass "HeapQueries$Heap" = some m.cls := hown
  unfold sxh_sizeOf at h
  refine lv_aload_n hx hb dxh_sizeOf_0 rfl (lv_at hl 0 rfl) ?_
  refine gx_1_sizes hx hb hts hown hK hP wi_7 dxh_sizeOf_1 ?_
  refine lv_iload_n hx hb dxh_sizeOf_4 rfl (lv_at hl 1 rfl) ?_
  obtain ⟨hin, h⟩ := hq_idx h
  refine ax_7 hx hb hK hP hin dxh_sizeOf_5 ?_
  have h := Option.some.inj h
  exact hq_iret hx hb hr hlocks hQ hK hP hD hS (by rw [← h]) rfl dxh_sizeOf_6
end
section
variable {p : Program} {l : Launch} {e : Env} {R : Room} {s : State} {m : MethodId} {args : Array Value} {below : List Frame} {meth : Method} {c : Code} {H H0 : Heap} {locs : List Loc} {cells slots : Nat} {Q : State → Prop}
variable {cc : ByteArray} {pc idx nC : Nat} {ls : Array Slot} {rest : List Value} {D : va_G} {A : Nat → Prop} {own : String} {q : Nat → Nat} {cI cZ cL : ClassId} {z w : va_W}
variable {hf_classCount hf_objectCount hf_roots hf_changed sf_objectCount sf_roots sf_reachable tf_count tf_bracketCount tf_place tf_inWhere tf_compared wf_count wf_looks n_code n_number s_isDistinct s_isRetained s_sourceClass s_withDescendants : Int32}
variable {ha_parents ha_classes ha_sizes sa_linkedFrom sa_linkCounts sa_retainedSets sa_retainedSizes sa_dominators sa_immediateDominators ta_codes ta_numbers ta_brackets : Nat → Int32}
variable {ha_fields wa_rows : Nat → Int64}
variable {xq_query n_left n_right s_row s_nested s_condition s_next : Option Nat}
variable {pa_n pk_n pa_s pk_s : Nat}
theorem kxh_sizeOf (l1 : Int32) (ur : Int32) (hu : sxh_sizeOf l1 ha_sizes = some ur) (hx : p.tables.exec = Jvm.exec) (hb : c.code = cc) (hml : c.maxLocals = nC) (hts : ∀ x ∈ hq_tbl, x.before args s = true) (hown : s.vm.findClass own = some m.cls) (hK : va_K D hq_cl (hq_tys cI cZ cL) s) (hP : va_P D hq_cl (hx_w q cI cZ cL xq_query ha_parents hf_classCount ha_classes ha_sizes ha_fields hf_objectCount hf_roots hf_changed sa_linkedFrom sa_linkCounts sa_retainedSets sa_retainedSizes sa_dominators sa_immediateDominators sf_objectCount sf_roots sf_reachable ta_codes ta_numbers tf_count ta_brackets tf_bracketCount tf_place tf_inWhere tf_compared wa_rows wf_count wf_looks ++ z) H) (hD : va_D A (hx_w q cI cZ cL xq_query ha_parents hf_classCount ha_classes ha_sizes ha_fields hf_objectCount hf_roots hf_changed sa_linkedFrom sa_linkCounts sa_retainedSets sa_retainedSizes sa_dominators sa_immediateDominators sf_objectCount sf_roots sf_reachable ta_codes ta_numbers tf_count ta_brackets tf_bracketCount tf_place tf_inWhere tf_compared wa_rows wf_count wf_looks ++ z)) (hS : va_S A H0 H locs) (h1 : Cond.methodLink own idx yxh_sizeOf ∈ hq_tbl) (hR : 0 + 1 ≤ R.frames ∧ 8 + (2 + 11) + 0 ≤ R.locals) (hls : ls.size = nC) (hW : (rest.map fun v => v.category).sum ≤ 8) (hdg : decode cc pc = .ok (.invokevirtual idx, 3)) (hf : cells + 0 ≤ R.cells ∧ slots + 0 ≤ R.slots) (kk : ∀ (H1 : Heap) (locs1 : List Loc), va_P D hq_cl (hx_w q cI cZ cL xq_query ha_parents hf_classCount ha_classes ha_sizes ha_fields hf_objectCount hf_roots hf_changed sa_linkedFrom sa_linkCounts sa_retainedSets sa_retainedSizes sa_dominators sa_immediateDominators sf_objectCount sf_roots sf_reachable ta_codes ta_numbers tf_count ta_brackets tf_bracketCount tf_place tf_inWhere tf_compared wa_rows wf_count wf_looks ++ z) H1 → va_D A (hx_w q cI cZ cL xq_query ha_parents hf_classCount ha_classes ha_sizes ha_fields hf_objectCount hf_roots hf_changed sa_linkedFrom sa_linkCounts sa_retainedSets sa_retainedSizes sa_dominators sa_immediateDominators sf_objectCount sf_roots sf_reachable ta_codes ta_numbers tf_count ta_brackets tf_bracketCount tf_place tf_inWhere tf_compared wa_rows wf_count wf_looks ++ z) → va_S A H0 H1 locs1 → W p l e R s m args below meth c H1 locs1 cells slots Q (F0 m (pc + 3) ls (.int ur :: rest))) : W p l e R s m args below meth c H locs cells slots Q (F0 m pc ls (.int l1 :: .ref (q 1) :: rest)) :=
  hq_callV (q0 := 1) hx hb hml hown hts hK hP hD hS (cxh_sizeOf l1 ur hu) rfl rfl h1 wi_263 wi_264 wi_202 wi_265 1 rfl (by decide +kernel) ⟨rfl, rfl⟩ hR hls rfl hW hdg hf kk
end
theorem dxs_sizeOfSet_0 : decode bxs_sizeOfSet 0 = .ok (.iconst 0, 1) := by decide +kernel
theorem dxs_sizeOfSet_1 : decode bxs_sizeOfSet 1 = .ok (.istore_n 3, 1) := by decide +kernel
theorem dxs_sizeOfSet_2 : decode bxs_sizeOfSet 2 = .ok (.iconst 0, 1) := by decide +kernel
theorem dxs_sizeOfSet_3 : decode bxs_sizeOfSet 3 = .ok (.istore 4, 2) := by decide +kernel
theorem dxs_sizeOfSet_5 : decode bxs_sizeOfSet 5 = .ok (.iload 4, 2) := by decide +kernel
theorem dxs_sizeOfSet_7 : decode bxs_sizeOfSet 7 = .ok (.aload_n 0, 1) := by decide +kernel
theorem dxs_sizeOfSet_8 : decode bxs_sizeOfSet 8 = .ok (.getfield 36, 3) := by decide +kernel
theorem dxs_sizeOfSet_11 : decode bxs_sizeOfSet 11 = .ok (.if_icmp .ge 27, 3) := by decide +kernel
theorem dxs_sizeOfSet_14 : decode bxs_sizeOfSet 14 = .ok (.iload_n 2, 1) := by decide +kernel
theorem dxs_sizeOfSet_15 : decode bxs_sizeOfSet 15 = .ok (.iconst 1, 1) := by decide +kernel
theorem dxs_sizeOfSet_16 : decode bxs_sizeOfSet 16 = .ok (.iload 4, 2) := by decide +kernel
theorem dxs_sizeOfSet_18 : decode bxs_sizeOfSet 18 = .ok (.ishl, 1) := by decide +kernel
theorem dxs_sizeOfSet_19 : decode bxs_sizeOfSet 19 = .ok (.iand, 1) := by decide +kernel
theorem dxs_sizeOfSet_20 : decode bxs_sizeOfSet 20 = .ok (.ifCond .eq 12, 3) := by decide +kernel
theorem dxs_sizeOfSet_23 : decode bxs_sizeOfSet 23 = .ok (.iload_n 3, 1) := by decide +kernel
theorem dxs_sizeOfSet_24 : decode bxs_sizeOfSet 24 = .ok (.aload_n 1, 1) := by decide +kernel
theorem dxs_sizeOfSet_25 : decode bxs_sizeOfSet 25 = .ok (.iload 4, 2) := by decide +kernel
theorem dxs_sizeOfSet_27 : decode bxs_sizeOfSet 27 = .ok (.invokevirtual 88, 3) := by decide +kernel
theorem dxs_sizeOfSet_30 : decode bxs_sizeOfSet 30 = .ok (.iadd, 1) := by decide +kernel
theorem dxs_sizeOfSet_31 : decode bxs_sizeOfSet 31 = .ok (.istore_n 3, 1) := by decide +kernel
theorem dxs_sizeOfSet_32 : decode bxs_sizeOfSet 32 = .ok (.iinc 4 1, 3) := by decide +kernel
theorem dxs_sizeOfSet_35 : decode bxs_sizeOfSet 35 = .ok (.goto (-30), 3) := by decide +kernel
theorem dxs_sizeOfSet_38 : decode bxs_sizeOfSet 38 = .ok (.iload_n 3, 1) := by decide +kernel
theorem dxs_sizeOfSet_39 : decode bxs_sizeOfSet 39 = .ok (.ireturn, 1) := by decide +kernel
section
variable {l : Launch} {D : va_G} {A : Nat → Prop} {z w : va_W} {q : Nat → Nat} {cI cZ cL : ClassId}
variable {hf_classCount hf_objectCount hf_roots hf_changed sf_objectCount sf_roots sf_reachable tf_count tf_bracketCount tf_place tf_inWhere tf_compared wf_count wf_looks n_code n_number s_isDistinct s_isRetained s_sourceClass s_withDescendants : Int32}
variable {ha_parents ha_classes ha_sizes sa_linkedFrom sa_linkCounts sa_retainedSets sa_retainedSizes sa_dominators sa_immediateDominators ta_codes ta_numbers ta_brackets : Nat → Int32}
variable {ha_fields wa_rows : Nat → Int64}
variable {xq_query n_left n_right s_row s_nested s_condition s_next : Option Nat}
variable {pa_n pk_n pa_s pk_s : Nat}
set_option maxHeartbeats 4000000 in
set_option maxRecDepth 100000 in
theorem cxs_sizeOfSet (l2 : Int32) (ur : Int32) (h : sxs_sizeOfSet l2 ha_sizes sf_objectCount = some ur) : hq_Ct l yxs_sizeOfSet bxs_sizeOfSet 5 (some .int) { frames := 1, cells := 0, slots := 0, locals := 21 } D (hq_tys cI cZ cL) A [.ref (q 2), .ref (q 1), .int l2] (hx_w q cI cZ cL xq_query ha_parents hf_classCount ha_classes ha_sizes ha_fields hf_objectCount hf_roots hf_changed sa_linkedFrom sa_linkCounts sa_retainedSets sa_retainedSizes sa_dominators sa_immediateDominators sf_objectCount sf_roots sf_reachable ta_codes ta_numbers tf_count ta_brackets tf_bracketCount tf_place tf_inWhere tf_compared wa_rows wf_count wf_looks ++ z) (hx_w q cI cZ cL xq_query ha_parents hf_classCount ha_classes ha_sizes ha_fields hf_objectCount hf_roots hf_changed sa_linkedFrom sa_linkCounts sa_retainedSets sa_retainedSizes sa_dominators sa_immediateDominators sf_objectCount sf_roots sf_reachable ta_codes ta_numbers tf_count ta_brackets tf_bracketCount tf_place tf_inWhere tf_compared wa_rows wf_count wf_looks ++ z) (some (.int ur)) 0 0 := by
  refine hq_of (by decide) ?_ (Nat.le_of_ble_eq_true rfl)
  intro p e s m below meth c R args Q hRm hQ hx hb hr hml hts hown hlocks hnm hP hK hD ls hl hS
  have hl : lv_has ls 5 [(0, .ref (q 2)), (1, .ref (q 1)), (2, .int l2)] := hl
  have hown : s.vm.findClass "HeapQueries$Survey" = some m.cls := hown
  unfold sxs_sizeOfSet at h
  have L5 : ∀ (n : Nat) (l2 : Int32) (l3 : Int32) (l4 : Int32) {ls : Array Slot} {H : Heap} {locs : List Loc}, lv_has ls 5 [(0, .ref (q 2)), (1, .ref (q 1)), (2, .int l2), (3, .int l3), (4, .int l4)] → va_P D hq_cl (hx_w q cI cZ cL xq_query ha_parents hf_classCount ha_classes ha_sizes ha_fields hf_objectCount hf_roots hf_changed sa_linkedFrom sa_linkCounts sa_retainedSets sa_retainedSizes sa_dominators sa_immediateDominators sf_objectCount sf_roots sf_reachable ta_codes ta_numbers tf_count ta_brackets tf_bracketCount tf_place tf_inWhere tf_compared wa_rows wf_count wf_looks ++ z) H → va_D A (hx_w q cI cZ cL xq_query ha_parents hf_classCount ha_classes ha_sizes ha_fields hf_objectCount hf_roots hf_changed sa_linkedFrom sa_linkCounts sa_retainedSets sa_retainedSizes sa_dominators sa_immediateDominators sf_objectCount sf_roots sf_reachable ta_codes ta_numbers tf_count ta_brackets tf_bracketCount tf_place tf_inWhere tf_compared wa_rows wf_count wf_looks ++ z) → va_S A s.heap H locs → ∀ u5, sxs_sizeOfSet_L5 n l2 l3 l4 ha_sizes sf_objectCount = some u5 → (∀ (ls : Array Slot) (H : Heap) (locs : List Loc), lv_has ls 5 [(3, .int u5)] → va_P D hq_cl (hx_w q cI cZ cL xq_query ha_parents hf_classCount ha_classes ha_sizes ha_fields hf_objectCount hf_roots hf_changed sa_linkedFrom sa_linkCounts sa_retainedSets sa_retainedSizes sa_dominators sa_immediateDominators sf_objectCount sf_roots sf_reachable ta_codes ta_numbers tf_count ta_brackets tf_bracketCount tf_place tf_inWhere tf_compared wa_rows wf_count wf_looks ++ z) H → va_D A (hx_w q cI cZ cL xq_query ha_parents hf_classCount ha_classes ha_sizes ha_fields hf_objectCount hf_roots hf_changed sa_linkedFrom sa_linkCounts sa_retainedSets sa_retainedSizes sa_dominators sa_immediateDominators sf_objectCount sf_roots sf_reachable ta_codes ta_numbers tf_count ta_brackets tf_bracketCount tf_place tf_inWhere tf_compared wa_rows wf_count wf_looks ++ z) → va_S A s.heap H locs → W p l e R s m args below meth c H locs 0 0 Q (F0 m 38 ls [])) → W p l e R s m args below meth c H locs 0 0 Q (F0 m 5 ls []) := by
    intro n
    induction n with
    | zero =>
      intro l2 l3 l4 ls H locs hl hP hD hS u5 h kx
      have h : (none : Option (Int32)) = some u5 := h
      cases h
    | succ n ih =>
      intro l2 l3 l4 ls H locs hl hP hD hS u5 h kx
      have h : sxs_sizeOfSet_L5_B (sxs_sizeOfSet_L5 n) l2 l3 l4 ha_sizes sf_objectCount = some u5 := h
      unfold sxs_sizeOfSet_L5_B at h
      refine lv_iload hx hb dxs_sizeOfSet_5 (lv_at hl 4 rfl) ?_
      refine lv_aload_n hx hb dxs_sizeOfSet_7 rfl (lv_at hl 0 rfl) ?_
      refine gx_2_objectCount hx hb hts hown hK hP wi_26 dxs_sizeOfSet_8 ?_
      refine lv_icmp_ge (tgt := 38) hx hb dxs_sizeOfSet_11 (by decide) (fun hc => ?_) (fun hc => ?_)
      · have h := (if_pos hc).symm.trans h
        have h := Option.some.inj h
        subst h
        exact kx ls H locs (lv_sub hl [3] rfl) hP hD hS
      · have h := (if_neg hc).symm.trans h
        refine lv_iload_n hx hb dxs_sizeOfSet_14 rfl (lv_at hl 2 rfl) ?_
        refine lv_iconst (v := 1) hx hb dxs_sizeOfSet_15 (by decide) ?_
        refine lv_iload hx hb dxs_sizeOfSet_16 (lv_at hl 4 rfl) ?_
        refine lv_ishl hx hb dxs_sizeOfSet_18 ?_
        refine lv_iand hx hb dxs_sizeOfSet_19 ?_
        refine lv_if_eq (tgt := 32) hx hb dxs_sizeOfSet_20 (by decide) (fun hc => ?_) (fun hc => ?_)
        · have h := (if_pos hc).symm.trans h
          refine lv_iinc (k := 4) (v := l4 + 1) (lv' := [(4, .int (l4 + 1)), (0, .ref (q 2)), (1, .ref (q 1)), (2, .int l2), (3, .int l3)]) hx hb dxs_sizeOfSet_32 hl rfl (congrArg (fun j => l4 + j) (by decide)) (by decide) rfl (fun ls hl => ?_)
          refine lv_goto (tgt := 5) hx hb dxs_sizeOfSet_35 (by decide) ?_
          exact ih l2 l3 (l4 + 1) (lv_sub hl [1, 2, 3, 4, 0] rfl) hP hD hS u5 h kx
        · have h := (if_neg hc).symm.trans h
          refine lv_iload_n hx hb dxs_sizeOfSet_23 rfl (lv_at hl 3 rfl) ?_
          refine lv_aload_n hx hb dxs_sizeOfSet_24 rfl (lv_at hl 1 rfl) ?_
          refine lv_iload hx hb dxs_sizeOfSet_25 (lv_at hl 4 rfl) ?_
          obtain ⟨v27, h27, h⟩ := hq_bind h
          refine kxh_sizeOf l4 v27 h27 hx hb hml hts hown hK hP hD hS wi_32 (by rw [hRm]; exact ⟨Nat.le_of_ble_eq_true rfl, Nat.le_of_ble_eq_true rfl⟩) hl.1 (Nat.le_of_ble_eq_true rfl) dxs_sizeOfSet_27 ⟨Nat.zero_le _, Nat.zero_le _⟩ (fun H locs hP hD hS => ?_)
          refine lv_iadd hx hb dxs_sizeOfSet_30 ?_
          refine lv_istore_n (lv' := [(3, .int (l3 + v27)), (0, .ref (q 2)), (1, .ref (q 1)), (2, .int l2), (4, .int l4)]) hx hb dxs_sizeOfSet_31 rfl hl (by decide) rfl (fun ls hl => ?_)
          refine lv_iinc (k := 4) (v := l4 + 1) (lv' := [(4, .int (l4 + 1)), (3, .int (l3 + v27)), (0, .ref (q 2)), (1, .ref (q 1)), (2, .int l2)]) hx hb dxs_sizeOfSet_32 hl rfl (congrArg (fun j => l4 + j) (by decide)) (by decide) rfl (fun ls hl => ?_)
          refine lv_goto (tgt := 5) hx hb dxs_sizeOfSet_35 (by decide) ?_
          exact ih l2 (l3 + v27) (l4 + 1) (lv_sub hl [2, 3, 4, 1, 0] rfl) hP hD hS u5 h kx
  refine lv_iconst (v := 0) hx hb dxs_sizeOfSet_0 (by decide) ?_
  refine lv_istore_n (lv' := [(3, .int 0), (0, .ref (q 2)), (1, .ref (q 1)), (2, .int l2)]) hx hb dxs_sizeOfSet_1 rfl hl (by decide) rfl (fun ls hl => ?_)
  refine lv_iconst (v := 0) hx hb dxs_sizeOfSet_2 (by decide) ?_
  refine lv_istore (lv' := [(4, .int 0), (3, .int 0), (0, .ref (q 2)), (1, .ref (q 1)), (2, .int l2)]) hx hb dxs_sizeOfSet_3 hl (by decide) rfl (fun ls hl => ?_)
  obtain ⟨u5, h5, h⟩ := hq_bind h
  refine L5 kF l2 0 0 (lv_sub hl [2, 3, 4, 1, 0] rfl) hP hD hS u5 h5 (fun ls H locs hl hP hD hS => ?_)
  refine lv_iload_n hx hb dxs_sizeOfSet_38 rfl (lv_at hl 0 rfl) ?_
  have h := Option.some.inj h
  exact hq_iret hx hb hr hlocks hQ hK hP hD hS (by rw [← h]) rfl dxs_sizeOfSet_39
end
section
variable {p : Program} {l : Launch} {e : Env} {R : Room} {s : State} {m : MethodId} {args : Array Value} {below : List Frame} {meth : Method} {c : Code} {H H0 : Heap} {locs : List Loc} {cells slots : Nat} {Q : State → Prop}
variable {cc : ByteArray} {pc idx nC : Nat} {ls : Array Slot} {rest : List Value} {D : va_G} {A : Nat → Prop} {own : String} {q : Nat → Nat} {cI cZ cL : ClassId} {z w : va_W}
variable {hf_classCount hf_objectCount hf_roots hf_changed sf_objectCount sf_roots sf_reachable tf_count tf_bracketCount tf_place tf_inWhere tf_compared wf_count wf_looks n_code n_number s_isDistinct s_isRetained s_sourceClass s_withDescendants : Int32}
variable {ha_parents ha_classes ha_sizes sa_linkedFrom sa_linkCounts sa_retainedSets sa_retainedSizes sa_dominators sa_immediateDominators ta_codes ta_numbers ta_brackets : Nat → Int32}
variable {ha_fields wa_rows : Nat → Int64}
variable {xq_query n_left n_right s_row s_nested s_condition s_next : Option Nat}
variable {pa_n pk_n pa_s pk_s : Nat}
theorem kxs_sizeOfSet (l2 : Int32) (ur : Int32) (hu : sxs_sizeOfSet l2 ha_sizes sf_objectCount = some ur) (hx : p.tables.exec = Jvm.exec) (hb : c.code = cc) (hml : c.maxLocals = nC) (hts : ∀ x ∈ hq_tbl, x.before args s = true) (hown : s.vm.findClass own = some m.cls) (hK : va_K D hq_cl (hq_tys cI cZ cL) s) (hP : va_P D hq_cl (hx_w q cI cZ cL xq_query ha_parents hf_classCount ha_classes ha_sizes ha_fields hf_objectCount hf_roots hf_changed sa_linkedFrom sa_linkCounts sa_retainedSets sa_retainedSizes sa_dominators sa_immediateDominators sf_objectCount sf_roots sf_reachable ta_codes ta_numbers tf_count ta_brackets tf_bracketCount tf_place tf_inWhere tf_compared wa_rows wf_count wf_looks ++ z) H) (hD : va_D A (hx_w q cI cZ cL xq_query ha_parents hf_classCount ha_classes ha_sizes ha_fields hf_objectCount hf_roots hf_changed sa_linkedFrom sa_linkCounts sa_retainedSets sa_retainedSizes sa_dominators sa_immediateDominators sf_objectCount sf_roots sf_reachable ta_codes ta_numbers tf_count ta_brackets tf_bracketCount tf_place tf_inWhere tf_compared wa_rows wf_count wf_looks ++ z)) (hS : va_S A H0 H locs) (h1 : Cond.methodLink own idx yxs_sizeOfSet ∈ hq_tbl) (hR : 1 + 1 ≤ R.frames ∧ 8 + (5 + 11) + 21 ≤ R.locals) (hls : ls.size = nC) (hW : (rest.map fun v => v.category).sum ≤ 8) (hdg : decode cc pc = .ok (.invokevirtual idx, 3)) (hf : cells + 0 ≤ R.cells ∧ slots + 0 ≤ R.slots) (kk : ∀ (H1 : Heap) (locs1 : List Loc), va_P D hq_cl (hx_w q cI cZ cL xq_query ha_parents hf_classCount ha_classes ha_sizes ha_fields hf_objectCount hf_roots hf_changed sa_linkedFrom sa_linkCounts sa_retainedSets sa_retainedSizes sa_dominators sa_immediateDominators sf_objectCount sf_roots sf_reachable ta_codes ta_numbers tf_count ta_brackets tf_bracketCount tf_place tf_inWhere tf_compared wa_rows wf_count wf_looks ++ z) H1 → va_D A (hx_w q cI cZ cL xq_query ha_parents hf_classCount ha_classes ha_sizes ha_fields hf_objectCount hf_roots hf_changed sa_linkedFrom sa_linkCounts sa_retainedSets sa_retainedSizes sa_dominators sa_immediateDominators sf_objectCount sf_roots sf_reachable ta_codes ta_numbers tf_count ta_brackets tf_bracketCount tf_place tf_inWhere tf_compared wa_rows wf_count wf_looks ++ z) → va_S A H0 H1 locs1 → W p l e R s m args below meth c H1 locs1 cells slots Q (F0 m (pc + 3) ls (.int ur :: rest))) : W p l e R s m args below meth c H locs cells slots Q (F0 m pc ls (.int l2 :: .ref (q 1) :: .ref (q 2) :: rest)) :=
  hq_callV (q0 := 2) hx hb hml hown hts hK hP hD hS (cxs_sizeOfSet l2 ur hu) rfl rfl h1 wi_266 wi_267 wi_252 wi_268 2 rfl (by decide +kernel) ⟨rfl, rfl⟩ hR hls rfl hW hdg hf kk
end
theorem dxs_findDominators_0 : decode bxs_findDominators 0 = .ok (.iconst 0, 1) := by decide +kernel
theorem dxs_findDominators_1 : decode bxs_findDominators 1 = .ok (.istore_n 2, 1) := by decide +kernel
theorem dxs_findDominators_2 : decode bxs_findDominators 2 = .ok (.iconst 0, 1) := by decide +kernel
theorem dxs_findDominators_3 : decode bxs_findDominators 3 = .ok (.istore_n 3, 1) := by decide +kernel
theorem dxs_findDominators_4 : decode bxs_findDominators 4 = .ok (.iload_n 3, 1) := by decide +kernel
theorem dxs_findDominators_5 : decode bxs_findDominators 5 = .ok (.aload_n 0, 1) := by decide +kernel
theorem dxs_findDominators_6 : decode bxs_findDominators 6 = .ok (.getfield 36, 3) := by decide +kernel
theorem dxs_findDominators_9 : decode bxs_findDominators 9 = .ok (.if_icmp .ge 33, 3) := by decide +kernel
theorem dxs_findDominators_12 : decode bxs_findDominators 12 = .ok (.iload_n 3, 1) := by decide +kernel
theorem dxs_findDominators_13 : decode bxs_findDominators 13 = .ok (.iload_n 1, 1) := by decide +kernel
theorem dxs_findDominators_14 : decode bxs_findDominators 14 = .ok (.if_icmp .eq 22, 3) := by decide +kernel
theorem dxs_findDominators_17 : decode bxs_findDominators 17 = .ok (.aload_n 0, 1) := by decide +kernel
theorem dxs_findDominators_18 : decode bxs_findDominators 18 = .ok (.getfield 18, 3) := by decide +kernel
theorem dxs_findDominators_21 : decode bxs_findDominators 21 = .ok (.iload_n 3, 1) := by decide +kernel
theorem dxs_findDominators_22 : decode bxs_findDominators 22 = .ok (.iaload, 1) := by decide +kernel
theorem dxs_findDominators_23 : decode bxs_findDominators 23 = .ok (.iconst 1, 1) := by decide +kernel
theorem dxs_findDominators_24 : decode bxs_findDominators 24 = .ok (.iload_n 1, 1) := by decide +kernel
theorem dxs_findDominators_25 : decode bxs_findDominators 25 = .ok (.ishl, 1) := by decide +kernel
theorem dxs_findDominators_26 : decode bxs_findDominators 26 = .ok (.iand, 1) := by decide +kernel
theorem dxs_findDominators_27 : decode bxs_findDominators 27 = .ok (.ifCond .eq 9, 3) := by decide +kernel
theorem dxs_findDominators_30 : decode bxs_findDominators 30 = .ok (.iload_n 2, 1) := by decide +kernel
theorem dxs_findDominators_31 : decode bxs_findDominators 31 = .ok (.iconst 1, 1) := by decide +kernel
theorem dxs_findDominators_32 : decode bxs_findDominators 32 = .ok (.iload_n 3, 1) := by decide +kernel
theorem dxs_findDominators_33 : decode bxs_findDominators 33 = .ok (.ishl, 1) := by decide +kernel
theorem dxs_findDominators_34 : decode bxs_findDominators 34 = .ok (.ior, 1) := by decide +kernel
theorem dxs_findDominators_35 : decode bxs_findDominators 35 = .ok (.istore_n 2, 1) := by decide +kernel
theorem dxs_findDominators_36 : decode bxs_findDominators 36 = .ok (.iinc 3 1, 3) := by decide +kernel
theorem dxs_findDominators_39 : decode bxs_findDominators 39 = .ok (.goto (-35), 3) := by decide +kernel
theorem dxs_findDominators_42 : decode bxs_findDominators 42 = .ok (.iload_n 2, 1) := by decide +kernel
theorem dxs_findDominators_43 : decode bxs_findDominators 43 = .ok (.ireturn, 1) := by decide +kernel
section
variable {l : Launch} {D : va_G} {A : Nat → Prop} {z w : va_W} {q : Nat → Nat} {cI cZ cL : ClassId}
variable {hf_classCount hf_objectCount hf_roots hf_changed sf_objectCount sf_roots sf_reachable tf_count tf_bracketCount tf_place tf_inWhere tf_compared wf_count wf_looks n_code n_number s_isDistinct s_isRetained s_sourceClass s_withDescendants : Int32}
variable {ha_parents ha_classes ha_sizes sa_linkedFrom sa_linkCounts sa_retainedSets sa_retainedSizes sa_dominators sa_immediateDominators ta_codes ta_numbers ta_brackets : Nat → Int32}
variable {ha_fields wa_rows : Nat → Int64}
variable {xq_query n_left n_right s_row s_nested s_condition s_next : Option Nat}
variable {pa_n pk_n pa_s pk_s : Nat}
set_option maxHeartbeats 4000000 in
set_option maxRecDepth 100000 in
theorem cxs_findDominators (l1 : Int32) (ur : Int32) (h : sxs_findDominators l1 sa_retainedSets sf_objectCount = some ur) : hq_Ct l yxs_findDominators bxs_findDominators 4 (some .int) { frames := 0, cells := 0, slots := 0, locals := 0 } D (hq_tys cI cZ cL) A [.ref (q 2), .int l1] (hx_w q cI cZ cL xq_query ha_parents hf_classCount ha_classes ha_sizes ha_fields hf_objectCount hf_roots hf_changed sa_linkedFrom sa_linkCounts sa_retainedSets sa_retainedSizes sa_dominators sa_immediateDominators sf_objectCount sf_roots sf_reachable ta_codes ta_numbers tf_count ta_brackets tf_bracketCount tf_place tf_inWhere tf_compared wa_rows wf_count wf_looks ++ z) (hx_w q cI cZ cL xq_query ha_parents hf_classCount ha_classes ha_sizes ha_fields hf_objectCount hf_roots hf_changed sa_linkedFrom sa_linkCounts sa_retainedSets sa_retainedSizes sa_dominators sa_immediateDominators sf_objectCount sf_roots sf_reachable ta_codes ta_numbers tf_count ta_brackets tf_bracketCount tf_place tf_inWhere tf_compared wa_rows wf_count wf_looks ++ z) (some (.int ur)) 0 0 := by
  refine hq_of (by decide) ?_ (Nat.le_of_ble_eq_true rfl)
  intro p e s m below meth c R args Q hRm hQ hx hb hr hml hts hown hlocks hnm hP hK hD ls hl hS
  have hl : lv_has ls 4 [(0, .ref (q 2)), (1, .int l1)] := hl
  have hown : s.vm.findClass "HeapQueries$Survey" = some m.cls := hown
  unfold sxs_findDominators at h
  have L4 : ∀ (n : Nat) (l1 : Int32) (l2 : Int32) (l3 : Int32) {ls : Array Slot} {H : Heap} {locs : List Loc}, lv_has ls 4 [(0, .ref (q 2)), (1, .int l1), (2, .int l2), (3, .int l3)] → va_P D hq_cl (hx_w q cI cZ cL xq_query ha_parents hf_classCount ha_classes ha_sizes ha_fields hf_objectCount hf_roots hf_changed sa_linkedFrom sa_linkCounts sa_retainedSets sa_retainedSizes sa_dominators sa_immediateDominators sf_objectCount sf_roots sf_reachable ta_codes ta_numbers tf_count ta_brackets tf_bracketCount tf_place tf_inWhere tf_compared wa_rows wf_count wf_looks ++ z) H → va_D A (hx_w q cI cZ cL xq_query ha_parents hf_classCount ha_classes ha_sizes ha_fields hf_objectCount hf_roots hf_changed sa_linkedFrom sa_linkCounts sa_retainedSets sa_retainedSizes sa_dominators sa_immediateDominators sf_objectCount sf_roots sf_reachable ta_codes ta_numbers tf_count ta_brackets tf_bracketCount tf_place tf_inWhere tf_compared wa_rows wf_count wf_looks ++ z) → va_S A s.heap H locs → ∀ u4, sxs_findDominators_L4 n l1 l2 l3 sa_retainedSets sf_objectCount = some u4 → (∀ (ls : Array Slot) (H : Heap) (locs : List Loc), lv_has ls 4 [(2, .int u4)] → va_P D hq_cl (hx_w q cI cZ cL xq_query ha_parents hf_classCount ha_classes ha_sizes ha_fields hf_objectCount hf_roots hf_changed sa_linkedFrom sa_linkCounts sa_retainedSets sa_retainedSizes sa_dominators sa_immediateDominators sf_objectCount sf_roots sf_reachable ta_codes ta_numbers tf_count ta_brackets tf_bracketCount tf_place tf_inWhere tf_compared wa_rows wf_count wf_looks ++ z) H → va_D A (hx_w q cI cZ cL xq_query ha_parents hf_classCount ha_classes ha_sizes ha_fields hf_objectCount hf_roots hf_changed sa_linkedFrom sa_linkCounts sa_retainedSets sa_retainedSizes sa_dominators sa_immediateDominators sf_objectCount sf_roots sf_reachable ta_codes ta_numbers tf_count ta_brackets tf_bracketCount tf_place tf_inWhere tf_compared wa_rows wf_count wf_looks ++ z) → va_S A s.heap H locs → W p l e R s m args below meth c H locs 0 0 Q (F0 m 42 ls [])) → W p l e R s m args below meth c H locs 0 0 Q (F0 m 4 ls []) := by
    intro n
    induction n with
    | zero =>
      intro l1 l2 l3 ls H locs hl hP hD hS u4 h kx
      have h : (none : Option (Int32)) = some u4 := h
      cases h
    | succ n ih =>
      intro l1 l2 l3 ls H locs hl hP hD hS u4 h kx
      have h : sxs_findDominators_L4_B (sxs_findDominators_L4 n) l1 l2 l3 sa_retainedSets sf_objectCount = some u4 := h
      unfold sxs_findDominators_L4_B at h
      refine lv_iload_n hx hb dxs_findDominators_4 rfl (lv_at hl 3 rfl) ?_
      refine lv_aload_n hx hb dxs_findDominators_5 rfl (lv_at hl 0 rfl) ?_
      refine gx_2_objectCount hx hb hts hown hK hP wi_26 dxs_findDominators_6 ?_
      refine lv_icmp_ge (tgt := 42) hx hb dxs_findDominators_9 (by decide) (fun hc => ?_) (fun hc => ?_)
      · have h := (if_pos hc).symm.trans h
        have h := Option.some.inj h
        subst h
        exact kx ls H locs (lv_sub hl [2] rfl) hP hD hS
      · have h := (if_neg hc).symm.trans h
        refine lv_iload_n hx hb dxs_findDominators_12 rfl (lv_at hl 3 rfl) ?_
        refine lv_iload_n hx hb dxs_findDominators_13 rfl (lv_at hl 1 rfl) ?_
        refine lv_icmp_eq (tgt := 36) hx hb dxs_findDominators_14 (by decide) (fun hc => ?_) (fun hc => ?_)
        · have h := (if_pos hc).symm.trans h
          refine lv_iinc (k := 3) (v := l3 + 1) (lv' := [(3, .int (l3 + 1)), (0, .ref (q 2)), (1, .int l1), (2, .int l2)]) hx hb dxs_findDominators_36 hl rfl (congrArg (fun j => l3 + j) (by decide)) (by decide) rfl (fun ls hl => ?_)
          refine lv_goto (tgt := 4) hx hb dxs_findDominators_39 (by decide) ?_
          exact ih l1 l2 (l3 + 1) (lv_sub hl [1, 2, 3, 0] rfl) hP hD hS u4 h kx
        · have h := (if_neg hc).symm.trans h
          refine lv_aload_n hx hb dxs_findDominators_17 rfl (lv_at hl 0 rfl) ?_
          refine gx_2_retainedSets hx hb hts hown hK hP wi_33 dxs_findDominators_18 ?_
          refine lv_iload_n hx hb dxs_findDominators_21 rfl (lv_at hl 3 rfl) ?_
          obtain ⟨hin, h⟩ := hq_idx h
          refine ax_11 hx hb hK hP hin dxs_findDominators_22 ?_
          refine lv_iconst (v := 1) hx hb dxs_findDominators_23 (by decide) ?_
          refine lv_iload_n hx hb dxs_findDominators_24 rfl (lv_at hl 1 rfl) ?_
          refine lv_ishl hx hb dxs_findDominators_25 ?_
          refine lv_iand hx hb dxs_findDominators_26 ?_
          refine lv_if_eq (tgt := 36) hx hb dxs_findDominators_27 (by decide) (fun hc => ?_) (fun hc => ?_)
          · have h := (if_pos hc).symm.trans h
            refine lv_iinc (k := 3) (v := l3 + 1) (lv' := [(3, .int (l3 + 1)), (0, .ref (q 2)), (1, .int l1), (2, .int l2)]) hx hb dxs_findDominators_36 hl rfl (congrArg (fun j => l3 + j) (by decide)) (by decide) rfl (fun ls hl => ?_)
            refine lv_goto (tgt := 4) hx hb dxs_findDominators_39 (by decide) ?_
            exact ih l1 l2 (l3 + 1) (lv_sub hl [1, 2, 3, 0] rfl) hP hD hS u4 h kx
          · have h := (if_neg hc).symm.trans h
            refine lv_iload_n hx hb dxs_findDominators_30 rfl (lv_at hl 2 rfl) ?_
            refine lv_iconst (v := 1) hx hb dxs_findDominators_31 (by decide) ?_
            refine lv_iload_n hx hb dxs_findDominators_32 rfl (lv_at hl 3 rfl) ?_
            refine lv_ishl hx hb dxs_findDominators_33 ?_
            refine lv_ior hx hb dxs_findDominators_34 ?_
            refine lv_istore_n (lv' := [(2, .int (l2 ||| ((1 : Int32) <<< (l3 &&& 31)))), (0, .ref (q 2)), (1, .int l1), (3, .int l3)]) hx hb dxs_findDominators_35 rfl hl (by decide) rfl (fun ls hl => ?_)
            refine lv_iinc (k := 3) (v := l3 + 1) (lv' := [(3, .int (l3 + 1)), (2, .int (l2 ||| ((1 : Int32) <<< (l3 &&& 31)))), (0, .ref (q 2)), (1, .int l1)]) hx hb dxs_findDominators_36 hl rfl (congrArg (fun j => l3 + j) (by decide)) (by decide) rfl (fun ls hl => ?_)
            refine lv_goto (tgt := 4) hx hb dxs_findDominators_39 (by decide) ?_
            exact ih l1 (l2 ||| ((1 : Int32) <<< (l3 &&& 31))) (l3 + 1) (lv_sub hl [2, 3, 1, 0] rfl) hP hD hS u4 h kx
  refine lv_iconst (v := 0) hx hb dxs_findDominators_0 (by decide) ?_
  refine lv_istore_n (lv' := [(2, .int 0), (0, .ref (q 2)), (1, .int l1)]) hx hb dxs_findDominators_1 rfl hl (by decide) rfl (fun ls hl => ?_)
  refine lv_iconst (v := 0) hx hb dxs_findDominators_2 (by decide) ?_
  refine lv_istore_n (lv' := [(3, .int 0), (2, .int 0), (0, .ref (q 2)), (1, .int l1)]) hx hb dxs_findDominators_3 rfl hl (by decide) rfl (fun ls hl => ?_)
  obtain ⟨u4, h4, h⟩ := hq_bind h
  refine L4 kF l1 0 0 (lv_sub hl [2, 3, 1, 0] rfl) hP hD hS u4 h4 (fun ls H locs hl hP hD hS => ?_)
  refine lv_iload_n hx hb dxs_findDominators_42 rfl (lv_at hl 0 rfl) ?_
  have h := Option.some.inj h
  exact hq_iret hx hb hr hlocks hQ hK hP hD hS (by rw [← h]) rfl dxs_findDominators_43
end
section
variable {p : Program} {l : Launch} {e : Env} {R : Room} {s : State} {m : MethodId} {args : Array Value} {below : List Frame} {meth : Method} {c : Code} {H H0 : Heap} {locs : List Loc} {cells slots : Nat} {Q : State → Prop}
variable {cc : ByteArray} {pc idx nC : Nat} {ls : Array Slot} {rest : List Value} {D : va_G} {A : Nat → Prop} {own : String} {q : Nat → Nat} {cI cZ cL : ClassId} {z w : va_W}
variable {hf_classCount hf_objectCount hf_roots hf_changed sf_objectCount sf_roots sf_reachable tf_count tf_bracketCount tf_place tf_inWhere tf_compared wf_count wf_looks n_code n_number s_isDistinct s_isRetained s_sourceClass s_withDescendants : Int32}
variable {ha_parents ha_classes ha_sizes sa_linkedFrom sa_linkCounts sa_retainedSets sa_retainedSizes sa_dominators sa_immediateDominators ta_codes ta_numbers ta_brackets : Nat → Int32}
variable {ha_fields wa_rows : Nat → Int64}
variable {xq_query n_left n_right s_row s_nested s_condition s_next : Option Nat}
variable {pa_n pk_n pa_s pk_s : Nat}
theorem kxs_findDominators (l1 : Int32) (ur : Int32) (hu : sxs_findDominators l1 sa_retainedSets sf_objectCount = some ur) (hx : p.tables.exec = Jvm.exec) (hb : c.code = cc) (hml : c.maxLocals = nC) (hts : ∀ x ∈ hq_tbl, x.before args s = true) (hown : s.vm.findClass own = some m.cls) (hK : va_K D hq_cl (hq_tys cI cZ cL) s) (hP : va_P D hq_cl (hx_w q cI cZ cL xq_query ha_parents hf_classCount ha_classes ha_sizes ha_fields hf_objectCount hf_roots hf_changed sa_linkedFrom sa_linkCounts sa_retainedSets sa_retainedSizes sa_dominators sa_immediateDominators sf_objectCount sf_roots sf_reachable ta_codes ta_numbers tf_count ta_brackets tf_bracketCount tf_place tf_inWhere tf_compared wa_rows wf_count wf_looks ++ z) H) (hD : va_D A (hx_w q cI cZ cL xq_query ha_parents hf_classCount ha_classes ha_sizes ha_fields hf_objectCount hf_roots hf_changed sa_linkedFrom sa_linkCounts sa_retainedSets sa_retainedSizes sa_dominators sa_immediateDominators sf_objectCount sf_roots sf_reachable ta_codes ta_numbers tf_count ta_brackets tf_bracketCount tf_place tf_inWhere tf_compared wa_rows wf_count wf_looks ++ z)) (hS : va_S A H0 H locs) (h1 : Cond.methodLink own idx yxs_findDominators ∈ hq_tbl) (hR : 0 + 1 ≤ R.frames ∧ 8 + (4 + 11) + 0 ≤ R.locals) (hls : ls.size = nC) (hW : (rest.map fun v => v.category).sum ≤ 8) (hdg : decode cc pc = .ok (.invokevirtual idx, 3)) (hf : cells + 0 ≤ R.cells ∧ slots + 0 ≤ R.slots) (kk : ∀ (H1 : Heap) (locs1 : List Loc), va_P D hq_cl (hx_w q cI cZ cL xq_query ha_parents hf_classCount ha_classes ha_sizes ha_fields hf_objectCount hf_roots hf_changed sa_linkedFrom sa_linkCounts sa_retainedSets sa_retainedSizes sa_dominators sa_immediateDominators sf_objectCount sf_roots sf_reachable ta_codes ta_numbers tf_count ta_brackets tf_bracketCount tf_place tf_inWhere tf_compared wa_rows wf_count wf_looks ++ z) H1 → va_D A (hx_w q cI cZ cL xq_query ha_parents hf_classCount ha_classes ha_sizes ha_fields hf_objectCount hf_roots hf_changed sa_linkedFrom sa_linkCounts sa_retainedSets sa_retainedSizes sa_dominators sa_immediateDominators sf_objectCount sf_roots sf_reachable ta_codes ta_numbers tf_count ta_brackets tf_bracketCount tf_place tf_inWhere tf_compared wa_rows wf_count wf_looks ++ z) → va_S A H0 H1 locs1 → W p l e R s m args below meth c H1 locs1 cells slots Q (F0 m (pc + 3) ls (.int ur :: rest))) : W p l e R s m args below meth c H locs cells slots Q (F0 m pc ls (.int l1 :: .ref (q 2) :: rest)) :=
  hq_callV (q0 := 2) hx hb hml hown hts hK hP hD hS (cxs_findDominators l1 ur hu) rfl rfl h1 wi_269 wi_270 wi_252 wi_271 1 rfl (by decide +kernel) ⟨rfl, rfl⟩ hR hls rfl hW hdg hf kk
end
theorem dxs_findImmediateDominator_0 : decode bxs_findImmediateDominator 0 = .ok (.aload_n 0, 1) := by decide +kernel
theorem dxs_findImmediateDominator_1 : decode bxs_findImmediateDominator 1 = .ok (.getfield 24, 3) := by decide +kernel
theorem dxs_findImmediateDominator_4 : decode bxs_findImmediateDominator 4 = .ok (.iload_n 1, 1) := by decide +kernel
theorem dxs_findImmediateDominator_5 : decode bxs_findImmediateDominator 5 = .ok (.iaload, 1) := by decide +kernel
theorem dxs_findImmediateDominator_6 : decode bxs_findImmediateDominator 6 = .ok (.istore_n 2, 1) := by decide +kernel
theorem dxs_findImmediateDominator_7 : decode bxs_findImmediateDominator 7 = .ok (.iconst 0, 1) := by decide +kernel
theorem dxs_findImmediateDominator_8 : decode bxs_findImmediateDominator 8 = .ok (.istore_n 3, 1) := by decide +kernel
theorem dxs_findImmediateDominator_9 : decode bxs_findImmediateDominator 9 = .ok (.iload_n 3, 1) := by decide +kernel
theorem dxs_findImmediateDominator_10 : decode bxs_findImmediateDominator 10 = .ok (.aload_n 0, 1) := by decide +kernel
theorem dxs_findImmediateDominator_11 : decode bxs_findImmediateDominator 11 = .ok (.getfield 36, 3) := by decide +kernel
theorem dxs_findImmediateDominator_14 : decode bxs_findImmediateDominator 14 = .ok (.if_icmp .ge 40, 3) := by decide +kernel
theorem dxs_findImmediateDominator_17 : decode bxs_findImmediateDominator 17 = .ok (.iload_n 2, 1) := by decide +kernel
theorem dxs_findImmediateDominator_18 : decode bxs_findImmediateDominator 18 = .ok (.iconst 1, 1) := by decide +kernel
theorem dxs_findImmediateDominator_19 : decode bxs_findImmediateDominator 19 = .ok (.iload_n 3, 1) := by decide +kernel
theorem dxs_findImmediateDominator_20 : decode bxs_findImmediateDominator 20 = .ok (.ishl, 1) := by decide +kernel
theorem dxs_findImmediateDominator_21 : decode bxs_findImmediateDominator 21 = .ok (.iconst (-1), 1) := by decide +kernel
theorem dxs_findImmediateDominator_22 : decode bxs_findImmediateDominator 22 = .ok (.ixor, 1) := by decide +kernel
theorem dxs_findImmediateDominator_23 : decode bxs_findImmediateDominator 23 = .ok (.iand, 1) := by decide +kernel
theorem dxs_findImmediateDominator_24 : decode bxs_findImmediateDominator 24 = .ok (.istore 4, 2) := by decide +kernel
theorem dxs_findImmediateDominator_26 : decode bxs_findImmediateDominator 26 = .ok (.iload 4, 2) := by decide +kernel
theorem dxs_findImmediateDominator_28 : decode bxs_findImmediateDominator 28 = .ok (.iload_n 2, 1) := by decide +kernel
theorem dxs_findImmediateDominator_29 : decode bxs_findImmediateDominator 29 = .ok (.if_icmp .eq 19, 3) := by decide +kernel
theorem dxs_findImmediateDominator_32 : decode bxs_findImmediateDominator 32 = .ok (.iload 4, 2) := by decide +kernel
theorem dxs_findImmediateDominator_34 : decode bxs_findImmediateDominator 34 = .ok (.aload_n 0, 1) := by decide +kernel
theorem dxs_findImmediateDominator_35 : decode bxs_findImmediateDominator 35 = .ok (.getfield 24, 3) := by decide +kernel
theorem dxs_findImmediateDominator_38 : decode bxs_findImmediateDominator 38 = .ok (.iload_n 3, 1) := by decide +kernel
theorem dxs_findImmediateDominator_39 : decode bxs_findImmediateDominator 39 = .ok (.iaload, 1) := by decide +kernel
theorem dxs_findImmediateDominator_40 : decode bxs_findImmediateDominator 40 = .ok (.iconst (-1), 1) := by decide +kernel
theorem dxs_findImmediateDominator_41 : decode bxs_findImmediateDominator 41 = .ok (.ixor, 1) := by decide +kernel
theorem dxs_findImmediateDominator_42 : decode bxs_findImmediateDominator 42 = .ok (.iand, 1) := by decide +kernel
theorem dxs_findImmediateDominator_43 : decode bxs_findImmediateDominator 43 = .ok (.ifCond .ne 5, 3) := by decide +kernel
theorem dxs_findImmediateDominator_46 : decode bxs_findImmediateDominator 46 = .ok (.iload_n 3, 1) := by decide +kernel
theorem dxs_findImmediateDominator_47 : decode bxs_findImmediateDominator 47 = .ok (.ireturn, 1) := by decide +kernel
theorem dxs_findImmediateDominator_48 : decode bxs_findImmediateDominator 48 = .ok (.iinc 3 1, 3) := by decide +kernel
theorem dxs_findImmediateDominator_51 : decode bxs_findImmediateDominator 51 = .ok (.goto (-42), 3) := by decide +kernel
theorem dxs_findImmediateDominator_54 : decode bxs_findImmediateDominator 54 = .ok (.iconst (-1), 1) := by decide +kernel
theorem dxs_findImmediateDominator_55 : decode bxs_findImmediateDominator 55 = .ok (.ireturn, 1) := by decide +kernel
section
variable {l : Launch} {D : va_G} {A : Nat → Prop} {z w : va_W} {q : Nat → Nat} {cI cZ cL : ClassId}
variable {hf_classCount hf_objectCount hf_roots hf_changed sf_objectCount sf_roots sf_reachable tf_count tf_bracketCount tf_place tf_inWhere tf_compared wf_count wf_looks n_code n_number s_isDistinct s_isRetained s_sourceClass s_withDescendants : Int32}
variable {ha_parents ha_classes ha_sizes sa_linkedFrom sa_linkCounts sa_retainedSets sa_retainedSizes sa_dominators sa_immediateDominators ta_codes ta_numbers ta_brackets : Nat → Int32}
variable {ha_fields wa_rows : Nat → Int64}
variable {xq_query n_left n_right s_row s_nested s_condition s_next : Option Nat}
variable {pa_n pk_n pa_s pk_s : Nat}
set_option maxHeartbeats 4000000 in
set_option maxRecDepth 100000 in
theorem cxs_findImmediateDominator (l1 : Int32) (ur : Int32) (h : sxs_findImmediateDominator l1 sa_dominators sf_objectCount = some ur) : hq_Ct l yxs_findImmediateDominator bxs_findImmediateDominator 5 (some .int) { frames := 0, cells := 0, slots := 0, locals := 0 } D (hq_tys cI cZ cL) A [.ref (q 2), .int l1] (hx_w q cI cZ cL xq_query ha_parents hf_classCount ha_classes ha_sizes ha_fields hf_objectCount hf_roots hf_changed sa_linkedFrom sa_linkCounts sa_retainedSets sa_retainedSizes sa_dominators sa_immediateDominators sf_objectCount sf_roots sf_reachable ta_codes ta_numbers tf_count ta_brackets tf_bracketCount tf_place tf_inWhere tf_compared wa_rows wf_count wf_looks ++ z) (hx_w q cI cZ cL xq_query ha_parents hf_classCount ha_classes ha_sizes ha_fields hf_objectCount hf_roots hf_changed sa_linkedFrom sa_linkCounts sa_retainedSets sa_retainedSizes sa_dominators sa_immediateDominators sf_objectCount sf_roots sf_reachable ta_codes ta_numbers tf_count ta_brackets tf_bracketCount tf_place tf_inWhere tf_compared wa_rows wf_count wf_looks ++ z) (some (.int ur)) 0 0 := by
  refine hq_of (by decide) ?_ (Nat.le_of_ble_eq_true rfl)
  intro p e s m below meth c R args Q hRm hQ hx hb hr hml hts hown hlocks hnm hP hK hD ls hl hS
  have hl : lv_has ls 5 [(0, .ref (q 2)), (1, .int l1)] := hl
  have hown : s.vm.findClass "HeapQueries$Survey" = some m.cls := hown
  unfold sxs_findImmediateDominator at h
  have L9 : ∀ (n : Nat) (l2 : Int32) (l3 : Int32) {ls : Array Slot} {H : Heap} {locs : List Loc}, lv_has ls 5 [(0, .ref (q 2)), (2, .int l2), (3, .int l3)] → va_P D hq_cl (hx_w q cI cZ cL xq_query ha_parents hf_classCount ha_classes ha_sizes ha_fields hf_objectCount hf_roots hf_changed sa_linkedFrom sa_linkCounts sa_retainedSets sa_retainedSizes sa_dominators sa_immediateDominators sf_objectCount sf_roots sf_reachable ta_codes ta_numbers tf_count ta_brackets tf_bracketCount tf_place tf_inWhere tf_compared wa_rows wf_count wf_looks ++ z) H → va_D A (hx_w q cI cZ cL xq_query ha_parents hf_classCount ha_classes ha_sizes ha_fields hf_objectCount hf_roots hf_changed sa_linkedFrom sa_linkCounts sa_retainedSets sa_retainedSizes sa_dominators sa_immediateDominators sf_objectCount sf_roots sf_reachable ta_codes ta_numbers tf_count ta_brackets tf_bracketCount tf_place tf_inWhere tf_compared wa_rows wf_count wf_looks ++ z) → va_S A s.heap H locs → sxs_findImmediateDominator_L9 n l2 l3 sa_dominators sf_objectCount = some ur → W p l e R s m args below meth c H locs 0 0 Q (F0 m 9 ls []) := by
    intro n
    induction n with
    | zero =>
      intro l2 l3 ls H locs hl hP hD hS h
      have h : (none : Option (Int32)) = some ur := h
      cases h
    | succ n ih =>
      intro l2 l3 ls H locs hl hP hD hS h
      have h : sxs_findImmediateDominator_L9_B (sxs_findImmediateDominator_L9 n) l2 l3 sa_dominators sf_objectCount = some ur := h
      unfold sxs_findImmediateDominator_L9_B at h
      refine lv_iload_n hx hb dxs_findImmediateDominator_9 rfl (lv_at hl 2 rfl) ?_
      refine lv_aload_n hx hb dxs_findImmediateDominator_10 rfl (lv_at hl 0 rfl) ?_
      refine gx_2_objectCount hx hb hts hown hK hP wi_26 dxs_findImmediateDominator_11 ?_
      refine lv_icmp_ge (tgt := 54) hx hb dxs_findImmediateDominator_14 (by decide) (fun hc => ?_) (fun hc => ?_)
      · have h := (if_pos hc).symm.trans h
        refine lv_iconst (v := (-1)) hx hb dxs_findImmediateDominator_54 (by decide) ?_
        have h := Option.some.inj h
        exact hq_iret hx hb hr hlocks hQ hK hP hD hS (by rw [← h]) rfl dxs_findImmediateDominator_55
      · have h := (if_neg hc).symm.trans h
        refine lv_iload_n hx hb dxs_findImmediateDominator_17 rfl (lv_at hl 1 rfl) ?_
        refine lv_iconst (v := 1) hx hb dxs_findImmediateDominator_18 (by decide) ?_
        refine lv_iload_n hx hb dxs_findImmediateDominator_19 rfl (lv_at hl 2 rfl) ?_
        refine lv_ishl hx hb dxs_findImmediateDominator_20 ?_
        refine lv_iconst (v := (-1)) hx hb dxs_findImmediateDominator_21 (by decide) ?_
        refine lv_ixor hx hb dxs_findImmediateDominator_22 ?_
        refine lv_iand hx hb dxs_findImmediateDominator_23 ?_
        refine lv_istore (lv' := [(4, .int (l2 &&& (((1 : Int32) <<< (l3 &&& 31)) ^^^ (-1)))), (0, .ref (q 2)), (2, .int l2), (3, .int l3)]) hx hb dxs_findImmediateDominator_24 hl (by decide) rfl (fun ls hl => ?_)
        refine lv_iload hx hb dxs_findImmediateDominator_26 (lv_at hl 0 rfl) ?_
        refine lv_iload_n hx hb dxs_findImmediateDominator_28 rfl (lv_at hl 2 rfl) ?_
        refine lv_icmp_eq (tgt := 48) hx hb dxs_findImmediateDominator_29 (by decide) (fun hc => ?_) (fun hc => ?_)
        · have h := (if_pos hc).symm.trans h
          refine lv_iinc (k := 3) (v := l3 + 1) (lv' := [(3, .int (l3 + 1)), (4, .int (l2 &&& (((1 : Int32) <<< (l3 &&& 31)) ^^^ (-1)))), (0, .ref (q 2)), (2, .int l2)]) hx hb dxs_findImmediateDominator_48 hl rfl (congrArg (fun j => l3 + j) (by decide)) (by decide) rfl (fun ls hl => ?_)
          refine lv_goto (tgt := 9) hx hb dxs_findImmediateDominator_51 (by decide) ?_
          exact ih l2 (l3 + 1) (lv_sub hl [2, 3, 0] rfl) hP hD hS h
        · have h := (if_neg hc).symm.trans h
          refine lv_iload hx hb dxs_findImmediateDominator_32 (lv_at hl 0 rfl) ?_
          refine lv_aload_n hx hb dxs_findImmediateDominator_34 rfl (lv_at hl 1 rfl) ?_
          refine gx_2_dominators hx hb hts hown hK hP wi_34 dxs_findImmediateDominator_35 ?_
          refine lv_iload_n hx hb dxs_findImmediateDominator_38 rfl (lv_at hl 3 rfl) ?_
          obtain ⟨hin, h⟩ := hq_idx h
          refine ax_13 hx hb hK hP hin dxs_findImmediateDominator_39 ?_
          refine lv_iconst (v := (-1)) hx hb dxs_findImmediateDominator_40 (by decide) ?_
          refine lv_ixor hx hb dxs_findImmediateDominator_41 ?_
          refine lv_iand hx hb dxs_findImmediateDominator_42 ?_
          refine lv_if_ne (tgt := 48) hx hb dxs_findImmediateDominator_43 (by decide) (fun hc => ?_) (fun hc => ?_)
          · have h := (if_neg hc).symm.trans h
            refine lv_iinc (k := 3) (v := l3 + 1) (lv' := [(3, .int (l3 + 1)), (4, .int (l2 &&& (((1 : Int32) <<< (l3 &&& 31)) ^^^ (-1)))), (0, .ref (q 2)), (2, .int l2)]) hx hb dxs_findImmediateDominator_48 hl rfl (congrArg (fun j => l3 + j) (by decide)) (by decide) rfl (fun ls hl => ?_)
            refine lv_goto (tgt := 9) hx hb dxs_findImmediateDominator_51 (by decide) ?_
            exact ih l2 (l3 + 1) (lv_sub hl [2, 3, 0] rfl) hP hD hS h
          · have h := (if_pos hc).symm.trans h
            refine lv_iload_n hx hb dxs_findImmediateDominator_46 rfl (lv_at hl 3 rfl) ?_
            have h := Option.some.inj h
            exact hq_iret hx hb hr hlocks hQ hK hP hD hS (by rw [← h]) rfl dxs_findImmediateDominator_47
  refine lv_aload_n hx hb dxs_findImmediateDominator_0 rfl (lv_at hl 0 rfl) ?_
  refine gx_2_dominators hx hb hts hown hK hP wi_34 dxs_findImmediateDominator_1 ?_
  refine lv_iload_n hx hb dxs_findImmediateDominator_4 rfl (lv_at hl 1 rfl) ?_
  obtain ⟨hin, h⟩ := hq_idx h
  refine ax_13 hx hb hK hP hin dxs_findImmediateDominator_5 ?_
  refine lv_istore_n (lv' := [(2, .int (sa_dominators l1.toNatClampNeg)), (0, .ref (q 2)), (1, .int l1)]) hx hb dxs_findImmediateDominator_6 rfl hl (by decide) rfl (fun ls hl => ?_)
  refine lv_iconst (v := 0) hx hb dxs_findImmediateDominator_7 (by decide) ?_
  refine lv_istore_n (lv' := [(3, .int 0), (2, .int (sa_dominators l1.toNatClampNeg)), (0, .ref (q 2)), (1, .int l1)]) hx hb dxs_findImmediateDominator_8 rfl hl (by decide) rfl (fun ls hl => ?_)
  exact L9 kF (sa_dominators l1.toNatClampNeg) 0 (lv_sub hl [2, 1, 0] rfl) hP hD hS h
end
section
variable {p : Program} {l : Launch} {e : Env} {R : Room} {s : State} {m : MethodId} {args : Array Value} {below : List Frame} {meth : Method} {c : Code} {H H0 : Heap} {locs : List Loc} {cells slots : Nat} {Q : State → Prop}
variable {cc : ByteArray} {pc idx nC : Nat} {ls : Array Slot} {rest : List Value} {D : va_G} {A : Nat → Prop} {own : String} {q : Nat → Nat} {cI cZ cL : ClassId} {z w : va_W}
variable {hf_classCount hf_objectCount hf_roots hf_changed sf_objectCount sf_roots sf_reachable tf_count tf_bracketCount tf_place tf_inWhere tf_compared wf_count wf_looks n_code n_number s_isDistinct s_isRetained s_sourceClass s_withDescendants : Int32}
variable {ha_parents ha_classes ha_sizes sa_linkedFrom sa_linkCounts sa_retainedSets sa_retainedSizes sa_dominators sa_immediateDominators ta_codes ta_numbers ta_brackets : Nat → Int32}
variable {ha_fields wa_rows : Nat → Int64}
variable {xq_query n_left n_right s_row s_nested s_condition s_next : Option Nat}
variable {pa_n pk_n pa_s pk_s : Nat}
theorem kxs_findImmediateDominator (l1 : Int32) (ur : Int32) (hu : sxs_findImmediateDominator l1 sa_dominators sf_objectCount = some ur) (hx : p.tables.exec = Jvm.exec) (hb : c.code = cc) (hml : c.maxLocals = nC) (hts : ∀ x ∈ hq_tbl, x.before args s = true) (hown : s.vm.findClass own = some m.cls) (hK : va_K D hq_cl (hq_tys cI cZ cL) s) (hP : va_P D hq_cl (hx_w q cI cZ cL xq_query ha_parents hf_classCount ha_classes ha_sizes ha_fields hf_objectCount hf_roots hf_changed sa_linkedFrom sa_linkCounts sa_retainedSets sa_retainedSizes sa_dominators sa_immediateDominators sf_objectCount sf_roots sf_reachable ta_codes ta_numbers tf_count ta_brackets tf_bracketCount tf_place tf_inWhere tf_compared wa_rows wf_count wf_looks ++ z) H) (hD : va_D A (hx_w q cI cZ cL xq_query ha_parents hf_classCount ha_classes ha_sizes ha_fields hf_objectCount hf_roots hf_changed sa_linkedFrom sa_linkCounts sa_retainedSets sa_retainedSizes sa_dominators sa_immediateDominators sf_objectCount sf_roots sf_reachable ta_codes ta_numbers tf_count ta_brackets tf_bracketCount tf_place tf_inWhere tf_compared wa_rows wf_count wf_looks ++ z)) (hS : va_S A H0 H locs) (h1 : Cond.methodLink own idx yxs_findImmediateDominator ∈ hq_tbl) (hR : 0 + 1 ≤ R.frames ∧ 8 + (5 + 11) + 0 ≤ R.locals) (hls : ls.size = nC) (hW : (rest.map fun v => v.category).sum ≤ 8) (hdg : decode cc pc = .ok (.invokevirtual idx, 3)) (hf : cells + 0 ≤ R.cells ∧ slots + 0 ≤ R.slots) (kk : ∀ (H1 : Heap) (locs1 : List Loc), va_P D hq_cl (hx_w q cI cZ cL xq_query ha_parents hf_classCount ha_classes ha_sizes ha_fields hf_objectCount hf_roots hf_changed sa_linkedFrom sa_linkCounts sa_retainedSets sa_retainedSizes sa_dominators sa_immediateDominators sf_objectCount sf_roots sf_reachable ta_codes ta_numbers tf_count ta_brackets tf_bracketCount tf_place tf_inWhere tf_compared wa_rows wf_count wf_looks ++ z) H1 → va_D A (hx_w q cI cZ cL xq_query ha_parents hf_classCount ha_classes ha_sizes ha_fields hf_objectCount hf_roots hf_changed sa_linkedFrom sa_linkCounts sa_retainedSets sa_retainedSizes sa_dominators sa_immediateDominators sf_objectCount sf_roots sf_reachable ta_codes ta_numbers tf_count ta_brackets tf_bracketCount tf_place tf_inWhere tf_compared wa_rows wf_count wf_looks ++ z) → va_S A H0 H1 locs1 → W p l e R s m args below meth c H1 locs1 cells slots Q (F0 m (pc + 3) ls (.int ur :: rest))) : W p l e R s m args below meth c H locs cells slots Q (F0 m pc ls (.int l1 :: .ref (q 2) :: rest)) :=
  hq_callV (q0 := 2) hx hb hml hown hts hK hP hD hS (cxs_findImmediateDominator l1 ur hu) rfl rfl h1 wi_272 wi_273 wi_252 wi_274 1 rfl (by decide +kernel) ⟨rfl, rfl⟩ hR hls rfl hW hdg hf kk
end
theorem dxs_takeOf_0 : decode bxs_takeOf 0 = .ok (.aload_n 0, 1) := by decide +kernel
theorem dxs_takeOf_1 : decode bxs_takeOf 1 = .ok (.aload_n 1, 1) := by decide +kernel
theorem dxs_takeOf_2 : decode bxs_takeOf 2 = .ok (.invokevirtual 30, 3) := by decide +kernel
theorem dxs_takeOf_5 : decode bxs_takeOf 5 = .ok (.putfield 36, 3) := by decide +kernel
theorem dxs_takeOf_8 : decode bxs_takeOf 8 = .ok (.aload_n 0, 1) := by decide +kernel
theorem dxs_takeOf_9 : decode bxs_takeOf 9 = .ok (.aload_n 1, 1) := by decide +kernel
theorem dxs_takeOf_10 : decode bxs_takeOf 10 = .ok (.invokevirtual 40, 3) := by decide +kernel
theorem dxs_takeOf_13 : decode bxs_takeOf 13 = .ok (.putfield 43, 3) := by decide +kernel
theorem dxs_takeOf_16 : decode bxs_takeOf 16 = .ok (.aload_n 0, 1) := by decide +kernel
theorem dxs_takeOf_17 : decode bxs_takeOf 17 = .ok (.aload_n 1, 1) := by decide +kernel
theorem dxs_takeOf_18 : decode bxs_takeOf 18 = .ok (.invokevirtual 45, 3) := by decide +kernel
theorem dxs_takeOf_21 : decode bxs_takeOf 21 = .ok (.aload_n 0, 1) := by decide +kernel
theorem dxs_takeOf_22 : decode bxs_takeOf 22 = .ok (.aload_n 0, 1) := by decide +kernel
theorem dxs_takeOf_23 : decode bxs_takeOf 23 = .ok (.iconst 0, 1) := by decide +kernel
theorem dxs_takeOf_24 : decode bxs_takeOf 24 = .ok (.invokevirtual 49, 3) := by decide +kernel
theorem dxs_takeOf_27 : decode bxs_takeOf 27 = .ok (.putfield 53, 3) := by decide +kernel
theorem dxs_takeOf_30 : decode bxs_takeOf 30 = .ok (.iconst 0, 1) := by decide +kernel
theorem dxs_takeOf_31 : decode bxs_takeOf 31 = .ok (.istore_n 2, 1) := by decide +kernel
theorem dxs_takeOf_32 : decode bxs_takeOf 32 = .ok (.iload_n 2, 1) := by decide +kernel
theorem dxs_takeOf_33 : decode bxs_takeOf 33 = .ok (.aload_n 0, 1) := by decide +kernel
theorem dxs_takeOf_34 : decode bxs_takeOf 34 = .ok (.getfield 36, 3) := by decide +kernel
theorem dxs_takeOf_37 : decode bxs_takeOf 37 = .ok (.if_icmp .ge 39, 3) := by decide +kernel
theorem dxs_takeOf_40 : decode bxs_takeOf 40 = .ok (.aload_n 0, 1) := by decide +kernel
theorem dxs_takeOf_41 : decode bxs_takeOf 41 = .ok (.getfield 18, 3) := by decide +kernel
theorem dxs_takeOf_44 : decode bxs_takeOf 44 = .ok (.iload_n 2, 1) := by decide +kernel
theorem dxs_takeOf_45 : decode bxs_takeOf 45 = .ok (.aload_n 0, 1) := by decide +kernel
theorem dxs_takeOf_46 : decode bxs_takeOf 46 = .ok (.iconst 1, 1) := by decide +kernel
theorem dxs_takeOf_47 : decode bxs_takeOf 47 = .ok (.iload_n 2, 1) := by decide +kernel
theorem dxs_takeOf_48 : decode bxs_takeOf 48 = .ok (.ishl, 1) := by decide +kernel
theorem dxs_takeOf_49 : decode bxs_takeOf 49 = .ok (.invokevirtual 56, 3) := by decide +kernel
theorem dxs_takeOf_52 : decode bxs_takeOf 52 = .ok (.iastore, 1) := by decide +kernel
theorem dxs_takeOf_53 : decode bxs_takeOf 53 = .ok (.aload_n 0, 1) := by decide +kernel
theorem dxs_takeOf_54 : decode bxs_takeOf 54 = .ok (.getfield 21, 3) := by decide +kernel
theorem dxs_takeOf_57 : decode bxs_takeOf 57 = .ok (.iload_n 2, 1) := by decide +kernel
theorem dxs_takeOf_58 : decode bxs_takeOf 58 = .ok (.aload_n 0, 1) := by decide +kernel
theorem dxs_takeOf_59 : decode bxs_takeOf 59 = .ok (.aload_n 1, 1) := by decide +kernel
theorem dxs_takeOf_60 : decode bxs_takeOf 60 = .ok (.aload_n 0, 1) := by decide +kernel
theorem dxs_takeOf_61 : decode bxs_takeOf 61 = .ok (.getfield 18, 3) := by decide +kernel
theorem dxs_takeOf_64 : decode bxs_takeOf 64 = .ok (.iload_n 2, 1) := by decide +kernel
theorem dxs_takeOf_65 : decode bxs_takeOf 65 = .ok (.iaload, 1) := by decide +kernel
theorem dxs_takeOf_66 : decode bxs_takeOf 66 = .ok (.invokevirtual 59, 3) := by decide +kernel
theorem dxs_takeOf_69 : decode bxs_takeOf 69 = .ok (.iastore, 1) := by decide +kernel
theorem dxs_takeOf_70 : decode bxs_takeOf 70 = .ok (.iinc 2 1, 3) := by decide +kernel
theorem dxs_takeOf_73 : decode bxs_takeOf 73 = .ok (.goto (-41), 3) := by decide +kernel
theorem dxs_takeOf_76 : decode bxs_takeOf 76 = .ok (.iconst 0, 1) := by decide +kernel
theorem dxs_takeOf_77 : decode bxs_takeOf 77 = .ok (.istore_n 2, 1) := by decide +kernel
theorem dxs_takeOf_78 : decode bxs_takeOf 78 = .ok (.iload_n 2, 1) := by decide +kernel
theorem dxs_takeOf_79 : decode bxs_takeOf 79 = .ok (.aload_n 0, 1) := by decide +kernel
theorem dxs_takeOf_80 : decode bxs_takeOf 80 = .ok (.getfield 36, 3) := by decide +kernel
theorem dxs_takeOf_83 : decode bxs_takeOf 83 = .ok (.if_icmp .ge 20, 3) := by decide +kernel
theorem dxs_takeOf_86 : decode bxs_takeOf 86 = .ok (.aload_n 0, 1) := by decide +kernel
theorem dxs_takeOf_87 : decode bxs_takeOf 87 = .ok (.getfield 24, 3) := by decide +kernel
theorem dxs_takeOf_90 : decode bxs_takeOf 90 = .ok (.iload_n 2, 1) := by decide +kernel
theorem dxs_takeOf_91 : decode bxs_takeOf 91 = .ok (.aload_n 0, 1) := by decide +kernel
theorem dxs_takeOf_92 : decode bxs_takeOf 92 = .ok (.iload_n 2, 1) := by decide +kernel
theorem dxs_takeOf_93 : decode bxs_takeOf 93 = .ok (.invokevirtual 63, 3) := by decide +kernel
theorem dxs_takeOf_96 : decode bxs_takeOf 96 = .ok (.iastore, 1) := by decide +kernel
theorem dxs_takeOf_97 : decode bxs_takeOf 97 = .ok (.iinc 2 1, 3) := by decide +kernel
theorem dxs_takeOf_100 : decode bxs_takeOf 100 = .ok (.goto (-22), 3) := by decide +kernel
theorem dxs_takeOf_103 : decode bxs_takeOf 103 = .ok (.iconst 0, 1) := by decide +kernel
theorem dxs_takeOf_104 : decode bxs_takeOf 104 = .ok (.istore_n 2, 1) := by decide +kernel
theorem dxs_takeOf_105 : decode bxs_takeOf 105 = .ok (.iload_n 2, 1) := by decide +kernel
theorem dxs_takeOf_106 : decode bxs_takeOf 106 = .ok (.aload_n 0, 1) := by decide +kernel
theorem dxs_takeOf_107 : decode bxs_takeOf 107 = .ok (.getfield 36, 3) := by decide +kernel
theorem dxs_takeOf_110 : decode bxs_takeOf 110 = .ok (.if_icmp .ge 20, 3) := by decide +kernel
theorem dxs_takeOf_113 : decode bxs_takeOf 113 = .ok (.aload_n 0, 1) := by decide +kernel
theorem dxs_takeOf_114 : decode bxs_takeOf 114 = .ok (.getfield 27, 3) := by decide +kernel
theorem dxs_takeOf_117 : decode bxs_takeOf 117 = .ok (.iload_n 2, 1) := by decide +kernel
theorem dxs_takeOf_118 : decode bxs_takeOf 118 = .ok (.aload_n 0, 1) := by decide +kernel
theorem dxs_takeOf_119 : decode bxs_takeOf 119 = .ok (.iload_n 2, 1) := by decide +kernel
theorem dxs_takeOf_120 : decode bxs_takeOf 120 = .ok (.invokevirtual 66, 3) := by decide +kernel
theorem dxs_takeOf_123 : decode bxs_takeOf 123 = .ok (.iastore, 1) := by decide +kernel
theorem dxs_takeOf_124 : decode bxs_takeOf 124 = .ok (.iinc 2 1, 3) := by decide +kernel
theorem dxs_takeOf_127 : decode bxs_takeOf 127 = .ok (.goto (-22), 3) := by decide +kernel
theorem dxs_takeOf_130 : decode bxs_takeOf 130 = .ok (.return_, 1) := by decide +kernel
section
variable {l : Launch} {D : va_G} {A : Nat → Prop} {z w : va_W} {q : Nat → Nat} {cI cZ cL : ClassId}
variable {hf_classCount hf_objectCount hf_roots hf_changed sf_objectCount sf_roots sf_reachable tf_count tf_bracketCount tf_place tf_inWhere tf_compared wf_count wf_looks n_code n_number s_isDistinct s_isRetained s_sourceClass s_withDescendants : Int32}
variable {ha_parents ha_classes ha_sizes sa_linkedFrom sa_linkCounts sa_retainedSets sa_retainedSizes sa_dominators sa_immediateDominators ta_codes ta_numbers ta_brackets : Nat → Int32}
variable {ha_fields wa_rows : Nat → Int64}
variable {xq_query n_left n_right s_row s_nested s_condition s_next : Option Nat}
variable {pa_n pk_n pa_s pk_s : Nat}
set_option maxHeartbeats 4000000 in
set_option maxRecDepth 100000 in
theorem cxs_takeOf  (ur : (Nat → Int32) × (Nat → Int32) × (Nat → Int32) × (Nat → Int32) × (Nat → Int32) × (Nat → Int32) × Int32 × Int32 × Int32) (h : sxs_takeOf ha_sizes ha_fields hf_objectCount hf_roots sa_linkedFrom sa_linkCounts sa_retainedSets sa_retainedSizes sa_dominators sa_immediateDominators sf_objectCount sf_roots sf_reachable = some ur) : hq_Ct l yxs_takeOf bxs_takeOf 3 none { frames := 3, cells := 0, slots := 0, locals := 68 } D (hq_tys cI cZ cL) A [.ref (q 2), .ref (q 1)] (hx_w q cI cZ cL xq_query ha_parents hf_classCount ha_classes ha_sizes ha_fields hf_objectCount hf_roots hf_changed sa_linkedFrom sa_linkCounts sa_retainedSets sa_retainedSizes sa_dominators sa_immediateDominators sf_objectCount sf_roots sf_reachable ta_codes ta_numbers tf_count ta_brackets tf_bracketCount tf_place tf_inWhere tf_compared wa_rows wf_count wf_looks ++ z) (hx_w q cI cZ cL xq_query ha_parents hf_classCount ha_classes ha_sizes ha_fields hf_objectCount hf_roots hf_changed ur.1 ur.2.1 ur.2.2.1 ur.2.2.2.1 ur.2.2.2.2.1 ur.2.2.2.2.2.1 ur.2.2.2.2.2.2.1 ur.2.2.2.2.2.2.2.1 ur.2.2.2.2.2.2.2.2 ta_codes ta_numbers tf_count ta_brackets tf_bracketCount tf_place tf_inWhere tf_compared wa_rows wf_count wf_looks ++ z) none 0 0 := by
  refine hq_of (by decide) ?_ (Nat.le_of_ble_eq_true rfl)
  intro p e s m below meth c R args Q hRm hQ hx hb hr hml hts hown hlocks hnm hP hK hD ls hl hS
  have hl : lv_has ls 3 [(0, .ref (q 2)), (1, .ref (q 1))] := hl
  have hown : s.vm.findClass "HeapQueries$Survey" = some m.cls := hown
  unfold sxs_takeOf at h
  have L105 : ∀ (n : Nat) (l2 : Int32) {sa_linkedFrom : Nat → Int32} {sa_linkCounts : Nat → Int32} {sa_retainedSets : Nat → Int32} {sa_retainedSizes : Nat → Int32} {sa_dominators : Nat → Int32} {sa_immediateDominators : Nat → Int32} {sf_objectCount : Int32} {sf_roots : Int32} {sf_reachable : Int32} {ls : Array Slot} {H : Heap} {locs : List Loc}, lv_has ls 3 [(0, .ref (q 2)), (2, .int l2)] → va_P D hq_cl (hx_w q cI cZ cL xq_query ha_parents hf_classCount ha_classes ha_sizes ha_fields hf_objectCount hf_roots hf_changed sa_linkedFrom sa_linkCounts sa_retainedSets sa_retainedSizes sa_dominators sa_immediateDominators sf_objectCount sf_roots sf_reachable ta_codes ta_numbers tf_count ta_brackets tf_bracketCount tf_place tf_inWhere tf_compared wa_rows wf_count wf_looks ++ z) H → va_D A (hx_w q cI cZ cL xq_query ha_parents hf_classCount ha_classes ha_sizes ha_fields hf_objectCount hf_roots hf_changed sa_linkedFrom sa_linkCounts sa_retainedSets sa_retainedSizes sa_dominators sa_immediateDominators sf_objectCount sf_roots sf_reachable ta_codes ta_numbers tf_count ta_brackets tf_bracketCount tf_place tf_inWhere tf_compared wa_rows wf_count wf_looks ++ z) → va_S A s.heap H locs → ∀ u105, sxs_takeOf_L105 n l2 sa_dominators sa_immediateDominators sf_objectCount = some u105 → (∀ (ls : Array Slot) (H : Heap) (locs : List Loc), lv_has ls 3 [] → va_P D hq_cl (hx_w q cI cZ cL xq_query ha_parents hf_classCount ha_classes ha_sizes ha_fields hf_objectCount hf_roots hf_changed sa_linkedFrom sa_linkCounts sa_retainedSets sa_retainedSizes sa_dominators u105 sf_objectCount sf_roots sf_reachable ta_codes ta_numbers tf_count ta_brackets tf_bracketCount tf_place tf_inWhere tf_compared wa_rows wf_count wf_looks ++ z) H → va_D A (hx_w q cI cZ cL xq_query ha_parents hf_classCount ha_classes ha_sizes ha_fields hf_objectCount hf_roots hf_changed sa_linkedFrom sa_linkCounts sa_retainedSets sa_retainedSizes sa_dominators u105 sf_objectCount sf_roots sf_reachable ta_codes ta_numbers tf_count ta_brackets tf_bracketCount tf_place tf_inWhere tf_compared wa_rows wf_count wf_looks ++ z) → va_S A s.heap H locs → W p l e R s m args below meth c H locs 0 0 Q (F0 m 130 ls [])) → W p l e R s m args below meth c H locs 0 0 Q (F0 m 105 ls []) := by
    intro n
    induction n with
    | zero =>
      intro l2 sa_linkedFrom sa_linkCounts sa_retainedSets sa_retainedSizes sa_dominators sa_immediateDominators sf_objectCount sf_roots sf_reachable ls H locs hl hP hD hS u105 h kx
      have h : (none : Option (Nat → Int32)) = some u105 := h
      cases h
    | succ n ih =>
      intro l2 sa_linkedFrom sa_linkCounts sa_retainedSets sa_retainedSizes sa_dominators sa_immediateDominators sf_objectCount sf_roots sf_reachable ls H locs hl hP hD hS u105 h kx
      have h : sxs_takeOf_L105_B (sxs_takeOf_L105 n) l2 sa_dominators sa_immediateDominators sf_objectCount = some u105 := h
      unfold sxs_takeOf_L105_B at h
      refine lv_iload_n hx hb dxs_takeOf_105 rfl (lv_at hl 1 rfl) ?_
      refine lv_aload_n hx hb dxs_takeOf_106 rfl (lv_at hl 0 rfl) ?_
      refine gx_2_objectCount hx hb hts hown hK hP wi_26 dxs_takeOf_107 ?_
      refine lv_icmp_ge (tgt := 130) hx hb dxs_takeOf_110 (by decide) (fun hc => ?_) (fun hc => ?_)
      · have h := (if_pos hc).symm.trans h
        have h := Option.some.inj h
        subst h
        exact kx ls H locs (lv_sub hl [] rfl) hP hD hS
      · have h := (if_neg hc).symm.trans h
        refine lv_aload_n hx hb dxs_takeOf_113 rfl (lv_at hl 0 rfl) ?_
        refine gx_2_immediateDominators hx hb hts hown hK hP wi_35 dxs_takeOf_114 ?_
        refine lv_iload_n hx hb dxs_takeOf_117 rfl (lv_at hl 1 rfl) ?_
        refine lv_aload_n hx hb dxs_takeOf_118 rfl (lv_at hl 0 rfl) ?_
        refine lv_iload_n hx hb dxs_takeOf_119 rfl (lv_at hl 1 rfl) ?_
        obtain ⟨v120, h120, h⟩ := hq_bind h
        refine kxs_findImmediateDominator l2 v120 h120 hx hb hml hts hown hK hP hD hS wi_36 (by rw [hRm]; exact ⟨Nat.le_of_ble_eq_true rfl, Nat.le_of_ble_eq_true rfl⟩) hl.1 (Nat.le_of_ble_eq_true rfl) dxs_takeOf_120 ⟨Nat.zero_le _, Nat.zero_le _⟩ (fun H locs hP hD hS => ?_)
        obtain ⟨hin, h⟩ := hq_idx h
        refine tx_14 hx hb hK hP hD hS hin dxs_takeOf_123 (fun H locs hP hD hS => ?_)
        refine lv_iinc (k := 1) (v := l2 + 1) (lv' := [(2, .int (l2 + 1)), (0, .ref (q 2))]) hx hb dxs_takeOf_124 hl rfl (congrArg (fun j => l2 + j) (by decide)) (by decide) rfl (fun ls hl => ?_)
        refine lv_goto (tgt := 105) hx hb dxs_takeOf_127 (by decide) ?_
        exact ih (l2 + 1) (lv_sub hl [1, 0] rfl) hP hD hS u105 h kx
  have L78 : ∀ (n : Nat) (l2 : Int32) {sa_linkedFrom : Nat → Int32} {sa_linkCounts : Nat → Int32} {sa_retainedSets : Nat → Int32} {sa_retainedSizes : Nat → Int32} {sa_dominators : Nat → Int32} {sa_immediateDominators : Nat → Int32} {sf_objectCount : Int32} {sf_roots : Int32} {sf_reachable : Int32} {ls : Array Slot} {H : Heap} {locs : List Loc}, lv_has ls 3 [(0, .ref (q 2)), (2, .int l2)] → va_P D hq_cl (hx_w q cI cZ cL xq_query ha_parents hf_classCount ha_classes ha_sizes ha_fields hf_objectCount hf_roots hf_changed sa_linkedFrom sa_linkCounts sa_retainedSets sa_retainedSizes sa_dominators sa_immediateDominators sf_objectCount sf_roots sf_reachable ta_codes ta_numbers tf_count ta_brackets tf_bracketCount tf_place tf_inWhere tf_compared wa_rows wf_count wf_looks ++ z) H → va_D A (hx_w q cI cZ cL xq_query ha_parents hf_classCount ha_classes ha_sizes ha_fields hf_objectCount hf_roots hf_changed sa_linkedFrom sa_linkCounts sa_retainedSets sa_retainedSizes sa_dominators sa_immediateDominators sf_objectCount sf_roots sf_reachable ta_codes ta_numbers tf_count ta_brackets tf_bracketCount tf_place tf_inWhere tf_compared wa_rows wf_count wf_looks ++ z) → va_S A s.heap H locs → ∀ u78, sxs_takeOf_L78 n l2 sa_retainedSets sa_dominators sf_objectCount = some u78 → (∀ (ls : Array Slot) (H : Heap) (locs : List Loc), lv_has ls 3 [(0, .ref (q 2))] → va_P D hq_cl (hx_w q cI cZ cL xq_query ha_parents hf_classCount ha_classes ha_sizes ha_fields hf_objectCount hf_roots hf_changed sa_linkedFrom sa_linkCounts sa_retainedSets sa_retainedSizes u78 sa_immediateDominators sf_objectCount sf_roots sf_reachable ta_codes ta_numbers tf_count ta_brackets tf_bracketCount tf_place tf_inWhere tf_compared wa_rows wf_count wf_looks ++ z) H → va_D A (hx_w q cI cZ cL xq_query ha_parents hf_classCount ha_classes ha_sizes ha_fields hf_objectCount hf_roots hf_changed sa_linkedFrom sa_linkCounts sa_retainedSets sa_retainedSizes u78 sa_immediateDominators sf_objectCount sf_roots sf_reachable ta_codes ta_numbers tf_count ta_brackets tf_bracketCount tf_place tf_inWhere tf_compared wa_rows wf_count wf_looks ++ z) → va_S A s.heap H locs → W p l e R s m args below meth c H locs 0 0 Q (F0 m 103 ls [])) → W p l e R s m args below meth c H locs 0 0 Q (F0 m 78 ls []) := by
    intro n
    induction n with
    | zero =>
      intro l2 sa_linkedFrom sa_linkCounts sa_retainedSets sa_retainedSizes sa_dominators sa_immediateDominators sf_objectCount sf_roots sf_reachable ls H locs hl hP hD hS u78 h kx
      have h : (none : Option (Nat → Int32)) = some u78 := h
      cases h
    | succ n ih =>
      intro l2 sa_linkedFrom sa_linkCounts sa_retainedSets sa_retainedSizes sa_dominators sa_immediateDominators sf_objectCount sf_roots sf_reachable ls H locs hl hP hD hS u78 h kx
      have h : sxs_takeOf_L78_B (sxs_takeOf_L78 n) l2 sa_retainedSets sa_dominators sf_objectCount = some u78 := h
      unfold sxs_takeOf_L78_B at h
      refine lv_iload_n hx hb dxs_takeOf_78 rfl (lv_at hl 1 rfl) ?_
      refine lv_aload_n hx hb dxs_takeOf_79 rfl (lv_at hl 0 rfl) ?_
      refine gx_2_objectCount hx hb hts hown hK hP wi_26 dxs_takeOf_80 ?_
      refine lv_icmp_ge (tgt := 103) hx hb dxs_takeOf_83 (by decide) (fun hc => ?_) (fun hc => ?_)
      · have h := (if_pos hc).symm.trans h
        have h := Option.some.inj h
        subst h
        exact kx ls H locs (lv_sub hl [0] rfl) hP hD hS
      · have h := (if_neg hc).symm.trans h
        refine lv_aload_n hx hb dxs_takeOf_86 rfl (lv_at hl 0 rfl) ?_
        refine gx_2_dominators hx hb hts hown hK hP wi_34 dxs_takeOf_87 ?_
        refine lv_iload_n hx hb dxs_takeOf_90 rfl (lv_at hl 1 rfl) ?_
        refine lv_aload_n hx hb dxs_takeOf_91 rfl (lv_at hl 0 rfl) ?_
        refine lv_iload_n hx hb dxs_takeOf_92 rfl (lv_at hl 1 rfl) ?_
        obtain ⟨v93, h93, h⟩ := hq_bind h
        refine kxs_findDominators l2 v93 h93 hx hb hml hts hown hK hP hD hS wi_37 (by rw [hRm]; exact ⟨Nat.le_of_ble_eq_true rfl, Nat.le_of_ble_eq_true rfl⟩) hl.1 (Nat.le_of_ble_eq_true rfl) dxs_takeOf_93 ⟨Nat.zero_le _, Nat.zero_le _⟩ (fun H locs hP hD hS => ?_)
        obtain ⟨hin, h⟩ := hq_idx h
        refine tx_13 hx hb hK hP hD hS hin dxs_takeOf_96 (fun H locs hP hD hS => ?_)
        refine lv_iinc (k := 1) (v := l2 + 1) (lv' := [(2, .int (l2 + 1)), (0, .ref (q 2))]) hx hb dxs_takeOf_97 hl rfl (congrArg (fun j => l2 + j) (by decide)) (by decide) rfl (fun ls hl => ?_)
        refine lv_goto (tgt := 78) hx hb dxs_takeOf_100 (by decide) ?_
        exact ih (l2 + 1) (lv_sub hl [1, 0] rfl) hP hD hS u78 h kx
  have L32 : ∀ (n : Nat) (l2 : Int32) {sa_linkedFrom : Nat → Int32} {sa_linkCounts : Nat → Int32} {sa_retainedSets : Nat → Int32} {sa_retainedSizes : Nat → Int32} {sa_dominators : Nat → Int32} {sa_immediateDominators : Nat → Int32} {sf_objectCount : Int32} {sf_roots : Int32} {sf_reachable : Int32} {ls : Array Slot} {H : Heap} {locs : List Loc}, lv_has ls 3 [(0, .ref (q 2)), (1, .ref (q 1)), (2, .int l2)] → va_P D hq_cl (hx_w q cI cZ cL xq_query ha_parents hf_classCount ha_classes ha_sizes ha_fields hf_objectCount hf_roots hf_changed sa_linkedFrom sa_linkCounts sa_retainedSets sa_retainedSizes sa_dominators sa_immediateDominators sf_objectCount sf_roots sf_reachable ta_codes ta_numbers tf_count ta_brackets tf_bracketCount tf_place tf_inWhere tf_compared wa_rows wf_count wf_looks ++ z) H → va_D A (hx_w q cI cZ cL xq_query ha_parents hf_classCount ha_classes ha_sizes ha_fields hf_objectCount hf_roots hf_changed sa_linkedFrom sa_linkCounts sa_retainedSets sa_retainedSizes sa_dominators sa_immediateDominators sf_objectCount sf_roots sf_reachable ta_codes ta_numbers tf_count ta_brackets tf_bracketCount tf_place tf_inWhere tf_compared wa_rows wf_count wf_looks ++ z) → va_S A s.heap H locs → ∀ u32, sxs_takeOf_L32 n l2 ha_sizes sa_linkedFrom sa_retainedSets sa_retainedSizes sf_objectCount sf_roots sf_reachable = some u32 → (∀ (ls : Array Slot) (H : Heap) (locs : List Loc), lv_has ls 3 [(0, .ref (q 2))] → va_P D hq_cl (hx_w q cI cZ cL xq_query ha_parents hf_classCount ha_classes ha_sizes ha_fields hf_objectCount hf_roots hf_changed sa_linkedFrom sa_linkCounts u32.1 u32.2 sa_dominators sa_immediateDominators sf_objectCount sf_roots sf_reachable ta_codes ta_numbers tf_count ta_brackets tf_bracketCount tf_place tf_inWhere tf_compared wa_rows wf_count wf_looks ++ z) H → va_D A (hx_w q cI cZ cL xq_query ha_parents hf_classCount ha_classes ha_sizes ha_fields hf_objectCount hf_roots hf_changed sa_linkedFrom sa_linkCounts u32.1 u32.2 sa_dominators sa_immediateDominators sf_objectCount sf_roots sf_reachable ta_codes ta_numbers tf_count ta_brackets tf_bracketCount tf_place tf_inWhere tf_compared wa_rows wf_count wf_looks ++ z) → va_S A s.heap H locs → W p l e R s m args below meth c H locs 0 0 Q (F0 m 76 ls [])) → W p l e R s m args below meth c H locs 0 0 Q (F0 m 32 ls []) := by
    intro n
    induction n with
    | zero =>
      intro l2 sa_linkedFrom sa_linkCounts sa_retainedSets sa_retainedSizes sa_dominators sa_immediateDominators sf_objectCount sf_roots sf_reachable ls H locs hl hP hD hS u32 h kx
      have h : (none : Option ((Nat → Int32) × (Nat → Int32))) = some u32 := h
      cases h
    | succ n ih =>
      intro l2 sa_linkedFrom sa_linkCounts sa_retainedSets sa_retainedSizes sa_dominators sa_immediateDominators sf_objectCount sf_roots sf_reachable ls H locs hl hP hD hS u32 h kx
      have h : sxs_takeOf_L32_B (sxs_takeOf_L32 n) l2 ha_sizes sa_linkedFrom sa_retainedSets sa_retainedSizes sf_objectCount sf_roots sf_reachable = some u32 := h
      unfold sxs_takeOf_L32_B at h
      refine lv_iload_n hx hb dxs_takeOf_32 rfl (lv_at hl 2 rfl) ?_
      refine lv_aload_n hx hb dxs_takeOf_33 rfl (lv_at hl 0 rfl) ?_
      refine gx_2_objectCount hx hb hts hown hK hP wi_26 dxs_takeOf_34 ?_
      refine lv_icmp_ge (tgt := 76) hx hb dxs_takeOf_37 (by decide) (fun hc => ?_) (fun hc => ?_)
      · have h := (if_pos hc).symm.trans h
        have h := Option.some.inj h
        subst h
        exact kx ls H locs (lv_sub hl [0] rfl) hP hD hS
      · have h := (if_neg hc).symm.trans h
        refine lv_aload_n hx hb dxs_takeOf_40 rfl (lv_at hl 0 rfl) ?_
        refine gx_2_retainedSets hx hb hts hown hK hP wi_33 dxs_takeOf_41 ?_
        refine lv_iload_n hx hb dxs_takeOf_44 rfl (lv_at hl 2 rfl) ?_
        refine lv_aload_n hx hb dxs_takeOf_45 rfl (lv_at hl 0 rfl) ?_
        refine lv_iconst (v := 1) hx hb dxs_takeOf_46 (by decide) ?_
        refine lv_iload_n hx hb dxs_takeOf_47 rfl (lv_at hl 2 rfl) ?_
        refine lv_ishl hx hb dxs_takeOf_48 ?_
        obtain ⟨v49, h49, h⟩ := hq_bind h
        refine kxs_retainedBy ((1 : Int32) <<< (l2 &&& 31)) v49 h49 hx hb hml hts hown hK hP hD hS wi_38 (by rw [hRm]; exact ⟨Nat.le_of_ble_eq_true rfl, Nat.le_of_ble_eq_true rfl⟩) hl.1 (Nat.le_of_ble_eq_true rfl) dxs_takeOf_49 ⟨Nat.zero_le _, Nat.zero_le _⟩ (fun H locs hP hD hS => ?_)
        obtain ⟨hin, h⟩ := hq_idx h
        refine tx_11 hx hb hK hP hD hS hin dxs_takeOf_52 (fun H locs hP hD hS => ?_)
        refine lv_aload_n hx hb dxs_takeOf_53 rfl (lv_at hl 0 rfl) ?_
        refine gx_2_retainedSizes hx hb hts hown hK hP wi_39 dxs_takeOf_54 ?_
        refine lv_iload_n hx hb dxs_takeOf_57 rfl (lv_at hl 2 rfl) ?_
        refine lv_aload_n hx hb dxs_takeOf_58 rfl (lv_at hl 0 rfl) ?_
        refine lv_aload_n hx hb dxs_takeOf_59 rfl (lv_at hl 1 rfl) ?_
        refine lv_aload_n hx hb dxs_takeOf_60 rfl (lv_at hl 0 rfl) ?_
        refine gx_2_retainedSets hx hb hts hown hK hP wi_33 dxs_takeOf_61 ?_
        refine lv_iload_n hx hb dxs_takeOf_64 rfl (lv_at hl 2 rfl) ?_
        obtain ⟨hin, h⟩ := hq_idx h
        refine ax_11 hx hb hK hP hin dxs_takeOf_65 ?_
        obtain ⟨v66, h66, h⟩ := hq_bind h
        refine kxs_sizeOfSet ((upd sa_retainedSets l2.toNatClampNeg v49) l2.toNatClampNeg) v66 h66 hx hb hml hts hown hK hP hD hS wi_40 (by rw [hRm]; exact ⟨Nat.le_of_ble_eq_true rfl, Nat.le_of_ble_eq_true rfl⟩) hl.1 (Nat.le_of_ble_eq_true rfl) dxs_takeOf_66 ⟨Nat.zero_le _, Nat.zero_le _⟩ (fun H locs hP hD hS => ?_)
        obtain ⟨hin, h⟩ := hq_idx h
        refine tx_12 hx hb hK hP hD hS hin dxs_takeOf_69 (fun H locs hP hD hS => ?_)
        refine lv_iinc (k := 2) (v := l2 + 1) (lv' := [(2, .int (l2 + 1)), (0, .ref (q 2)), (1, .ref (q 1))]) hx hb dxs_takeOf_70 hl rfl (congrArg (fun j => l2 + j) (by decide)) (by decide) rfl (fun ls hl => ?_)
        refine lv_goto (tgt := 32) hx hb dxs_takeOf_73 (by decide) ?_
        exact ih (l2 + 1) (lv_sub hl [1, 2, 0] rfl) hP hD hS u32 h kx
  refine lv_aload_n hx hb dxs_takeOf_0 rfl (lv_at hl 0 rfl) ?_
  refine lv_aload_n hx hb dxs_takeOf_1 rfl (lv_at hl 1 rfl) ?_
  refine kxh_size  (sxh_size hf_objectCount) rfl hx hb hml hts hown hK hP hD hS wi_41 (by rw [hRm]; exact ⟨Nat.le_of_ble_eq_true rfl, Nat.le_of_ble_eq_true rfl⟩) hl.1 (Nat.le_of_ble_eq_true rfl) dxs_takeOf_2 ⟨Nat.zero_le _, Nat.zero_le _⟩ (fun H locs hP hD hS => ?_)
  refine px_2_objectCount hx hb hts hown hK hP hD hS wi_26 dxs_takeOf_5 (fun H locs hP hD hS => ?_)
  refine lv_aload_n hx hb dxs_takeOf_8 rfl (lv_at hl 0 rfl) ?_
  refine lv_aload_n hx hb dxs_takeOf_9 rfl (lv_at hl 1 rfl) ?_
  refine kxh_roots  (sxh_roots hf_roots) rfl hx hb hml hts hown hK hP hD hS wi_42 (by rw [hRm]; exact ⟨Nat.le_of_ble_eq_true rfl, Nat.le_of_ble_eq_true rfl⟩) hl.1 (Nat.le_of_ble_eq_true rfl) dxs_takeOf_10 ⟨Nat.zero_le _, Nat.zero_le _⟩ (fun H locs hP hD hS => ?_)
  refine px_2_roots hx hb hts hown hK hP hD hS wi_29 dxs_takeOf_13 (fun H locs hP hD hS => ?_)
  refine lv_aload_n hx hb dxs_takeOf_16 rfl (lv_at hl 0 rfl) ?_
  refine lv_aload_n hx hb dxs_takeOf_17 rfl (lv_at hl 1 rfl) ?_
  obtain ⟨v18, h18, h⟩ := hq_bind h
  refine kxs_findLinks  v18 h18 hx hb hml hts hown hK hP hD hS wi_43 (by rw [hRm]; exact ⟨Nat.le_of_ble_eq_true rfl, Nat.le_of_ble_eq_true rfl⟩) hl.1 (Nat.le_of_ble_eq_true rfl) dxs_takeOf_18 ⟨Nat.zero_le _, Nat.zero_le _⟩ (fun H locs hP hD hS => ?_)
  refine lv_aload_n hx hb dxs_takeOf_21 rfl (lv_at hl 0 rfl) ?_
  refine lv_aload_n hx hb dxs_takeOf_22 rfl (lv_at hl 0 rfl) ?_
  refine lv_iconst (v := 0) hx hb dxs_takeOf_23 (by decide) ?_
  obtain ⟨v24, h24, h⟩ := hq_bind h
  refine kxs_reachableWithout 0 v24 h24 hx hb hml hts hown hK hP hD hS wi_31 (by rw [hRm]; exact ⟨Nat.le_of_ble_eq_true rfl, Nat.le_of_ble_eq_true rfl⟩) hl.1 (Nat.le_of_ble_eq_true rfl) dxs_takeOf_24 ⟨Nat.zero_le _, Nat.zero_le _⟩ (fun H locs hP hD hS => ?_)
  refine px_2_reachable hx hb hts hown hK hP hD hS wi_30 dxs_takeOf_27 (fun H locs hP hD hS => ?_)
  refine lv_iconst (v := 0) hx hb dxs_takeOf_30 (by decide) ?_
  refine lv_istore_n (lv' := [(2, .int 0), (0, .ref (q 2)), (1, .ref (q 1))]) hx hb dxs_takeOf_31 rfl hl (by decide) rfl (fun ls hl => ?_)
  obtain ⟨u32, h32, h⟩ := hq_bind h
  refine L32 kF 0 (lv_sub hl [1, 2, 0] rfl) hP hD hS u32 h32 (fun ls H locs hl hP hD hS => ?_)
  refine lv_iconst (v := 0) hx hb dxs_takeOf_76 (by decide) ?_
  refine lv_istore_n (lv' := [(2, .int 0), (0, .ref (q 2))]) hx hb dxs_takeOf_77 rfl hl (by decide) rfl (fun ls hl => ?_)
  obtain ⟨u78, h78, h⟩ := hq_bind h
  refine L78 kF 0 (lv_sub hl [1, 0] rfl) hP hD hS u78 h78 (fun ls H locs hl hP hD hS => ?_)
  refine lv_iconst (v := 0) hx hb dxs_takeOf_103 (by decide) ?_
  refine lv_istore_n (lv' := [(2, .int 0), (0, .ref (q 2))]) hx hb dxs_takeOf_104 rfl hl (by decide) rfl (fun ls hl => ?_)
  obtain ⟨u105, h105, h⟩ := hq_bind h
  refine L105 kF 0 (lv_sub hl [1, 0] rfl) hP hD hS u105 h105 (fun ls H locs hl hP hD hS => ?_)
  have h := Option.some.inj h
  exact hq_vret hx hb hr hlocks hQ hK hP hD hS rfl (by rw [← h]) dxs_takeOf_130
end
section
variable {p : Program} {l : Launch} {e : Env} {R : Room} {s : State} {m : MethodId} {args : Array Value} {below : List Frame} {meth : Method} {c : Code} {H H0 : Heap} {locs : List Loc} {cells slots : Nat} {Q : State → Prop}
variable {cc : ByteArray} {pc idx nC : Nat} {ls : Array Slot} {rest : List Value} {D : va_G} {A : Nat → Prop} {own : String} {q : Nat → Nat} {cI cZ cL : ClassId} {z w : va_W}
variable {hf_classCount hf_objectCount hf_roots hf_changed sf_objectCount sf_roots sf_reachable tf_count tf_bracketCount tf_place tf_inWhere tf_compared wf_count wf_looks n_code n_number s_isDistinct s_isRetained s_sourceClass s_withDescendants : Int32}
variable {ha_parents ha_classes ha_sizes sa_linkedFrom sa_linkCounts sa_retainedSets sa_retainedSizes sa_dominators sa_immediateDominators ta_codes ta_numbers ta_brackets : Nat → Int32}
variable {ha_fields wa_rows : Nat → Int64}
variable {xq_query n_left n_right s_row s_nested s_condition s_next : Option Nat}
variable {pa_n pk_n pa_s pk_s : Nat}
theorem kxs_takeOf  (ur : (Nat → Int32) × (Nat → Int32) × (Nat → Int32) × (Nat → Int32) × (Nat → Int32) × (Nat → Int32) × Int32 × Int32 × Int32) (hu : sxs_takeOf ha_sizes ha_fields hf_objectCount hf_roots sa_linkedFrom sa_linkCounts sa_retainedSets sa_retainedSizes sa_dominators sa_immediateDominators sf_objectCount sf_roots sf_reachable = some ur) (hx : p.tables.exec = Jvm.exec) (hb : c.code = cc) (hml : c.maxLocals = nC) (hts : ∀ x ∈ hq_tbl, x.before args s = true) (hown : s.vm.findClass own = some m.cls) (hK : va_K D hq_cl (hq_tys cI cZ cL) s) (hP : va_P D hq_cl (hx_w q cI cZ cL xq_query ha_parents hf_classCount ha_classes ha_sizes ha_fields hf_objectCount hf_roots hf_changed sa_linkedFrom sa_linkCounts sa_retainedSets sa_retainedSizes sa_dominators sa_immediateDominators sf_objectCount sf_roots sf_reachable ta_codes ta_numbers tf_count ta_brackets tf_bracketCount tf_place tf_inWhere tf_compared wa_rows wf_count wf_looks ++ z) H) (hD : va_D A (hx_w q cI cZ cL xq_query ha_parents hf_classCount ha_classes ha_sizes ha_fields hf_objectCount hf_roots hf_changed sa_linkedFrom sa_linkCounts sa_retainedSets sa_retainedSizes sa_dominators sa_immediateDominators sf_objectCount sf_roots sf_reachable ta_codes ta_numbers tf_count ta_brackets tf_bracketCount tf_place tf_inWhere tf_compared wa_rows wf_count wf_looks ++ z)) (hS : va_S A H0 H locs) (h1 : Cond.methodLink own idx yxs_takeOf ∈ hq_tbl) (hR : 3 + 1 ≤ R.frames ∧ 8 + (3 + 11) + 68 ≤ R.locals) (hls : ls.size = nC) (hW : (rest.map fun v => v.category).sum ≤ 8) (hdg : decode cc pc = .ok (.invokevirtual idx, 3)) (hf : cells + 0 ≤ R.cells ∧ slots + 0 ≤ R.slots) (kk : ∀ (H1 : Heap) (locs1 : List Loc), va_P D hq_cl (hx_w q cI cZ cL xq_query ha_parents hf_classCount ha_classes ha_sizes ha_fields hf_objectCount hf_roots hf_changed ur.1 ur.2.1 ur.2.2.1 ur.2.2.2.1 ur.2.2.2.2.1 ur.2.2.2.2.2.1 ur.2.2.2.2.2.2.1 ur.2.2.2.2.2.2.2.1 ur.2.2.2.2.2.2.2.2 ta_codes ta_numbers tf_count ta_brackets tf_bracketCount tf_place tf_inWhere tf_compared wa_rows wf_count wf_looks ++ z) H1 → va_D A (hx_w q cI cZ cL xq_query ha_parents hf_classCount ha_classes ha_sizes ha_fields hf_objectCount hf_roots hf_changed ur.1 ur.2.1 ur.2.2.1 ur.2.2.2.1 ur.2.2.2.2.1 ur.2.2.2.2.2.1 ur.2.2.2.2.2.2.1 ur.2.2.2.2.2.2.2.1 ur.2.2.2.2.2.2.2.2 ta_codes ta_numbers tf_count ta_brackets tf_bracketCount tf_place tf_inWhere tf_compared wa_rows wf_count wf_looks ++ z) → va_S A H0 H1 locs1 → W p l e R s m args below meth c H1 locs1 cells slots Q (F0 m (pc + 3) ls (rest))) : W p l e R s m args below meth c H locs cells slots Q (F0 m pc ls (.ref (q 1) :: .ref (q 2) :: rest)) :=
  hq_callV (q0 := 2) hx hb hml hown hts hK hP hD hS (cxs_takeOf  ur hu) rfl rfl h1 wi_275 wi_276 wi_252 wi_277 1 rfl (by decide +kernel) ⟨rfl, rfl⟩ hR hls rfl hW hdg hf kk
end
