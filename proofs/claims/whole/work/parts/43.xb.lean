theorem dxh_refreshSurvey_0 : decode bxh_refreshSurvey 0 = .ok (.aload_n 0, 1) := by decide +kernel
theorem dxh_refreshSurvey_1 : decode bxh_refreshSurvey 1 = .ok (.getfield 43, 3) := by decide +kernel
theorem dxh_refreshSurvey_4 : decode bxh_refreshSurvey 4 = .ok (.ifCond .eq 16, 3) := by decide +kernel
theorem dxh_refreshSurvey_7 : decode bxh_refreshSurvey 7 = .ok (.aload_n 0, 1) := by decide +kernel
theorem dxh_refreshSurvey_8 : decode bxh_refreshSurvey 8 = .ok (.getfield 28, 3) := by decide +kernel
theorem dxh_refreshSurvey_11 : decode bxh_refreshSurvey 11 = .ok (.aload_n 0, 1) := by decide +kernel
theorem dxh_refreshSurvey_12 : decode bxh_refreshSurvey 12 = .ok (.invokevirtual 50, 3) := by decide +kernel
theorem dxh_refreshSurvey_15 : decode bxh_refreshSurvey 15 = .ok (.aload_n 0, 1) := by decide +kernel
theorem dxh_refreshSurvey_16 : decode bxh_refreshSurvey 16 = .ok (.iconst 0, 1) := by decide +kernel
theorem dxh_refreshSurvey_17 : decode bxh_refreshSurvey 17 = .ok (.putfield 43, 3) := by decide +kernel
theorem dxh_refreshSurvey_20 : decode bxh_refreshSurvey 20 = .ok (.return_, 1) := by decide +kernel
section
variable {l : Launch} {D : va_G} {A : Nat → Prop} {z w : va_W} {q : Nat → Nat} {cI cZ cL : ClassId}
variable {hf_classCount hf_objectCount hf_roots hf_changed sf_objectCount sf_roots sf_reachable tf_count tf_bracketCount tf_place tf_inWhere tf_compared wf_count wf_looks n_code n_number s_isDistinct s_isRetained s_sourceClass s_withDescendants : Int32}
variable {ha_parents ha_classes ha_sizes sa_linkedFrom sa_linkCounts sa_retainedSets sa_retainedSizes sa_dominators sa_immediateDominators ta_codes ta_numbers ta_brackets : Nat → Int32}
variable {ha_fields wa_rows : Nat → Int64}
variable {xq_query n_left n_right s_row s_nested s_condition s_next : Option Nat}
variable {pa_n pk_n pa_s pk_s : Nat}
set_option maxHeartbeats 4000000 in
set_option maxRecDepth 100000 in
theorem cxh_refreshSurvey  (ur : Int32 × (Nat → Int32) × (Nat → Int32) × (Nat → Int32) × (Nat → Int32) × (Nat → Int32) × (Nat → Int32) × Int32 × Int32 × Int32) (h : sxh_refreshSurvey ha_sizes ha_fields hf_objectCount hf_roots hf_changed sa_linkedFrom sa_linkCounts sa_retainedSets sa_retainedSizes sa_dominators sa_immediateDominators sf_objectCount sf_roots sf_reachable = some ur) : hq_Ct l yxh_refreshSurvey bxh_refreshSurvey 1 none { frames := 4, cells := 0, slots := 0, locals := 90 } D (hq_tys cI cZ cL) A [.ref (q 1)] (hx_w q cI cZ cL xq_query ha_parents hf_classCount ha_classes ha_sizes ha_fields hf_objectCount hf_roots hf_changed sa_linkedFrom sa_linkCounts sa_retainedSets sa_retainedSizes sa_dominators sa_immediateDominators sf_objectCount sf_roots sf_reachable ta_codes ta_numbers tf_count ta_brackets tf_bracketCount tf_place tf_inWhere tf_compared wa_rows wf_count wf_looks ++ z) (hx_w q cI cZ cL xq_query ha_parents hf_classCount ha_classes ha_sizes ha_fields hf_objectCount hf_roots ur.1 ur.2.1 ur.2.2.1 ur.2.2.2.1 ur.2.2.2.2.1 ur.2.2.2.2.2.1 ur.2.2.2.2.2.2.1 ur.2.2.2.2.2.2.2.1 ur.2.2.2.2.2.2.2.2.1 ur.2.2.2.2.2.2.2.2.2 ta_codes ta_numbers tf_count ta_brackets tf_bracketCount tf_place tf_inWhere tf_compared wa_rows wf_count wf_looks ++ z) none 0 0 := by
  refine hq_of (by decide) ?_ (Nat.le_of_ble_eq_true rfl)
  intro p e s m below meth c R args Q hRm hQ hx hb hr hml hts hown hlocks hnm hP hK hD ls hl hS
  have hl : lv_has ls 1 [(0, .ref (q 1))] := hl
  have hown : s.vm.findClass "HeapQueries$Heap" = some m.cls := hown
  unfold sxh_refreshSurvey at h
  refine lv_aload_n hx hb dxh_refreshSurvey_0 rfl (lv_at hl 0 rfl) ?_
  refine gx_1_changed hx hb hts hown hK hP wi_8 dxh_refreshSurvey_1 ?_
  refine lv_if_eq (tgt := 20) hx hb dxh_refreshSurvey_4 (by decide) (fun hc => ?_) (fun hc => ?_)
  · have h := (if_pos hc).symm.trans h
    have h := Option.some.inj h
    exact hq_vret hx hb hr hlocks hQ hK hP hD hS rfl (by rw [← h]) dxh_refreshSurvey_20
  · have h := (if_neg hc).symm.trans h
    refine lv_aload_n hx hb dxh_refreshSurvey_7 rfl (lv_at hl 0 rfl) ?_
    refine gx_1_survey hx hb hts hown hK hP wi_44 dxh_refreshSurvey_8 ?_
    refine lv_aload_n hx hb dxh_refreshSurvey_11 rfl (lv_at hl 0 rfl) ?_
    obtain ⟨v12, h12, h⟩ := hq_bind h
    refine kxs_takeOf  v12 h12 hx hb hml hts hown hK hP hD hS wi_45 (by rw [hRm]; exact ⟨Nat.le_of_ble_eq_true rfl, Nat.le_of_ble_eq_true rfl⟩) hl.1 (Nat.le_of_ble_eq_true rfl) dxh_refreshSurvey_12 ⟨Nat.zero_le _, Nat.zero_le _⟩ (fun H locs hP hD hS => ?_)
    refine lv_aload_n hx hb dxh_refreshSurvey_15 rfl (lv_at hl 0 rfl) ?_
    refine lv_iconst (v := 0) hx hb dxh_refreshSurvey_16 (by decide) ?_
    refine px_1_changed hx hb hts hown hK hP hD hS wi_8 (by decide) dxh_refreshSurvey_17 (fun H locs hP hD hS => ?_)
    have h := Option.some.inj h
    exact hq_vret hx hb hr hlocks hQ hK hP hD hS rfl (by rw [← h]) dxh_refreshSurvey_20
end
section
variable {p : Program} {l : Launch} {e : Env} {R : Room} {s : State} {m : MethodId} {args : Array Value} {below : List Frame} {meth : Method} {c : Code} {H H0 : Heap} {locs : List Loc} {cells slots : Nat} {Q : State → Prop}
variable {cc : ByteArray} {pc idx nC : Nat} {ls : Array Slot} {rest : List Value} {D : va_G} {A : Nat → Prop} {own : String} {q : Nat → Nat} {cI cZ cL : ClassId} {z w : va_W}
variable {hf_classCount hf_objectCount hf_roots hf_changed sf_objectCount sf_roots sf_reachable tf_count tf_bracketCount tf_place tf_inWhere tf_compared wf_count wf_looks n_code n_number s_isDistinct s_isRetained s_sourceClass s_withDescendants : Int32}
variable {ha_parents ha_classes ha_sizes sa_linkedFrom sa_linkCounts sa_retainedSets sa_retainedSizes sa_dominators sa_immediateDominators ta_codes ta_numbers ta_brackets : Nat → Int32}
variable {ha_fields wa_rows : Nat → Int64}
variable {xq_query n_left n_right s_row s_nested s_condition s_next : Option Nat}
variable {pa_n pk_n pa_s pk_s : Nat}
theorem kxh_refreshSurvey  (ur : Int32 × (Nat → Int32) × (Nat → Int32) × (Nat → Int32) × (Nat → Int32) × (Nat → Int32) × (Nat → Int32) × Int32 × Int32 × Int32) (hu : sxh_refreshSurvey ha_sizes ha_fields hf_objectCount hf_roots hf_changed sa_linkedFrom sa_linkCounts sa_retainedSets sa_retainedSizes sa_dominators sa_immediateDominators sf_objectCount sf_roots sf_reachable = some ur) (hx : p.tables.exec = Jvm.exec) (hb : c.code = cc) (hml : c.maxLocals = nC) (hts : ∀ x ∈ hq_tbl, x.before args s = true) (hown : s.vm.findClass own = some m.cls) (hK : va_K D hq_cl (hq_tys cI cZ cL) s) (hP : va_P D hq_cl (hx_w q cI cZ cL xq_query ha_parents hf_classCount ha_classes ha_sizes ha_fields hf_objectCount hf_roots hf_changed sa_linkedFrom sa_linkCounts sa_retainedSets sa_retainedSizes sa_dominators sa_immediateDominators sf_objectCount sf_roots sf_reachable ta_codes ta_numbers tf_count ta_brackets tf_bracketCount tf_place tf_inWhere tf_compared wa_rows wf_count wf_looks ++ z) H) (hD : va_D A (hx_w q cI cZ cL xq_query ha_parents hf_classCount ha_classes ha_sizes ha_fields hf_objectCount hf_roots hf_changed sa_linkedFrom sa_linkCounts sa_retainedSets sa_retainedSizes sa_dominators sa_immediateDominators sf_objectCount sf_roots sf_reachable ta_codes ta_numbers tf_count ta_brackets tf_bracketCount tf_place tf_inWhere tf_compared wa_rows wf_count wf_looks ++ z)) (hS : va_S A H0 H locs) (h1 : Cond.methodLink own idx yxh_refreshSurvey ∈ hq_tbl) (hR : 4 + 1 ≤ R.frames ∧ 8 + (1 + 11) + 90 ≤ R.locals) (hls : ls.size = nC) (hW : (rest.map fun v => v.category).sum ≤ 8) (hdg : decode cc pc = .ok (.invokevirtual idx, 3)) (hf : cells + 0 ≤ R.cells ∧ slots + 0 ≤ R.slots) (kk : ∀ (H1 : Heap) (locs1 : List Loc), va_P D hq_cl (hx_w q cI cZ cL xq_query ha_parents hf_classCount ha_classes ha_sizes ha_fields hf_objectCount hf_roots ur.1 ur.2.1 ur.2.2.1 ur.2.2.2.1 ur.2.2.2.2.1 ur.2.2.2.2.2.1 ur.2.2.2.2.2.2.1 ur.2.2.2.2.2.2.2.1 ur.2.2.2.2.2.2.2.2.1 ur.2.2.2.2.2.2.2.2.2 ta_codes ta_numbers tf_count ta_brackets tf_bracketCount tf_place tf_inWhere tf_compared wa_rows wf_count wf_looks ++ z) H1 → va_D A (hx_w q cI cZ cL xq_query ha_parents hf_classCount ha_classes ha_sizes ha_fields hf_objectCount hf_roots ur.1 ur.2.1 ur.2.2.1 ur.2.2.2.1 ur.2.2.2.2.1 ur.2.2.2.2.2.1 ur.2.2.2.2.2.2.1 ur.2.2.2.2.2.2.2.1 ur.2.2.2.2.2.2.2.2.1 ur.2.2.2.2.2.2.2.2.2 ta_codes ta_numbers tf_count ta_brackets tf_bracketCount tf_place tf_inWhere tf_compared wa_rows wf_count wf_looks ++ z) → va_S A H0 H1 locs1 → W p l e R s m args below meth c H1 locs1 cells slots Q (F0 m (pc + 3) ls (rest))) : W p l e R s m args below meth c H locs cells slots Q (F0 m pc ls (.ref (q 1) :: rest)) :=
  hq_callV (q0 := 1) hx hb hml hown hts hK hP hD hS (cxh_refreshSurvey  ur hu) rfl rfl h1 wi_278 wi_279 wi_202 wi_280 0 rfl (by decide +kernel) ⟨rfl, rfl⟩ hR hls rfl hW hdg hf kk
end
theorem dxs_immediateDominatorOf_0 : decode bxs_immediateDominatorOf 0 = .ok (.aload_n 0, 1) := by decide +kernel
theorem dxs_immediateDominatorOf_1 : decode bxs_immediateDominatorOf 1 = .ok (.getfield 27, 3) := by decide +kernel
theorem dxs_immediateDominatorOf_4 : decode bxs_immediateDominatorOf 4 = .ok (.iload_n 1, 1) := by decide +kernel
theorem dxs_immediateDominatorOf_5 : decode bxs_immediateDominatorOf 5 = .ok (.iaload, 1) := by decide +kernel
theorem dxs_immediateDominatorOf_6 : decode bxs_immediateDominatorOf 6 = .ok (.ireturn, 1) := by decide +kernel
section
variable {l : Launch} {D : va_G} {A : Nat → Prop} {z w : va_W} {q : Nat → Nat} {cI cZ cL : ClassId}
variable {hf_classCount hf_objectCount hf_roots hf_changed sf_objectCount sf_roots sf_reachable tf_count tf_bracketCount tf_place tf_inWhere tf_compared wf_count wf_looks n_code n_number s_isDistinct s_isRetained s_sourceClass s_withDescendants : Int32}
variable {ha_parents ha_classes ha_sizes sa_linkedFrom sa_linkCounts sa_retainedSets sa_retainedSizes sa_dominators sa_immediateDominators ta_codes ta_numbers ta_brackets : Nat → Int32}
variable {ha_fields wa_rows : Nat → Int64}
variable {xq_query n_left n_right s_row s_nested s_condition s_next : Option Nat}
variable {pa_n pk_n pa_s pk_s : Nat}
set_option maxHeartbeats 4000000 in
set_option maxRecDepth 100000 in
theorem cxs_immediateDominatorOf (l1 : Int32) (ur : Int32) (h : sxs_immediateDominatorOf l1 sa_immediateDominators = some ur) : hq_Ct l yxs_immediateDominatorOf bxs_immediateDominatorOf 2 (some .int) { frames := 0, cells := 0, slots := 0, locals := 0 } D (hq_tys cI cZ cL) A [.ref (q 2), .int l1] (hx_w q cI cZ cL xq_query ha_parents hf_classCount ha_classes ha_sizes ha_fields hf_objectCount hf_roots hf_changed sa_linkedFrom sa_linkCounts sa_retainedSets sa_retainedSizes sa_dominators sa_immediateDominators sf_objectCount sf_roots sf_reachable ta_codes ta_numbers tf_count ta_brackets tf_bracketCount tf_place tf_inWhere tf_compared wa_rows wf_count wf_looks ++ z) (hx_w q cI cZ cL xq_query ha_parents hf_classCount ha_classes ha_sizes ha_fields hf_objectCount hf_roots hf_changed sa_linkedFrom sa_linkCounts sa_retainedSets sa_retainedSizes sa_dominators sa_immediateDominators sf_objectCount sf_roots sf_reachable ta_codes ta_numbers tf_count ta_brackets tf_bracketCount tf_place tf_inWhere tf_compared wa_rows wf_count wf_looks ++ z) (some (.int ur)) 0 0 := by
  refine hq_of (by decide) ?_ (Nat.le_of_ble_eq_true rfl)
  intro p e s m below meth c R args Q hRm hQ hx hb hr hml hts hown hlocks hnm hP hK hD ls hl hS
  have hl : lv_has ls 2 [(0, .ref (q 2)), (1, .int l1)] := hl
  have hown : s.vm.findClass "HeapQueries$Survey" = some m.cls := hown
  unfold sxs_immediateDominatorOf at h
  refine lv_aload_n hx hb dxs_immediateDominatorOf_0 rfl (lv_at hl 0 rfl) ?_
  refine gx_2_immediateDominators hx hb hts hown hK hP wi_35 dxs_immediateDominatorOf_1 ?_
  refine lv_iload_n hx hb dxs_immediateDominatorOf_4 rfl (lv_at hl 1 rfl) ?_
  obtain ⟨hin, h⟩ := hq_idx h
  refine ax_14 hx hb hK hP hin dxs_immediateDominatorOf_5 ?_
  have h := Option.some.inj h
  exact hq_iret hx hb hr hlocks hQ hK hP hD hS (by rw [← h]) rfl dxs_immediateDominatorOf_6
end
section
variable {p : Program} {l : Launch} {e : Env} {R : Room} {s : State} {m : MethodId} {args : Array Value} {below : List Frame} {meth : Method} {c : Code} {H H0 : Heap} {locs : List Loc} {cells slots : Nat} {Q : State → Prop}
variable {cc : ByteArray} {pc idx nC : Nat} {ls : Array Slot} {rest : List Value} {D : va_G} {A : Nat → Prop} {own : String} {q : Nat → Nat} {cI cZ cL : ClassId} {z w : va_W}
variable {hf_classCount hf_objectCount hf_roots hf_changed sf_objectCount sf_roots sf_reachable tf_count tf_bracketCount tf_place tf_inWhere tf_compared wf_count wf_looks n_code n_number s_isDistinct s_isRetained s_sourceClass s_withDescendants : Int32}
variable {ha_parents ha_classes ha_sizes sa_linkedFrom sa_linkCounts sa_retainedSets sa_retainedSizes sa_dominators sa_immediateDominators ta_codes ta_numbers ta_brackets : Nat → Int32}
variable {ha_fields wa_rows : Nat → Int64}
variable {xq_query n_left n_right s_row s_nested s_condition s_next : Option Nat}
variable {pa_n pk_n pa_s pk_s : Nat}
theorem kxs_immediateDominatorOf (l1 : Int32) (ur : Int32) (hu : sxs_immediateDominatorOf l1 sa_immediateDominators = some ur) (hx : p.tables.exec = Jvm.exec) (hb : c.code = cc) (hml : c.maxLocals = nC) (hts : ∀ x ∈ hq_tbl, x.before args s = true) (hown : s.vm.findClass own = some m.cls) (hK : va_K D hq_cl (hq_tys cI cZ cL) s) (hP : va_P D hq_cl (hx_w q cI cZ cL xq_query ha_parents hf_classCount ha_classes ha_sizes ha_fields hf_objectCount hf_roots hf_changed sa_linkedFrom sa_linkCounts sa_retainedSets sa_retainedSizes sa_dominators sa_immediateDominators sf_objectCount sf_roots sf_reachable ta_codes ta_numbers tf_count ta_brackets tf_bracketCount tf_place tf_inWhere tf_compared wa_rows wf_count wf_looks ++ z) H) (hD : va_D A (hx_w q cI cZ cL xq_query ha_parents hf_classCount ha_classes ha_sizes ha_fields hf_objectCount hf_roots hf_changed sa_linkedFrom sa_linkCounts sa_retainedSets sa_retainedSizes sa_dominators sa_immediateDominators sf_objectCount sf_roots sf_reachable ta_codes ta_numbers tf_count ta_brackets tf_bracketCount tf_place tf_inWhere tf_compared wa_rows wf_count wf_looks ++ z)) (hS : va_S A H0 H locs) (h1 : Cond.methodLink own idx yxs_immediateDominatorOf ∈ hq_tbl) (hR : 0 + 1 ≤ R.frames ∧ 8 + (2 + 11) + 0 ≤ R.locals) (hls : ls.size = nC) (hW : (rest.map fun v => v.category).sum ≤ 8) (hdg : decode cc pc = .ok (.invokevirtual idx, 3)) (hf : cells + 0 ≤ R.cells ∧ slots + 0 ≤ R.slots) (kk : ∀ (H1 : Heap) (locs1 : List Loc), va_P D hq_cl (hx_w q cI cZ cL xq_query ha_parents hf_classCount ha_classes ha_sizes ha_fields hf_objectCount hf_roots hf_changed sa_linkedFrom sa_linkCounts sa_retainedSets sa_retainedSizes sa_dominators sa_immediateDominators sf_objectCount sf_roots sf_reachable ta_codes ta_numbers tf_count ta_brackets tf_bracketCount tf_place tf_inWhere tf_compared wa_rows wf_count wf_looks ++ z) H1 → va_D A (hx_w q cI cZ cL xq_query ha_parents hf_classCount ha_classes ha_sizes ha_fields hf_objectCount hf_roots hf_changed sa_linkedFrom sa_linkCounts sa_retainedSets sa_retainedSizes sa_dominators sa_immediateDominators sf_objectCount sf_roots sf_reachable ta_codes ta_numbers tf_count ta_brackets tf_bracketCount tf_place tf_inWhere tf_compared wa_rows wf_count wf_looks ++ z) → va_S A H0 H1 locs1 → W p l e R s m args below meth c H1 locs1 cells slots Q (F0 m (pc + 3) ls (.int ur :: rest))) : W p l e R s m args below meth c H locs cells slots Q (F0 m pc ls (.int l1 :: .ref (q 2) :: rest)) :=
  hq_callV (q0 := 2) hx hb hml hown hts hK hP hD hS (cxs_immediateDominatorOf l1 ur hu) rfl rfl h1 wi_281 wi_282 wi_252 wi_283 1 rfl (by decide +kernel) ⟨rfl, rfl⟩ hR hls rfl hW hdg hf kk
end
theorem dxq_dominator_0 : decode bxq_dominator 0 = .ok (.aload_n 0, 1) := by decide +kernel
theorem dxq_dominator_1 : decode bxq_dominator 1 = .ok (.getfield 12, 3) := by decide +kernel
theorem dxq_dominator_4 : decode bxq_dominator 4 = .ok (.iload_n 1, 1) := by decide +kernel
theorem dxq_dominator_5 : decode bxq_dominator 5 = .ok (.invokevirtual 38, 3) := by decide +kernel
theorem dxq_dominator_8 : decode bxq_dominator 8 = .ok (.ifCond .ne 6, 3) := by decide +kernel
theorem dxq_dominator_11 : decode bxq_dominator 11 = .ok (.bipush (-2), 2) := by decide +kernel
theorem dxq_dominator_13 : decode bxq_dominator 13 = .ok (.ireturn, 1) := by decide +kernel
theorem dxq_dominator_14 : decode bxq_dominator 14 = .ok (.aload_n 0, 1) := by decide +kernel
theorem dxq_dominator_15 : decode bxq_dominator 15 = .ok (.getfield 12, 3) := by decide +kernel
theorem dxq_dominator_18 : decode bxq_dominator 18 = .ok (.invokevirtual 59, 3) := by decide +kernel
theorem dxq_dominator_21 : decode bxq_dominator 21 = .ok (.aload_n 0, 1) := by decide +kernel
theorem dxq_dominator_22 : decode bxq_dominator 22 = .ok (.getfield 12, 3) := by decide +kernel
theorem dxq_dominator_25 : decode bxq_dominator 25 = .ok (.getfield 62, 3) := by decide +kernel
theorem dxq_dominator_28 : decode bxq_dominator 28 = .ok (.iload_n 1, 1) := by decide +kernel
theorem dxq_dominator_29 : decode bxq_dominator 29 = .ok (.invokevirtual 66, 3) := by decide +kernel
theorem dxq_dominator_32 : decode bxq_dominator 32 = .ok (.ireturn, 1) := by decide +kernel
section
variable {l : Launch} {D : va_G} {A : Nat → Prop} {z w : va_W} {q : Nat → Nat} {cI cZ cL : ClassId}
variable {hf_classCount hf_objectCount hf_roots hf_changed sf_objectCount sf_roots sf_reachable tf_count tf_bracketCount tf_place tf_inWhere tf_compared wf_count wf_looks n_code n_number s_isDistinct s_isRetained s_sourceClass s_withDescendants : Int32}
variable {ha_parents ha_classes ha_sizes sa_linkedFrom sa_linkCounts sa_retainedSets sa_retainedSizes sa_dominators sa_immediateDominators ta_codes ta_numbers ta_brackets : Nat → Int32}
variable {ha_fields wa_rows : Nat → Int64}
variable {xq_query n_left n_right s_row s_nested s_condition s_next : Option Nat}
variable {pa_n pk_n pa_s pk_s : Nat}
set_option maxHeartbeats 4000000 in
set_option maxRecDepth 100000 in
theorem cxq_dominator (l1 : Int32) (ur : Int32 × Int32 × (Nat → Int32) × (Nat → Int32) × (Nat → Int32) × (Nat → Int32) × (Nat → Int32) × (Nat → Int32) × Int32 × Int32 × Int32) (h : sxq_dominator l1 ha_sizes ha_fields hf_objectCount hf_roots hf_changed sa_linkedFrom sa_linkCounts sa_retainedSets sa_retainedSizes sa_dominators sa_immediateDominators sf_objectCount sf_roots sf_reachable = some ur) : hq_Ct l yxq_dominator bxq_dominator 2 (some .int) { frames := 5, cells := 0, slots := 0, locals := 110 } D (hq_tys cI cZ cL) A [.ref (q 0), .int l1] (hx_w q cI cZ cL xq_query ha_parents hf_classCount ha_classes ha_sizes ha_fields hf_objectCount hf_roots hf_changed sa_linkedFrom sa_linkCounts sa_retainedSets sa_retainedSizes sa_dominators sa_immediateDominators sf_objectCount sf_roots sf_reachable ta_codes ta_numbers tf_count ta_brackets tf_bracketCount tf_place tf_inWhere tf_compared wa_rows wf_count wf_looks ++ z) (hx_w q cI cZ cL xq_query ha_parents hf_classCount ha_classes ha_sizes ha_fields hf_objectCount hf_roots ur.2.1 ur.2.2.1 ur.2.2.2.1 ur.2.2.2.2.1 ur.2.2.2.2.2.1 ur.2.2.2.2.2.2.1 ur.2.2.2.2.2.2.2.1 ur.2.2.2.2.2.2.2.2.1 ur.2.2.2.2.2.2.2.2.2.1 ur.2.2.2.2.2.2.2.2.2.2 ta_codes ta_numbers tf_count ta_brackets tf_bracketCount tf_place tf_inWhere tf_compared wa_rows wf_count wf_looks ++ z) (some (.int ur.1)) 0 0 := by
  refine hq_of (by decide) ?_ (Nat.le_of_ble_eq_true rfl)
  intro p e s m below meth c R args Q hRm hQ hx hb hr hml hts hown hlocks hnm hP hK hD ls hl hS
  have hl : lv_has ls 2 [(0, .ref (q 0)), (1, .int l1)] := hl
  have hown : s.vm.findClass "HeapQueries" = some m.cls := hown
  unfold sxq_dominator at h
  refine lv_aload_n hx hb dxq_dominator_0 rfl (lv_at hl 0 rfl) ?_
  refine gx_0_heap hx hb hts hown hK hP wi_3 dxq_dominator_1 ?_
  refine lv_iload_n hx hb dxq_dominator_4 rfl (lv_at hl 1 rfl) ?_
  refine kxh_hasObject l1 (sxh_hasObject l1 hf_objectCount) rfl hx hb hml hts hown hK hP hD hS wi_14 (by rw [hRm]; exact ⟨Nat.le_of_ble_eq_true rfl, Nat.le_of_ble_eq_true rfl⟩) hl.1 (Nat.le_of_ble_eq_true rfl) dxq_dominator_5 ⟨Nat.zero_le _, Nat.zero_le _⟩ (fun H locs hP hD hS => ?_)
  refine lv_if_ne (tgt := 14) hx hb dxq_dominator_8 (by decide) (fun hc => ?_) (fun hc => ?_)
  · have h := (if_neg hc).symm.trans h
    refine lv_aload_n hx hb dxq_dominator_14 rfl (lv_at hl 0 rfl) ?_
    refine gx_0_heap hx hb hts hown hK hP wi_3 dxq_dominator_15 ?_
    obtain ⟨v18, h18, h⟩ := hq_bind h
    refine kxh_refreshSurvey  v18 h18 hx hb hml hts hown hK hP hD hS wi_46 (by rw [hRm]; exact ⟨Nat.le_of_ble_eq_true rfl, Nat.le_of_ble_eq_true rfl⟩) hl.1 (Nat.le_of_ble_eq_true rfl) dxq_dominator_18 ⟨Nat.zero_le _, Nat.zero_le _⟩ (fun H locs hP hD hS => ?_)
    refine lv_aload_n hx hb dxq_dominator_21 rfl (lv_at hl 0 rfl) ?_
    refine gx_0_heap hx hb hts hown hK hP wi_3 dxq_dominator_22 ?_
    refine gx_1_survey hx hb hts hown hK hP wi_47 dxq_dominator_25 ?_
    refine lv_iload_n hx hb dxq_dominator_28 rfl (lv_at hl 1 rfl) ?_
    obtain ⟨v29, h29, h⟩ := hq_bind h
    refine kxs_immediateDominatorOf l1 v29 h29 hx hb hml hts hown hK hP hD hS wi_48 (by rw [hRm]; exact ⟨Nat.le_of_ble_eq_true rfl, Nat.le_of_ble_eq_true rfl⟩) hl.1 (Nat.le_of_ble_eq_true rfl) dxq_dominator_29 ⟨Nat.zero_le _, Nat.zero_le _⟩ (fun H locs hP hD hS => ?_)
    have h := Option.some.inj h
    exact hq_iret hx hb hr hlocks hQ hK hP hD hS (by rw [← h]) (by rw [← h]) dxq_dominator_32
  · have h := (if_pos hc).symm.trans h
    refine lv_bipush (v := (-2)) hx hb dxq_dominator_11 (by decide) ?_
    have h := Option.some.inj h
    exact hq_iret hx hb hr hlocks hQ hK hP hD hS (by rw [← h]) (by rw [← h]) dxq_dominator_13
end
section
variable {p : Program} {l : Launch} {e : Env} {R : Room} {s : State} {m : MethodId} {args : Array Value} {below : List Frame} {meth : Method} {c : Code} {H H0 : Heap} {locs : List Loc} {cells slots : Nat} {Q : State → Prop}
variable {cc : ByteArray} {pc idx nC : Nat} {ls : Array Slot} {rest : List Value} {D : va_G} {A : Nat → Prop} {own : String} {q : Nat → Nat} {cI cZ cL : ClassId} {z w : va_W}
variable {hf_classCount hf_objectCount hf_roots hf_changed sf_objectCount sf_roots sf_reachable tf_count tf_bracketCount tf_place tf_inWhere tf_compared wf_count wf_looks n_code n_number s_isDistinct s_isRetained s_sourceClass s_withDescendants : Int32}
variable {ha_parents ha_classes ha_sizes sa_linkedFrom sa_linkCounts sa_retainedSets sa_retainedSizes sa_dominators sa_immediateDominators ta_codes ta_numbers ta_brackets : Nat → Int32}
variable {ha_fields wa_rows : Nat → Int64}
variable {xq_query n_left n_right s_row s_nested s_condition s_next : Option Nat}
variable {pa_n pk_n pa_s pk_s : Nat}
theorem kxq_dominator (l1 : Int32) (ur : Int32 × Int32 × (Nat → Int32) × (Nat → Int32) × (Nat → Int32) × (Nat → Int32) × (Nat → Int32) × (Nat → Int32) × Int32 × Int32 × Int32) (hu : sxq_dominator l1 ha_sizes ha_fields hf_objectCount hf_roots hf_changed sa_linkedFrom sa_linkCounts sa_retainedSets sa_retainedSizes sa_dominators sa_immediateDominators sf_objectCount sf_roots sf_reachable = some ur) (hx : p.tables.exec = Jvm.exec) (hb : c.code = cc) (hml : c.maxLocals = nC) (hts : ∀ x ∈ hq_tbl, x.before args s = true) (hown : s.vm.findClass own = some m.cls) (hK : va_K D hq_cl (hq_tys cI cZ cL) s) (hP : va_P D hq_cl (hx_w q cI cZ cL xq_query ha_parents hf_classCount ha_classes ha_sizes ha_fields hf_objectCount hf_roots hf_changed sa_linkedFrom sa_linkCounts sa_retainedSets sa_retainedSizes sa_dominators sa_immediateDominators sf_objectCount sf_roots sf_reachable ta_codes ta_numbers tf_count ta_brackets tf_bracketCount tf_place tf_inWhere tf_compared wa_rows wf_count wf_looks ++ z) H) (hD : va_D A (hx_w q cI cZ cL xq_query ha_parents hf_classCount ha_classes ha_sizes ha_fields hf_objectCount hf_roots hf_changed sa_linkedFrom sa_linkCounts sa_retainedSets sa_retainedSizes sa_dominators sa_immediateDominators sf_objectCount sf_roots sf_reachable ta_codes ta_numbers tf_count ta_brackets tf_bracketCount tf_place tf_inWhere tf_compared wa_rows wf_count wf_looks ++ z)) (hS : va_S A H0 H locs) (h1 : Cond.methodLink own idx yxq_dominator ∈ hq_tbl) (hR : 5 + 1 ≤ R.frames ∧ 8 + (2 + 11) + 110 ≤ R.locals) (hls : ls.size = nC) (hW : (rest.map fun v => v.category).sum ≤ 8) (hdg : decode cc pc = .ok (.invokevirtual idx, 3)) (hf : cells + 0 ≤ R.cells ∧ slots + 0 ≤ R.slots) (kk : ∀ (H1 : Heap) (locs1 : List Loc), va_P D hq_cl (hx_w q cI cZ cL xq_query ha_parents hf_classCount ha_classes ha_sizes ha_fields hf_objectCount hf_roots ur.2.1 ur.2.2.1 ur.2.2.2.1 ur.2.2.2.2.1 ur.2.2.2.2.2.1 ur.2.2.2.2.2.2.1 ur.2.2.2.2.2.2.2.1 ur.2.2.2.2.2.2.2.2.1 ur.2.2.2.2.2.2.2.2.2.1 ur.2.2.2.2.2.2.2.2.2.2 ta_codes ta_numbers tf_count ta_brackets tf_bracketCount tf_place tf_inWhere tf_compared wa_rows wf_count wf_looks ++ z) H1 → va_D A (hx_w q cI cZ cL xq_query ha_parents hf_classCount ha_classes ha_sizes ha_fields hf_objectCount hf_roots ur.2.1 ur.2.2.1 ur.2.2.2.1 ur.2.2.2.2.1 ur.2.2.2.2.2.1 ur.2.2.2.2.2.2.1 ur.2.2.2.2.2.2.2.1 ur.2.2.2.2.2.2.2.2.1 ur.2.2.2.2.2.2.2.2.2.1 ur.2.2.2.2.2.2.2.2.2.2 ta_codes ta_numbers tf_count ta_brackets tf_bracketCount tf_place tf_inWhere tf_compared wa_rows wf_count wf_looks ++ z) → va_S A H0 H1 locs1 → W p l e R s m args below meth c H1 locs1 cells slots Q (F0 m (pc + 3) ls (.int ur.1 :: rest))) : W p l e R s m args below meth c H locs cells slots Q (F0 m pc ls (.int l1 :: .ref (q 0) :: rest)) :=
  hq_callV (q0 := 0) hx hb hml hown hts hK hP hD hS (cxq_dominator l1 ur hu) rfl rfl h1 wi_284 wi_285 wi_209 wi_286 1 rfl (by decide +kernel) ⟨rfl, rfl⟩ hR hls rfl hW hdg hf kk
end
theorem dxs_retainedSizeOf_0 : decode bxs_retainedSizeOf 0 = .ok (.aload_n 0, 1) := by decide +kernel
theorem dxs_retainedSizeOf_1 : decode bxs_retainedSizeOf 1 = .ok (.getfield 21, 3) := by decide +kernel
theorem dxs_retainedSizeOf_4 : decode bxs_retainedSizeOf 4 = .ok (.iload_n 1, 1) := by decide +kernel
theorem dxs_retainedSizeOf_5 : decode bxs_retainedSizeOf 5 = .ok (.iaload, 1) := by decide +kernel
theorem dxs_retainedSizeOf_6 : decode bxs_retainedSizeOf 6 = .ok (.ireturn, 1) := by decide +kernel
section
variable {l : Launch} {D : va_G} {A : Nat → Prop} {z w : va_W} {q : Nat → Nat} {cI cZ cL : ClassId}
variable {hf_classCount hf_objectCount hf_roots hf_changed sf_objectCount sf_roots sf_reachable tf_count tf_bracketCount tf_place tf_inWhere tf_compared wf_count wf_looks n_code n_number s_isDistinct s_isRetained s_sourceClass s_withDescendants : Int32}
variable {ha_parents ha_classes ha_sizes sa_linkedFrom sa_linkCounts sa_retainedSets sa_retainedSizes sa_dominators sa_immediateDominators ta_codes ta_numbers ta_brackets : Nat → Int32}
variable {ha_fields wa_rows : Nat → Int64}
variable {xq_query n_left n_right s_row s_nested s_condition s_next : Option Nat}
variable {pa_n pk_n pa_s pk_s : Nat}
set_option maxHeartbeats 4000000 in
set_option maxRecDepth 100000 in
theorem cxs_retainedSizeOf (l1 : Int32) (ur : Int32) (h : sxs_retainedSizeOf l1 sa_retainedSizes = some ur) : hq_Ct l yxs_retainedSizeOf bxs_retainedSizeOf 2 (some .int) { frames := 0, cells := 0, slots := 0, locals := 0 } D (hq_tys cI cZ cL) A [.ref (q 2), .int l1] (hx_w q cI cZ cL xq_query ha_parents hf_classCount ha_classes ha_sizes ha_fields hf_objectCount hf_roots hf_changed sa_linkedFrom sa_linkCounts sa_retainedSets sa_retainedSizes sa_dominators sa_immediateDominators sf_objectCount sf_roots sf_reachable ta_codes ta_numbers tf_count ta_brackets tf_bracketCount tf_place tf_inWhere tf_compared wa_rows wf_count wf_looks ++ z) (hx_w q cI cZ cL xq_query ha_parents hf_classCount ha_classes ha_sizes ha_fields hf_objectCount hf_roots hf_changed sa_linkedFrom sa_linkCounts sa_retainedSets sa_retainedSizes sa_dominators sa_immediateDominators sf_objectCount sf_roots sf_reachable ta_codes ta_numbers tf_count ta_brackets tf_bracketCount tf_place tf_inWhere tf_compared wa_rows wf_count wf_looks ++ z) (some (.int ur)) 0 0 := by
  refine hq_of (by decide) ?_ (Nat.le_of_ble_eq_true rfl)
  intro p e s m below meth c R args Q hRm hQ hx hb hr hml hts hown hlocks hnm hP hK hD ls hl hS
  have hl : lv_has ls 2 [(0, .ref (q 2)), (1, .int l1)] := hl
  have hown : s.vm.findClass "HeapQueries$Survey" = some m.cls := hown
  unfold sxs_retainedSizeOf at h
  refine lv_aload_n hx hb dxs_retainedSizeOf_0 rfl (lv_at hl 0 rfl) ?_
  refine gx_2_retainedSizes hx hb hts hown hK hP wi_39 dxs_retainedSizeOf_1 ?_
  refine lv_iload_n hx hb dxs_retainedSizeOf_4 rfl (lv_at hl 1 rfl) ?_
  obtain ⟨hin, h⟩ := hq_idx h
  refine ax_12 hx hb hK hP hin dxs_retainedSizeOf_5 ?_
  have h := Option.some.inj h
  exact hq_iret hx hb hr hlocks hQ hK hP hD hS (by rw [← h]) rfl dxs_retainedSizeOf_6
end
section
variable {p : Program} {l : Launch} {e : Env} {R : Room} {s : State} {m : MethodId} {args : Array Value} {below : List Frame} {meth : Method} {c : Code} {H H0 : Heap} {locs : List Loc} {cells slots : Nat} {Q : State → Prop}
variable {cc : ByteArray} {pc idx nC : Nat} {ls : Array Slot} {rest : List Value} {D : va_G} {A : Nat → Prop} {own : String} {q : Nat → Nat} {cI cZ cL : ClassId} {z w : va_W}
variable {hf_classCount hf_objectCount hf_roots hf_changed sf_objectCount sf_roots sf_reachable tf_count tf_bracketCount tf_place tf_inWhere tf_compared wf_count wf_looks n_code n_number s_isDistinct s_isRetained s_sourceClass s_withDescendants : Int32}
variable {ha_parents ha_classes ha_sizes sa_linkedFrom sa_linkCounts sa_retainedSets sa_retainedSizes sa_dominators sa_immediateDominators ta_codes ta_numbers ta_brackets : Nat → Int32}
variable {ha_fields wa_rows : Nat → Int64}
variable {xq_query n_left n_right s_row s_nested s_condition s_next : Option Nat}
variable {pa_n pk_n pa_s pk_s : Nat}
theorem kxs_retainedSizeOf (l1 : Int32) (ur : Int32) (hu : sxs_retainedSizeOf l1 sa_retainedSizes = some ur) (hx : p.tables.exec = Jvm.exec) (hb : c.code = cc) (hml : c.maxLocals = nC) (hts : ∀ x ∈ hq_tbl, x.before args s = true) (hown : s.vm.findClass own = some m.cls) (hK : va_K D hq_cl (hq_tys cI cZ cL) s) (hP : va_P D hq_cl (hx_w q cI cZ cL xq_query ha_parents hf_classCount ha_classes ha_sizes ha_fields hf_objectCount hf_roots hf_changed sa_linkedFrom sa_linkCounts sa_retainedSets sa_retainedSizes sa_dominators sa_immediateDominators sf_objectCount sf_roots sf_reachable ta_codes ta_numbers tf_count ta_brackets tf_bracketCount tf_place tf_inWhere tf_compared wa_rows wf_count wf_looks ++ z) H) (hD : va_D A (hx_w q cI cZ cL xq_query ha_parents hf_classCount ha_classes ha_sizes ha_fields hf_objectCount hf_roots hf_changed sa_linkedFrom sa_linkCounts sa_retainedSets sa_retainedSizes sa_dominators sa_immediateDominators sf_objectCount sf_roots sf_reachable ta_codes ta_numbers tf_count ta_brackets tf_bracketCount tf_place tf_inWhere tf_compared wa_rows wf_count wf_looks ++ z)) (hS : va_S A H0 H locs) (h1 : Cond.methodLink own idx yxs_retainedSizeOf ∈ hq_tbl) (hR : 0 + 1 ≤ R.frames ∧ 8 + (2 + 11) + 0 ≤ R.locals) (hls : ls.size = nC) (hW : (rest.map fun v => v.category).sum ≤ 8) (hdg : decode cc pc = .ok (.invokevirtual idx, 3)) (hf : cells + 0 ≤ R.cells ∧ slots + 0 ≤ R.slots) (kk : ∀ (H1 : Heap) (locs1 : List Loc), va_P D hq_cl (hx_w q cI cZ cL xq_query ha_parents hf_classCount ha_classes ha_sizes ha_fields hf_objectCount hf_roots hf_changed sa_linkedFrom sa_linkCounts sa_retainedSets sa_retainedSizes sa_dominators sa_immediateDominators sf_objectCount sf_roots sf_reachable ta_codes ta_numbers tf_count ta_brackets tf_bracketCount tf_place tf_inWhere tf_compared wa_rows wf_count wf_looks ++ z) H1 → va_D A (hx_w q cI cZ cL xq_query ha_parents hf_classCount ha_classes ha_sizes ha_fields hf_objectCount hf_roots hf_changed sa_linkedFrom sa_linkCounts sa_retainedSets sa_retainedSizes sa_dominators sa_immediateDominators sf_objectCount sf_roots sf_reachable ta_codes ta_numbers tf_count ta_brackets tf_bracketCount tf_place tf_inWhere tf_compared wa_rows wf_count wf_looks ++ z) → va_S A H0 H1 locs1 → W p l e R s m args below meth c H1 locs1 cells slots Q (F0 m (pc + 3) ls (.int ur :: rest))) : W p l e R s m args below meth c H locs cells slots Q (F0 m pc ls (.int l1 :: .ref (q 2) :: rest)) :=
  hq_callV (q0 := 2) hx hb hml hown hts hK hP hD hS (cxs_retainedSizeOf l1 ur hu) rfl rfl h1 wi_287 wi_288 wi_252 wi_289 1 rfl (by decide +kernel) ⟨rfl, rfl⟩ hR hls rfl hW hdg hf kk
end
theorem dxq_retained_0 : decode bxq_retained 0 = .ok (.aload_n 0, 1) := by decide +kernel
theorem dxq_retained_1 : decode bxq_retained 1 = .ok (.getfield 12, 3) := by decide +kernel
theorem dxq_retained_4 : decode bxq_retained 4 = .ok (.iload_n 1, 1) := by decide +kernel
theorem dxq_retained_5 : decode bxq_retained 5 = .ok (.invokevirtual 38, 3) := by decide +kernel
theorem dxq_retained_8 : decode bxq_retained 8 = .ok (.ifCond .ne 5, 3) := by decide +kernel
theorem dxq_retained_11 : decode bxq_retained 11 = .ok (.iconst (-1), 1) := by decide +kernel
theorem dxq_retained_12 : decode bxq_retained 12 = .ok (.ireturn, 1) := by decide +kernel
theorem dxq_retained_13 : decode bxq_retained 13 = .ok (.aload_n 0, 1) := by decide +kernel
theorem dxq_retained_14 : decode bxq_retained 14 = .ok (.getfield 12, 3) := by decide +kernel
theorem dxq_retained_17 : decode bxq_retained 17 = .ok (.invokevirtual 59, 3) := by decide +kernel
theorem dxq_retained_20 : decode bxq_retained 20 = .ok (.aload_n 0, 1) := by decide +kernel
theorem dxq_retained_21 : decode bxq_retained 21 = .ok (.getfield 12, 3) := by decide +kernel
theorem dxq_retained_24 : decode bxq_retained 24 = .ok (.getfield 62, 3) := by decide +kernel
theorem dxq_retained_27 : decode bxq_retained 27 = .ok (.iload_n 1, 1) := by decide +kernel
theorem dxq_retained_28 : decode bxq_retained 28 = .ok (.invokevirtual 71, 3) := by decide +kernel
theorem dxq_retained_31 : decode bxq_retained 31 = .ok (.ireturn, 1) := by decide +kernel
section
variable {l : Launch} {D : va_G} {A : Nat → Prop} {z w : va_W} {q : Nat → Nat} {cI cZ cL : ClassId}
variable {hf_classCount hf_objectCount hf_roots hf_changed sf_objectCount sf_roots sf_reachable tf_count tf_bracketCount tf_place tf_inWhere tf_compared wf_count wf_looks n_code n_number s_isDistinct s_isRetained s_sourceClass s_withDescendants : Int32}
variable {ha_parents ha_classes ha_sizes sa_linkedFrom sa_linkCounts sa_retainedSets sa_retainedSizes sa_dominators sa_immediateDominators ta_codes ta_numbers ta_brackets : Nat → Int32}
variable {ha_fields wa_rows : Nat → Int64}
variable {xq_query n_left n_right s_row s_nested s_condition s_next : Option Nat}
variable {pa_n pk_n pa_s pk_s : Nat}
set_option maxHeartbeats 4000000 in
set_option maxRecDepth 100000 in
theorem cxq_retained (l1 : Int32) (ur : Int32 × Int32 × (Nat → Int32) × (Nat → Int32) × (Nat → Int32) × (Nat → Int32) × (Nat → Int32) × (Nat → Int32) × Int32 × Int32 × Int32) (h : sxq_retained l1 ha_sizes ha_fields hf_objectCount hf_roots hf_changed sa_linkedFrom sa_linkCounts sa_retainedSets sa_retainedSizes sa_dominators sa_immediateDominators sf_objectCount sf_roots sf_reachable = some ur) : hq_Ct l yxq_retained bxq_retained 2 (some .int) { frames := 5, cells := 0, slots := 0, locals := 110 } D (hq_tys cI cZ cL) A [.ref (q 0), .int l1] (hx_w q cI cZ cL xq_query ha_parents hf_classCount ha_classes ha_sizes ha_fields hf_objectCount hf_roots hf_changed sa_linkedFrom sa_linkCounts sa_retainedSets sa_retainedSizes sa_dominators sa_immediateDominators sf_objectCount sf_roots sf_reachable ta_codes ta_numbers tf_count ta_brackets tf_bracketCount tf_place tf_inWhere tf_compared wa_rows wf_count wf_looks ++ z) (hx_w q cI cZ cL xq_query ha_parents hf_classCount ha_classes ha_sizes ha_fields hf_objectCount hf_roots ur.2.1 ur.2.2.1 ur.2.2.2.1 ur.2.2.2.2.1 ur.2.2.2.2.2.1 ur.2.2.2.2.2.2.1 ur.2.2.2.2.2.2.2.1 ur.2.2.2.2.2.2.2.2.1 ur.2.2.2.2.2.2.2.2.2.1 ur.2.2.2.2.2.2.2.2.2.2 ta_codes ta_numbers tf_count ta_brackets tf_bracketCount tf_place tf_inWhere tf_compared wa_rows wf_count wf_looks ++ z) (some (.int ur.1)) 0 0 := by
  refine hq_of (by decide) ?_ (Nat.le_of_ble_eq_true rfl)
  intro p e s m below meth c R args Q hRm hQ hx hb hr hml hts hown hlocks hnm hP hK hD ls hl hS
  have hl : lv_has ls 2 [(0, .ref (q 0)), (1, .int l1)] := hl
  have hown : s.vm.findClass "HeapQueries" = some m.cls := hown
  unfold sxq_retained at h
  refine lv_aload_n hx hb dxq_retained_0 rfl (lv_at hl 0 rfl) ?_
  refine gx_0_heap hx hb hts hown hK hP wi_3 dxq_retained_1 ?_
  refine lv_iload_n hx hb dxq_retained_4 rfl (lv_at hl 1 rfl) ?_
  refine kxh_hasObject l1 (sxh_hasObject l1 hf_objectCount) rfl hx hb hml hts hown hK hP hD hS wi_14 (by rw [hRm]; exact ⟨Nat.le_of_ble_eq_true rfl, Nat.le_of_ble_eq_true rfl⟩) hl.1 (Nat.le_of_ble_eq_true rfl) dxq_retained_5 ⟨Nat.zero_le _, Nat.zero_le _⟩ (fun H locs hP hD hS => ?_)
  refine lv_if_ne (tgt := 13) hx hb dxq_retained_8 (by decide) (fun hc => ?_) (fun hc => ?_)
  · have h := (if_neg hc).symm.trans h
    refine lv_aload_n hx hb dxq_retained_13 rfl (lv_at hl 0 rfl) ?_
    refine gx_0_heap hx hb hts hown hK hP wi_3 dxq_retained_14 ?_
    obtain ⟨v17, h17, h⟩ := hq_bind h
    refine kxh_refreshSurvey  v17 h17 hx hb hml hts hown hK hP hD hS wi_46 (by rw [hRm]; exact ⟨Nat.le_of_ble_eq_true rfl, Nat.le_of_ble_eq_true rfl⟩) hl.1 (Nat.le_of_ble_eq_true rfl) dxq_retained_17 ⟨Nat.zero_le _, Nat.zero_le _⟩ (fun H locs hP hD hS => ?_)
    refine lv_aload_n hx hb dxq_retained_20 rfl (lv_at hl 0 rfl) ?_
    refine gx_0_heap hx hb hts hown hK hP wi_3 dxq_retained_21 ?_
    refine gx_1_survey hx hb hts hown hK hP wi_47 dxq_retained_24 ?_
    refine lv_iload_n hx hb dxq_retained_27 rfl (lv_at hl 1 rfl) ?_
    obtain ⟨v28, h28, h⟩ := hq_bind h
    refine kxs_retainedSizeOf l1 v28 h28 hx hb hml hts hown hK hP hD hS wi_49 (by rw [hRm]; exact ⟨Nat.le_of_ble_eq_true rfl, Nat.le_of_ble_eq_true rfl⟩) hl.1 (Nat.le_of_ble_eq_true rfl) dxq_retained_28 ⟨Nat.zero_le _, Nat.zero_le _⟩ (fun H locs hP hD hS => ?_)
    have h := Option.some.inj h
    exact hq_iret hx hb hr hlocks hQ hK hP hD hS (by rw [← h]) (by rw [← h]) dxq_retained_31
  · have h := (if_pos hc).symm.trans h
    refine lv_iconst (v := (-1)) hx hb dxq_retained_11 (by decide) ?_
    have h := Option.some.inj h
    exact hq_iret hx hb hr hlocks hQ hK hP hD hS (by rw [← h]) (by rw [← h]) dxq_retained_12
end
section
variable {p : Program} {l : Launch} {e : Env} {R : Room} {s : State} {m : MethodId} {args : Array Value} {below : List Frame} {meth : Method} {c : Code} {H H0 : Heap} {locs : List Loc} {cells slots : Nat} {Q : State → Prop}
variable {cc : ByteArray} {pc idx nC : Nat} {ls : Array Slot} {rest : List Value} {D : va_G} {A : Nat → Prop} {own : String} {q : Nat → Nat} {cI cZ cL : ClassId} {z w : va_W}
variable {hf_classCount hf_objectCount hf_roots hf_changed sf_objectCount sf_roots sf_reachable tf_count tf_bracketCount tf_place tf_inWhere tf_compared wf_count wf_looks n_code n_number s_isDistinct s_isRetained s_sourceClass s_withDescendants : Int32}
variable {ha_parents ha_classes ha_sizes sa_linkedFrom sa_linkCounts sa_retainedSets sa_retainedSizes sa_dominators sa_immediateDominators ta_codes ta_numbers ta_brackets : Nat → Int32}
variable {ha_fields wa_rows : Nat → Int64}
variable {xq_query n_left n_right s_row s_nested s_condition s_next : Option Nat}
variable {pa_n pk_n pa_s pk_s : Nat}
theorem kxq_retained (l1 : Int32) (ur : Int32 × Int32 × (Nat → Int32) × (Nat → Int32) × (Nat → Int32) × (Nat → Int32) × (Nat → Int32) × (Nat → Int32) × Int32 × Int32 × Int32) (hu : sxq_retained l1 ha_sizes ha_fields hf_objectCount hf_roots hf_changed sa_linkedFrom sa_linkCounts sa_retainedSets sa_retainedSizes sa_dominators sa_immediateDominators sf_objectCount sf_roots sf_reachable = some ur) (hx : p.tables.exec = Jvm.exec) (hb : c.code = cc) (hml : c.maxLocals = nC) (hts : ∀ x ∈ hq_tbl, x.before args s = true) (hown : s.vm.findClass own = some m.cls) (hK : va_K D hq_cl (hq_tys cI cZ cL) s) (hP : va_P D hq_cl (hx_w q cI cZ cL xq_query ha_parents hf_classCount ha_classes ha_sizes ha_fields hf_objectCount hf_roots hf_changed sa_linkedFrom sa_linkCounts sa_retainedSets sa_retainedSizes sa_dominators sa_immediateDominators sf_objectCount sf_roots sf_reachable ta_codes ta_numbers tf_count ta_brackets tf_bracketCount tf_place tf_inWhere tf_compared wa_rows wf_count wf_looks ++ z) H) (hD : va_D A (hx_w q cI cZ cL xq_query ha_parents hf_classCount ha_classes ha_sizes ha_fields hf_objectCount hf_roots hf_changed sa_linkedFrom sa_linkCounts sa_retainedSets sa_retainedSizes sa_dominators sa_immediateDominators sf_objectCount sf_roots sf_reachable ta_codes ta_numbers tf_count ta_brackets tf_bracketCount tf_place tf_inWhere tf_compared wa_rows wf_count wf_looks ++ z)) (hS : va_S A H0 H locs) (h1 : Cond.methodLink own idx yxq_retained ∈ hq_tbl) (hR : 5 + 1 ≤ R.frames ∧ 8 + (2 + 11) + 110 ≤ R.locals) (hls : ls.size = nC) (hW : (rest.map fun v => v.category).sum ≤ 8) (hdg : decode cc pc = .ok (.invokevirtual idx, 3)) (hf : cells + 0 ≤ R.cells ∧ slots + 0 ≤ R.slots) (kk : ∀ (H1 : Heap) (locs1 : List Loc), va_P D hq_cl (hx_w q cI cZ cL xq_query ha_parents hf_classCount ha_classes ha_sizes ha_fields hf_objectCount hf_roots ur.2.1 ur.2.2.1 ur.2.2.2.1 ur.2.2.2.2.1 ur.2.2.2.2.2.1 ur.2.2.2.2.2.2.1 ur.2.2.2.2.2.2.2.1 ur.2.2.2.2.2.2.2.2.1 ur.2.2.2.2.2.2.2.2.2.1 ur.2.2.2.2.2.2.2.2.2.2 ta_codes ta_numbers tf_count ta_brackets tf_bracketCount tf_place tf_inWhere tf_compared wa_rows wf_count wf_looks ++ z) H1 → va_D A (hx_w q cI cZ cL xq_query ha_parents hf_classCount ha_classes ha_sizes ha_fields hf_objectCount hf_roots ur.2.1 ur.2.2.1 ur.2.2.2.1 ur.2.2.2.2.1 ur.2.2.2.2.2.1 ur.2.2.2.2.2.2.1 ur.2.2.2.2.2.2.2.1 ur.2.2.2.2.2.2.2.2.1 ur.2.2.2.2.2.2.2.2.2.1 ur.2.2.2.2.2.2.2.2.2.2 ta_codes ta_numbers tf_count ta_brackets tf_bracketCount tf_place tf_inWhere tf_compared wa_rows wf_count wf_looks ++ z) → va_S A H0 H1 locs1 → W p l e R s m args below meth c H1 locs1 cells slots Q (F0 m (pc + 3) ls (.int ur.1 :: rest))) : W p l e R s m args below meth c H locs cells slots Q (F0 m pc ls (.int l1 :: .ref (q 0) :: rest)) :=
  hq_callV (q0 := 0) hx hb hml hown hts hK hP hD hS (cxq_retained l1 ur hu) rfl rfl h1 wi_290 wi_291 wi_209 wi_292 1 rfl (by decide +kernel) ⟨rfl, rfl⟩ hR hls rfl hW hdg hf kk
end
theorem dxq_isNumberAllowed_0 : decode bxq_isNumberAllowed 0 = .ok (.iload_n 1, 1) := by decide +kernel
theorem dxq_isNumberAllowed_1 : decode bxq_isNumberAllowed 1 = .ok (.tableswitch 83 8 14 #[43, 43, 83, 83, 83, 52, 67], 43) := by decide +kernel
theorem dxq_isNumberAllowed_44 : decode bxq_isNumberAllowed 44 = .ok (.aload_n 0, 1) := by decide +kernel
theorem dxq_isNumberAllowed_45 : decode bxq_isNumberAllowed 45 = .ok (.getfield 12, 3) := by decide +kernel
theorem dxq_isNumberAllowed_48 : decode bxq_isNumberAllowed 48 = .ok (.iload_n 2, 1) := by decide +kernel
theorem dxq_isNumberAllowed_49 : decode bxq_isNumberAllowed 49 = .ok (.invokevirtual 94, 3) := by decide +kernel
theorem dxq_isNumberAllowed_52 : decode bxq_isNumberAllowed 52 = .ok (.ireturn, 1) := by decide +kernel
theorem dxq_isNumberAllowed_53 : decode bxq_isNumberAllowed 53 = .ok (.iload_n 2, 1) := by decide +kernel
theorem dxq_isNumberAllowed_54 : decode bxq_isNumberAllowed 54 = .ok (.ifCond .lt 12, 3) := by decide +kernel
theorem dxq_isNumberAllowed_57 : decode bxq_isNumberAllowed 57 = .ok (.iload_n 2, 1) := by decide +kernel
theorem dxq_isNumberAllowed_58 : decode bxq_isNumberAllowed 58 = .ok (.iconst 4, 1) := by decide +kernel
theorem dxq_isNumberAllowed_59 : decode bxq_isNumberAllowed 59 = .ok (.if_icmp .ge 7, 3) := by decide +kernel
theorem dxq_isNumberAllowed_62 : decode bxq_isNumberAllowed 62 = .ok (.iconst 1, 1) := by decide +kernel
theorem dxq_isNumberAllowed_63 : decode bxq_isNumberAllowed 63 = .ok (.goto 4, 3) := by decide +kernel
theorem dxq_isNumberAllowed_66 : decode bxq_isNumberAllowed 66 = .ok (.iconst 0, 1) := by decide +kernel
theorem dxq_isNumberAllowed_67 : decode bxq_isNumberAllowed 67 = .ok (.ireturn, 1) := by decide +kernel
theorem dxq_isNumberAllowed_68 : decode bxq_isNumberAllowed 68 = .ok (.iload_n 2, 1) := by decide +kernel
theorem dxq_isNumberAllowed_69 : decode bxq_isNumberAllowed 69 = .ok (.ifCond .lt 13, 3) := by decide +kernel
theorem dxq_isNumberAllowed_72 : decode bxq_isNumberAllowed 72 = .ok (.iload_n 2, 1) := by decide +kernel
theorem dxq_isNumberAllowed_73 : decode bxq_isNumberAllowed 73 = .ok (.bipush 6, 2) := by decide +kernel
theorem dxq_isNumberAllowed_75 : decode bxq_isNumberAllowed 75 = .ok (.if_icmp .ge 7, 3) := by decide +kernel
theorem dxq_isNumberAllowed_78 : decode bxq_isNumberAllowed 78 = .ok (.iconst 1, 1) := by decide +kernel
theorem dxq_isNumberAllowed_79 : decode bxq_isNumberAllowed 79 = .ok (.goto 4, 3) := by decide +kernel
theorem dxq_isNumberAllowed_82 : decode bxq_isNumberAllowed 82 = .ok (.iconst 0, 1) := by decide +kernel
theorem dxq_isNumberAllowed_83 : decode bxq_isNumberAllowed 83 = .ok (.ireturn, 1) := by decide +kernel
theorem dxq_isNumberAllowed_84 : decode bxq_isNumberAllowed 84 = .ok (.iconst 1, 1) := by decide +kernel
theorem dxq_isNumberAllowed_85 : decode bxq_isNumberAllowed 85 = .ok (.ireturn, 1) := by decide +kernel
section
variable {l : Launch} {D : va_G} {A : Nat → Prop} {z w : va_W} {q : Nat → Nat} {cI cZ cL : ClassId}
variable {hf_classCount hf_objectCount hf_roots hf_changed sf_objectCount sf_roots sf_reachable tf_count tf_bracketCount tf_place tf_inWhere tf_compared wf_count wf_looks n_code n_number s_isDistinct s_isRetained s_sourceClass s_withDescendants : Int32}
variable {ha_parents ha_classes ha_sizes sa_linkedFrom sa_linkCounts sa_retainedSets sa_retainedSizes sa_dominators sa_immediateDominators ta_codes ta_numbers ta_brackets : Nat → Int32}
variable {ha_fields wa_rows : Nat → Int64}
variable {xq_query n_left n_right s_row s_nested s_condition s_next : Option Nat}
variable {pa_n pk_n pa_s pk_s : Nat}
set_option maxHeartbeats 4000000 in
set_option maxRecDepth 100000 in
theorem cxq_isNumberAllowed (l1 : Int32) (l2 : Int32) (ur : Int32) (h : sxq_isNumberAllowed l1 l2 hf_classCount = some ur) : hq_Ct l yxq_isNumberAllowed bxq_isNumberAllowed 3 (some .boolean) { frames := 1, cells := 0, slots := 0, locals := 21 } D (hq_tys cI cZ cL) A [.ref (q 0), .int l1, .int l2] (hx_w q cI cZ cL xq_query ha_parents hf_classCount ha_classes ha_sizes ha_fields hf_objectCount hf_roots hf_changed sa_linkedFrom sa_linkCounts sa_retainedSets sa_retainedSizes sa_dominators sa_immediateDominators sf_objectCount sf_roots sf_reachable ta_codes ta_numbers tf_count ta_brackets tf_bracketCount tf_place tf_inWhere tf_compared wa_rows wf_count wf_looks ++ z) (hx_w q cI cZ cL xq_query ha_parents hf_classCount ha_classes ha_sizes ha_fields hf_objectCount hf_roots hf_changed sa_linkedFrom sa_linkCounts sa_retainedSets sa_retainedSizes sa_dominators sa_immediateDominators sf_objectCount sf_roots sf_reachable ta_codes ta_numbers tf_count ta_brackets tf_bracketCount tf_place tf_inWhere tf_compared wa_rows wf_count wf_looks ++ z) (some (.int ur)) 0 0 := by
  refine hq_of (by decide) ?_ (Nat.le_of_ble_eq_true rfl)
  intro p e s m below meth c R args Q hRm hQ hx hb hr hml hts hown hlocks hnm hP hK hD ls hl hS
  have hl : lv_has ls 3 [(0, .ref (q 0)), (1, .int l1), (2, .int l2)] := hl
  have hown : s.vm.findClass "HeapQueries" = some m.cls := hown
  unfold sxq_isNumberAllowed at h
  refine lv_iload_n hx hb dxq_isNumberAllowed_0 rfl (lv_at hl 1 rfl) ?_
  by_cases hk0 : l1 = 8
  · have h := (if_pos hk0).symm.trans h
    refine lv_tableIn (off := 43) (tgt := 44) hx hb dxq_isNumberAllowed_1 (by rw [hk0]; decide) (by rw [hk0]; decide) (by rw [hk0]; rfl) (by decide) ?_
    refine lv_aload_n hx hb dxq_isNumberAllowed_44 rfl (lv_at hl 0 rfl) ?_
    refine gx_0_heap hx hb hts hown hK hP wi_3 dxq_isNumberAllowed_45 ?_
    refine lv_iload_n hx hb dxq_isNumberAllowed_48 rfl (lv_at hl 2 rfl) ?_
    refine kxh_hasClass l2 (sxh_hasClass l2 hf_classCount) rfl hx hb hml hts hown hK hP hD hS wi_50 (by rw [hRm]; exact ⟨Nat.le_of_ble_eq_true rfl, Nat.le_of_ble_eq_true rfl⟩) hl.1 (Nat.le_of_ble_eq_true rfl) dxq_isNumberAllowed_49 ⟨Nat.zero_le _, Nat.zero_le _⟩ (fun H locs hP hD hS => ?_)
    obtain ⟨hz, h⟩ := hq_ok h
    have h := Option.some.inj h
    exact hq_zret hx hb hr hlocks hQ hK hP hD hS hz (by rw [← h]) rfl dxq_isNumberAllowed_52
  · have h := (if_neg hk0).symm.trans h
    by_cases hk1 : l1 = 9
    · have h := (if_pos hk1).symm.trans h
      refine lv_tableIn (off := 43) (tgt := 44) hx hb dxq_isNumberAllowed_1 (by rw [hk1]; decide) (by rw [hk1]; decide) (by rw [hk1]; rfl) (by decide) ?_
      refine lv_aload_n hx hb dxq_isNumberAllowed_44 rfl (lv_at hl 0 rfl) ?_
      refine gx_0_heap hx hb hts hown hK hP wi_3 dxq_isNumberAllowed_45 ?_
      refine lv_iload_n hx hb dxq_isNumberAllowed_48 rfl (lv_at hl 2 rfl) ?_
      refine kxh_hasClass l2 (sxh_hasClass l2 hf_classCount) rfl hx hb hml hts hown hK hP hD hS wi_50 (by rw [hRm]; exact ⟨Nat.le_of_ble_eq_true rfl, Nat.le_of_ble_eq_true rfl⟩) hl.1 (Nat.le_of_ble_eq_true rfl) dxq_isNumberAllowed_49 ⟨Nat.zero_le _, Nat.zero_le _⟩ (fun H locs hP hD hS => ?_)
      obtain ⟨hz, h⟩ := hq_ok h
      have h := Option.some.inj h
      exact hq_zret hx hb hr hlocks hQ hK hP hD hS hz (by rw [← h]) rfl dxq_isNumberAllowed_52
    · have h := (if_neg hk1).symm.trans h
      by_cases hk2 : l1 = 10
      · have h := (if_pos hk2).symm.trans h
        refine lv_tableIn (off := 83) (tgt := 84) hx hb dxq_isNumberAllowed_1 (by rw [hk2]; decide) (by rw [hk2]; decide) (by rw [hk2]; rfl) (by decide) ?_
        refine lv_iconst (v := 1) hx hb dxq_isNumberAllowed_84 (by decide) ?_
        have h := Option.some.inj h
        exact hq_zret hx hb hr hlocks hQ hK hP hD hS (by decide) (by rw [← h]) rfl dxq_isNumberAllowed_85
      · have h := (if_neg hk2).symm.trans h
        by_cases hk3 : l1 = 11
        · have h := (if_pos hk3).symm.trans h
          refine lv_tableIn (off := 83) (tgt := 84) hx hb dxq_isNumberAllowed_1 (by rw [hk3]; decide) (by rw [hk3]; decide) (by rw [hk3]; rfl) (by decide) ?_
          refine lv_iconst (v := 1) hx hb dxq_isNumberAllowed_84 (by decide) ?_
          have h := Option.some.inj h
          exact hq_zret hx hb hr hlocks hQ hK hP hD hS (by decide) (by rw [← h]) rfl dxq_isNumberAllowed_85
        · have h := (if_neg hk3).symm.trans h
          by_cases hk4 : l1 = 12
          · have h := (if_pos hk4).symm.trans h
            refine lv_tableIn (off := 83) (tgt := 84) hx hb dxq_isNumberAllowed_1 (by rw [hk4]; decide) (by rw [hk4]; decide) (by rw [hk4]; rfl) (by decide) ?_
            refine lv_iconst (v := 1) hx hb dxq_isNumberAllowed_84 (by decide) ?_
            have h := Option.some.inj h
            exact hq_zret hx hb hr hlocks hQ hK hP hD hS (by decide) (by rw [← h]) rfl dxq_isNumberAllowed_85
          · have h := (if_neg hk4).symm.trans h
            by_cases hk5 : l1 = 13
            · have h := (if_pos hk5).symm.trans h
              refine lv_tableIn (off := 52) (tgt := 53) hx hb dxq_isNumberAllowed_1 (by rw [hk5]; decide) (by rw [hk5]; decide) (by rw [hk5]; rfl) (by decide) ?_
              refine lv_iload_n hx hb dxq_isNumberAllowed_53 rfl (lv_at hl 2 rfl) ?_
              refine lv_if_lt (tgt := 66) hx hb dxq_isNumberAllowed_54 (by decide) (fun hc => ?_) (fun hc => ?_)
              · have h := (if_pos hc).symm.trans h
                refine lv_iconst (v := 0) hx hb dxq_isNumberAllowed_66 (by decide) ?_
                have h := Option.some.inj h
                exact hq_zret hx hb hr hlocks hQ hK hP hD hS (by decide) (by rw [← h]) rfl dxq_isNumberAllowed_67
              · have h := (if_neg hc).symm.trans h
                refine lv_iload_n hx hb dxq_isNumberAllowed_57 rfl (lv_at hl 2 rfl) ?_
                refine lv_iconst (v := 4) hx hb dxq_isNumberAllowed_58 (by decide) ?_
                refine lv_icmp_ge (tgt := 66) hx hb dxq_isNumberAllowed_59 (by decide) (fun hc => ?_) (fun hc => ?_)
                · have h := (if_pos hc).symm.trans h
                  refine lv_iconst (v := 0) hx hb dxq_isNumberAllowed_66 (by decide) ?_
                  have h := Option.some.inj h
                  exact hq_zret hx hb hr hlocks hQ hK hP hD hS (by decide) (by rw [← h]) rfl dxq_isNumberAllowed_67
                · have h := (if_neg hc).symm.trans h
                  refine lv_iconst (v := 1) hx hb dxq_isNumberAllowed_62 (by decide) ?_
                  refine lv_goto (tgt := 67) hx hb dxq_isNumberAllowed_63 (by decide) ?_
                  have h := Option.some.inj h
                  exact hq_zret hx hb hr hlocks hQ hK hP hD hS (by decide) (by rw [← h]) rfl dxq_isNumberAllowed_67
            · have h := (if_neg hk5).symm.trans h
              by_cases hk6 : l1 = 14
              · have h := (if_pos hk6).symm.trans h
                refine lv_tableIn (off := 67) (tgt := 68) hx hb dxq_isNumberAllowed_1 (by rw [hk6]; decide) (by rw [hk6]; decide) (by rw [hk6]; rfl) (by decide) ?_
                refine lv_iload_n hx hb dxq_isNumberAllowed_68 rfl (lv_at hl 2 rfl) ?_
                refine lv_if_lt (tgt := 82) hx hb dxq_isNumberAllowed_69 (by decide) (fun hc => ?_) (fun hc => ?_)
                · have h := (if_pos hc).symm.trans h
                  refine lv_iconst (v := 0) hx hb dxq_isNumberAllowed_82 (by decide) ?_
                  have h := Option.some.inj h
                  exact hq_zret hx hb hr hlocks hQ hK hP hD hS (by decide) (by rw [← h]) rfl dxq_isNumberAllowed_83
                · have h := (if_neg hc).symm.trans h
                  refine lv_iload_n hx hb dxq_isNumberAllowed_72 rfl (lv_at hl 2 rfl) ?_
                  refine lv_bipush (v := 6) hx hb dxq_isNumberAllowed_73 (by decide) ?_
                  refine lv_icmp_ge (tgt := 82) hx hb dxq_isNumberAllowed_75 (by decide) (fun hc => ?_) (fun hc => ?_)
                  · have h := (if_pos hc).symm.trans h
                    refine lv_iconst (v := 0) hx hb dxq_isNumberAllowed_82 (by decide) ?_
                    have h := Option.some.inj h
                    exact hq_zret hx hb hr hlocks hQ hK hP hD hS (by decide) (by rw [← h]) rfl dxq_isNumberAllowed_83
                  · have h := (if_neg hc).symm.trans h
                    refine lv_iconst (v := 1) hx hb dxq_isNumberAllowed_78 (by decide) ?_
                    refine lv_goto (tgt := 83) hx hb dxq_isNumberAllowed_79 (by decide) ?_
                    have h := Option.some.inj h
                    exact hq_zret hx hb hr hlocks hQ hK hP hD hS (by decide) (by rw [← h]) rfl dxq_isNumberAllowed_83
              · have h := (if_neg hk6).symm.trans h
                refine lv_tableOut (tgt := 84) hx hb dxq_isNumberAllowed_1 (by have a0 := lv_neT (a := 8) hk0 (by decide); have a1 := lv_neT (a := 9) hk1 (by decide); have a2 := lv_neT (a := 10) hk2 (by decide); have a3 := lv_neT (a := 11) hk3 (by decide); have a4 := lv_neT (a := 12) hk4 (by decide); have a5 := lv_neT (a := 13) hk5 (by decide); have a6 := lv_neT (a := 14) hk6 (by decide); omega) (by decide) ?_
                refine lv_iconst (v := 1) hx hb dxq_isNumberAllowed_84 (by decide) ?_
                have h := Option.some.inj h
                exact hq_zret hx hb hr hlocks hQ hK hP hD hS (by decide) (by rw [← h]) rfl dxq_isNumberAllowed_85
end
section
variable {p : Program} {l : Launch} {e : Env} {R : Room} {s : State} {m : MethodId} {args : Array Value} {below : List Frame} {meth : Method} {c : Code} {H H0 : Heap} {locs : List Loc} {cells slots : Nat} {Q : State → Prop}
variable {cc : ByteArray} {pc idx nC : Nat} {ls : Array Slot} {rest : List Value} {D : va_G} {A : Nat → Prop} {own : String} {q : Nat → Nat} {cI cZ cL : ClassId} {z w : va_W}
variable {hf_classCount hf_objectCount hf_roots hf_changed sf_objectCount sf_roots sf_reachable tf_count tf_bracketCount tf_place tf_inWhere tf_compared wf_count wf_looks n_code n_number s_isDistinct s_isRetained s_sourceClass s_withDescendants : Int32}
variable {ha_parents ha_classes ha_sizes sa_linkedFrom sa_linkCounts sa_retainedSets sa_retainedSizes sa_dominators sa_immediateDominators ta_codes ta_numbers ta_brackets : Nat → Int32}
variable {ha_fields wa_rows : Nat → Int64}
variable {xq_query n_left n_right s_row s_nested s_condition s_next : Option Nat}
variable {pa_n pk_n pa_s pk_s : Nat}
theorem kxq_isNumberAllowed (l1 : Int32) (l2 : Int32) (ur : Int32) (hu : sxq_isNumberAllowed l1 l2 hf_classCount = some ur) (hx : p.tables.exec = Jvm.exec) (hb : c.code = cc) (hml : c.maxLocals = nC) (hts : ∀ x ∈ hq_tbl, x.before args s = true) (hown : s.vm.findClass own = some m.cls) (hK : va_K D hq_cl (hq_tys cI cZ cL) s) (hP : va_P D hq_cl (hx_w q cI cZ cL xq_query ha_parents hf_classCount ha_classes ha_sizes ha_fields hf_objectCount hf_roots hf_changed sa_linkedFrom sa_linkCounts sa_retainedSets sa_retainedSizes sa_dominators sa_immediateDominators sf_objectCount sf_roots sf_reachable ta_codes ta_numbers tf_count ta_brackets tf_bracketCount tf_place tf_inWhere tf_compared wa_rows wf_count wf_looks ++ z) H) (hD : va_D A (hx_w q cI cZ cL xq_query ha_parents hf_classCount ha_classes ha_sizes ha_fields hf_objectCount hf_roots hf_changed sa_linkedFrom sa_linkCounts sa_retainedSets sa_retainedSizes sa_dominators sa_immediateDominators sf_objectCount sf_roots sf_reachable ta_codes ta_numbers tf_count ta_brackets tf_bracketCount tf_place tf_inWhere tf_compared wa_rows wf_count wf_looks ++ z)) (hS : va_S A H0 H locs) (h1 : Cond.methodLink own idx yxq_isNumberAllowed ∈ hq_tbl) (hR : 1 + 1 ≤ R.frames ∧ 8 + (3 + 11) + 21 ≤ R.locals) (hls : ls.size = nC) (hW : (rest.map fun v => v.category).sum ≤ 8) (hdg : decode cc pc = .ok (.invokevirtual idx, 3)) (hf : cells + 0 ≤ R.cells ∧ slots + 0 ≤ R.slots) (kk : ∀ (H1 : Heap) (locs1 : List Loc), va_P D hq_cl (hx_w q cI cZ cL xq_query ha_parents hf_classCount ha_classes ha_sizes ha_fields hf_objectCount hf_roots hf_changed sa_linkedFrom sa_linkCounts sa_retainedSets sa_retainedSizes sa_dominators sa_immediateDominators sf_objectCount sf_roots sf_reachable ta_codes ta_numbers tf_count ta_brackets tf_bracketCount tf_place tf_inWhere tf_compared wa_rows wf_count wf_looks ++ z) H1 → va_D A (hx_w q cI cZ cL xq_query ha_parents hf_classCount ha_classes ha_sizes ha_fields hf_objectCount hf_roots hf_changed sa_linkedFrom sa_linkCounts sa_retainedSets sa_retainedSizes sa_dominators sa_immediateDominators sf_objectCount sf_roots sf_reachable ta_codes ta_numbers tf_count ta_brackets tf_bracketCount tf_place tf_inWhere tf_compared wa_rows wf_count wf_looks ++ z) → va_S A H0 H1 locs1 → W p l e R s m args below meth c H1 locs1 cells slots Q (F0 m (pc + 3) ls (.int ur :: rest))) : W p l e R s m args below meth c H locs cells slots Q (F0 m pc ls (.int l2 :: .int l1 :: .ref (q 0) :: rest)) :=
  hq_callV (q0 := 0) hx hb hml hown hts hK hP hD hS (cxq_isNumberAllowed l1 l2 ur hu) rfl rfl h1 wi_293 wi_294 wi_209 wi_295 2 rfl (by decide +kernel) ⟨rfl, rfl⟩ hR hls rfl hW hdg hf kk
end
theorem dxt_length_0 : decode bxt_length 0 = .ok (.aload_n 0, 1) := by decide +kernel
theorem dxt_length_1 : decode bxt_length 1 = .ok (.getfield 25, 3) := by decide +kernel
theorem dxt_length_4 : decode bxt_length 4 = .ok (.ireturn, 1) := by decide +kernel
section
variable {l : Launch} {D : va_G} {A : Nat → Prop} {z w : va_W} {q : Nat → Nat} {cI cZ cL : ClassId}
variable {hf_classCount hf_objectCount hf_roots hf_changed sf_objectCount sf_roots sf_reachable tf_count tf_bracketCount tf_place tf_inWhere tf_compared wf_count wf_looks n_code n_number s_isDistinct s_isRetained s_sourceClass s_withDescendants : Int32}
variable {ha_parents ha_classes ha_sizes sa_linkedFrom sa_linkCounts sa_retainedSets sa_retainedSizes sa_dominators sa_immediateDominators ta_codes ta_numbers ta_brackets : Nat → Int32}
variable {ha_fields wa_rows : Nat → Int64}
variable {xq_query n_left n_right s_row s_nested s_condition s_next : Option Nat}
variable {pa_n pk_n pa_s pk_s : Nat}
set_option maxHeartbeats 4000000 in
set_option maxRecDepth 100000 in
theorem cxt_length  (ur : Int32) (h : sxt_length tf_count = ur) : hq_Ct l yxt_length bxt_length 1 (some .int) { frames := 0, cells := 0, slots := 0, locals := 0 } D (hq_tys cI cZ cL) A [.ref (q 3)] (hx_w q cI cZ cL xq_query ha_parents hf_classCount ha_classes ha_sizes ha_fields hf_objectCount hf_roots hf_changed sa_linkedFrom sa_linkCounts sa_retainedSets sa_retainedSizes sa_dominators sa_immediateDominators sf_objectCount sf_roots sf_reachable ta_codes ta_numbers tf_count ta_brackets tf_bracketCount tf_place tf_inWhere tf_compared wa_rows wf_count wf_looks ++ z) (hx_w q cI cZ cL xq_query ha_parents hf_classCount ha_classes ha_sizes ha_fields hf_objectCount hf_roots hf_changed sa_linkedFrom sa_linkCounts sa_retainedSets sa_retainedSizes sa_dominators sa_immediateDominators sf_objectCount sf_roots sf_reachable ta_codes ta_numbers tf_count ta_brackets tf_bracketCount tf_place tf_inWhere tf_compared wa_rows wf_count wf_looks ++ z) (some (.int ur)) 0 0 := by
  refine hq_of (by decide) ?_ (Nat.le_of_ble_eq_true rfl)
  intro p e s m below meth c R args Q hRm hQ hx hb hr hml hts hown hlocks hnm hP hK hD ls hl hS
  have hl : lv_has ls 1 [(0, .ref (q 3))] := hl
  have hown : s.vm.findClass "HeapQueries$Text" = some m.cls := hown
  unfold sxt_length at h
  refine lv_aload_n hx hb dxt_length_0 rfl (lv_at hl 0 rfl) ?_
  refine gx_3_count hx hb hts hown hK hP wi_51 dxt_length_1 ?_
  exact hq_iret hx hb hr hlocks hQ hK hP hD hS (by rw [← h]) rfl dxt_length_4
end
section
variable {p : Program} {l : Launch} {e : Env} {R : Room} {s : State} {m : MethodId} {args : Array Value} {below : List Frame} {meth : Method} {c : Code} {H H0 : Heap} {locs : List Loc} {cells slots : Nat} {Q : State → Prop}
variable {cc : ByteArray} {pc idx nC : Nat} {ls : Array Slot} {rest : List Value} {D : va_G} {A : Nat → Prop} {own : String} {q : Nat → Nat} {cI cZ cL : ClassId} {z w : va_W}
variable {hf_classCount hf_objectCount hf_roots hf_changed sf_objectCount sf_roots sf_reachable tf_count tf_bracketCount tf_place tf_inWhere tf_compared wf_count wf_looks n_code n_number s_isDistinct s_isRetained s_sourceClass s_withDescendants : Int32}
variable {ha_parents ha_classes ha_sizes sa_linkedFrom sa_linkCounts sa_retainedSets sa_retainedSizes sa_dominators sa_immediateDominators ta_codes ta_numbers ta_brackets : Nat → Int32}
variable {ha_fields wa_rows : Nat → Int64}
variable {xq_query n_left n_right s_row s_nested s_condition s_next : Option Nat}
variable {pa_n pk_n pa_s pk_s : Nat}
theorem kxt_length  (ur : Int32) (hu : sxt_length tf_count = ur) (hx : p.tables.exec = Jvm.exec) (hb : c.code = cc) (hml : c.maxLocals = nC) (hts : ∀ x ∈ hq_tbl, x.before args s = true) (hown : s.vm.findClass own = some m.cls) (hK : va_K D hq_cl (hq_tys cI cZ cL) s) (hP : va_P D hq_cl (hx_w q cI cZ cL xq_query ha_parents hf_classCount ha_classes ha_sizes ha_fields hf_objectCount hf_roots hf_changed sa_linkedFrom sa_linkCounts sa_retainedSets sa_retainedSizes sa_dominators sa_immediateDominators sf_objectCount sf_roots sf_reachable ta_codes ta_numbers tf_count ta_brackets tf_bracketCount tf_place tf_inWhere tf_compared wa_rows wf_count wf_looks ++ z) H) (hD : va_D A (hx_w q cI cZ cL xq_query ha_parents hf_classCount ha_classes ha_sizes ha_fields hf_objectCount hf_roots hf_changed sa_linkedFrom sa_linkCounts sa_retainedSets sa_retainedSizes sa_dominators sa_immediateDominators sf_objectCount sf_roots sf_reachable ta_codes ta_numbers tf_count ta_brackets tf_bracketCount tf_place tf_inWhere tf_compared wa_rows wf_count wf_looks ++ z)) (hS : va_S A H0 H locs) (h1 : Cond.methodLink own idx yxt_length ∈ hq_tbl) (hR : 0 + 1 ≤ R.frames ∧ 8 + (1 + 11) + 0 ≤ R.locals) (hls : ls.size = nC) (hW : (rest.map fun v => v.category).sum ≤ 8) (hdg : decode cc pc = .ok (.invokevirtual idx, 3)) (hf : cells + 0 ≤ R.cells ∧ slots + 0 ≤ R.slots) (kk : ∀ (H1 : Heap) (locs1 : List Loc), va_P D hq_cl (hx_w q cI cZ cL xq_query ha_parents hf_classCount ha_classes ha_sizes ha_fields hf_objectCount hf_roots hf_changed sa_linkedFrom sa_linkCounts sa_retainedSets sa_retainedSizes sa_dominators sa_immediateDominators sf_objectCount sf_roots sf_reachable ta_codes ta_numbers tf_count ta_brackets tf_bracketCount tf_place tf_inWhere tf_compared wa_rows wf_count wf_looks ++ z) H1 → va_D A (hx_w q cI cZ cL xq_query ha_parents hf_classCount ha_classes ha_sizes ha_fields hf_objectCount hf_roots hf_changed sa_linkedFrom sa_linkCounts sa_retainedSets sa_retainedSizes sa_dominators sa_immediateDominators sf_objectCount sf_roots sf_reachable ta_codes ta_numbers tf_count ta_brackets tf_bracketCount tf_place tf_inWhere tf_compared wa_rows wf_count wf_looks ++ z) → va_S A H0 H1 locs1 → W p l e R s m args below meth c H1 locs1 cells slots Q (F0 m (pc + 3) ls (.int ur :: rest))) : W p l e R s m args below meth c H locs cells slots Q (F0 m pc ls (.ref (q 3) :: rest)) :=
  hq_callV (q0 := 3) hx hb hml hown hts hK hP hD hS (cxt_length  ur hu) rfl rfl h1 wi_296 wi_297 wi_298 wi_299 0 rfl (by decide +kernel) ⟨rfl, rfl⟩ hR hls rfl hW hdg hf kk
end
theorem dxq_tokens_0 : decode bxq_tokens 0 = .ok (.aload_n 0, 1) := by decide +kernel
theorem dxq_tokens_1 : decode bxq_tokens 1 = .ok (.getfield 19, 3) := by decide +kernel
theorem dxq_tokens_4 : decode bxq_tokens 4 = .ok (.invokevirtual 97, 3) := by decide +kernel
theorem dxq_tokens_7 : decode bxq_tokens 7 = .ok (.ireturn, 1) := by decide +kernel
section
variable {l : Launch} {D : va_G} {A : Nat → Prop} {z w : va_W} {q : Nat → Nat} {cI cZ cL : ClassId}
variable {hf_classCount hf_objectCount hf_roots hf_changed sf_objectCount sf_roots sf_reachable tf_count tf_bracketCount tf_place tf_inWhere tf_compared wf_count wf_looks n_code n_number s_isDistinct s_isRetained s_sourceClass s_withDescendants : Int32}
variable {ha_parents ha_classes ha_sizes sa_linkedFrom sa_linkCounts sa_retainedSets sa_retainedSizes sa_dominators sa_immediateDominators ta_codes ta_numbers ta_brackets : Nat → Int32}
variable {ha_fields wa_rows : Nat → Int64}
variable {xq_query n_left n_right s_row s_nested s_condition s_next : Option Nat}
variable {pa_n pk_n pa_s pk_s : Nat}
set_option maxHeartbeats 4000000 in
set_option maxRecDepth 100000 in
theorem cxq_tokens  (ur : Int32) (h : sxq_tokens tf_count = ur) : hq_Ct l yxq_tokens bxq_tokens 1 (some .int) { frames := 1, cells := 0, slots := 0, locals := 20 } D (hq_tys cI cZ cL) A [.ref (q 0)] (hx_w q cI cZ cL xq_query ha_parents hf_classCount ha_classes ha_sizes ha_fields hf_objectCount hf_roots hf_changed sa_linkedFrom sa_linkCounts sa_retainedSets sa_retainedSizes sa_dominators sa_immediateDominators sf_objectCount sf_roots sf_reachable ta_codes ta_numbers tf_count ta_brackets tf_bracketCount tf_place tf_inWhere tf_compared wa_rows wf_count wf_looks ++ z) (hx_w q cI cZ cL xq_query ha_parents hf_classCount ha_classes ha_sizes ha_fields hf_objectCount hf_roots hf_changed sa_linkedFrom sa_linkCounts sa_retainedSets sa_retainedSizes sa_dominators sa_immediateDominators sf_objectCount sf_roots sf_reachable ta_codes ta_numbers tf_count ta_brackets tf_bracketCount tf_place tf_inWhere tf_compared wa_rows wf_count wf_looks ++ z) (some (.int ur)) 0 0 := by
  refine hq_of (by decide) ?_ (Nat.le_of_ble_eq_true rfl)
  intro p e s m below meth c R args Q hRm hQ hx hb hr hml hts hown hlocks hnm hP hK hD ls hl hS
  have hl : lv_has ls 1 [(0, .ref (q 0))] := hl
  have hown : s.vm.findClass "HeapQueries" = some m.cls := hown
  unfold sxq_tokens at h
  refine lv_aload_n hx hb dxq_tokens_0 rfl (lv_at hl 0 rfl) ?_
  refine gx_0_text hx hb hts hown hK hP wi_52 dxq_tokens_1 ?_
  refine kxt_length  (sxt_length tf_count) rfl hx hb hml hts hown hK hP hD hS wi_53 (by rw [hRm]; exact ⟨Nat.le_of_ble_eq_true rfl, Nat.le_of_ble_eq_true rfl⟩) hl.1 (Nat.le_of_ble_eq_true rfl) dxq_tokens_4 ⟨Nat.zero_le _, Nat.zero_le _⟩ (fun H locs hP hD hS => ?_)
  exact hq_iret hx hb hr hlocks hQ hK hP hD hS (by rw [← h]) rfl dxq_tokens_7
end
section
variable {p : Program} {l : Launch} {e : Env} {R : Room} {s : State} {m : MethodId} {args : Array Value} {below : List Frame} {meth : Method} {c : Code} {H H0 : Heap} {locs : List Loc} {cells slots : Nat} {Q : State → Prop}
variable {cc : ByteArray} {pc idx nC : Nat} {ls : Array Slot} {rest : List Value} {D : va_G} {A : Nat → Prop} {own : String} {q : Nat → Nat} {cI cZ cL : ClassId} {z w : va_W}
variable {hf_classCount hf_objectCount hf_roots hf_changed sf_objectCount sf_roots sf_reachable tf_count tf_bracketCount tf_place tf_inWhere tf_compared wf_count wf_looks n_code n_number s_isDistinct s_isRetained s_sourceClass s_withDescendants : Int32}
variable {ha_parents ha_classes ha_sizes sa_linkedFrom sa_linkCounts sa_retainedSets sa_retainedSizes sa_dominators sa_immediateDominators ta_codes ta_numbers ta_brackets : Nat → Int32}
variable {ha_fields wa_rows : Nat → Int64}
variable {xq_query n_left n_right s_row s_nested s_condition s_next : Option Nat}
variable {pa_n pk_n pa_s pk_s : Nat}
theorem kxq_tokens  (ur : Int32) (hu : sxq_tokens tf_count = ur) (hx : p.tables.exec = Jvm.exec) (hb : c.code = cc) (hml : c.maxLocals = nC) (hts : ∀ x ∈ hq_tbl, x.before args s = true) (hown : s.vm.findClass own = some m.cls) (hK : va_K D hq_cl (hq_tys cI cZ cL) s) (hP : va_P D hq_cl (hx_w q cI cZ cL xq_query ha_parents hf_classCount ha_classes ha_sizes ha_fields hf_objectCount hf_roots hf_changed sa_linkedFrom sa_linkCounts sa_retainedSets sa_retainedSizes sa_dominators sa_immediateDominators sf_objectCount sf_roots sf_reachable ta_codes ta_numbers tf_count ta_brackets tf_bracketCount tf_place tf_inWhere tf_compared wa_rows wf_count wf_looks ++ z) H) (hD : va_D A (hx_w q cI cZ cL xq_query ha_parents hf_classCount ha_classes ha_sizes ha_fields hf_objectCount hf_roots hf_changed sa_linkedFrom sa_linkCounts sa_retainedSets sa_retainedSizes sa_dominators sa_immediateDominators sf_objectCount sf_roots sf_reachable ta_codes ta_numbers tf_count ta_brackets tf_bracketCount tf_place tf_inWhere tf_compared wa_rows wf_count wf_looks ++ z)) (hS : va_S A H0 H locs) (h1 : Cond.methodLink own idx yxq_tokens ∈ hq_tbl) (hR : 1 + 1 ≤ R.frames ∧ 8 + (1 + 11) + 20 ≤ R.locals) (hls : ls.size = nC) (hW : (rest.map fun v => v.category).sum ≤ 8) (hdg : decode cc pc = .ok (.invokevirtual idx, 3)) (hf : cells + 0 ≤ R.cells ∧ slots + 0 ≤ R.slots) (kk : ∀ (H1 : Heap) (locs1 : List Loc), va_P D hq_cl (hx_w q cI cZ cL xq_query ha_parents hf_classCount ha_classes ha_sizes ha_fields hf_objectCount hf_roots hf_changed sa_linkedFrom sa_linkCounts sa_retainedSets sa_retainedSizes sa_dominators sa_immediateDominators sf_objectCount sf_roots sf_reachable ta_codes ta_numbers tf_count ta_brackets tf_bracketCount tf_place tf_inWhere tf_compared wa_rows wf_count wf_looks ++ z) H1 → va_D A (hx_w q cI cZ cL xq_query ha_parents hf_classCount ha_classes ha_sizes ha_fields hf_objectCount hf_roots hf_changed sa_linkedFrom sa_linkCounts sa_retainedSets sa_retainedSizes sa_dominators sa_immediateDominators sf_objectCount sf_roots sf_reachable ta_codes ta_numbers tf_count ta_brackets tf_bracketCount tf_place tf_inWhere tf_compared wa_rows wf_count wf_looks ++ z) → va_S A H0 H1 locs1 → W p l e R s m args below meth c H1 locs1 cells slots Q (F0 m (pc + 3) ls (.int ur :: rest))) : W p l e R s m args below meth c H locs cells slots Q (F0 m pc ls (.ref (q 0) :: rest)) :=
  hq_callV (q0 := 0) hx hb hml hown hts hK hP hD hS (cxq_tokens  ur hu) rfl rfl h1 wi_300 wi_301 wi_209 wi_302 0 rfl (by decide +kernel) ⟨rfl, rfl⟩ hR hls rfl hW hdg hf kk
end
theorem dxt_openBrackets_0 : decode bxt_openBrackets 0 = .ok (.aload_n 0, 1) := by decide +kernel
theorem dxt_openBrackets_1 : decode bxt_openBrackets 1 = .ok (.getfield 28, 3) := by decide +kernel
theorem dxt_openBrackets_4 : decode bxt_openBrackets 4 = .ok (.ireturn, 1) := by decide +kernel
section
variable {l : Launch} {D : va_G} {A : Nat → Prop} {z w : va_W} {q : Nat → Nat} {cI cZ cL : ClassId}
variable {hf_classCount hf_objectCount hf_roots hf_changed sf_objectCount sf_roots sf_reachable tf_count tf_bracketCount tf_place tf_inWhere tf_compared wf_count wf_looks n_code n_number s_isDistinct s_isRetained s_sourceClass s_withDescendants : Int32}
variable {ha_parents ha_classes ha_sizes sa_linkedFrom sa_linkCounts sa_retainedSets sa_retainedSizes sa_dominators sa_immediateDominators ta_codes ta_numbers ta_brackets : Nat → Int32}
variable {ha_fields wa_rows : Nat → Int64}
variable {xq_query n_left n_right s_row s_nested s_condition s_next : Option Nat}
variable {pa_n pk_n pa_s pk_s : Nat}
set_option maxHeartbeats 4000000 in
set_option maxRecDepth 100000 in
theorem cxt_openBrackets  (ur : Int32) (h : sxt_openBrackets tf_bracketCount = ur) : hq_Ct l yxt_openBrackets bxt_openBrackets 1 (some .int) { frames := 0, cells := 0, slots := 0, locals := 0 } D (hq_tys cI cZ cL) A [.ref (q 3)] (hx_w q cI cZ cL xq_query ha_parents hf_classCount ha_classes ha_sizes ha_fields hf_objectCount hf_roots hf_changed sa_linkedFrom sa_linkCounts sa_retainedSets sa_retainedSizes sa_dominators sa_immediateDominators sf_objectCount sf_roots sf_reachable ta_codes ta_numbers tf_count ta_brackets tf_bracketCount tf_place tf_inWhere tf_compared wa_rows wf_count wf_looks ++ z) (hx_w q cI cZ cL xq_query ha_parents hf_classCount ha_classes ha_sizes ha_fields hf_objectCount hf_roots hf_changed sa_linkedFrom sa_linkCounts sa_retainedSets sa_retainedSizes sa_dominators sa_immediateDominators sf_objectCount sf_roots sf_reachable ta_codes ta_numbers tf_count ta_brackets tf_bracketCount tf_place tf_inWhere tf_compared wa_rows wf_count wf_looks ++ z) (some (.int ur)) 0 0 := by
  refine hq_of (by decide) ?_ (Nat.le_of_ble_eq_true rfl)
  intro p e s m below meth c R args Q hRm hQ hx hb hr hml hts hown hlocks hnm hP hK hD ls hl hS
  have hl : lv_has ls 1 [(0, .ref (q 3))] := hl
  have hown : s.vm.findClass "HeapQueries$Text" = some m.cls := hown
  unfold sxt_openBrackets at h
  refine lv_aload_n hx hb dxt_openBrackets_0 rfl (lv_at hl 0 rfl) ?_
  refine gx_3_bracketCount hx hb hts hown hK hP wi_54 dxt_openBrackets_1 ?_
  exact hq_iret hx hb hr hlocks hQ hK hP hD hS (by rw [← h]) rfl dxt_openBrackets_4
end
section
variable {p : Program} {l : Launch} {e : Env} {R : Room} {s : State} {m : MethodId} {args : Array Value} {below : List Frame} {meth : Method} {c : Code} {H H0 : Heap} {locs : List Loc} {cells slots : Nat} {Q : State → Prop}
variable {cc : ByteArray} {pc idx nC : Nat} {ls : Array Slot} {rest : List Value} {D : va_G} {A : Nat → Prop} {own : String} {q : Nat → Nat} {cI cZ cL : ClassId} {z w : va_W}
variable {hf_classCount hf_objectCount hf_roots hf_changed sf_objectCount sf_roots sf_reachable tf_count tf_bracketCount tf_place tf_inWhere tf_compared wf_count wf_looks n_code n_number s_isDistinct s_isRetained s_sourceClass s_withDescendants : Int32}
variable {ha_parents ha_classes ha_sizes sa_linkedFrom sa_linkCounts sa_retainedSets sa_retainedSizes sa_dominators sa_immediateDominators ta_codes ta_numbers ta_brackets : Nat → Int32}
variable {ha_fields wa_rows : Nat → Int64}
variable {xq_query n_left n_right s_row s_nested s_condition s_next : Option Nat}
variable {pa_n pk_n pa_s pk_s : Nat}
theorem kxt_openBrackets  (ur : Int32) (hu : sxt_openBrackets tf_bracketCount = ur) (hx : p.tables.exec = Jvm.exec) (hb : c.code = cc) (hml : c.maxLocals = nC) (hts : ∀ x ∈ hq_tbl, x.before args s = true) (hown : s.vm.findClass own = some m.cls) (hK : va_K D hq_cl (hq_tys cI cZ cL) s) (hP : va_P D hq_cl (hx_w q cI cZ cL xq_query ha_parents hf_classCount ha_classes ha_sizes ha_fields hf_objectCount hf_roots hf_changed sa_linkedFrom sa_linkCounts sa_retainedSets sa_retainedSizes sa_dominators sa_immediateDominators sf_objectCount sf_roots sf_reachable ta_codes ta_numbers tf_count ta_brackets tf_bracketCount tf_place tf_inWhere tf_compared wa_rows wf_count wf_looks ++ z) H) (hD : va_D A (hx_w q cI cZ cL xq_query ha_parents hf_classCount ha_classes ha_sizes ha_fields hf_objectCount hf_roots hf_changed sa_linkedFrom sa_linkCounts sa_retainedSets sa_retainedSizes sa_dominators sa_immediateDominators sf_objectCount sf_roots sf_reachable ta_codes ta_numbers tf_count ta_brackets tf_bracketCount tf_place tf_inWhere tf_compared wa_rows wf_count wf_looks ++ z)) (hS : va_S A H0 H locs) (h1 : Cond.methodLink own idx yxt_openBrackets ∈ hq_tbl) (hR : 0 + 1 ≤ R.frames ∧ 8 + (1 + 11) + 0 ≤ R.locals) (hls : ls.size = nC) (hW : (rest.map fun v => v.category).sum ≤ 8) (hdg : decode cc pc = .ok (.invokevirtual idx, 3)) (hf : cells + 0 ≤ R.cells ∧ slots + 0 ≤ R.slots) (kk : ∀ (H1 : Heap) (locs1 : List Loc), va_P D hq_cl (hx_w q cI cZ cL xq_query ha_parents hf_classCount ha_classes ha_sizes ha_fields hf_objectCount hf_roots hf_changed sa_linkedFrom sa_linkCounts sa_retainedSets sa_retainedSizes sa_dominators sa_immediateDominators sf_objectCount sf_roots sf_reachable ta_codes ta_numbers tf_count ta_brackets tf_bracketCount tf_place tf_inWhere tf_compared wa_rows wf_count wf_looks ++ z) H1 → va_D A (hx_w q cI cZ cL xq_query ha_parents hf_classCount ha_classes ha_sizes ha_fields hf_objectCount hf_roots hf_changed sa_linkedFrom sa_linkCounts sa_retainedSets sa_retainedSizes sa_dominators sa_immediateDominators sf_objectCount sf_roots sf_reachable ta_codes ta_numbers tf_count ta_brackets tf_bracketCount tf_place tf_inWhere tf_compared wa_rows wf_count wf_looks ++ z) → va_S A H0 H1 locs1 → W p l e R s m args below meth c H1 locs1 cells slots Q (F0 m (pc + 3) ls (.int ur :: rest))) : W p l e R s m args below meth c H locs cells slots Q (F0 m pc ls (.ref (q 3) :: rest)) :=
  hq_callV (q0 := 3) hx hb hml hown hts hK hP hD hS (cxt_openBrackets  ur hu) rfl rfl h1 wi_303 wi_304 wi_298 wi_305 0 rfl (by decide +kernel) ⟨rfl, rfl⟩ hR hls rfl hW hdg hf kk
end
theorem dxq_depth_0 : decode bxq_depth 0 = .ok (.aload_n 0, 1) := by decide +kernel
theorem dxq_depth_1 : decode bxq_depth 1 = .ok (.getfield 19, 3) := by decide +kernel
theorem dxq_depth_4 : decode bxq_depth 4 = .ok (.invokevirtual 101, 3) := by decide +kernel
theorem dxq_depth_7 : decode bxq_depth 7 = .ok (.ireturn, 1) := by decide +kernel
section
variable {l : Launch} {D : va_G} {A : Nat → Prop} {z w : va_W} {q : Nat → Nat} {cI cZ cL : ClassId}
variable {hf_classCount hf_objectCount hf_roots hf_changed sf_objectCount sf_roots sf_reachable tf_count tf_bracketCount tf_place tf_inWhere tf_compared wf_count wf_looks n_code n_number s_isDistinct s_isRetained s_sourceClass s_withDescendants : Int32}
variable {ha_parents ha_classes ha_sizes sa_linkedFrom sa_linkCounts sa_retainedSets sa_retainedSizes sa_dominators sa_immediateDominators ta_codes ta_numbers ta_brackets : Nat → Int32}
variable {ha_fields wa_rows : Nat → Int64}
variable {xq_query n_left n_right s_row s_nested s_condition s_next : Option Nat}
variable {pa_n pk_n pa_s pk_s : Nat}
set_option maxHeartbeats 4000000 in
set_option maxRecDepth 100000 in
theorem cxq_depth  (ur : Int32) (h : sxq_depth tf_bracketCount = ur) : hq_Ct l yxq_depth bxq_depth 1 (some .int) { frames := 1, cells := 0, slots := 0, locals := 20 } D (hq_tys cI cZ cL) A [.ref (q 0)] (hx_w q cI cZ cL xq_query ha_parents hf_classCount ha_classes ha_sizes ha_fields hf_objectCount hf_roots hf_changed sa_linkedFrom sa_linkCounts sa_retainedSets sa_retainedSizes sa_dominators sa_immediateDominators sf_objectCount sf_roots sf_reachable ta_codes ta_numbers tf_count ta_brackets tf_bracketCount tf_place tf_inWhere tf_compared wa_rows wf_count wf_looks ++ z) (hx_w q cI cZ cL xq_query ha_parents hf_classCount ha_classes ha_sizes ha_fields hf_objectCount hf_roots hf_changed sa_linkedFrom sa_linkCounts sa_retainedSets sa_retainedSizes sa_dominators sa_immediateDominators sf_objectCount sf_roots sf_reachable ta_codes ta_numbers tf_count ta_brackets tf_bracketCount tf_place tf_inWhere tf_compared wa_rows wf_count wf_looks ++ z) (some (.int ur)) 0 0 := by
  refine hq_of (by decide) ?_ (Nat.le_of_ble_eq_true rfl)
  intro p e s m below meth c R args Q hRm hQ hx hb hr hml hts hown hlocks hnm hP hK hD ls hl hS
  have hl : lv_has ls 1 [(0, .ref (q 0))] := hl
  have hown : s.vm.findClass "HeapQueries" = some m.cls := hown
  unfold sxq_depth at h
  refine lv_aload_n hx hb dxq_depth_0 rfl (lv_at hl 0 rfl) ?_
  refine gx_0_text hx hb hts hown hK hP wi_52 dxq_depth_1 ?_
  refine kxt_openBrackets  (sxt_openBrackets tf_bracketCount) rfl hx hb hml hts hown hK hP hD hS wi_55 (by rw [hRm]; exact ⟨Nat.le_of_ble_eq_true rfl, Nat.le_of_ble_eq_true rfl⟩) hl.1 (Nat.le_of_ble_eq_true rfl) dxq_depth_4 ⟨Nat.zero_le _, Nat.zero_le _⟩ (fun H locs hP hD hS => ?_)
  exact hq_iret hx hb hr hlocks hQ hK hP hD hS (by rw [← h]) rfl dxq_depth_7
end
section
variable {p : Program} {l : Launch} {e : Env} {R : Room} {s : State} {m : MethodId} {args : Array Value} {below : List Frame} {meth : Method} {c : Code} {H H0 : Heap} {locs : List Loc} {cells slots : Nat} {Q : State → Prop}
variable {cc : ByteArray} {pc idx nC : Nat} {ls : Array Slot} {rest : List Value} {D : va_G} {A : Nat → Prop} {own : String} {q : Nat → Nat} {cI cZ cL : ClassId} {z w : va_W}
variable {hf_classCount hf_objectCount hf_roots hf_changed sf_objectCount sf_roots sf_reachable tf_count tf_bracketCount tf_place tf_inWhere tf_compared wf_count wf_looks n_code n_number s_isDistinct s_isRetained s_sourceClass s_withDescendants : Int32}
variable {ha_parents ha_classes ha_sizes sa_linkedFrom sa_linkCounts sa_retainedSets sa_retainedSizes sa_dominators sa_immediateDominators ta_codes ta_numbers ta_brackets : Nat → Int32}
variable {ha_fields wa_rows : Nat → Int64}
variable {xq_query n_left n_right s_row s_nested s_condition s_next : Option Nat}
variable {pa_n pk_n pa_s pk_s : Nat}
theorem kxq_depth  (ur : Int32) (hu : sxq_depth tf_bracketCount = ur) (hx : p.tables.exec = Jvm.exec) (hb : c.code = cc) (hml : c.maxLocals = nC) (hts : ∀ x ∈ hq_tbl, x.before args s = true) (hown : s.vm.findClass own = some m.cls) (hK : va_K D hq_cl (hq_tys cI cZ cL) s) (hP : va_P D hq_cl (hx_w q cI cZ cL xq_query ha_parents hf_classCount ha_classes ha_sizes ha_fields hf_objectCount hf_roots hf_changed sa_linkedFrom sa_linkCounts sa_retainedSets sa_retainedSizes sa_dominators sa_immediateDominators sf_objectCount sf_roots sf_reachable ta_codes ta_numbers tf_count ta_brackets tf_bracketCount tf_place tf_inWhere tf_compared wa_rows wf_count wf_looks ++ z) H) (hD : va_D A (hx_w q cI cZ cL xq_query ha_parents hf_classCount ha_classes ha_sizes ha_fields hf_objectCount hf_roots hf_changed sa_linkedFrom sa_linkCounts sa_retainedSets sa_retainedSizes sa_dominators sa_immediateDominators sf_objectCount sf_roots sf_reachable ta_codes ta_numbers tf_count ta_brackets tf_bracketCount tf_place tf_inWhere tf_compared wa_rows wf_count wf_looks ++ z)) (hS : va_S A H0 H locs) (h1 : Cond.methodLink own idx yxq_depth ∈ hq_tbl) (hR : 1 + 1 ≤ R.frames ∧ 8 + (1 + 11) + 20 ≤ R.locals) (hls : ls.size = nC) (hW : (rest.map fun v => v.category).sum ≤ 8) (hdg : decode cc pc = .ok (.invokevirtual idx, 3)) (hf : cells + 0 ≤ R.cells ∧ slots + 0 ≤ R.slots) (kk : ∀ (H1 : Heap) (locs1 : List Loc), va_P D hq_cl (hx_w q cI cZ cL xq_query ha_parents hf_classCount ha_classes ha_sizes ha_fields hf_objectCount hf_roots hf_changed sa_linkedFrom sa_linkCounts sa_retainedSets sa_retainedSizes sa_dominators sa_immediateDominators sf_objectCount sf_roots sf_reachable ta_codes ta_numbers tf_count ta_brackets tf_bracketCount tf_place tf_inWhere tf_compared wa_rows wf_count wf_looks ++ z) H1 → va_D A (hx_w q cI cZ cL xq_query ha_parents hf_classCount ha_classes ha_sizes ha_fields hf_objectCount hf_roots hf_changed sa_linkedFrom sa_linkCounts sa_retainedSets sa_retainedSizes sa_dominators sa_immediateDominators sf_objectCount sf_roots sf_reachable ta_codes ta_numbers tf_count ta_brackets tf_bracketCount tf_place tf_inWhere tf_compared wa_rows wf_count wf_looks ++ z) → va_S A H0 H1 locs1 → W p l e R s m args below meth c H1 locs1 cells slots Q (F0 m (pc + 3) ls (.int ur :: rest))) : W p l e R s m args below meth c H locs cells slots Q (F0 m pc ls (.ref (q 0) :: rest)) :=
  hq_callV (q0 := 0) hx hb hml hown hts hK hP hD hS (cxq_depth  ur hu) rfl rfl h1 wi_306 wi_307 wi_209 wi_308 0 rfl (by decide +kernel) ⟨rfl, rfl⟩ hR hls rfl hW hdg hf kk
end
theorem dxw_rowCount_0 : decode bxw_rowCount 0 = .ok (.aload_n 0, 1) := by decide +kernel
theorem dxw_rowCount_1 : decode bxw_rowCount 1 = .ok (.getfield 15, 3) := by decide +kernel
theorem dxw_rowCount_4 : decode bxw_rowCount 4 = .ok (.ireturn, 1) := by decide +kernel
section
variable {l : Launch} {D : va_G} {A : Nat → Prop} {z w : va_W} {q : Nat → Nat} {cI cZ cL : ClassId}
variable {hf_classCount hf_objectCount hf_roots hf_changed sf_objectCount sf_roots sf_reachable tf_count tf_bracketCount tf_place tf_inWhere tf_compared wf_count wf_looks n_code n_number s_isDistinct s_isRetained s_sourceClass s_withDescendants : Int32}
variable {ha_parents ha_classes ha_sizes sa_linkedFrom sa_linkCounts sa_retainedSets sa_retainedSizes sa_dominators sa_immediateDominators ta_codes ta_numbers ta_brackets : Nat → Int32}
variable {ha_fields wa_rows : Nat → Int64}
variable {xq_query n_left n_right s_row s_nested s_condition s_next : Option Nat}
variable {pa_n pk_n pa_s pk_s : Nat}
set_option maxHeartbeats 4000000 in
set_option maxRecDepth 100000 in
theorem cxw_rowCount  (ur : Int32) (h : sxw_rowCount wf_count = ur) : hq_Ct l yxw_rowCount bxw_rowCount 1 (some .int) { frames := 0, cells := 0, slots := 0, locals := 0 } D (hq_tys cI cZ cL) A [.ref (q 4)] (hx_w q cI cZ cL xq_query ha_parents hf_classCount ha_classes ha_sizes ha_fields hf_objectCount hf_roots hf_changed sa_linkedFrom sa_linkCounts sa_retainedSets sa_retainedSizes sa_dominators sa_immediateDominators sf_objectCount sf_roots sf_reachable ta_codes ta_numbers tf_count ta_brackets tf_bracketCount tf_place tf_inWhere tf_compared wa_rows wf_count wf_looks ++ z) (hx_w q cI cZ cL xq_query ha_parents hf_classCount ha_classes ha_sizes ha_fields hf_objectCount hf_roots hf_changed sa_linkedFrom sa_linkCounts sa_retainedSets sa_retainedSizes sa_dominators sa_immediateDominators sf_objectCount sf_roots sf_reachable ta_codes ta_numbers tf_count ta_brackets tf_bracketCount tf_place tf_inWhere tf_compared wa_rows wf_count wf_looks ++ z) (some (.int ur)) 0 0 := by
  refine hq_of (by decide) ?_ (Nat.le_of_ble_eq_true rfl)
  intro p e s m below meth c R args Q hRm hQ hx hb hr hml hts hown hlocks hnm hP hK hD ls hl hS
  have hl : lv_has ls 1 [(0, .ref (q 4))] := hl
  have hown : s.vm.findClass "HeapQueries$Worker" = some m.cls := hown
  unfold sxw_rowCount at h
  refine lv_aload_n hx hb dxw_rowCount_0 rfl (lv_at hl 0 rfl) ?_
  refine gx_4_count hx hb hts hown hK hP wi_56 dxw_rowCount_1 ?_
  exact hq_iret hx hb hr hlocks hQ hK hP hD hS (by rw [← h]) rfl dxw_rowCount_4
end
section
variable {p : Program} {l : Launch} {e : Env} {R : Room} {s : State} {m : MethodId} {args : Array Value} {below : List Frame} {meth : Method} {c : Code} {H H0 : Heap} {locs : List Loc} {cells slots : Nat} {Q : State → Prop}
variable {cc : ByteArray} {pc idx nC : Nat} {ls : Array Slot} {rest : List Value} {D : va_G} {A : Nat → Prop} {own : String} {q : Nat → Nat} {cI cZ cL : ClassId} {z w : va_W}
variable {hf_classCount hf_objectCount hf_roots hf_changed sf_objectCount sf_roots sf_reachable tf_count tf_bracketCount tf_place tf_inWhere tf_compared wf_count wf_looks n_code n_number s_isDistinct s_isRetained s_sourceClass s_withDescendants : Int32}
variable {ha_parents ha_classes ha_sizes sa_linkedFrom sa_linkCounts sa_retainedSets sa_retainedSizes sa_dominators sa_immediateDominators ta_codes ta_numbers ta_brackets : Nat → Int32}
variable {ha_fields wa_rows : Nat → Int64}
variable {xq_query n_left n_right s_row s_nested s_condition s_next : Option Nat}
variable {pa_n pk_n pa_s pk_s : Nat}
theorem kxw_rowCount  (ur : Int32) (hu : sxw_rowCount wf_count = ur) (hx : p.tables.exec = Jvm.exec) (hb : c.code = cc) (hml : c.maxLocals = nC) (hts : ∀ x ∈ hq_tbl, x.before args s = true) (hown : s.vm.findClass own = some m.cls) (hK : va_K D hq_cl (hq_tys cI cZ cL) s) (hP : va_P D hq_cl (hx_w q cI cZ cL xq_query ha_parents hf_classCount ha_classes ha_sizes ha_fields hf_objectCount hf_roots hf_changed sa_linkedFrom sa_linkCounts sa_retainedSets sa_retainedSizes sa_dominators sa_immediateDominators sf_objectCount sf_roots sf_reachable ta_codes ta_numbers tf_count ta_brackets tf_bracketCount tf_place tf_inWhere tf_compared wa_rows wf_count wf_looks ++ z) H) (hD : va_D A (hx_w q cI cZ cL xq_query ha_parents hf_classCount ha_classes ha_sizes ha_fields hf_objectCount hf_roots hf_changed sa_linkedFrom sa_linkCounts sa_retainedSets sa_retainedSizes sa_dominators sa_immediateDominators sf_objectCount sf_roots sf_reachable ta_codes ta_numbers tf_count ta_brackets tf_bracketCount tf_place tf_inWhere tf_compared wa_rows wf_count wf_looks ++ z)) (hS : va_S A H0 H locs) (h1 : Cond.methodLink own idx yxw_rowCount ∈ hq_tbl) (hR : 0 + 1 ≤ R.frames ∧ 8 + (1 + 11) + 0 ≤ R.locals) (hls : ls.size = nC) (hW : (rest.map fun v => v.category).sum ≤ 8) (hdg : decode cc pc = .ok (.invokevirtual idx, 3)) (hf : cells + 0 ≤ R.cells ∧ slots + 0 ≤ R.slots) (kk : ∀ (H1 : Heap) (locs1 : List Loc), va_P D hq_cl (hx_w q cI cZ cL xq_query ha_parents hf_classCount ha_classes ha_sizes ha_fields hf_objectCount hf_roots hf_changed sa_linkedFrom sa_linkCounts sa_retainedSets sa_retainedSizes sa_dominators sa_immediateDominators sf_objectCount sf_roots sf_reachable ta_codes ta_numbers tf_count ta_brackets tf_bracketCount tf_place tf_inWhere tf_compared wa_rows wf_count wf_looks ++ z) H1 → va_D A (hx_w q cI cZ cL xq_query ha_parents hf_classCount ha_classes ha_sizes ha_fields hf_objectCount hf_roots hf_changed sa_linkedFrom sa_linkCounts sa_retainedSets sa_retainedSizes sa_dominators sa_immediateDominators sf_objectCount sf_roots sf_reachable ta_codes ta_numbers tf_count ta_brackets tf_bracketCount tf_place tf_inWhere tf_compared wa_rows wf_count wf_looks ++ z) → va_S A H0 H1 locs1 → W p l e R s m args below meth c H1 locs1 cells slots Q (F0 m (pc + 3) ls (.int ur :: rest))) : W p l e R s m args below meth c H locs cells slots Q (F0 m pc ls (.ref (q 4) :: rest)) :=
  hq_callV (q0 := 4) hx hb hml hown hts hK hP hD hS (cxw_rowCount  ur hu) rfl rfl h1 wi_309 wi_310 wi_311 wi_312 0 rfl (by decide +kernel) ⟨rfl, rfl⟩ hR hls rfl hW hdg hf kk
end
theorem dxq_rows_0 : decode bxq_rows 0 = .ok (.aload_n 0, 1) := by decide +kernel
theorem dxq_rows_1 : decode bxq_rows 1 = .ok (.getfield 26, 3) := by decide +kernel
theorem dxq_rows_4 : decode bxq_rows 4 = .ok (.invokevirtual 117, 3) := by decide +kernel
theorem dxq_rows_7 : decode bxq_rows 7 = .ok (.ireturn, 1) := by decide +kernel
section
variable {l : Launch} {D : va_G} {A : Nat → Prop} {z w : va_W} {q : Nat → Nat} {cI cZ cL : ClassId}
variable {hf_classCount hf_objectCount hf_roots hf_changed sf_objectCount sf_roots sf_reachable tf_count tf_bracketCount tf_place tf_inWhere tf_compared wf_count wf_looks n_code n_number s_isDistinct s_isRetained s_sourceClass s_withDescendants : Int32}
variable {ha_parents ha_classes ha_sizes sa_linkedFrom sa_linkCounts sa_retainedSets sa_retainedSizes sa_dominators sa_immediateDominators ta_codes ta_numbers ta_brackets : Nat → Int32}
variable {ha_fields wa_rows : Nat → Int64}
variable {xq_query n_left n_right s_row s_nested s_condition s_next : Option Nat}
variable {pa_n pk_n pa_s pk_s : Nat}
set_option maxHeartbeats 4000000 in
set_option maxRecDepth 100000 in
theorem cxq_rows  (ur : Int32) (h : sxq_rows wf_count = ur) : hq_Ct l yxq_rows bxq_rows 1 (some .int) { frames := 1, cells := 0, slots := 0, locals := 20 } D (hq_tys cI cZ cL) A [.ref (q 0)] (hx_w q cI cZ cL xq_query ha_parents hf_classCount ha_classes ha_sizes ha_fields hf_objectCount hf_roots hf_changed sa_linkedFrom sa_linkCounts sa_retainedSets sa_retainedSizes sa_dominators sa_immediateDominators sf_objectCount sf_roots sf_reachable ta_codes ta_numbers tf_count ta_brackets tf_bracketCount tf_place tf_inWhere tf_compared wa_rows wf_count wf_looks ++ z) (hx_w q cI cZ cL xq_query ha_parents hf_classCount ha_classes ha_sizes ha_fields hf_objectCount hf_roots hf_changed sa_linkedFrom sa_linkCounts sa_retainedSets sa_retainedSizes sa_dominators sa_immediateDominators sf_objectCount sf_roots sf_reachable ta_codes ta_numbers tf_count ta_brackets tf_bracketCount tf_place tf_inWhere tf_compared wa_rows wf_count wf_looks ++ z) (some (.int ur)) 0 0 := by
  refine hq_of (by decide) ?_ (Nat.le_of_ble_eq_true rfl)
  intro p e s m below meth c R args Q hRm hQ hx hb hr hml hts hown hlocks hnm hP hK hD ls hl hS
  have hl : lv_has ls 1 [(0, .ref (q 0))] := hl
  have hown : s.vm.findClass "HeapQueries" = some m.cls := hown
  unfold sxq_rows at h
  refine lv_aload_n hx hb dxq_rows_0 rfl (lv_at hl 0 rfl) ?_
  refine gx_0_worker hx hb hts hown hK hP wi_57 dxq_rows_1 ?_
  refine kxw_rowCount  (sxw_rowCount wf_count) rfl hx hb hml hts hown hK hP hD hS wi_58 (by rw [hRm]; exact ⟨Nat.le_of_ble_eq_true rfl, Nat.le_of_ble_eq_true rfl⟩) hl.1 (Nat.le_of_ble_eq_true rfl) dxq_rows_4 ⟨Nat.zero_le _, Nat.zero_le _⟩ (fun H locs hP hD hS => ?_)
  exact hq_iret hx hb hr hlocks hQ hK hP hD hS (by rw [← h]) rfl dxq_rows_7
end
section
variable {p : Program} {l : Launch} {e : Env} {R : Room} {s : State} {m : MethodId} {args : Array Value} {below : List Frame} {meth : Method} {c : Code} {H H0 : Heap} {locs : List Loc} {cells slots : Nat} {Q : State → Prop}
variable {cc : ByteArray} {pc idx nC : Nat} {ls : Array Slot} {rest : List Value} {D : va_G} {A : Nat → Prop} {own : String} {q : Nat → Nat} {cI cZ cL : ClassId} {z w : va_W}
variable {hf_classCount hf_objectCount hf_roots hf_changed sf_objectCount sf_roots sf_reachable tf_count tf_bracketCount tf_place tf_inWhere tf_compared wf_count wf_looks n_code n_number s_isDistinct s_isRetained s_sourceClass s_withDescendants : Int32}
variable {ha_parents ha_classes ha_sizes sa_linkedFrom sa_linkCounts sa_retainedSets sa_retainedSizes sa_dominators sa_immediateDominators ta_codes ta_numbers ta_brackets : Nat → Int32}
variable {ha_fields wa_rows : Nat → Int64}
variable {xq_query n_left n_right s_row s_nested s_condition s_next : Option Nat}
variable {pa_n pk_n pa_s pk_s : Nat}
theorem kxq_rows  (ur : Int32) (hu : sxq_rows wf_count = ur) (hx : p.tables.exec = Jvm.exec) (hb : c.code = cc) (hml : c.maxLocals = nC) (hts : ∀ x ∈ hq_tbl, x.before args s = true) (hown : s.vm.findClass own = some m.cls) (hK : va_K D hq_cl (hq_tys cI cZ cL) s) (hP : va_P D hq_cl (hx_w q cI cZ cL xq_query ha_parents hf_classCount ha_classes ha_sizes ha_fields hf_objectCount hf_roots hf_changed sa_linkedFrom sa_linkCounts sa_retainedSets sa_retainedSizes sa_dominators sa_immediateDominators sf_objectCount sf_roots sf_reachable ta_codes ta_numbers tf_count ta_brackets tf_bracketCount tf_place tf_inWhere tf_compared wa_rows wf_count wf_looks ++ z) H) (hD : va_D A (hx_w q cI cZ cL xq_query ha_parents hf_classCount ha_classes ha_sizes ha_fields hf_objectCount hf_roots hf_changed sa_linkedFrom sa_linkCounts sa_retainedSets sa_retainedSizes sa_dominators sa_immediateDominators sf_objectCount sf_roots sf_reachable ta_codes ta_numbers tf_count ta_brackets tf_bracketCount tf_place tf_inWhere tf_compared wa_rows wf_count wf_looks ++ z)) (hS : va_S A H0 H locs) (h1 : Cond.methodLink own idx yxq_rows ∈ hq_tbl) (hR : 1 + 1 ≤ R.frames ∧ 8 + (1 + 11) + 20 ≤ R.locals) (hls : ls.size = nC) (hW : (rest.map fun v => v.category).sum ≤ 8) (hdg : decode cc pc = .ok (.invokevirtual idx, 3)) (hf : cells + 0 ≤ R.cells ∧ slots + 0 ≤ R.slots) (kk : ∀ (H1 : Heap) (locs1 : List Loc), va_P D hq_cl (hx_w q cI cZ cL xq_query ha_parents hf_classCount ha_classes ha_sizes ha_fields hf_objectCount hf_roots hf_changed sa_linkedFrom sa_linkCounts sa_retainedSets sa_retainedSizes sa_dominators sa_immediateDominators sf_objectCount sf_roots sf_reachable ta_codes ta_numbers tf_count ta_brackets tf_bracketCount tf_place tf_inWhere tf_compared wa_rows wf_count wf_looks ++ z) H1 → va_D A (hx_w q cI cZ cL xq_query ha_parents hf_classCount ha_classes ha_sizes ha_fields hf_objectCount hf_roots hf_changed sa_linkedFrom sa_linkCounts sa_retainedSets sa_retainedSizes sa_dominators sa_immediateDominators sf_objectCount sf_roots sf_reachable ta_codes ta_numbers tf_count ta_brackets tf_bracketCount tf_place tf_inWhere tf_compared wa_rows wf_count wf_looks ++ z) → va_S A H0 H1 locs1 → W p l e R s m args below meth c H1 locs1 cells slots Q (F0 m (pc + 3) ls (.int ur :: rest))) : W p l e R s m args below meth c H locs cells slots Q (F0 m pc ls (.ref (q 0) :: rest)) :=
  hq_callV (q0 := 0) hx hb hml hown hts hK hP hD hS (cxq_rows  ur hu) rfl rfl h1 wi_313 wi_314 wi_209 wi_315 0 rfl (by decide +kernel) ⟨rfl, rfl⟩ hR hls rfl hW hdg hf kk
end
theorem dxw_hasRow_0 : decode bxw_hasRow 0 = .ok (.iload_n 1, 1) := by decide +kernel
theorem dxw_hasRow_1 : decode bxw_hasRow 1 = .ok (.ifCond .lt 15, 3) := by decide +kernel
theorem dxw_hasRow_4 : decode bxw_hasRow 4 = .ok (.iload_n 1, 1) := by decide +kernel
theorem dxw_hasRow_5 : decode bxw_hasRow 5 = .ok (.aload_n 0, 1) := by decide +kernel
theorem dxw_hasRow_6 : decode bxw_hasRow 6 = .ok (.getfield 15, 3) := by decide +kernel
theorem dxw_hasRow_9 : decode bxw_hasRow 9 = .ok (.if_icmp .ge 7, 3) := by decide +kernel
theorem dxw_hasRow_12 : decode bxw_hasRow 12 = .ok (.iconst 1, 1) := by decide +kernel
theorem dxw_hasRow_13 : decode bxw_hasRow 13 = .ok (.goto 4, 3) := by decide +kernel
theorem dxw_hasRow_16 : decode bxw_hasRow 16 = .ok (.iconst 0, 1) := by decide +kernel
theorem dxw_hasRow_17 : decode bxw_hasRow 17 = .ok (.ireturn, 1) := by decide +kernel
section
variable {l : Launch} {D : va_G} {A : Nat → Prop} {z w : va_W} {q : Nat → Nat} {cI cZ cL : ClassId}
variable {hf_classCount hf_objectCount hf_roots hf_changed sf_objectCount sf_roots sf_reachable tf_count tf_bracketCount tf_place tf_inWhere tf_compared wf_count wf_looks n_code n_number s_isDistinct s_isRetained s_sourceClass s_withDescendants : Int32}
variable {ha_parents ha_classes ha_sizes sa_linkedFrom sa_linkCounts sa_retainedSets sa_retainedSizes sa_dominators sa_immediateDominators ta_codes ta_numbers ta_brackets : Nat → Int32}
variable {ha_fields wa_rows : Nat → Int64}
variable {xq_query n_left n_right s_row s_nested s_condition s_next : Option Nat}
variable {pa_n pk_n pa_s pk_s : Nat}
set_option maxHeartbeats 4000000 in
set_option maxRecDepth 100000 in
theorem cxw_hasRow (l1 : Int32) (ur : Int32) (h : sxw_hasRow l1 wf_count = ur) : hq_Ct l yxw_hasRow bxw_hasRow 2 (some .boolean) { frames := 0, cells := 0, slots := 0, locals := 0 } D (hq_tys cI cZ cL) A [.ref (q 4), .int l1] (hx_w q cI cZ cL xq_query ha_parents hf_classCount ha_classes ha_sizes ha_fields hf_objectCount hf_roots hf_changed sa_linkedFrom sa_linkCounts sa_retainedSets sa_retainedSizes sa_dominators sa_immediateDominators sf_objectCount sf_roots sf_reachable ta_codes ta_numbers tf_count ta_brackets tf_bracketCount tf_place tf_inWhere tf_compared wa_rows wf_count wf_looks ++ z) (hx_w q cI cZ cL xq_query ha_parents hf_classCount ha_classes ha_sizes ha_fields hf_objectCount hf_roots hf_changed sa_linkedFrom sa_linkCounts sa_retainedSets sa_retainedSizes sa_dominators sa_immediateDominators sf_objectCount sf_roots sf_reachable ta_codes ta_numbers tf_count ta_brackets tf_bracketCount tf_place tf_inWhere tf_compared wa_rows wf_count wf_looks ++ z) (some (.int ur)) 0 0 := by
  refine hq_of (by decide) ?_ (Nat.le_of_ble_eq_true rfl)
  intro p e s m below meth c R args Q hRm hQ hx hb hr hml hts hown hlocks hnm hP hK hD ls hl hS
  have hl : lv_has ls 2 [(0, .ref (q 4)), (1, .int l1)] := hl
  have hown : s.vm.findClass "HeapQueries$Worker" = some m.cls := hown
  unfold sxw_hasRow at h
  refine lv_iload_n hx hb dxw_hasRow_0 rfl (lv_at hl 1 rfl) ?_
  refine lv_if_lt (tgt := 16) hx hb dxw_hasRow_1 (by decide) (fun hc => ?_) (fun hc => ?_)
  · have h := (if_pos hc).symm.trans h
    refine lv_iconst (v := 0) hx hb dxw_hasRow_16 (by decide) ?_
    exact hq_zret hx hb hr hlocks hQ hK hP hD hS (by decide) (by rw [← h]) rfl dxw_hasRow_17
  · have h := (if_neg hc).symm.trans h
    refine lv_iload_n hx hb dxw_hasRow_4 rfl (lv_at hl 1 rfl) ?_
    refine lv_aload_n hx hb dxw_hasRow_5 rfl (lv_at hl 0 rfl) ?_
    refine gx_4_count hx hb hts hown hK hP wi_56 dxw_hasRow_6 ?_
    refine lv_icmp_ge (tgt := 16) hx hb dxw_hasRow_9 (by decide) (fun hc => ?_) (fun hc => ?_)
    · have h := (if_pos hc).symm.trans h
      refine lv_iconst (v := 0) hx hb dxw_hasRow_16 (by decide) ?_
      exact hq_zret hx hb hr hlocks hQ hK hP hD hS (by decide) (by rw [← h]) rfl dxw_hasRow_17
    · have h := (if_neg hc).symm.trans h
      refine lv_iconst (v := 1) hx hb dxw_hasRow_12 (by decide) ?_
      refine lv_goto (tgt := 17) hx hb dxw_hasRow_13 (by decide) ?_
      exact hq_zret hx hb hr hlocks hQ hK hP hD hS (by decide) (by rw [← h]) rfl dxw_hasRow_17
end
section
variable {p : Program} {l : Launch} {e : Env} {R : Room} {s : State} {m : MethodId} {args : Array Value} {below : List Frame} {meth : Method} {c : Code} {H H0 : Heap} {locs : List Loc} {cells slots : Nat} {Q : State → Prop}
variable {cc : ByteArray} {pc idx nC : Nat} {ls : Array Slot} {rest : List Value} {D : va_G} {A : Nat → Prop} {own : String} {q : Nat → Nat} {cI cZ cL : ClassId} {z w : va_W}
variable {hf_classCount hf_objectCount hf_roots hf_changed sf_objectCount sf_roots sf_reachable tf_count tf_bracketCount tf_place tf_inWhere tf_compared wf_count wf_looks n_code n_number s_isDistinct s_isRetained s_sourceClass s_withDescendants : Int32}
variable {ha_parents ha_classes ha_sizes sa_linkedFrom sa_linkCounts sa_retainedSets sa_retainedSizes sa_dominators sa_immediateDominators ta_codes ta_numbers ta_brackets : Nat → Int32}
variable {ha_fields wa_rows : Nat → Int64}
variable {xq_query n_left n_right s_row s_nested s_condition s_next : Option Nat}
variable {pa_n pk_n pa_s pk_s : Nat}
theorem kxw_hasRow (l1 : Int32) (ur : Int32) (hu : sxw_hasRow l1 wf_count = ur) (hx : p.tables.exec = Jvm.exec) (hb : c.code = cc) (hml : c.maxLocals = nC) (hts : ∀ x ∈ hq_tbl, x.before args s = true) (hown : s.vm.findClass own = some m.cls) (hK : va_K D hq_cl (hq_tys cI cZ cL) s) (hP : va_P D hq_cl (hx_w q cI cZ cL xq_query ha_parents hf_classCount ha_classes ha_sizes ha_fields hf_objectCount hf_roots hf_changed sa_linkedFrom sa_linkCounts sa_retainedSets sa_retainedSizes sa_dominators sa_immediateDominators sf_objectCount sf_roots sf_reachable ta_codes ta_numbers tf_count ta_brackets tf_bracketCount tf_place tf_inWhere tf_compared wa_rows wf_count wf_looks ++ z) H) (hD : va_D A (hx_w q cI cZ cL xq_query ha_parents hf_classCount ha_classes ha_sizes ha_fields hf_objectCount hf_roots hf_changed sa_linkedFrom sa_linkCounts sa_retainedSets sa_retainedSizes sa_dominators sa_immediateDominators sf_objectCount sf_roots sf_reachable ta_codes ta_numbers tf_count ta_brackets tf_bracketCount tf_place tf_inWhere tf_compared wa_rows wf_count wf_looks ++ z)) (hS : va_S A H0 H locs) (h1 : Cond.methodLink own idx yxw_hasRow ∈ hq_tbl) (hR : 0 + 1 ≤ R.frames ∧ 8 + (2 + 11) + 0 ≤ R.locals) (hls : ls.size = nC) (hW : (rest.map fun v => v.category).sum ≤ 8) (hdg : decode cc pc = .ok (.invokevirtual idx, 3)) (hf : cells + 0 ≤ R.cells ∧ slots + 0 ≤ R.slots) (kk : ∀ (H1 : Heap) (locs1 : List Loc), va_P D hq_cl (hx_w q cI cZ cL xq_query ha_parents hf_classCount ha_classes ha_sizes ha_fields hf_objectCount hf_roots hf_changed sa_linkedFrom sa_linkCounts sa_retainedSets sa_retainedSizes sa_dominators sa_immediateDominators sf_objectCount sf_roots sf_reachable ta_codes ta_numbers tf_count ta_brackets tf_bracketCount tf_place tf_inWhere tf_compared wa_rows wf_count wf_looks ++ z) H1 → va_D A (hx_w q cI cZ cL xq_query ha_parents hf_classCount ha_classes ha_sizes ha_fields hf_objectCount hf_roots hf_changed sa_linkedFrom sa_linkCounts sa_retainedSets sa_retainedSizes sa_dominators sa_immediateDominators sf_objectCount sf_roots sf_reachable ta_codes ta_numbers tf_count ta_brackets tf_bracketCount tf_place tf_inWhere tf_compared wa_rows wf_count wf_looks ++ z) → va_S A H0 H1 locs1 → W p l e R s m args below meth c H1 locs1 cells slots Q (F0 m (pc + 3) ls (.int ur :: rest))) : W p l e R s m args below meth c H locs cells slots Q (F0 m pc ls (.int l1 :: .ref (q 4) :: rest)) :=
  hq_callV (q0 := 4) hx hb hml hown hts hK hP hD hS (cxw_hasRow l1 ur hu) rfl rfl h1 wi_316 wi_317 wi_311 wi_318 1 rfl (by decide +kernel) ⟨rfl, rfl⟩ hR hls rfl hW hdg hf kk
end
theorem dxw_row_0 : decode bxw_row 0 = .ok (.aload_n 0, 1) := by decide +kernel
theorem dxw_row_1 : decode bxw_row 1 = .ok (.getfield 9, 3) := by decide +kernel
theorem dxw_row_4 : decode bxw_row 4 = .ok (.iload_n 1, 1) := by decide +kernel
theorem dxw_row_5 : decode bxw_row 5 = .ok (.laload, 1) := by decide +kernel
theorem dxw_row_6 : decode bxw_row 6 = .ok (.lreturn, 1) := by decide +kernel
section
variable {l : Launch} {D : va_G} {A : Nat → Prop} {z w : va_W} {q : Nat → Nat} {cI cZ cL : ClassId}
variable {hf_classCount hf_objectCount hf_roots hf_changed sf_objectCount sf_roots sf_reachable tf_count tf_bracketCount tf_place tf_inWhere tf_compared wf_count wf_looks n_code n_number s_isDistinct s_isRetained s_sourceClass s_withDescendants : Int32}
variable {ha_parents ha_classes ha_sizes sa_linkedFrom sa_linkCounts sa_retainedSets sa_retainedSizes sa_dominators sa_immediateDominators ta_codes ta_numbers ta_brackets : Nat → Int32}
variable {ha_fields wa_rows : Nat → Int64}
variable {xq_query n_left n_right s_row s_nested s_condition s_next : Option Nat}
variable {pa_n pk_n pa_s pk_s : Nat}
set_option maxHeartbeats 4000000 in
set_option maxRecDepth 100000 in
theorem cxw_row (l1 : Int32) (ur : Int64) (h : sxw_row l1 wa_rows = some ur) : hq_Ct l yxw_row bxw_row 2 (some .long) { frames := 0, cells := 0, slots := 0, locals := 0 } D (hq_tys cI cZ cL) A [.ref (q 4), .int l1] (hx_w q cI cZ cL xq_query ha_parents hf_classCount ha_classes ha_sizes ha_fields hf_objectCount hf_roots hf_changed sa_linkedFrom sa_linkCounts sa_retainedSets sa_retainedSizes sa_dominators sa_immediateDominators sf_objectCount sf_roots sf_reachable ta_codes ta_numbers tf_count ta_brackets tf_bracketCount tf_place tf_inWhere tf_compared wa_rows wf_count wf_looks ++ z) (hx_w q cI cZ cL xq_query ha_parents hf_classCount ha_classes ha_sizes ha_fields hf_objectCount hf_roots hf_changed sa_linkedFrom sa_linkCounts sa_retainedSets sa_retainedSizes sa_dominators sa_immediateDominators sf_objectCount sf_roots sf_reachable ta_codes ta_numbers tf_count ta_brackets tf_bracketCount tf_place tf_inWhere tf_compared wa_rows wf_count wf_looks ++ z) (some (.long ur)) 0 0 := by
  refine hq_of (by decide) ?_ (Nat.le_of_ble_eq_true rfl)
  intro p e s m below meth c R args Q hRm hQ hx hb hr hml hts hown hlocks hnm hP hK hD ls hl hS
  have hl : lv_has ls 2 [(0, .ref (q 4)), (1, .int l1)] := hl
  have hown : s.vm.findClass "HeapQueries$Worker" = some m.cls := hown
  unfold sxw_row at h
  refine lv_aload_n hx hb dxw_row_0 rfl (lv_at hl 0 rfl) ?_
  refine gx_4_rows hx hb hts hown hK hP wi_59 dxw_row_1 ?_
  refine lv_iload_n hx hb dxw_row_4 rfl (lv_at hl 1 rfl) ?_
  obtain ⟨hin, h⟩ := hq_idx h
  refine ax_18 hx hb hK hP hin dxw_row_5 ?_
  have h := Option.some.inj h
  exact hq_lret hx hb hr hlocks hQ hK hP hD hS (by rw [← h]) rfl dxw_row_6
end
section
variable {p : Program} {l : Launch} {e : Env} {R : Room} {s : State} {m : MethodId} {args : Array Value} {below : List Frame} {meth : Method} {c : Code} {H H0 : Heap} {locs : List Loc} {cells slots : Nat} {Q : State → Prop}
variable {cc : ByteArray} {pc idx nC : Nat} {ls : Array Slot} {rest : List Value} {D : va_G} {A : Nat → Prop} {own : String} {q : Nat → Nat} {cI cZ cL : ClassId} {z w : va_W}
variable {hf_classCount hf_objectCount hf_roots hf_changed sf_objectCount sf_roots sf_reachable tf_count tf_bracketCount tf_place tf_inWhere tf_compared wf_count wf_looks n_code n_number s_isDistinct s_isRetained s_sourceClass s_withDescendants : Int32}
variable {ha_parents ha_classes ha_sizes sa_linkedFrom sa_linkCounts sa_retainedSets sa_retainedSizes sa_dominators sa_immediateDominators ta_codes ta_numbers ta_brackets : Nat → Int32}
variable {ha_fields wa_rows : Nat → Int64}
variable {xq_query n_left n_right s_row s_nested s_condition s_next : Option Nat}
variable {pa_n pk_n pa_s pk_s : Nat}
theorem kxw_row (l1 : Int32) (ur : Int64) (hu : sxw_row l1 wa_rows = some ur) (hx : p.tables.exec = Jvm.exec) (hb : c.code = cc) (hml : c.maxLocals = nC) (hts : ∀ x ∈ hq_tbl, x.before args s = true) (hown : s.vm.findClass own = some m.cls) (hK : va_K D hq_cl (hq_tys cI cZ cL) s) (hP : va_P D hq_cl (hx_w q cI cZ cL xq_query ha_parents hf_classCount ha_classes ha_sizes ha_fields hf_objectCount hf_roots hf_changed sa_linkedFrom sa_linkCounts sa_retainedSets sa_retainedSizes sa_dominators sa_immediateDominators sf_objectCount sf_roots sf_reachable ta_codes ta_numbers tf_count ta_brackets tf_bracketCount tf_place tf_inWhere tf_compared wa_rows wf_count wf_looks ++ z) H) (hD : va_D A (hx_w q cI cZ cL xq_query ha_parents hf_classCount ha_classes ha_sizes ha_fields hf_objectCount hf_roots hf_changed sa_linkedFrom sa_linkCounts sa_retainedSets sa_retainedSizes sa_dominators sa_immediateDominators sf_objectCount sf_roots sf_reachable ta_codes ta_numbers tf_count ta_brackets tf_bracketCount tf_place tf_inWhere tf_compared wa_rows wf_count wf_looks ++ z)) (hS : va_S A H0 H locs) (h1 : Cond.methodLink own idx yxw_row ∈ hq_tbl) (hR : 0 + 1 ≤ R.frames ∧ 8 + (2 + 11) + 0 ≤ R.locals) (hls : ls.size = nC) (hW : (rest.map fun v => v.category).sum ≤ 8) (hdg : decode cc pc = .ok (.invokevirtual idx, 3)) (hf : cells + 0 ≤ R.cells ∧ slots + 0 ≤ R.slots) (kk : ∀ (H1 : Heap) (locs1 : List Loc), va_P D hq_cl (hx_w q cI cZ cL xq_query ha_parents hf_classCount ha_classes ha_sizes ha_fields hf_objectCount hf_roots hf_changed sa_linkedFrom sa_linkCounts sa_retainedSets sa_retainedSizes sa_dominators sa_immediateDominators sf_objectCount sf_roots sf_reachable ta_codes ta_numbers tf_count ta_brackets tf_bracketCount tf_place tf_inWhere tf_compared wa_rows wf_count wf_looks ++ z) H1 → va_D A (hx_w q cI cZ cL xq_query ha_parents hf_classCount ha_classes ha_sizes ha_fields hf_objectCount hf_roots hf_changed sa_linkedFrom sa_linkCounts sa_retainedSets sa_retainedSizes sa_dominators sa_immediateDominators sf_objectCount sf_roots sf_reachable ta_codes ta_numbers tf_count ta_brackets tf_bracketCount tf_place tf_inWhere tf_compared wa_rows wf_count wf_looks ++ z) → va_S A H0 H1 locs1 → W p l e R s m args below meth c H1 locs1 cells slots Q (F0 m (pc + 3) ls (.long ur :: rest))) : W p l e R s m args below meth c H locs cells slots Q (F0 m pc ls (.int l1 :: .ref (q 4) :: rest)) :=
  hq_callV (q0 := 4) hx hb hml hown hts hK hP hD hS (cxw_row l1 ur hu) rfl rfl h1 wi_319 wi_320 wi_311 wi_321 1 rfl (by decide +kernel) ⟨rfl, rfl⟩ hR hls rfl hW hdg hf kk
end
theorem dxq_kind_0 : decode bxq_kind 0 = .ok (.aload_n 0, 1) := by decide +kernel
theorem dxq_kind_1 : decode bxq_kind 1 = .ok (.getfield 26, 3) := by decide +kernel
theorem dxq_kind_4 : decode bxq_kind 4 = .ok (.iload_n 1, 1) := by decide +kernel
theorem dxq_kind_5 : decode bxq_kind 5 = .ok (.invokevirtual 120, 3) := by decide +kernel
theorem dxq_kind_8 : decode bxq_kind 8 = .ok (.ifCond .eq 17, 3) := by decide +kernel
theorem dxq_kind_11 : decode bxq_kind 11 = .ok (.aload_n 0, 1) := by decide +kernel
theorem dxq_kind_12 : decode bxq_kind 12 = .ok (.getfield 26, 3) := by decide +kernel
theorem dxq_kind_15 : decode bxq_kind 15 = .ok (.iload_n 1, 1) := by decide +kernel
theorem dxq_kind_16 : decode bxq_kind 16 = .ok (.invokevirtual 123, 3) := by decide +kernel
theorem dxq_kind_19 : decode bxq_kind 19 = .ok (.invokestatic 126, 3) := by decide +kernel
theorem dxq_kind_22 : decode bxq_kind 22 = .ok (.goto 4, 3) := by decide +kernel
theorem dxq_kind_25 : decode bxq_kind 25 = .ok (.iconst (-1), 1) := by decide +kernel
theorem dxq_kind_26 : decode bxq_kind 26 = .ok (.ireturn, 1) := by decide +kernel
section
variable {l : Launch} {D : va_G} {A : Nat → Prop} {z w : va_W} {q : Nat → Nat} {cI cZ cL : ClassId}
variable {hf_classCount hf_objectCount hf_roots hf_changed sf_objectCount sf_roots sf_reachable tf_count tf_bracketCount tf_place tf_inWhere tf_compared wf_count wf_looks n_code n_number s_isDistinct s_isRetained s_sourceClass s_withDescendants : Int32}
variable {ha_parents ha_classes ha_sizes sa_linkedFrom sa_linkCounts sa_retainedSets sa_retainedSizes sa_dominators sa_immediateDominators ta_codes ta_numbers ta_brackets : Nat → Int32}
variable {ha_fields wa_rows : Nat → Int64}
variable {xq_query n_left n_right s_row s_nested s_condition s_next : Option Nat}
variable {pa_n pk_n pa_s pk_s : Nat}
set_option maxHeartbeats 4000000 in
set_option maxRecDepth 100000 in
theorem cxq_kind (l1 : Int32) (ur : Int32) (h : sxq_kind l1 wa_rows wf_count = some ur) : hq_Ct l yxq_kind bxq_kind 2 (some .int) { frames := 1, cells := 0, slots := 0, locals := 21 } D (hq_tys cI cZ cL) A [.ref (q 0), .int l1] (hx_w q cI cZ cL xq_query ha_parents hf_classCount ha_classes ha_sizes ha_fields hf_objectCount hf_roots hf_changed sa_linkedFrom sa_linkCounts sa_retainedSets sa_retainedSizes sa_dominators sa_immediateDominators sf_objectCount sf_roots sf_reachable ta_codes ta_numbers tf_count ta_brackets tf_bracketCount tf_place tf_inWhere tf_compared wa_rows wf_count wf_looks ++ z) (hx_w q cI cZ cL xq_query ha_parents hf_classCount ha_classes ha_sizes ha_fields hf_objectCount hf_roots hf_changed sa_linkedFrom sa_linkCounts sa_retainedSets sa_retainedSizes sa_dominators sa_immediateDominators sf_objectCount sf_roots sf_reachable ta_codes ta_numbers tf_count ta_brackets tf_bracketCount tf_place tf_inWhere tf_compared wa_rows wf_count wf_looks ++ z) (some (.int ur)) 0 0 := by
  refine hq_of (by decide) ?_ (Nat.le_of_ble_eq_true rfl)
  intro p e s m below meth c R args Q hRm hQ hx hb hr hml hts hown hlocks hnm hP hK hD ls hl hS
  have hl : lv_has ls 2 [(0, .ref (q 0)), (1, .int l1)] := hl
  have hown : s.vm.findClass "HeapQueries" = some m.cls := hown
  unfold sxq_kind at h
  refine lv_aload_n hx hb dxq_kind_0 rfl (lv_at hl 0 rfl) ?_
  refine gx_0_worker hx hb hts hown hK hP wi_57 dxq_kind_1 ?_
  refine lv_iload_n hx hb dxq_kind_4 rfl (lv_at hl 1 rfl) ?_
  refine kxw_hasRow l1 (sxw_hasRow l1 wf_count) rfl hx hb hml hts hown hK hP hD hS wi_60 (by rw [hRm]; exact ⟨Nat.le_of_ble_eq_true rfl, Nat.le_of_ble_eq_true rfl⟩) hl.1 (Nat.le_of_ble_eq_true rfl) dxq_kind_5 ⟨Nat.zero_le _, Nat.zero_le _⟩ (fun H locs hP hD hS => ?_)
  refine lv_if_eq (tgt := 25) hx hb dxq_kind_8 (by decide) (fun hc => ?_) (fun hc => ?_)
  · have h := (if_pos hc).symm.trans h
    refine lv_iconst (v := (-1)) hx hb dxq_kind_25 (by decide) ?_
    have h := Option.some.inj h
    exact hq_iret hx hb hr hlocks hQ hK hP hD hS (by rw [← h]) rfl dxq_kind_26
  · have h := (if_neg hc).symm.trans h
    refine lv_aload_n hx hb dxq_kind_11 rfl (lv_at hl 0 rfl) ?_
    refine gx_0_worker hx hb hts hown hK hP wi_57 dxq_kind_12 ?_
    refine lv_iload_n hx hb dxq_kind_15 rfl (lv_at hl 1 rfl) ?_
    obtain ⟨v16, h16, h⟩ := hq_bind h
    refine kxw_row l1 v16 h16 hx hb hml hts hown hK hP hD hS wi_61 (by rw [hRm]; exact ⟨Nat.le_of_ble_eq_true rfl, Nat.le_of_ble_eq_true rfl⟩) hl.1 (Nat.le_of_ble_eq_true rfl) dxq_kind_16 ⟨Nat.zero_le _, Nat.zero_le _⟩ (fun H locs hP hD hS => ?_)
    refine kxv_kindOf v16 (sxv_kindOf v16) rfl hx hb hml hts hown hK hP hD hS wi_62 (by rw [hRm]; exact ⟨Nat.le_of_ble_eq_true rfl, Nat.le_of_ble_eq_true rfl⟩) hl.1 (Nat.le_of_ble_eq_true rfl) dxq_kind_19 ⟨Nat.zero_le _, Nat.zero_le _⟩ (fun H locs hP hD hS => ?_)
    refine lv_goto (tgt := 26) hx hb dxq_kind_22 (by decide) ?_
    have h := Option.some.inj h
    exact hq_iret hx hb hr hlocks hQ hK hP hD hS (by rw [← h]) rfl dxq_kind_26
end
section
variable {p : Program} {l : Launch} {e : Env} {R : Room} {s : State} {m : MethodId} {args : Array Value} {below : List Frame} {meth : Method} {c : Code} {H H0 : Heap} {locs : List Loc} {cells slots : Nat} {Q : State → Prop}
variable {cc : ByteArray} {pc idx nC : Nat} {ls : Array Slot} {rest : List Value} {D : va_G} {A : Nat → Prop} {own : String} {q : Nat → Nat} {cI cZ cL : ClassId} {z w : va_W}
variable {hf_classCount hf_objectCount hf_roots hf_changed sf_objectCount sf_roots sf_reachable tf_count tf_bracketCount tf_place tf_inWhere tf_compared wf_count wf_looks n_code n_number s_isDistinct s_isRetained s_sourceClass s_withDescendants : Int32}
variable {ha_parents ha_classes ha_sizes sa_linkedFrom sa_linkCounts sa_retainedSets sa_retainedSizes sa_dominators sa_immediateDominators ta_codes ta_numbers ta_brackets : Nat → Int32}
variable {ha_fields wa_rows : Nat → Int64}
variable {xq_query n_left n_right s_row s_nested s_condition s_next : Option Nat}
variable {pa_n pk_n pa_s pk_s : Nat}
theorem kxq_kind (l1 : Int32) (ur : Int32) (hu : sxq_kind l1 wa_rows wf_count = some ur) (hx : p.tables.exec = Jvm.exec) (hb : c.code = cc) (hml : c.maxLocals = nC) (hts : ∀ x ∈ hq_tbl, x.before args s = true) (hown : s.vm.findClass own = some m.cls) (hK : va_K D hq_cl (hq_tys cI cZ cL) s) (hP : va_P D hq_cl (hx_w q cI cZ cL xq_query ha_parents hf_classCount ha_classes ha_sizes ha_fields hf_objectCount hf_roots hf_changed sa_linkedFrom sa_linkCounts sa_retainedSets sa_retainedSizes sa_dominators sa_immediateDominators sf_objectCount sf_roots sf_reachable ta_codes ta_numbers tf_count ta_brackets tf_bracketCount tf_place tf_inWhere tf_compared wa_rows wf_count wf_looks ++ z) H) (hD : va_D A (hx_w q cI cZ cL xq_query ha_parents hf_classCount ha_classes ha_sizes ha_fields hf_objectCount hf_roots hf_changed sa_linkedFrom sa_linkCounts sa_retainedSets sa_retainedSizes sa_dominators sa_immediateDominators sf_objectCount sf_roots sf_reachable ta_codes ta_numbers tf_count ta_brackets tf_bracketCount tf_place tf_inWhere tf_compared wa_rows wf_count wf_looks ++ z)) (hS : va_S A H0 H locs) (h1 : Cond.methodLink own idx yxq_kind ∈ hq_tbl) (hR : 1 + 1 ≤ R.frames ∧ 8 + (2 + 11) + 21 ≤ R.locals) (hls : ls.size = nC) (hW : (rest.map fun v => v.category).sum ≤ 8) (hdg : decode cc pc = .ok (.invokevirtual idx, 3)) (hf : cells + 0 ≤ R.cells ∧ slots + 0 ≤ R.slots) (kk : ∀ (H1 : Heap) (locs1 : List Loc), va_P D hq_cl (hx_w q cI cZ cL xq_query ha_parents hf_classCount ha_classes ha_sizes ha_fields hf_objectCount hf_roots hf_changed sa_linkedFrom sa_linkCounts sa_retainedSets sa_retainedSizes sa_dominators sa_immediateDominators sf_objectCount sf_roots sf_reachable ta_codes ta_numbers tf_count ta_brackets tf_bracketCount tf_place tf_inWhere tf_compared wa_rows wf_count wf_looks ++ z) H1 → va_D A (hx_w q cI cZ cL xq_query ha_parents hf_classCount ha_classes ha_sizes ha_fields hf_objectCount hf_roots hf_changed sa_linkedFrom sa_linkCounts sa_retainedSets sa_retainedSizes sa_dominators sa_immediateDominators sf_objectCount sf_roots sf_reachable ta_codes ta_numbers tf_count ta_brackets tf_bracketCount tf_place tf_inWhere tf_compared wa_rows wf_count wf_looks ++ z) → va_S A H0 H1 locs1 → W p l e R s m args below meth c H1 locs1 cells slots Q (F0 m (pc + 3) ls (.int ur :: rest))) : W p l e R s m args below meth c H locs cells slots Q (F0 m pc ls (.int l1 :: .ref (q 0) :: rest)) :=
  hq_callV (q0 := 0) hx hb hml hown hts hK hP hD hS (cxq_kind l1 ur hu) rfl rfl h1 wi_324 wi_325 wi_209 wi_326 1 rfl (by decide +kernel) ⟨rfl, rfl⟩ hR hls rfl hW hdg hf kk
end
theorem dxq_value_0 : decode bxq_value 0 = .ok (.aload_n 0, 1) := by decide +kernel
theorem dxq_value_1 : decode bxq_value 1 = .ok (.getfield 26, 3) := by decide +kernel
theorem dxq_value_4 : decode bxq_value 4 = .ok (.iload_n 1, 1) := by decide +kernel
theorem dxq_value_5 : decode bxq_value 5 = .ok (.invokevirtual 120, 3) := by decide +kernel
theorem dxq_value_8 : decode bxq_value 8 = .ok (.ifCond .eq 17, 3) := by decide +kernel
theorem dxq_value_11 : decode bxq_value 11 = .ok (.aload_n 0, 1) := by decide +kernel
theorem dxq_value_12 : decode bxq_value 12 = .ok (.getfield 26, 3) := by decide +kernel
theorem dxq_value_15 : decode bxq_value 15 = .ok (.iload_n 1, 1) := by decide +kernel
theorem dxq_value_16 : decode bxq_value 16 = .ok (.invokevirtual 123, 3) := by decide +kernel
theorem dxq_value_19 : decode bxq_value 19 = .ok (.invokestatic 130, 3) := by decide +kernel
theorem dxq_value_22 : decode bxq_value 22 = .ok (.goto 4, 3) := by decide +kernel
theorem dxq_value_25 : decode bxq_value 25 = .ok (.iconst 0, 1) := by decide +kernel
theorem dxq_value_26 : decode bxq_value 26 = .ok (.ireturn, 1) := by decide +kernel
section
variable {l : Launch} {D : va_G} {A : Nat → Prop} {z w : va_W} {q : Nat → Nat} {cI cZ cL : ClassId}
variable {hf_classCount hf_objectCount hf_roots hf_changed sf_objectCount sf_roots sf_reachable tf_count tf_bracketCount tf_place tf_inWhere tf_compared wf_count wf_looks n_code n_number s_isDistinct s_isRetained s_sourceClass s_withDescendants : Int32}
variable {ha_parents ha_classes ha_sizes sa_linkedFrom sa_linkCounts sa_retainedSets sa_retainedSizes sa_dominators sa_immediateDominators ta_codes ta_numbers ta_brackets : Nat → Int32}
variable {ha_fields wa_rows : Nat → Int64}
variable {xq_query n_left n_right s_row s_nested s_condition s_next : Option Nat}
variable {pa_n pk_n pa_s pk_s : Nat}
set_option maxHeartbeats 4000000 in
set_option maxRecDepth 100000 in
theorem cxq_value (l1 : Int32) (ur : Int32) (h : sxq_value l1 wa_rows wf_count = some ur) : hq_Ct l yxq_value bxq_value 2 (some .int) { frames := 1, cells := 0, slots := 0, locals := 21 } D (hq_tys cI cZ cL) A [.ref (q 0), .int l1] (hx_w q cI cZ cL xq_query ha_parents hf_classCount ha_classes ha_sizes ha_fields hf_objectCount hf_roots hf_changed sa_linkedFrom sa_linkCounts sa_retainedSets sa_retainedSizes sa_dominators sa_immediateDominators sf_objectCount sf_roots sf_reachable ta_codes ta_numbers tf_count ta_brackets tf_bracketCount tf_place tf_inWhere tf_compared wa_rows wf_count wf_looks ++ z) (hx_w q cI cZ cL xq_query ha_parents hf_classCount ha_classes ha_sizes ha_fields hf_objectCount hf_roots hf_changed sa_linkedFrom sa_linkCounts sa_retainedSets sa_retainedSizes sa_dominators sa_immediateDominators sf_objectCount sf_roots sf_reachable ta_codes ta_numbers tf_count ta_brackets tf_bracketCount tf_place tf_inWhere tf_compared wa_rows wf_count wf_looks ++ z) (some (.int ur)) 0 0 := by
  refine hq_of (by decide) ?_ (Nat.le_of_ble_eq_true rfl)
  intro p e s m below meth c R args Q hRm hQ hx hb hr hml hts hown hlocks hnm hP hK hD ls hl hS
  have hl : lv_has ls 2 [(0, .ref (q 0)), (1, .int l1)] := hl
  have hown : s.vm.findClass "HeapQueries" = some m.cls := hown
  unfold sxq_value at h
  refine lv_aload_n hx hb dxq_value_0 rfl (lv_at hl 0 rfl) ?_
  refine gx_0_worker hx hb hts hown hK hP wi_57 dxq_value_1 ?_
  refine lv_iload_n hx hb dxq_value_4 rfl (lv_at hl 1 rfl) ?_
  refine kxw_hasRow l1 (sxw_hasRow l1 wf_count) rfl hx hb hml hts hown hK hP hD hS wi_60 (by rw [hRm]; exact ⟨Nat.le_of_ble_eq_true rfl, Nat.le_of_ble_eq_true rfl⟩) hl.1 (Nat.le_of_ble_eq_true rfl) dxq_value_5 ⟨Nat.zero_le _, Nat.zero_le _⟩ (fun H locs hP hD hS => ?_)
  refine lv_if_eq (tgt := 25) hx hb dxq_value_8 (by decide) (fun hc => ?_) (fun hc => ?_)
  · have h := (if_pos hc).symm.trans h
    refine lv_iconst (v := 0) hx hb dxq_value_25 (by decide) ?_
    have h := Option.some.inj h
    exact hq_iret hx hb hr hlocks hQ hK hP hD hS (by rw [← h]) rfl dxq_value_26
  · have h := (if_neg hc).symm.trans h
    refine lv_aload_n hx hb dxq_value_11 rfl (lv_at hl 0 rfl) ?_
    refine gx_0_worker hx hb hts hown hK hP wi_57 dxq_value_12 ?_
    refine lv_iload_n hx hb dxq_value_15 rfl (lv_at hl 1 rfl) ?_
    obtain ⟨v16, h16, h⟩ := hq_bind h
    refine kxw_row l1 v16 h16 hx hb hml hts hown hK hP hD hS wi_61 (by rw [hRm]; exact ⟨Nat.le_of_ble_eq_true rfl, Nat.le_of_ble_eq_true rfl⟩) hl.1 (Nat.le_of_ble_eq_true rfl) dxq_value_16 ⟨Nat.zero_le _, Nat.zero_le _⟩ (fun H locs hP hD hS => ?_)
    refine kxv_contentOf v16 (sxv_contentOf v16) rfl hx hb hml hts hown hK hP hD hS wi_63 (by rw [hRm]; exact ⟨Nat.le_of_ble_eq_true rfl, Nat.le_of_ble_eq_true rfl⟩) hl.1 (Nat.le_of_ble_eq_true rfl) dxq_value_19 ⟨Nat.zero_le _, Nat.zero_le _⟩ (fun H locs hP hD hS => ?_)
    refine lv_goto (tgt := 26) hx hb dxq_value_22 (by decide) ?_
    have h := Option.some.inj h
    exact hq_iret hx hb hr hlocks hQ hK hP hD hS (by rw [← h]) rfl dxq_value_26
end
section
variable {p : Program} {l : Launch} {e : Env} {R : Room} {s : State} {m : MethodId} {args : Array Value} {below : List Frame} {meth : Method} {c : Code} {H H0 : Heap} {locs : List Loc} {cells slots : Nat} {Q : State → Prop}
variable {cc : ByteArray} {pc idx nC : Nat} {ls : Array Slot} {rest : List Value} {D : va_G} {A : Nat → Prop} {own : String} {q : Nat → Nat} {cI cZ cL : ClassId} {z w : va_W}
variable {hf_classCount hf_objectCount hf_roots hf_changed sf_objectCount sf_roots sf_reachable tf_count tf_bracketCount tf_place tf_inWhere tf_compared wf_count wf_looks n_code n_number s_isDistinct s_isRetained s_sourceClass s_withDescendants : Int32}
variable {ha_parents ha_classes ha_sizes sa_linkedFrom sa_linkCounts sa_retainedSets sa_retainedSizes sa_dominators sa_immediateDominators ta_codes ta_numbers ta_brackets : Nat → Int32}
variable {ha_fields wa_rows : Nat → Int64}
variable {xq_query n_left n_right s_row s_nested s_condition s_next : Option Nat}
variable {pa_n pk_n pa_s pk_s : Nat}
theorem kxq_value (l1 : Int32) (ur : Int32) (hu : sxq_value l1 wa_rows wf_count = some ur) (hx : p.tables.exec = Jvm.exec) (hb : c.code = cc) (hml : c.maxLocals = nC) (hts : ∀ x ∈ hq_tbl, x.before args s = true) (hown : s.vm.findClass own = some m.cls) (hK : va_K D hq_cl (hq_tys cI cZ cL) s) (hP : va_P D hq_cl (hx_w q cI cZ cL xq_query ha_parents hf_classCount ha_classes ha_sizes ha_fields hf_objectCount hf_roots hf_changed sa_linkedFrom sa_linkCounts sa_retainedSets sa_retainedSizes sa_dominators sa_immediateDominators sf_objectCount sf_roots sf_reachable ta_codes ta_numbers tf_count ta_brackets tf_bracketCount tf_place tf_inWhere tf_compared wa_rows wf_count wf_looks ++ z) H) (hD : va_D A (hx_w q cI cZ cL xq_query ha_parents hf_classCount ha_classes ha_sizes ha_fields hf_objectCount hf_roots hf_changed sa_linkedFrom sa_linkCounts sa_retainedSets sa_retainedSizes sa_dominators sa_immediateDominators sf_objectCount sf_roots sf_reachable ta_codes ta_numbers tf_count ta_brackets tf_bracketCount tf_place tf_inWhere tf_compared wa_rows wf_count wf_looks ++ z)) (hS : va_S A H0 H locs) (h1 : Cond.methodLink own idx yxq_value ∈ hq_tbl) (hR : 1 + 1 ≤ R.frames ∧ 8 + (2 + 11) + 21 ≤ R.locals) (hls : ls.size = nC) (hW : (rest.map fun v => v.category).sum ≤ 8) (hdg : decode cc pc = .ok (.invokevirtual idx, 3)) (hf : cells + 0 ≤ R.cells ∧ slots + 0 ≤ R.slots) (kk : ∀ (H1 : Heap) (locs1 : List Loc), va_P D hq_cl (hx_w q cI cZ cL xq_query ha_parents hf_classCount ha_classes ha_sizes ha_fields hf_objectCount hf_roots hf_changed sa_linkedFrom sa_linkCounts sa_retainedSets sa_retainedSizes sa_dominators sa_immediateDominators sf_objectCount sf_roots sf_reachable ta_codes ta_numbers tf_count ta_brackets tf_bracketCount tf_place tf_inWhere tf_compared wa_rows wf_count wf_looks ++ z) H1 → va_D A (hx_w q cI cZ cL xq_query ha_parents hf_classCount ha_classes ha_sizes ha_fields hf_objectCount hf_roots hf_changed sa_linkedFrom sa_linkCounts sa_retainedSets sa_retainedSizes sa_dominators sa_immediateDominators sf_objectCount sf_roots sf_reachable ta_codes ta_numbers tf_count ta_brackets tf_bracketCount tf_place tf_inWhere tf_compared wa_rows wf_count wf_looks ++ z) → va_S A H0 H1 locs1 → W p l e R s m args below meth c H1 locs1 cells slots Q (F0 m (pc + 3) ls (.int ur :: rest))) : W p l e R s m args below meth c H locs cells slots Q (F0 m pc ls (.int l1 :: .ref (q 0) :: rest)) :=
  hq_callV (q0 := 0) hx hb hml hown hts hK hP hD hS (cxq_value l1 ur hu) rfl rfl h1 wi_327 wi_328 wi_209 wi_329 1 rfl (by decide +kernel) ⟨rfl, rfl⟩ hR hls rfl hW hdg hf kk
end
theorem dxw_lookCount_0 : decode bxw_lookCount 0 = .ok (.aload_n 0, 1) := by decide +kernel
theorem dxw_lookCount_1 : decode bxw_lookCount 1 = .ok (.getfield 19, 3) := by decide +kernel
theorem dxw_lookCount_4 : decode bxw_lookCount 4 = .ok (.ireturn, 1) := by decide +kernel
section
variable {l : Launch} {D : va_G} {A : Nat → Prop} {z w : va_W} {q : Nat → Nat} {cI cZ cL : ClassId}
variable {hf_classCount hf_objectCount hf_roots hf_changed sf_objectCount sf_roots sf_reachable tf_count tf_bracketCount tf_place tf_inWhere tf_compared wf_count wf_looks n_code n_number s_isDistinct s_isRetained s_sourceClass s_withDescendants : Int32}
variable {ha_parents ha_classes ha_sizes sa_linkedFrom sa_linkCounts sa_retainedSets sa_retainedSizes sa_dominators sa_immediateDominators ta_codes ta_numbers ta_brackets : Nat → Int32}
variable {ha_fields wa_rows : Nat → Int64}
variable {xq_query n_left n_right s_row s_nested s_condition s_next : Option Nat}
variable {pa_n pk_n pa_s pk_s : Nat}
set_option maxHeartbeats 4000000 in
set_option maxRecDepth 100000 in
theorem cxw_lookCount  (ur : Int32) (h : sxw_lookCount wf_looks = ur) : hq_Ct l yxw_lookCount bxw_lookCount 1 (some .int) { frames := 0, cells := 0, slots := 0, locals := 0 } D (hq_tys cI cZ cL) A [.ref (q 4)] (hx_w q cI cZ cL xq_query ha_parents hf_classCount ha_classes ha_sizes ha_fields hf_objectCount hf_roots hf_changed sa_linkedFrom sa_linkCounts sa_retainedSets sa_retainedSizes sa_dominators sa_immediateDominators sf_objectCount sf_roots sf_reachable ta_codes ta_numbers tf_count ta_brackets tf_bracketCount tf_place tf_inWhere tf_compared wa_rows wf_count wf_looks ++ z) (hx_w q cI cZ cL xq_query ha_parents hf_classCount ha_classes ha_sizes ha_fields hf_objectCount hf_roots hf_changed sa_linkedFrom sa_linkCounts sa_retainedSets sa_retainedSizes sa_dominators sa_immediateDominators sf_objectCount sf_roots sf_reachable ta_codes ta_numbers tf_count ta_brackets tf_bracketCount tf_place tf_inWhere tf_compared wa_rows wf_count wf_looks ++ z) (some (.int ur)) 0 0 := by
  refine hq_of (by decide) ?_ (Nat.le_of_ble_eq_true rfl)
  intro p e s m below meth c R args Q hRm hQ hx hb hr hml hts hown hlocks hnm hP hK hD ls hl hS
  have hl : lv_has ls 1 [(0, .ref (q 4))] := hl
  have hown : s.vm.findClass "HeapQueries$Worker" = some m.cls := hown
  unfold sxw_lookCount at h
  refine lv_aload_n hx hb dxw_lookCount_0 rfl (lv_at hl 0 rfl) ?_
  refine gx_4_looks hx hb hts hown hK hP wi_64 dxw_lookCount_1 ?_
  exact hq_iret hx hb hr hlocks hQ hK hP hD hS (by rw [← h]) rfl dxw_lookCount_4
end
section
variable {p : Program} {l : Launch} {e : Env} {R : Room} {s : State} {m : MethodId} {args : Array Value} {below : List Frame} {meth : Method} {c : Code} {H H0 : Heap} {locs : List Loc} {cells slots : Nat} {Q : State → Prop}
variable {cc : ByteArray} {pc idx nC : Nat} {ls : Array Slot} {rest : List Value} {D : va_G} {A : Nat → Prop} {own : String} {q : Nat → Nat} {cI cZ cL : ClassId} {z w : va_W}
variable {hf_classCount hf_objectCount hf_roots hf_changed sf_objectCount sf_roots sf_reachable tf_count tf_bracketCount tf_place tf_inWhere tf_compared wf_count wf_looks n_code n_number s_isDistinct s_isRetained s_sourceClass s_withDescendants : Int32}
variable {ha_parents ha_classes ha_sizes sa_linkedFrom sa_linkCounts sa_retainedSets sa_retainedSizes sa_dominators sa_immediateDominators ta_codes ta_numbers ta_brackets : Nat → Int32}
variable {ha_fields wa_rows : Nat → Int64}
variable {xq_query n_left n_right s_row s_nested s_condition s_next : Option Nat}
variable {pa_n pk_n pa_s pk_s : Nat}
theorem kxw_lookCount  (ur : Int32) (hu : sxw_lookCount wf_looks = ur) (hx : p.tables.exec = Jvm.exec) (hb : c.code = cc) (hml : c.maxLocals = nC) (hts : ∀ x ∈ hq_tbl, x.before args s = true) (hown : s.vm.findClass own = some m.cls) (hK : va_K D hq_cl (hq_tys cI cZ cL) s) (hP : va_P D hq_cl (hx_w q cI cZ cL xq_query ha_parents hf_classCount ha_classes ha_sizes ha_fields hf_objectCount hf_roots hf_changed sa_linkedFrom sa_linkCounts sa_retainedSets sa_retainedSizes sa_dominators sa_immediateDominators sf_objectCount sf_roots sf_reachable ta_codes ta_numbers tf_count ta_brackets tf_bracketCount tf_place tf_inWhere tf_compared wa_rows wf_count wf_looks ++ z) H) (hD : va_D A (hx_w q cI cZ cL xq_query ha_parents hf_classCount ha_classes ha_sizes ha_fields hf_objectCount hf_roots hf_changed sa_linkedFrom sa_linkCounts sa_retainedSets sa_retainedSizes sa_dominators sa_immediateDominators sf_objectCount sf_roots sf_reachable ta_codes ta_numbers tf_count ta_brackets tf_bracketCount tf_place tf_inWhere tf_compared wa_rows wf_count wf_looks ++ z)) (hS : va_S A H0 H locs) (h1 : Cond.methodLink own idx yxw_lookCount ∈ hq_tbl) (hR : 0 + 1 ≤ R.frames ∧ 8 + (1 + 11) + 0 ≤ R.locals) (hls : ls.size = nC) (hW : (rest.map fun v => v.category).sum ≤ 8) (hdg : decode cc pc = .ok (.invokevirtual idx, 3)) (hf : cells + 0 ≤ R.cells ∧ slots + 0 ≤ R.slots) (kk : ∀ (H1 : Heap) (locs1 : List Loc), va_P D hq_cl (hx_w q cI cZ cL xq_query ha_parents hf_classCount ha_classes ha_sizes ha_fields hf_objectCount hf_roots hf_changed sa_linkedFrom sa_linkCounts sa_retainedSets sa_retainedSizes sa_dominators sa_immediateDominators sf_objectCount sf_roots sf_reachable ta_codes ta_numbers tf_count ta_brackets tf_bracketCount tf_place tf_inWhere tf_compared wa_rows wf_count wf_looks ++ z) H1 → va_D A (hx_w q cI cZ cL xq_query ha_parents hf_classCount ha_classes ha_sizes ha_fields hf_objectCount hf_roots hf_changed sa_linkedFrom sa_linkCounts sa_retainedSets sa_retainedSizes sa_dominators sa_immediateDominators sf_objectCount sf_roots sf_reachable ta_codes ta_numbers tf_count ta_brackets tf_bracketCount tf_place tf_inWhere tf_compared wa_rows wf_count wf_looks ++ z) → va_S A H0 H1 locs1 → W p l e R s m args below meth c H1 locs1 cells slots Q (F0 m (pc + 3) ls (.int ur :: rest))) : W p l e R s m args below meth c H locs cells slots Q (F0 m pc ls (.ref (q 4) :: rest)) :=
  hq_callV (q0 := 4) hx hb hml hown hts hK hP hD hS (cxw_lookCount  ur hu) rfl rfl h1 wi_330 wi_331 wi_311 wi_332 0 rfl (by decide +kernel) ⟨rfl, rfl⟩ hR hls rfl hW hdg hf kk
end
theorem dxq_looked_0 : decode bxq_looked 0 = .ok (.aload_n 0, 1) := by decide +kernel
theorem dxq_looked_1 : decode bxq_looked 1 = .ok (.getfield 26, 3) := by decide +kernel
theorem dxq_looked_4 : decode bxq_looked 4 = .ok (.invokevirtual 133, 3) := by decide +kernel
theorem dxq_looked_7 : decode bxq_looked 7 = .ok (.ireturn, 1) := by decide +kernel
section
variable {l : Launch} {D : va_G} {A : Nat → Prop} {z w : va_W} {q : Nat → Nat} {cI cZ cL : ClassId}
variable {hf_classCount hf_objectCount hf_roots hf_changed sf_objectCount sf_roots sf_reachable tf_count tf_bracketCount tf_place tf_inWhere tf_compared wf_count wf_looks n_code n_number s_isDistinct s_isRetained s_sourceClass s_withDescendants : Int32}
variable {ha_parents ha_classes ha_sizes sa_linkedFrom sa_linkCounts sa_retainedSets sa_retainedSizes sa_dominators sa_immediateDominators ta_codes ta_numbers ta_brackets : Nat → Int32}
variable {ha_fields wa_rows : Nat → Int64}
variable {xq_query n_left n_right s_row s_nested s_condition s_next : Option Nat}
variable {pa_n pk_n pa_s pk_s : Nat}
set_option maxHeartbeats 4000000 in
set_option maxRecDepth 100000 in
theorem cxq_looked  (ur : Int32) (h : sxq_looked wf_looks = ur) : hq_Ct l yxq_looked bxq_looked 1 (some .int) { frames := 1, cells := 0, slots := 0, locals := 20 } D (hq_tys cI cZ cL) A [.ref (q 0)] (hx_w q cI cZ cL xq_query ha_parents hf_classCount ha_classes ha_sizes ha_fields hf_objectCount hf_roots hf_changed sa_linkedFrom sa_linkCounts sa_retainedSets sa_retainedSizes sa_dominators sa_immediateDominators sf_objectCount sf_roots sf_reachable ta_codes ta_numbers tf_count ta_brackets tf_bracketCount tf_place tf_inWhere tf_compared wa_rows wf_count wf_looks ++ z) (hx_w q cI cZ cL xq_query ha_parents hf_classCount ha_classes ha_sizes ha_fields hf_objectCount hf_roots hf_changed sa_linkedFrom sa_linkCounts sa_retainedSets sa_retainedSizes sa_dominators sa_immediateDominators sf_objectCount sf_roots sf_reachable ta_codes ta_numbers tf_count ta_brackets tf_bracketCount tf_place tf_inWhere tf_compared wa_rows wf_count wf_looks ++ z) (some (.int ur)) 0 0 := by
  refine hq_of (by decide) ?_ (Nat.le_of_ble_eq_true rfl)
  intro p e s m below meth c R args Q hRm hQ hx hb hr hml hts hown hlocks hnm hP hK hD ls hl hS
  have hl : lv_has ls 1 [(0, .ref (q 0))] := hl
  have hown : s.vm.findClass "HeapQueries" = some m.cls := hown
  unfold sxq_looked at h
  refine lv_aload_n hx hb dxq_looked_0 rfl (lv_at hl 0 rfl) ?_
  refine gx_0_worker hx hb hts hown hK hP wi_57 dxq_looked_1 ?_
  refine kxw_lookCount  (sxw_lookCount wf_looks) rfl hx hb hml hts hown hK hP hD hS wi_65 (by rw [hRm]; exact ⟨Nat.le_of_ble_eq_true rfl, Nat.le_of_ble_eq_true rfl⟩) hl.1 (Nat.le_of_ble_eq_true rfl) dxq_looked_4 ⟨Nat.zero_le _, Nat.zero_le _⟩ (fun H locs hP hD hS => ?_)
  exact hq_iret hx hb hr hlocks hQ hK hP hD hS (by rw [← h]) rfl dxq_looked_7
end
section
variable {p : Program} {l : Launch} {e : Env} {R : Room} {s : State} {m : MethodId} {args : Array Value} {below : List Frame} {meth : Method} {c : Code} {H H0 : Heap} {locs : List Loc} {cells slots : Nat} {Q : State → Prop}
variable {cc : ByteArray} {pc idx nC : Nat} {ls : Array Slot} {rest : List Value} {D : va_G} {A : Nat → Prop} {own : String} {q : Nat → Nat} {cI cZ cL : ClassId} {z w : va_W}
variable {hf_classCount hf_objectCount hf_roots hf_changed sf_objectCount sf_roots sf_reachable tf_count tf_bracketCount tf_place tf_inWhere tf_compared wf_count wf_looks n_code n_number s_isDistinct s_isRetained s_sourceClass s_withDescendants : Int32}
variable {ha_parents ha_classes ha_sizes sa_linkedFrom sa_linkCounts sa_retainedSets sa_retainedSizes sa_dominators sa_immediateDominators ta_codes ta_numbers ta_brackets : Nat → Int32}
variable {ha_fields wa_rows : Nat → Int64}
variable {xq_query n_left n_right s_row s_nested s_condition s_next : Option Nat}
variable {pa_n pk_n pa_s pk_s : Nat}
theorem kxq_looked  (ur : Int32) (hu : sxq_looked wf_looks = ur) (hx : p.tables.exec = Jvm.exec) (hb : c.code = cc) (hml : c.maxLocals = nC) (hts : ∀ x ∈ hq_tbl, x.before args s = true) (hown : s.vm.findClass own = some m.cls) (hK : va_K D hq_cl (hq_tys cI cZ cL) s) (hP : va_P D hq_cl (hx_w q cI cZ cL xq_query ha_parents hf_classCount ha_classes ha_sizes ha_fields hf_objectCount hf_roots hf_changed sa_linkedFrom sa_linkCounts sa_retainedSets sa_retainedSizes sa_dominators sa_immediateDominators sf_objectCount sf_roots sf_reachable ta_codes ta_numbers tf_count ta_brackets tf_bracketCount tf_place tf_inWhere tf_compared wa_rows wf_count wf_looks ++ z) H) (hD : va_D A (hx_w q cI cZ cL xq_query ha_parents hf_classCount ha_classes ha_sizes ha_fields hf_objectCount hf_roots hf_changed sa_linkedFrom sa_linkCounts sa_retainedSets sa_retainedSizes sa_dominators sa_immediateDominators sf_objectCount sf_roots sf_reachable ta_codes ta_numbers tf_count ta_brackets tf_bracketCount tf_place tf_inWhere tf_compared wa_rows wf_count wf_looks ++ z)) (hS : va_S A H0 H locs) (h1 : Cond.methodLink own idx yxq_looked ∈ hq_tbl) (hR : 1 + 1 ≤ R.frames ∧ 8 + (1 + 11) + 20 ≤ R.locals) (hls : ls.size = nC) (hW : (rest.map fun v => v.category).sum ≤ 8) (hdg : decode cc pc = .ok (.invokevirtual idx, 3)) (hf : cells + 0 ≤ R.cells ∧ slots + 0 ≤ R.slots) (kk : ∀ (H1 : Heap) (locs1 : List Loc), va_P D hq_cl (hx_w q cI cZ cL xq_query ha_parents hf_classCount ha_classes ha_sizes ha_fields hf_objectCount hf_roots hf_changed sa_linkedFrom sa_linkCounts sa_retainedSets sa_retainedSizes sa_dominators sa_immediateDominators sf_objectCount sf_roots sf_reachable ta_codes ta_numbers tf_count ta_brackets tf_bracketCount tf_place tf_inWhere tf_compared wa_rows wf_count wf_looks ++ z) H1 → va_D A (hx_w q cI cZ cL xq_query ha_parents hf_classCount ha_classes ha_sizes ha_fields hf_objectCount hf_roots hf_changed sa_linkedFrom sa_linkCounts sa_retainedSets sa_retainedSizes sa_dominators sa_immediateDominators sf_objectCount sf_roots sf_reachable ta_codes ta_numbers tf_count ta_brackets tf_bracketCount tf_place tf_inWhere tf_compared wa_rows wf_count wf_looks ++ z) → va_S A H0 H1 locs1 → W p l e R s m args below meth c H1 locs1 cells slots Q (F0 m (pc + 3) ls (.int ur :: rest))) : W p l e R s m args below meth c H locs cells slots Q (F0 m pc ls (.ref (q 0) :: rest)) :=
  hq_callV (q0 := 0) hx hb hml hown hts hK hP hD hS (cxq_looked  ur hu) rfl rfl h1 wi_333 wi_334 wi_209 wi_335 0 rfl (by decide +kernel) ⟨rfl, rfl⟩ hR hls rfl hW hdg hf kk
end
theorem dxc_valueOfLeaf_0 : decode bxc_valueOfLeaf 0 = .ok (.aload_n 0, 1) := by decide +kernel
theorem dxc_valueOfLeaf_1 : decode bxc_valueOfLeaf 1 = .ok (.getfield 38, 3) := by decide +kernel
theorem dxc_valueOfLeaf_4 : decode bxc_valueOfLeaf 4 = .ok (.lookupswitch 41 #[(10, 28), (12, 36)], 28) := by decide +kernel
theorem dxc_valueOfLeaf_32 : decode bxc_valueOfLeaf 32 = .ok (.aload_n 0, 1) := by decide +kernel
theorem dxc_valueOfLeaf_33 : decode bxc_valueOfLeaf 33 = .ok (.getfield 54, 3) := by decide +kernel
theorem dxc_valueOfLeaf_36 : decode bxc_valueOfLeaf 36 = .ok (.invokestatic 57, 3) := by decide +kernel
theorem dxc_valueOfLeaf_39 : decode bxc_valueOfLeaf 39 = .ok (.lreturn, 1) := by decide +kernel
theorem dxc_valueOfLeaf_40 : decode bxc_valueOfLeaf 40 = .ok (.iload_n 1, 1) := by decide +kernel
theorem dxc_valueOfLeaf_41 : decode bxc_valueOfLeaf 41 = .ok (.invokestatic 60, 3) := by decide +kernel
theorem dxc_valueOfLeaf_44 : decode bxc_valueOfLeaf 44 = .ok (.lreturn, 1) := by decide +kernel
theorem dxc_valueOfLeaf_45 : decode bxc_valueOfLeaf 45 = .ok (.lconst 0, 1) := by decide +kernel
theorem dxc_valueOfLeaf_46 : decode bxc_valueOfLeaf 46 = .ok (.lreturn, 1) := by decide +kernel
section
variable {l : Launch} {D : va_G} {A : Nat → Prop} {z w : va_W} {q : Nat → Nat} {cI cZ cL : ClassId}
variable {hf_classCount hf_objectCount hf_roots hf_changed sf_objectCount sf_roots sf_reachable tf_count tf_bracketCount tf_place tf_inWhere tf_compared wf_count wf_looks n_code n_number s_isDistinct s_isRetained s_sourceClass s_withDescendants : Int32}
variable {ha_parents ha_classes ha_sizes sa_linkedFrom sa_linkCounts sa_retainedSets sa_retainedSizes sa_dominators sa_immediateDominators ta_codes ta_numbers ta_brackets : Nat → Int32}
variable {ha_fields wa_rows : Nat → Int64}
variable {xq_query n_left n_right s_row s_nested s_condition s_next : Option Nat}
variable {pa_n pk_n pa_s pk_s : Nat}
set_option maxHeartbeats 4000000 in
set_option maxRecDepth 100000 in
theorem cxc_valueOfLeaf (l1 : Int32) (ur : Int64) (h : sxc_valueOfLeaf l1 n_code n_number = ur) (ph_n : z[pk_n]? = some (pa_n, .inr (7, [.int n_code, .int n_number, va_rf n_left, va_rf n_right]))) : hq_Ct l yxc_valueOfLeaf bxc_valueOfLeaf 2 (some .long) { frames := 1, cells := 0, slots := 0, locals := 20 } D (hq_tys cI cZ cL) A [.ref pa_n, .int l1] (hx_w q cI cZ cL xq_query ha_parents hf_classCount ha_classes ha_sizes ha_fields hf_objectCount hf_roots hf_changed sa_linkedFrom sa_linkCounts sa_retainedSets sa_retainedSizes sa_dominators sa_immediateDominators sf_objectCount sf_roots sf_reachable ta_codes ta_numbers tf_count ta_brackets tf_bracketCount tf_place tf_inWhere tf_compared wa_rows wf_count wf_looks ++ z) (hx_w q cI cZ cL xq_query ha_parents hf_classCount ha_classes ha_sizes ha_fields hf_objectCount hf_roots hf_changed sa_linkedFrom sa_linkCounts sa_retainedSets sa_retainedSizes sa_dominators sa_immediateDominators sf_objectCount sf_roots sf_reachable ta_codes ta_numbers tf_count ta_brackets tf_bracketCount tf_place tf_inWhere tf_compared wa_rows wf_count wf_looks ++ z) (some (.long ur)) 0 0 := by
  refine hq_of (by decide) ?_ (Nat.le_of_ble_eq_true rfl)
  intro p e s m below meth c R args Q hRm hQ hx hb hr hml hts hown hlocks hnm hP hK hD ls hl hS
  have hl : lv_has ls 2 [(0, .ref pa_n), (1, .int l1)] := hl
  have hown : s.vm.findClass "HeapQueries$Calculator" = some m.cls := hown
  unfold sxc_valueOfLeaf at h
  refine lv_aload_n hx hb dxc_valueOfLeaf_0 rfl (lv_at hl 0 rfl) ?_
  refine gx_n_code hx hb hts hown hK hP ph_n wi_138 dxc_valueOfLeaf_1 ?_
  by_cases hk0 : n_code = 10
  · have h := (if_pos hk0).symm.trans h
    refine lv_lookup (off := 28) (tgt := 32) hx hb dxc_valueOfLeaf_4 (by decide) (by rw [hk0]; decide) (by decide) ?_
    refine lv_aload_n hx hb dxc_valueOfLeaf_32 rfl (lv_at hl 0 rfl) ?_
    refine gx_n_number hx hb hts hown hK hP ph_n wi_139 dxc_valueOfLeaf_33 ?_
    refine kxv_number n_number (sxv_number n_number) rfl hx hb hml hts hown hK hP hD hS wi_140 (by rw [hRm]; exact ⟨Nat.le_of_ble_eq_true rfl, Nat.le_of_ble_eq_true rfl⟩) hl.1 (Nat.le_of_ble_eq_true rfl) dxc_valueOfLeaf_36 ⟨Nat.zero_le _, Nat.zero_le _⟩ (fun H locs hP hD hS => ?_)
    exact hq_lret hx hb hr hlocks hQ hK hP hD hS (by rw [← h]) rfl dxc_valueOfLeaf_39
  · have h := (if_neg hk0).symm.trans h
    by_cases hk1 : n_code = 12
    · have h := (if_pos hk1).symm.trans h
      refine lv_lookup (off := 36) (tgt := 40) hx hb dxc_valueOfLeaf_4 (by decide) (by rw [hk1]; decide) (by decide) ?_
      refine lv_iload_n hx hb dxc_valueOfLeaf_40 rfl (lv_at hl 1 rfl) ?_
      refine kxv_link l1 (sxv_link l1) rfl hx hb hml hts hown hK hP hD hS wi_141 (by rw [hRm]; exact ⟨Nat.le_of_ble_eq_true rfl, Nat.le_of_ble_eq_true rfl⟩) hl.1 (Nat.le_of_ble_eq_true rfl) dxc_valueOfLeaf_41 ⟨Nat.zero_le _, Nat.zero_le _⟩ (fun H locs hP hD hS => ?_)
      exact hq_lret hx hb hr hlocks hQ hK hP hD hS (by rw [← h]) rfl dxc_valueOfLeaf_44
    · have h := (if_neg hk1).symm.trans h
      refine lv_lookup (off := 41) (tgt := 45) hx hb dxc_valueOfLeaf_4 (by decide) ((lv_osw hk0 (by decide)).trans ((lv_osw hk1 (by decide)).trans rfl)) (by decide) ?_
      refine lv_lconst (v := 0) hx hb dxc_valueOfLeaf_45 (by decide) ?_
      exact hq_lret hx hb hr hlocks hQ hK hP hD hS (by rw [← h]) rfl dxc_valueOfLeaf_46
end
section
variable {p : Program} {l : Launch} {e : Env} {R : Room} {s : State} {m : MethodId} {args : Array Value} {below : List Frame} {meth : Method} {c : Code} {H H0 : Heap} {locs : List Loc} {cells slots : Nat} {Q : State → Prop}
variable {cc : ByteArray} {pc idx nC : Nat} {ls : Array Slot} {rest : List Value} {D : va_G} {A : Nat → Prop} {own : String} {q : Nat → Nat} {cI cZ cL : ClassId} {z w : va_W}
variable {hf_classCount hf_objectCount hf_roots hf_changed sf_objectCount sf_roots sf_reachable tf_count tf_bracketCount tf_place tf_inWhere tf_compared wf_count wf_looks n_code n_number s_isDistinct s_isRetained s_sourceClass s_withDescendants : Int32}
variable {ha_parents ha_classes ha_sizes sa_linkedFrom sa_linkCounts sa_retainedSets sa_retainedSizes sa_dominators sa_immediateDominators ta_codes ta_numbers ta_brackets : Nat → Int32}
variable {ha_fields wa_rows : Nat → Int64}
variable {xq_query n_left n_right s_row s_nested s_condition s_next : Option Nat}
variable {pa_n pk_n pa_s pk_s : Nat}
theorem kxc_valueOfLeaf (l1 : Int32) (ur : Int64) (hu : sxc_valueOfLeaf l1 n_code n_number = ur) (ph_n : z[pk_n]? = some (pa_n, .inr (7, [.int n_code, .int n_number, va_rf n_left, va_rf n_right]))) (hx : p.tables.exec = Jvm.exec) (hb : c.code = cc) (hml : c.maxLocals = nC) (hts : ∀ x ∈ hq_tbl, x.before args s = true) (hown : s.vm.findClass own = some m.cls) (hK : va_K D hq_cl (hq_tys cI cZ cL) s) (hP : va_P D hq_cl (hx_w q cI cZ cL xq_query ha_parents hf_classCount ha_classes ha_sizes ha_fields hf_objectCount hf_roots hf_changed sa_linkedFrom sa_linkCounts sa_retainedSets sa_retainedSizes sa_dominators sa_immediateDominators sf_objectCount sf_roots sf_reachable ta_codes ta_numbers tf_count ta_brackets tf_bracketCount tf_place tf_inWhere tf_compared wa_rows wf_count wf_looks ++ z) H) (hD : va_D A (hx_w q cI cZ cL xq_query ha_parents hf_classCount ha_classes ha_sizes ha_fields hf_objectCount hf_roots hf_changed sa_linkedFrom sa_linkCounts sa_retainedSets sa_retainedSizes sa_dominators sa_immediateDominators sf_objectCount sf_roots sf_reachable ta_codes ta_numbers tf_count ta_brackets tf_bracketCount tf_place tf_inWhere tf_compared wa_rows wf_count wf_looks ++ z)) (hS : va_S A H0 H locs) (h1 : Cond.methodLink own idx yxc_valueOfLeaf ∈ hq_tbl) (hR : 1 + 1 ≤ R.frames ∧ 8 + (2 + 11) + 20 ≤ R.locals) (hls : ls.size = nC) (hW : (rest.map fun v => v.category).sum ≤ 8) (hdg : decode cc pc = .ok (.invokestatic idx, 3)) (hf : cells + 0 ≤ R.cells ∧ slots + 0 ≤ R.slots) (kk : ∀ (H1 : Heap) (locs1 : List Loc), va_P D hq_cl (hx_w q cI cZ cL xq_query ha_parents hf_classCount ha_classes ha_sizes ha_fields hf_objectCount hf_roots hf_changed sa_linkedFrom sa_linkCounts sa_retainedSets sa_retainedSizes sa_dominators sa_immediateDominators sf_objectCount sf_roots sf_reachable ta_codes ta_numbers tf_count ta_brackets tf_bracketCount tf_place tf_inWhere tf_compared wa_rows wf_count wf_looks ++ z) H1 → va_D A (hx_w q cI cZ cL xq_query ha_parents hf_classCount ha_classes ha_sizes ha_fields hf_objectCount hf_roots hf_changed sa_linkedFrom sa_linkCounts sa_retainedSets sa_retainedSizes sa_dominators sa_immediateDominators sf_objectCount sf_roots sf_reachable ta_codes ta_numbers tf_count ta_brackets tf_bracketCount tf_place tf_inWhere tf_compared wa_rows wf_count wf_looks ++ z) → va_S A H0 H1 locs1 → W p l e R s m args below meth c H1 locs1 cells slots Q (F0 m (pc + 3) ls (.long ur :: rest))) : W p l e R s m args below meth c H locs cells slots Q (F0 m pc ls (.int l1 :: .ref pa_n :: rest)) :=
  hq_callS hx hb hml hown hts hK hP hD hS (cxc_valueOfLeaf l1 ur hu ph_n) h1 wi_482 wi_483 wi_484 2 rfl (by decide +kernel) ⟨rfl, rfl⟩ hR hls rfl hW hdg hf kk
end
theorem dxh_classOf_0 : decode bxh_classOf 0 = .ok (.aload_n 0, 1) := by decide +kernel
theorem dxh_classOf_1 : decode bxh_classOf 1 = .ok (.getfield 15, 3) := by decide +kernel
theorem dxh_classOf_4 : decode bxh_classOf 4 = .ok (.iload_n 1, 1) := by decide +kernel
theorem dxh_classOf_5 : decode bxh_classOf 5 = .ok (.iaload, 1) := by decide +kernel
theorem dxh_classOf_6 : decode bxh_classOf 6 = .ok (.ireturn, 1) := by decide +kernel
section
variable {l : Launch} {D : va_G} {A : Nat → Prop} {z w : va_W} {q : Nat → Nat} {cI cZ cL : ClassId}
variable {hf_classCount hf_objectCount hf_roots hf_changed sf_objectCount sf_roots sf_reachable tf_count tf_bracketCount tf_place tf_inWhere tf_compared wf_count wf_looks n_code n_number s_isDistinct s_isRetained s_sourceClass s_withDescendants : Int32}
variable {ha_parents ha_classes ha_sizes sa_linkedFrom sa_linkCounts sa_retainedSets sa_retainedSizes sa_dominators sa_immediateDominators ta_codes ta_numbers ta_brackets : Nat → Int32}
variable {ha_fields wa_rows : Nat → Int64}
variable {xq_query n_left n_right s_row s_nested s_condition s_next : Option Nat}
variable {pa_n pk_n pa_s pk_s : Nat}
set_option maxHeartbeats 4000000 in
set_option maxRecDepth 100000 in
theorem cxh_classOf (l1 : Int32) (ur : Int32) (h : sxh_classOf l1 ha_classes = some ur) : hq_Ct l yxh_classOf bxh_classOf 2 (some .int) { frames := 0, cells := 0, slots := 0, locals := 0 } D (hq_tys cI cZ cL) A [.ref (q 1), .int l1] (hx_w q cI cZ cL xq_query ha_parents hf_classCount ha_classes ha_sizes ha_fields hf_objectCount hf_roots hf_changed sa_linkedFrom sa_linkCounts sa_retainedSets sa_retainedSizes sa_dominators sa_immediateDominators sf_objectCount sf_roots sf_reachable ta_codes ta_numbers tf_count ta_brackets tf_bracketCount tf_place tf_inWhere tf_compared wa_rows wf_count wf_looks ++ z) (hx_w q cI cZ cL xq_query ha_parents hf_classCount ha_classes ha_sizes ha_fields hf_objectCount hf_roots hf_changed sa_linkedFrom sa_linkCounts sa_retainedSets sa_retainedSizes sa_dominators sa_immediateDominators sf_objectCount sf_roots sf_reachable ta_codes ta_numbers tf_count ta_brackets tf_bracketCount tf_place tf_inWhere tf_compared wa_rows wf_count wf_looks ++ z) (some (.int ur)) 0 0 := by
  refine hq_of (by decide) ?_ (Nat.le_of_ble_eq_true rfl)
  intro p e s m below meth c R args Q hRm hQ hx hb hr hml hts hown hlocks hnm hP hK hD ls hl hS
  have hl : lv_has ls 2 [(0, .ref (q 1)), (1, .int l1)] := hl
  have hown : s.vm.findClass "HeapQueries$Heap" = some m.cls := hown
  unfold sxh_classOf at h
  refine lv_aload_n hx hb dxh_classOf_0 rfl (lv_at hl 0 rfl) ?_
  refine gx_1_classes hx hb hts hown hK hP wi_6 dxh_classOf_1 ?_
  refine lv_iload_n hx hb dxh_classOf_4 rfl (lv_at hl 1 rfl) ?_
  obtain ⟨hin, h⟩ := hq_idx h
  refine ax_6 hx hb hK hP hin dxh_classOf_5 ?_
  have h := Option.some.inj h
  exact hq_iret hx hb hr hlocks hQ hK hP hD hS (by rw [← h]) rfl dxh_classOf_6
end
section
variable {p : Program} {l : Launch} {e : Env} {R : Room} {s : State} {m : MethodId} {args : Array Value} {below : List Frame} {meth : Method} {c : Code} {H H0 : Heap} {locs : List Loc} {cells slots : Nat} {Q : State → Prop}
variable {cc : ByteArray} {pc idx nC : Nat} {ls : Array Slot} {rest : List Value} {D : va_G} {A : Nat → Prop} {own : String} {q : Nat → Nat} {cI cZ cL : ClassId} {z w : va_W}
variable {hf_classCount hf_objectCount hf_roots hf_changed sf_objectCount sf_roots sf_reachable tf_count tf_bracketCount tf_place tf_inWhere tf_compared wf_count wf_looks n_code n_number s_isDistinct s_isRetained s_sourceClass s_withDescendants : Int32}
variable {ha_parents ha_classes ha_sizes sa_linkedFrom sa_linkCounts sa_retainedSets sa_retainedSizes sa_dominators sa_immediateDominators ta_codes ta_numbers ta_brackets : Nat → Int32}
variable {ha_fields wa_rows : Nat → Int64}
variable {xq_query n_left n_right s_row s_nested s_condition s_next : Option Nat}
variable {pa_n pk_n pa_s pk_s : Nat}
theorem kxh_classOf (l1 : Int32) (ur : Int32) (hu : sxh_classOf l1 ha_classes = some ur) (hx : p.tables.exec = Jvm.exec) (hb : c.code = cc) (hml : c.maxLocals = nC) (hts : ∀ x ∈ hq_tbl, x.before args s = true) (hown : s.vm.findClass own = some m.cls) (hK : va_K D hq_cl (hq_tys cI cZ cL) s) (hP : va_P D hq_cl (hx_w q cI cZ cL xq_query ha_parents hf_classCount ha_classes ha_sizes ha_fields hf_objectCount hf_roots hf_changed sa_linkedFrom sa_linkCounts sa_retainedSets sa_retainedSizes sa_dominators sa_immediateDominators sf_objectCount sf_roots sf_reachable ta_codes ta_numbers tf_count ta_brackets tf_bracketCount tf_place tf_inWhere tf_compared wa_rows wf_count wf_looks ++ z) H) (hD : va_D A (hx_w q cI cZ cL xq_query ha_parents hf_classCount ha_classes ha_sizes ha_fields hf_objectCount hf_roots hf_changed sa_linkedFrom sa_linkCounts sa_retainedSets sa_retainedSizes sa_dominators sa_immediateDominators sf_objectCount sf_roots sf_reachable ta_codes ta_numbers tf_count ta_brackets tf_bracketCount tf_place tf_inWhere tf_compared wa_rows wf_count wf_looks ++ z)) (hS : va_S A H0 H locs) (h1 : Cond.methodLink own idx yxh_classOf ∈ hq_tbl) (hR : 0 + 1 ≤ R.frames ∧ 8 + (2 + 11) + 0 ≤ R.locals) (hls : ls.size = nC) (hW : (rest.map fun v => v.category).sum ≤ 8) (hdg : decode cc pc = .ok (.invokevirtual idx, 3)) (hf : cells + 0 ≤ R.cells ∧ slots + 0 ≤ R.slots) (kk : ∀ (H1 : Heap) (locs1 : List Loc), va_P D hq_cl (hx_w q cI cZ cL xq_query ha_parents hf_classCount ha_classes ha_sizes ha_fields hf_objectCount hf_roots hf_changed sa_linkedFrom sa_linkCounts sa_retainedSets sa_retainedSizes sa_dominators sa_immediateDominators sf_objectCount sf_roots sf_reachable ta_codes ta_numbers tf_count ta_brackets tf_bracketCount tf_place tf_inWhere tf_compared wa_rows wf_count wf_looks ++ z) H1 → va_D A (hx_w q cI cZ cL xq_query ha_parents hf_classCount ha_classes ha_sizes ha_fields hf_objectCount hf_roots hf_changed sa_linkedFrom sa_linkCounts sa_retainedSets sa_retainedSizes sa_dominators sa_immediateDominators sf_objectCount sf_roots sf_reachable ta_codes ta_numbers tf_count ta_brackets tf_bracketCount tf_place tf_inWhere tf_compared wa_rows wf_count wf_looks ++ z) → va_S A H0 H1 locs1 → W p l e R s m args below meth c H1 locs1 cells slots Q (F0 m (pc + 3) ls (.int ur :: rest))) : W p l e R s m args below meth c H locs cells slots Q (F0 m pc ls (.int l1 :: .ref (q 1) :: rest)) :=
  hq_callV (q0 := 1) hx hb hml hown hts hK hP hD hS (cxh_classOf l1 ur hu) rfl rfl h1 wi_495 wi_496 wi_202 wi_497 1 rfl (by decide +kernel) ⟨rfl, rfl⟩ hR hls rfl hW hdg hf kk
end
theorem dxs_linkCountOf_0 : decode bxs_linkCountOf 0 = .ok (.aload_n 0, 1) := by decide +kernel
theorem dxs_linkCountOf_1 : decode bxs_linkCountOf 1 = .ok (.getfield 15, 3) := by decide +kernel
theorem dxs_linkCountOf_4 : decode bxs_linkCountOf 4 = .ok (.iload_n 1, 1) := by decide +kernel
theorem dxs_linkCountOf_5 : decode bxs_linkCountOf 5 = .ok (.iaload, 1) := by decide +kernel
theorem dxs_linkCountOf_6 : decode bxs_linkCountOf 6 = .ok (.ireturn, 1) := by decide +kernel
section
variable {l : Launch} {D : va_G} {A : Nat → Prop} {z w : va_W} {q : Nat → Nat} {cI cZ cL : ClassId}
variable {hf_classCount hf_objectCount hf_roots hf_changed sf_objectCount sf_roots sf_reachable tf_count tf_bracketCount tf_place tf_inWhere tf_compared wf_count wf_looks n_code n_number s_isDistinct s_isRetained s_sourceClass s_withDescendants : Int32}
variable {ha_parents ha_classes ha_sizes sa_linkedFrom sa_linkCounts sa_retainedSets sa_retainedSizes sa_dominators sa_immediateDominators ta_codes ta_numbers ta_brackets : Nat → Int32}
variable {ha_fields wa_rows : Nat → Int64}
variable {xq_query n_left n_right s_row s_nested s_condition s_next : Option Nat}
variable {pa_n pk_n pa_s pk_s : Nat}
set_option maxHeartbeats 4000000 in
set_option maxRecDepth 100000 in
theorem cxs_linkCountOf (l1 : Int32) (ur : Int32) (h : sxs_linkCountOf l1 sa_linkCounts = some ur) : hq_Ct l yxs_linkCountOf bxs_linkCountOf 2 (some .int) { frames := 0, cells := 0, slots := 0, locals := 0 } D (hq_tys cI cZ cL) A [.ref (q 2), .int l1] (hx_w q cI cZ cL xq_query ha_parents hf_classCount ha_classes ha_sizes ha_fields hf_objectCount hf_roots hf_changed sa_linkedFrom sa_linkCounts sa_retainedSets sa_retainedSizes sa_dominators sa_immediateDominators sf_objectCount sf_roots sf_reachable ta_codes ta_numbers tf_count ta_brackets tf_bracketCount tf_place tf_inWhere tf_compared wa_rows wf_count wf_looks ++ z) (hx_w q cI cZ cL xq_query ha_parents hf_classCount ha_classes ha_sizes ha_fields hf_objectCount hf_roots hf_changed sa_linkedFrom sa_linkCounts sa_retainedSets sa_retainedSizes sa_dominators sa_immediateDominators sf_objectCount sf_roots sf_reachable ta_codes ta_numbers tf_count ta_brackets tf_bracketCount tf_place tf_inWhere tf_compared wa_rows wf_count wf_looks ++ z) (some (.int ur)) 0 0 := by
  refine hq_of (by decide) ?_ (Nat.le_of_ble_eq_true rfl)
  intro p e s m below meth c R args Q hRm hQ hx hb hr hml hts hown hlocks hnm hP hK hD ls hl hS
  have hl : lv_has ls 2 [(0, .ref (q 2)), (1, .int l1)] := hl
  have hown : s.vm.findClass "HeapQueries$Survey" = some m.cls := hown
  unfold sxs_linkCountOf at h
  refine lv_aload_n hx hb dxs_linkCountOf_0 rfl (lv_at hl 0 rfl) ?_
  refine gx_2_linkCounts hx hb hts hown hK hP wi_25 dxs_linkCountOf_1 ?_
  refine lv_iload_n hx hb dxs_linkCountOf_4 rfl (lv_at hl 1 rfl) ?_
  obtain ⟨hin, h⟩ := hq_idx h
  refine ax_10 hx hb hK hP hin dxs_linkCountOf_5 ?_
  have h := Option.some.inj h
  exact hq_iret hx hb hr hlocks hQ hK hP hD hS (by rw [← h]) rfl dxs_linkCountOf_6
end
section
variable {p : Program} {l : Launch} {e : Env} {R : Room} {s : State} {m : MethodId} {args : Array Value} {below : List Frame} {meth : Method} {c : Code} {H H0 : Heap} {locs : List Loc} {cells slots : Nat} {Q : State → Prop}
variable {cc : ByteArray} {pc idx nC : Nat} {ls : Array Slot} {rest : List Value} {D : va_G} {A : Nat → Prop} {own : String} {q : Nat → Nat} {cI cZ cL : ClassId} {z w : va_W}
variable {hf_classCount hf_objectCount hf_roots hf_changed sf_objectCount sf_roots sf_reachable tf_count tf_bracketCount tf_place tf_inWhere tf_compared wf_count wf_looks n_code n_number s_isDistinct s_isRetained s_sourceClass s_withDescendants : Int32}
variable {ha_parents ha_classes ha_sizes sa_linkedFrom sa_linkCounts sa_retainedSets sa_retainedSizes sa_dominators sa_immediateDominators ta_codes ta_numbers ta_brackets : Nat → Int32}
variable {ha_fields wa_rows : Nat → Int64}
variable {xq_query n_left n_right s_row s_nested s_condition s_next : Option Nat}
variable {pa_n pk_n pa_s pk_s : Nat}
theorem kxs_linkCountOf (l1 : Int32) (ur : Int32) (hu : sxs_linkCountOf l1 sa_linkCounts = some ur) (hx : p.tables.exec = Jvm.exec) (hb : c.code = cc) (hml : c.maxLocals = nC) (hts : ∀ x ∈ hq_tbl, x.before args s = true) (hown : s.vm.findClass own = some m.cls) (hK : va_K D hq_cl (hq_tys cI cZ cL) s) (hP : va_P D hq_cl (hx_w q cI cZ cL xq_query ha_parents hf_classCount ha_classes ha_sizes ha_fields hf_objectCount hf_roots hf_changed sa_linkedFrom sa_linkCounts sa_retainedSets sa_retainedSizes sa_dominators sa_immediateDominators sf_objectCount sf_roots sf_reachable ta_codes ta_numbers tf_count ta_brackets tf_bracketCount tf_place tf_inWhere tf_compared wa_rows wf_count wf_looks ++ z) H) (hD : va_D A (hx_w q cI cZ cL xq_query ha_parents hf_classCount ha_classes ha_sizes ha_fields hf_objectCount hf_roots hf_changed sa_linkedFrom sa_linkCounts sa_retainedSets sa_retainedSizes sa_dominators sa_immediateDominators sf_objectCount sf_roots sf_reachable ta_codes ta_numbers tf_count ta_brackets tf_bracketCount tf_place tf_inWhere tf_compared wa_rows wf_count wf_looks ++ z)) (hS : va_S A H0 H locs) (h1 : Cond.methodLink own idx yxs_linkCountOf ∈ hq_tbl) (hR : 0 + 1 ≤ R.frames ∧ 8 + (2 + 11) + 0 ≤ R.locals) (hls : ls.size = nC) (hW : (rest.map fun v => v.category).sum ≤ 8) (hdg : decode cc pc = .ok (.invokevirtual idx, 3)) (hf : cells + 0 ≤ R.cells ∧ slots + 0 ≤ R.slots) (kk : ∀ (H1 : Heap) (locs1 : List Loc), va_P D hq_cl (hx_w q cI cZ cL xq_query ha_parents hf_classCount ha_classes ha_sizes ha_fields hf_objectCount hf_roots hf_changed sa_linkedFrom sa_linkCounts sa_retainedSets sa_retainedSizes sa_dominators sa_immediateDominators sf_objectCount sf_roots sf_reachable ta_codes ta_numbers tf_count ta_brackets tf_bracketCount tf_place tf_inWhere tf_compared wa_rows wf_count wf_looks ++ z) H1 → va_D A (hx_w q cI cZ cL xq_query ha_parents hf_classCount ha_classes ha_sizes ha_fields hf_objectCount hf_roots hf_changed sa_linkedFrom sa_linkCounts sa_retainedSets sa_retainedSizes sa_dominators sa_immediateDominators sf_objectCount sf_roots sf_reachable ta_codes ta_numbers tf_count ta_brackets tf_bracketCount tf_place tf_inWhere tf_compared wa_rows wf_count wf_looks ++ z) → va_S A H0 H1 locs1 → W p l e R s m args below meth c H1 locs1 cells slots Q (F0 m (pc + 3) ls (.int ur :: rest))) : W p l e R s m args below meth c H locs cells slots Q (F0 m pc ls (.int l1 :: .ref (q 2) :: rest)) :=
  hq_callV (q0 := 2) hx hb hml hown hts hK hP hD hS (cxs_linkCountOf l1 ur hu) rfl rfl h1 wi_498 wi_499 wi_252 wi_500 1 rfl (by decide +kernel) ⟨rfl, rfl⟩ hR hls rfl hW hdg hf kk
end
theorem dxc_factOf_0 : decode bxc_factOf 0 = .ok (.iload_n 2, 1) := by decide +kernel
theorem dxc_factOf_1 : decode bxc_factOf 1 = .ok (.tableswitch 109 0 5 #[39, 44, 53, 62, 74, 97], 39) := by decide +kernel
theorem dxc_factOf_40 : decode bxc_factOf 40 = .ok (.iload_n 1, 1) := by decide +kernel
theorem dxc_factOf_41 : decode bxc_factOf 41 = .ok (.invokestatic 57, 3) := by decide +kernel
theorem dxc_factOf_44 : decode bxc_factOf 44 = .ok (.lreturn, 1) := by decide +kernel
theorem dxc_factOf_45 : decode bxc_factOf 45 = .ok (.aload_n 0, 1) := by decide +kernel
theorem dxc_factOf_46 : decode bxc_factOf 46 = .ok (.iload_n 1, 1) := by decide +kernel
theorem dxc_factOf_47 : decode bxc_factOf 47 = .ok (.invokevirtual 96, 3) := by decide +kernel
theorem dxc_factOf_50 : decode bxc_factOf 50 = .ok (.invokestatic 57, 3) := by decide +kernel
theorem dxc_factOf_53 : decode bxc_factOf 53 = .ok (.lreturn, 1) := by decide +kernel
theorem dxc_factOf_54 : decode bxc_factOf 54 = .ok (.aload_n 0, 1) := by decide +kernel
theorem dxc_factOf_55 : decode bxc_factOf 55 = .ok (.iload_n 1, 1) := by decide +kernel
theorem dxc_factOf_56 : decode bxc_factOf 56 = .ok (.invokevirtual 100, 3) := by decide +kernel
theorem dxc_factOf_59 : decode bxc_factOf 59 = .ok (.invokestatic 57, 3) := by decide +kernel
theorem dxc_factOf_62 : decode bxc_factOf 62 = .ok (.lreturn, 1) := by decide +kernel
theorem dxc_factOf_63 : decode bxc_factOf 63 = .ok (.aload_n 0, 1) := by decide +kernel
theorem dxc_factOf_64 : decode bxc_factOf 64 = .ok (.getfield 103, 3) := by decide +kernel
theorem dxc_factOf_67 : decode bxc_factOf 67 = .ok (.iload_n 1, 1) := by decide +kernel
theorem dxc_factOf_68 : decode bxc_factOf 68 = .ok (.invokevirtual 107, 3) := by decide +kernel
theorem dxc_factOf_71 : decode bxc_factOf 71 = .ok (.invokestatic 57, 3) := by decide +kernel
theorem dxc_factOf_74 : decode bxc_factOf 74 = .ok (.lreturn, 1) := by decide +kernel
theorem dxc_factOf_75 : decode bxc_factOf 75 = .ok (.aload_n 0, 1) := by decide +kernel
theorem dxc_factOf_76 : decode bxc_factOf 76 = .ok (.getfield 103, 3) := by decide +kernel
theorem dxc_factOf_79 : decode bxc_factOf 79 = .ok (.iload_n 1, 1) := by decide +kernel
theorem dxc_factOf_80 : decode bxc_factOf 80 = .ok (.invokevirtual 112, 3) := by decide +kernel
theorem dxc_factOf_83 : decode bxc_factOf 83 = .ok (.istore_n 3, 1) := by decide +kernel
theorem dxc_factOf_84 : decode bxc_factOf 84 = .ok (.iload_n 3, 1) := by decide +kernel
theorem dxc_factOf_85 : decode bxc_factOf 85 = .ok (.iconst (-1), 1) := by decide +kernel
theorem dxc_factOf_86 : decode bxc_factOf 86 = .ok (.if_icmp .ne 7, 3) := by decide +kernel
theorem dxc_factOf_89 : decode bxc_factOf 89 = .ok (.lconst 0, 1) := by decide +kernel
theorem dxc_factOf_90 : decode bxc_factOf 90 = .ok (.goto 7, 3) := by decide +kernel
theorem dxc_factOf_93 : decode bxc_factOf 93 = .ok (.iload_n 3, 1) := by decide +kernel
theorem dxc_factOf_94 : decode bxc_factOf 94 = .ok (.invokestatic 60, 3) := by decide +kernel
theorem dxc_factOf_97 : decode bxc_factOf 97 = .ok (.lreturn, 1) := by decide +kernel
theorem dxc_factOf_98 : decode bxc_factOf 98 = .ok (.aload_n 0, 1) := by decide +kernel
theorem dxc_factOf_99 : decode bxc_factOf 99 = .ok (.getfield 103, 3) := by decide +kernel
theorem dxc_factOf_102 : decode bxc_factOf 102 = .ok (.iload_n 1, 1) := by decide +kernel
theorem dxc_factOf_103 : decode bxc_factOf 103 = .ok (.invokevirtual 115, 3) := by decide +kernel
theorem dxc_factOf_106 : decode bxc_factOf 106 = .ok (.invokestatic 57, 3) := by decide +kernel
theorem dxc_factOf_109 : decode bxc_factOf 109 = .ok (.lreturn, 1) := by decide +kernel
theorem dxc_factOf_110 : decode bxc_factOf 110 = .ok (.lconst 0, 1) := by decide +kernel
theorem dxc_factOf_111 : decode bxc_factOf 111 = .ok (.lreturn, 1) := by decide +kernel
section
variable {l : Launch} {D : va_G} {A : Nat → Prop} {z w : va_W} {q : Nat → Nat} {cI cZ cL : ClassId}
variable {hf_classCount hf_objectCount hf_roots hf_changed sf_objectCount sf_roots sf_reachable tf_count tf_bracketCount tf_place tf_inWhere tf_compared wf_count wf_looks n_code n_number s_isDistinct s_isRetained s_sourceClass s_withDescendants : Int32}
variable {ha_parents ha_classes ha_sizes sa_linkedFrom sa_linkCounts sa_retainedSets sa_retainedSizes sa_dominators sa_immediateDominators ta_codes ta_numbers ta_brackets : Nat → Int32}
variable {ha_fields wa_rows : Nat → Int64}
variable {xq_query n_left n_right s_row s_nested s_condition s_next : Option Nat}
variable {pa_n pk_n pa_s pk_s : Nat}
set_option maxHeartbeats 4000000 in
set_option maxRecDepth 100000 in
theorem cxc_factOf (l1 : Int32) (l2 : Int32) (ur : Int64) (h : sxc_factOf l1 l2 ha_classes ha_sizes sa_linkCounts sa_retainedSizes sa_immediateDominators = some ur) : hq_Ct l yxc_factOf bxc_factOf 4 (some .long) { frames := 1, cells := 0, slots := 0, locals := 21 } D (hq_tys cI cZ cL) A [.ref (q 1), .int l1, .int l2] (hx_w q cI cZ cL xq_query ha_parents hf_classCount ha_classes ha_sizes ha_fields hf_objectCount hf_roots hf_changed sa_linkedFrom sa_linkCounts sa_retainedSets sa_retainedSizes sa_dominators sa_immediateDominators sf_objectCount sf_roots sf_reachable ta_codes ta_numbers tf_count ta_brackets tf_bracketCount tf_place tf_inWhere tf_compared wa_rows wf_count wf_looks ++ z) (hx_w q cI cZ cL xq_query ha_parents hf_classCount ha_classes ha_sizes ha_fields hf_objectCount hf_roots hf_changed sa_linkedFrom sa_linkCounts sa_retainedSets sa_retainedSizes sa_dominators sa_immediateDominators sf_objectCount sf_roots sf_reachable ta_codes ta_numbers tf_count ta_brackets tf_bracketCount tf_place tf_inWhere tf_compared wa_rows wf_count wf_looks ++ z) (some (.long ur)) 0 0 := by
  refine hq_of (by decide) ?_ (Nat.le_of_ble_eq_true rfl)
  intro p e s m below meth c R args Q hRm hQ hx hb hr hml hts hown hlocks hnm hP hK hD ls hl hS
  have hl : lv_has ls 4 [(0, .ref (q 1)), (1, .int l1), (2, .int l2)] := hl
  have hown : s.vm.findClass "HeapQueries$Calculator" = some m.cls := hown
  unfold sxc_factOf at h
  refine lv_iload_n hx hb dxc_factOf_0 rfl (lv_at hl 2 rfl) ?_
  by_cases hk0 : l2 = 0
  · have h := (if_pos hk0).symm.trans h
    refine lv_tableIn (off := 39) (tgt := 40) hx hb dxc_factOf_1 (by rw [hk0]; decide) (by rw [hk0]; decide) (by rw [hk0]; rfl) (by decide) ?_
    refine lv_iload_n hx hb dxc_factOf_40 rfl (lv_at hl 1 rfl) ?_
    refine kxv_number l1 (sxv_number l1) rfl hx hb hml hts hown hK hP hD hS wi_140 (by rw [hRm]; exact ⟨Nat.le_of_ble_eq_true rfl, Nat.le_of_ble_eq_true rfl⟩) hl.1 (Nat.le_of_ble_eq_true rfl) dxc_factOf_41 ⟨Nat.zero_le _, Nat.zero_le _⟩ (fun H locs hP hD hS => ?_)
    have h := Option.some.inj h
    exact hq_lret hx hb hr hlocks hQ hK hP hD hS (by rw [← h]) rfl dxc_factOf_44
  · have h := (if_neg hk0).symm.trans h
    by_cases hk1 : l2 = 1
    · have h := (if_pos hk1).symm.trans h
      refine lv_tableIn (off := 44) (tgt := 45) hx hb dxc_factOf_1 (by rw [hk1]; decide) (by rw [hk1]; decide) (by rw [hk1]; rfl) (by decide) ?_
      refine lv_aload_n hx hb dxc_factOf_45 rfl (lv_at hl 0 rfl) ?_
      refine lv_iload_n hx hb dxc_factOf_46 rfl (lv_at hl 1 rfl) ?_
      obtain ⟨v47, h47, h⟩ := hq_bind h
      refine kxh_classOf l1 v47 h47 hx hb hml hts hown hK hP hD hS wi_149 (by rw [hRm]; exact ⟨Nat.le_of_ble_eq_true rfl, Nat.le_of_ble_eq_true rfl⟩) hl.1 (Nat.le_of_ble_eq_true rfl) dxc_factOf_47 ⟨Nat.zero_le _, Nat.zero_le _⟩ (fun H locs hP hD hS => ?_)
      refine kxv_number v47 (sxv_number v47) rfl hx hb hml hts hown hK hP hD hS wi_140 (by rw [hRm]; exact ⟨Nat.le_of_ble_eq_true rfl, Nat.le_of_ble_eq_true rfl⟩) hl.1 (Nat.le_of_ble_eq_true rfl) dxc_factOf_50 ⟨Nat.zero_le _, Nat.zero_le _⟩ (fun H locs hP hD hS => ?_)
      have h := Option.some.inj h
      exact hq_lret hx hb hr hlocks hQ hK hP hD hS (by rw [← h]) rfl dxc_factOf_53
    · have h := (if_neg hk1).symm.trans h
      by_cases hk2 : l2 = 2
      · have h := (if_pos hk2).symm.trans h
        refine lv_tableIn (off := 53) (tgt := 54) hx hb dxc_factOf_1 (by rw [hk2]; decide) (by rw [hk2]; decide) (by rw [hk2]; rfl) (by decide) ?_
        refine lv_aload_n hx hb dxc_factOf_54 rfl (lv_at hl 0 rfl) ?_
        refine lv_iload_n hx hb dxc_factOf_55 rfl (lv_at hl 1 rfl) ?_
        obtain ⟨v56, h56, h⟩ := hq_bind h
        refine kxh_sizeOf l1 v56 h56 hx hb hml hts hown hK hP hD hS wi_150 (by rw [hRm]; exact ⟨Nat.le_of_ble_eq_true rfl, Nat.le_of_ble_eq_true rfl⟩) hl.1 (Nat.le_of_ble_eq_true rfl) dxc_factOf_56 ⟨Nat.zero_le _, Nat.zero_le _⟩ (fun H locs hP hD hS => ?_)
        refine kxv_number v56 (sxv_number v56) rfl hx hb hml hts hown hK hP hD hS wi_140 (by rw [hRm]; exact ⟨Nat.le_of_ble_eq_true rfl, Nat.le_of_ble_eq_true rfl⟩) hl.1 (Nat.le_of_ble_eq_true rfl) dxc_factOf_59 ⟨Nat.zero_le _, Nat.zero_le _⟩ (fun H locs hP hD hS => ?_)
        have h := Option.some.inj h
        exact hq_lret hx hb hr hlocks hQ hK hP hD hS (by rw [← h]) rfl dxc_factOf_62
      · have h := (if_neg hk2).symm.trans h
        by_cases hk3 : l2 = 3
        · have h := (if_pos hk3).symm.trans h
          refine lv_tableIn (off := 62) (tgt := 63) hx hb dxc_factOf_1 (by rw [hk3]; decide) (by rw [hk3]; decide) (by rw [hk3]; rfl) (by decide) ?_
          refine lv_aload_n hx hb dxc_factOf_63 rfl (lv_at hl 0 rfl) ?_
          refine gx_1_survey hx hb hts hown hK hP wi_151 dxc_factOf_64 ?_
          refine lv_iload_n hx hb dxc_factOf_67 rfl (lv_at hl 1 rfl) ?_
          obtain ⟨v68, h68, h⟩ := hq_bind h
          refine kxs_retainedSizeOf l1 v68 h68 hx hb hml hts hown hK hP hD hS wi_152 (by rw [hRm]; exact ⟨Nat.le_of_ble_eq_true rfl, Nat.le_of_ble_eq_true rfl⟩) hl.1 (Nat.le_of_ble_eq_true rfl) dxc_factOf_68 ⟨Nat.zero_le _, Nat.zero_le _⟩ (fun H locs hP hD hS => ?_)
          refine kxv_number v68 (sxv_number v68) rfl hx hb hml hts hown hK hP hD hS wi_140 (by rw [hRm]; exact ⟨Nat.le_of_ble_eq_true rfl, Nat.le_of_ble_eq_true rfl⟩) hl.1 (Nat.le_of_ble_eq_true rfl) dxc_factOf_71 ⟨Nat.zero_le _, Nat.zero_le _⟩ (fun H locs hP hD hS => ?_)
          have h := Option.some.inj h
          exact hq_lret hx hb hr hlocks hQ hK hP hD hS (by rw [← h]) rfl dxc_factOf_74
        · have h := (if_neg hk3).symm.trans h
          by_cases hk4 : l2 = 4
          · have h := (if_pos hk4).symm.trans h
            refine lv_tableIn (off := 74) (tgt := 75) hx hb dxc_factOf_1 (by rw [hk4]; decide) (by rw [hk4]; decide) (by rw [hk4]; rfl) (by decide) ?_
            refine lv_aload_n hx hb dxc_factOf_75 rfl (lv_at hl 0 rfl) ?_
            refine gx_1_survey hx hb hts hown hK hP wi_151 dxc_factOf_76 ?_
            refine lv_iload_n hx hb dxc_factOf_79 rfl (lv_at hl 1 rfl) ?_
            obtain ⟨v80, h80, h⟩ := hq_bind h
            refine kxs_immediateDominatorOf l1 v80 h80 hx hb hml hts hown hK hP hD hS wi_153 (by rw [hRm]; exact ⟨Nat.le_of_ble_eq_true rfl, Nat.le_of_ble_eq_true rfl⟩) hl.1 (Nat.le_of_ble_eq_true rfl) dxc_factOf_80 ⟨Nat.zero_le _, Nat.zero_le _⟩ (fun H locs hP hD hS => ?_)
            refine lv_istore_n (lv' := [(3, .int v80), (0, .ref (q 1)), (1, .int l1), (2, .int l2)]) hx hb dxc_factOf_83 rfl hl (by decide) rfl (fun ls hl => ?_)
            refine lv_iload_n hx hb dxc_factOf_84 rfl (lv_at hl 0 rfl) ?_
            refine lv_iconst (v := (-1)) hx hb dxc_factOf_85 (by decide) ?_
            refine lv_icmp_ne (tgt := 93) hx hb dxc_factOf_86 (by decide) (fun hc => ?_) (fun hc => ?_)
            · have h := (if_neg hc).symm.trans h
              refine lv_iload_n hx hb dxc_factOf_93 rfl (lv_at hl 0 rfl) ?_
              refine kxv_link v80 (sxv_link v80) rfl hx hb hml hts hown hK hP hD hS wi_141 (by rw [hRm]; exact ⟨Nat.le_of_ble_eq_true rfl, Nat.le_of_ble_eq_true rfl⟩) hl.1 (Nat.le_of_ble_eq_true rfl) dxc_factOf_94 ⟨Nat.zero_le _, Nat.zero_le _⟩ (fun H locs hP hD hS => ?_)
              have h := Option.some.inj h
              exact hq_lret hx hb hr hlocks hQ hK hP hD hS (by rw [← h]) rfl dxc_factOf_97
            · have h := (if_pos hc).symm.trans h
              refine lv_lconst (v := 0) hx hb dxc_factOf_89 (by decide) ?_
              refine lv_goto (tgt := 97) hx hb dxc_factOf_90 (by decide) ?_
              have h := Option.some.inj h
              exact hq_lret hx hb hr hlocks hQ hK hP hD hS (by rw [← h]) rfl dxc_factOf_97
          · have h := (if_neg hk4).symm.trans h
            by_cases hk5 : l2 = 5
            · have h := (if_pos hk5).symm.trans h
              refine lv_tableIn (off := 97) (tgt := 98) hx hb dxc_factOf_1 (by rw [hk5]; decide) (by rw [hk5]; decide) (by rw [hk5]; rfl) (by decide) ?_
              refine lv_aload_n hx hb dxc_factOf_98 rfl (lv_at hl 0 rfl) ?_
              refine gx_1_survey hx hb hts hown hK hP wi_151 dxc_factOf_99 ?_
              refine lv_iload_n hx hb dxc_factOf_102 rfl (lv_at hl 1 rfl) ?_
              obtain ⟨v103, h103, h⟩ := hq_bind h
              refine kxs_linkCountOf l1 v103 h103 hx hb hml hts hown hK hP hD hS wi_154 (by rw [hRm]; exact ⟨Nat.le_of_ble_eq_true rfl, Nat.le_of_ble_eq_true rfl⟩) hl.1 (Nat.le_of_ble_eq_true rfl) dxc_factOf_103 ⟨Nat.zero_le _, Nat.zero_le _⟩ (fun H locs hP hD hS => ?_)
              refine kxv_number v103 (sxv_number v103) rfl hx hb hml hts hown hK hP hD hS wi_140 (by rw [hRm]; exact ⟨Nat.le_of_ble_eq_true rfl, Nat.le_of_ble_eq_true rfl⟩) hl.1 (Nat.le_of_ble_eq_true rfl) dxc_factOf_106 ⟨Nat.zero_le _, Nat.zero_le _⟩ (fun H locs hP hD hS => ?_)
              have h := Option.some.inj h
              exact hq_lret hx hb hr hlocks hQ hK hP hD hS (by rw [← h]) rfl dxc_factOf_109
            · have h := (if_neg hk5).symm.trans h
              refine lv_tableOut (tgt := 110) hx hb dxc_factOf_1 (by have a0 := lv_neT (a := 0) hk0 (by decide); have a1 := lv_neT (a := 1) hk1 (by decide); have a2 := lv_neT (a := 2) hk2 (by decide); have a3 := lv_neT (a := 3) hk3 (by decide); have a4 := lv_neT (a := 4) hk4 (by decide); have a5 := lv_neT (a := 5) hk5 (by decide); omega) (by decide) ?_
              refine lv_lconst (v := 0) hx hb dxc_factOf_110 (by decide) ?_
              have h := Option.some.inj h
              exact hq_lret hx hb hr hlocks hQ hK hP hD hS (by rw [← h]) rfl dxc_factOf_111
end
section
variable {p : Program} {l : Launch} {e : Env} {R : Room} {s : State} {m : MethodId} {args : Array Value} {below : List Frame} {meth : Method} {c : Code} {H H0 : Heap} {locs : List Loc} {cells slots : Nat} {Q : State → Prop}
variable {cc : ByteArray} {pc idx nC : Nat} {ls : Array Slot} {rest : List Value} {D : va_G} {A : Nat → Prop} {own : String} {q : Nat → Nat} {cI cZ cL : ClassId} {z w : va_W}
variable {hf_classCount hf_objectCount hf_roots hf_changed sf_objectCount sf_roots sf_reachable tf_count tf_bracketCount tf_place tf_inWhere tf_compared wf_count wf_looks n_code n_number s_isDistinct s_isRetained s_sourceClass s_withDescendants : Int32}
variable {ha_parents ha_classes ha_sizes sa_linkedFrom sa_linkCounts sa_retainedSets sa_retainedSizes sa_dominators sa_immediateDominators ta_codes ta_numbers ta_brackets : Nat → Int32}
variable {ha_fields wa_rows : Nat → Int64}
variable {xq_query n_left n_right s_row s_nested s_condition s_next : Option Nat}
variable {pa_n pk_n pa_s pk_s : Nat}
theorem kxc_factOf (l1 : Int32) (l2 : Int32) (ur : Int64) (hu : sxc_factOf l1 l2 ha_classes ha_sizes sa_linkCounts sa_retainedSizes sa_immediateDominators = some ur) (hx : p.tables.exec = Jvm.exec) (hb : c.code = cc) (hml : c.maxLocals = nC) (hts : ∀ x ∈ hq_tbl, x.before args s = true) (hown : s.vm.findClass own = some m.cls) (hK : va_K D hq_cl (hq_tys cI cZ cL) s) (hP : va_P D hq_cl (hx_w q cI cZ cL xq_query ha_parents hf_classCount ha_classes ha_sizes ha_fields hf_objectCount hf_roots hf_changed sa_linkedFrom sa_linkCounts sa_retainedSets sa_retainedSizes sa_dominators sa_immediateDominators sf_objectCount sf_roots sf_reachable ta_codes ta_numbers tf_count ta_brackets tf_bracketCount tf_place tf_inWhere tf_compared wa_rows wf_count wf_looks ++ z) H) (hD : va_D A (hx_w q cI cZ cL xq_query ha_parents hf_classCount ha_classes ha_sizes ha_fields hf_objectCount hf_roots hf_changed sa_linkedFrom sa_linkCounts sa_retainedSets sa_retainedSizes sa_dominators sa_immediateDominators sf_objectCount sf_roots sf_reachable ta_codes ta_numbers tf_count ta_brackets tf_bracketCount tf_place tf_inWhere tf_compared wa_rows wf_count wf_looks ++ z)) (hS : va_S A H0 H locs) (h1 : Cond.methodLink own idx yxc_factOf ∈ hq_tbl) (hR : 1 + 1 ≤ R.frames ∧ 8 + (4 + 11) + 21 ≤ R.locals) (hls : ls.size = nC) (hW : (rest.map fun v => v.category).sum ≤ 8) (hdg : decode cc pc = .ok (.invokestatic idx, 3)) (hf : cells + 0 ≤ R.cells ∧ slots + 0 ≤ R.slots) (kk : ∀ (H1 : Heap) (locs1 : List Loc), va_P D hq_cl (hx_w q cI cZ cL xq_query ha_parents hf_classCount ha_classes ha_sizes ha_fields hf_objectCount hf_roots hf_changed sa_linkedFrom sa_linkCounts sa_retainedSets sa_retainedSizes sa_dominators sa_immediateDominators sf_objectCount sf_roots sf_reachable ta_codes ta_numbers tf_count ta_brackets tf_bracketCount tf_place tf_inWhere tf_compared wa_rows wf_count wf_looks ++ z) H1 → va_D A (hx_w q cI cZ cL xq_query ha_parents hf_classCount ha_classes ha_sizes ha_fields hf_objectCount hf_roots hf_changed sa_linkedFrom sa_linkCounts sa_retainedSets sa_retainedSizes sa_dominators sa_immediateDominators sf_objectCount sf_roots sf_reachable ta_codes ta_numbers tf_count ta_brackets tf_bracketCount tf_place tf_inWhere tf_compared wa_rows wf_count wf_looks ++ z) → va_S A H0 H1 locs1 → W p l e R s m args below meth c H1 locs1 cells slots Q (F0 m (pc + 3) ls (.long ur :: rest))) : W p l e R s m args below meth c H locs cells slots Q (F0 m pc ls (.int l2 :: .int l1 :: .ref (q 1) :: rest)) :=
  hq_callS hx hb hml hown hts hK hP hD hS (cxc_factOf l1 l2 ur hu) h1 wi_501 wi_483 wi_502 3 rfl (by decide +kernel) ⟨rfl, rfl⟩ hR hls rfl hW hdg hf kk
end
theorem dxc_valueOfUnary_0 : decode bxc_valueOfUnary 0 = .ok (.aload_n 1, 1) := by decide +kernel
theorem dxc_valueOfUnary_1 : decode bxc_valueOfUnary 1 = .ok (.getfield 38, 3) := by decide +kernel
theorem dxc_valueOfUnary_4 : decode bxc_valueOfUnary 4 = .ok (.bipush 17, 2) := by decide +kernel
theorem dxc_valueOfUnary_6 : decode bxc_valueOfUnary 6 = .ok (.if_icmp .ne 40, 3) := by decide +kernel
theorem dxc_valueOfUnary_9 : decode bxc_valueOfUnary 9 = .ok (.lload_n 2, 1) := by decide +kernel
theorem dxc_valueOfUnary_10 : decode bxc_valueOfUnary 10 = .ok (.invokestatic 46, 3) := by decide +kernel
theorem dxc_valueOfUnary_13 : decode bxc_valueOfUnary 13 = .ok (.lstore 4, 2) := by decide +kernel
theorem dxc_valueOfUnary_15 : decode bxc_valueOfUnary 15 = .ok (.lload 4, 2) := by decide +kernel
theorem dxc_valueOfUnary_17 : decode bxc_valueOfUnary 17 = .ok (.invokestatic 27, 3) := by decide +kernel
theorem dxc_valueOfUnary_20 : decode bxc_valueOfUnary 20 = .ok (.ifCond .eq 8, 3) := by decide +kernel
theorem dxc_valueOfUnary_23 : decode bxc_valueOfUnary 23 = .ok (.lload 4, 2) := by decide +kernel
theorem dxc_valueOfUnary_25 : decode bxc_valueOfUnary 25 = .ok (.goto 20, 3) := by decide +kernel
theorem dxc_valueOfUnary_28 : decode bxc_valueOfUnary 28 = .ok (.lload 4, 2) := by decide +kernel
theorem dxc_valueOfUnary_30 : decode bxc_valueOfUnary 30 = .ok (.ldc2_w 63, 3) := by decide +kernel
theorem dxc_valueOfUnary_33 : decode bxc_valueOfUnary 33 = .ok (.lcmp, 1) := by decide +kernel
theorem dxc_valueOfUnary_34 : decode bxc_valueOfUnary 34 = .ok (.ifCond .ne 7, 3) := by decide +kernel
theorem dxc_valueOfUnary_37 : decode bxc_valueOfUnary 37 = .ok (.iconst 1, 1) := by decide +kernel
theorem dxc_valueOfUnary_38 : decode bxc_valueOfUnary 38 = .ok (.goto 4, 3) := by decide +kernel
theorem dxc_valueOfUnary_41 : decode bxc_valueOfUnary 41 = .ok (.iconst 0, 1) := by decide +kernel
theorem dxc_valueOfUnary_42 : decode bxc_valueOfUnary 42 = .ok (.invokestatic 65, 3) := by decide +kernel
theorem dxc_valueOfUnary_45 : decode bxc_valueOfUnary 45 = .ok (.lreturn, 1) := by decide +kernel
theorem dxc_valueOfUnary_46 : decode bxc_valueOfUnary 46 = .ok (.lload_n 2, 1) := by decide +kernel
theorem dxc_valueOfUnary_47 : decode bxc_valueOfUnary 47 = .ok (.invokestatic 69, 3) := by decide +kernel
theorem dxc_valueOfUnary_50 : decode bxc_valueOfUnary 50 = .ok (.ifCond .eq 5, 3) := by decide +kernel
theorem dxc_valueOfUnary_53 : decode bxc_valueOfUnary 53 = .ok (.lconst 0, 1) := by decide +kernel
theorem dxc_valueOfUnary_54 : decode bxc_valueOfUnary 54 = .ok (.lreturn, 1) := by decide +kernel
theorem dxc_valueOfUnary_55 : decode bxc_valueOfUnary 55 = .ok (.lload_n 2, 1) := by decide +kernel
theorem dxc_valueOfUnary_56 : decode bxc_valueOfUnary 56 = .ok (.invokestatic 72, 3) := by decide +kernel
theorem dxc_valueOfUnary_59 : decode bxc_valueOfUnary 59 = .ok (.istore 4, 2) := by decide +kernel
theorem dxc_valueOfUnary_61 : decode bxc_valueOfUnary 61 = .ok (.lload_n 2, 1) := by decide +kernel
theorem dxc_valueOfUnary_62 : decode bxc_valueOfUnary 62 = .ok (.invokestatic 76, 3) := by decide +kernel
theorem dxc_valueOfUnary_65 : decode bxc_valueOfUnary 65 = .ok (.ifCond .eq 12, 3) := by decide +kernel
theorem dxc_valueOfUnary_68 : decode bxc_valueOfUnary 68 = .ok (.aload_n 0, 1) := by decide +kernel
theorem dxc_valueOfUnary_69 : decode bxc_valueOfUnary 69 = .ok (.iload 4, 2) := by decide +kernel
theorem dxc_valueOfUnary_71 : decode bxc_valueOfUnary 71 = .ok (.invokevirtual 79, 3) := by decide +kernel
theorem dxc_valueOfUnary_74 : decode bxc_valueOfUnary 74 = .ok (.ifCond .ne 9, 3) := by decide +kernel
theorem dxc_valueOfUnary_77 : decode bxc_valueOfUnary 77 = .ok (.bipush (-2), 2) := by decide +kernel
theorem dxc_valueOfUnary_79 : decode bxc_valueOfUnary 79 = .ok (.invokestatic 85, 3) := by decide +kernel
theorem dxc_valueOfUnary_82 : decode bxc_valueOfUnary 82 = .ok (.lreturn, 1) := by decide +kernel
theorem dxc_valueOfUnary_83 : decode bxc_valueOfUnary 83 = .ok (.aload_n 1, 1) := by decide +kernel
theorem dxc_valueOfUnary_84 : decode bxc_valueOfUnary 84 = .ok (.getfield 38, 3) := by decide +kernel
theorem dxc_valueOfUnary_87 : decode bxc_valueOfUnary 87 = .ok (.bipush 13, 2) := by decide +kernel
theorem dxc_valueOfUnary_89 : decode bxc_valueOfUnary 89 = .ok (.if_icmp .ne 16, 3) := by decide +kernel
theorem dxc_valueOfUnary_92 : decode bxc_valueOfUnary 92 = .ok (.aload_n 0, 1) := by decide +kernel
theorem dxc_valueOfUnary_93 : decode bxc_valueOfUnary 93 = .ok (.iload 4, 2) := by decide +kernel
theorem dxc_valueOfUnary_95 : decode bxc_valueOfUnary 95 = .ok (.aload_n 1, 1) := by decide +kernel
theorem dxc_valueOfUnary_96 : decode bxc_valueOfUnary 96 = .ok (.getfield 54, 3) := by decide +kernel
theorem dxc_valueOfUnary_99 : decode bxc_valueOfUnary 99 = .ok (.invokevirtual 88, 3) := by decide +kernel
theorem dxc_valueOfUnary_102 : decode bxc_valueOfUnary 102 = .ok (.goto 13, 3) := by decide +kernel
theorem dxc_valueOfUnary_105 : decode bxc_valueOfUnary 105 = .ok (.aload_n 0, 1) := by decide +kernel
theorem dxc_valueOfUnary_106 : decode bxc_valueOfUnary 106 = .ok (.iload 4, 2) := by decide +kernel
theorem dxc_valueOfUnary_108 : decode bxc_valueOfUnary 108 = .ok (.aload_n 1, 1) := by decide +kernel
theorem dxc_valueOfUnary_109 : decode bxc_valueOfUnary 109 = .ok (.getfield 54, 3) := by decide +kernel
theorem dxc_valueOfUnary_112 : decode bxc_valueOfUnary 112 = .ok (.invokestatic 92, 3) := by decide +kernel
theorem dxc_valueOfUnary_115 : decode bxc_valueOfUnary 115 = .ok (.lreturn, 1) := by decide +kernel
section
variable {l : Launch} {D : va_G} {A : Nat → Prop} {z w : va_W} {q : Nat → Nat} {cI cZ cL : ClassId}
variable {hf_classCount hf_objectCount hf_roots hf_changed sf_objectCount sf_roots sf_reachable tf_count tf_bracketCount tf_place tf_inWhere tf_compared wf_count wf_looks n_code n_number s_isDistinct s_isRetained s_sourceClass s_withDescendants : Int32}
variable {ha_parents ha_classes ha_sizes sa_linkedFrom sa_linkCounts sa_retainedSets sa_retainedSizes sa_dominators sa_immediateDominators ta_codes ta_numbers ta_brackets : Nat → Int32}
variable {ha_fields wa_rows : Nat → Int64}
variable {xq_query n_left n_right s_row s_nested s_condition s_next : Option Nat}
variable {pa_n pk_n pa_s pk_s : Nat}
set_option maxHeartbeats 4000000 in
set_option maxRecDepth 100000 in
theorem cxc_valueOfUnary (l2 : Int64) (ur : Int64) (h : sxc_valueOfUnary l2 ha_classes ha_sizes ha_fields hf_objectCount sa_linkCounts sa_retainedSizes sa_immediateDominators n_code n_number = some ur) (ph_n : z[pk_n]? = some (pa_n, .inr (7, [.int n_code, .int n_number, va_rf n_left, va_rf n_right]))) : hq_Ct l yxc_valueOfUnary bxc_valueOfUnary 6 (some .long) { frames := 2, cells := 0, slots := 0, locals := 44 } D (hq_tys cI cZ cL) A [.ref (q 1), .ref pa_n, .long l2] (hx_w q cI cZ cL xq_query ha_parents hf_classCount ha_classes ha_sizes ha_fields hf_objectCount hf_roots hf_changed sa_linkedFrom sa_linkCounts sa_retainedSets sa_retainedSizes sa_dominators sa_immediateDominators sf_objectCount sf_roots sf_reachable ta_codes ta_numbers tf_count ta_brackets tf_bracketCount tf_place tf_inWhere tf_compared wa_rows wf_count wf_looks ++ z) (hx_w q cI cZ cL xq_query ha_parents hf_classCount ha_classes ha_sizes ha_fields hf_objectCount hf_roots hf_changed sa_linkedFrom sa_linkCounts sa_retainedSets sa_retainedSizes sa_dominators sa_immediateDominators sf_objectCount sf_roots sf_reachable ta_codes ta_numbers tf_count ta_brackets tf_bracketCount tf_place tf_inWhere tf_compared wa_rows wf_count wf_looks ++ z) (some (.long ur)) 0 0 := by
  refine hq_of (by decide) ?_ (Nat.le_of_ble_eq_true rfl)
  intro p e s m below meth c R args Q hRm hQ hx hb hr hml hts hown hlocks hnm hP hK hD ls hl hS
  have hl : lv_has ls 6 [(0, .ref (q 1)), (1, .ref pa_n), (2, .long l2)] := hl
  have hown : s.vm.findClass "HeapQueries$Calculator" = some m.cls := hown
  unfold sxc_valueOfUnary at h
  refine lv_aload_n hx hb dxc_valueOfUnary_0 rfl (lv_at hl 1 rfl) ?_
  refine gx_n_code hx hb hts hown hK hP ph_n wi_138 dxc_valueOfUnary_1 ?_
  refine lv_bipush (v := 17) hx hb dxc_valueOfUnary_4 (by decide) ?_
  refine lv_icmp_ne (tgt := 46) hx hb dxc_valueOfUnary_6 (by decide) (fun hc => ?_) (fun hc => ?_)
  · have h := (if_neg hc).symm.trans h
    refine lv_lload_n hx hb dxc_valueOfUnary_46 rfl (lv_at hl 2 rfl) ?_
    refine kxv_isEmpty l2 (sxv_isEmpty l2) rfl hx hb hml hts hown hK hP hD hS wi_155 (by rw [hRm]; exact ⟨Nat.le_of_ble_eq_true rfl, Nat.le_of_ble_eq_true rfl⟩) hl.1 (Nat.le_of_ble_eq_true rfl) dxc_valueOfUnary_47 ⟨Nat.zero_le _, Nat.zero_le _⟩ (fun H locs hP hD hS => ?_)
    refine lv_if_eq (tgt := 55) hx hb dxc_valueOfUnary_50 (by decide) (fun hc => ?_) (fun hc => ?_)
    · have h := (if_pos hc).symm.trans h
      refine lv_lload_n hx hb dxc_valueOfUnary_55 rfl (lv_at hl 2 rfl) ?_
      refine kxv_contentOf l2 (sxv_contentOf l2) rfl hx hb hml hts hown hK hP hD hS wi_156 (by rw [hRm]; exact ⟨Nat.le_of_ble_eq_true rfl, Nat.le_of_ble_eq_true rfl⟩) hl.1 (Nat.le_of_ble_eq_true rfl) dxc_valueOfUnary_56 ⟨Nat.zero_le _, Nat.zero_le _⟩ (fun H locs hP hD hS => ?_)
      refine lv_istore (lv' := [(4, .int (sxv_contentOf l2)), (0, .ref (q 1)), (1, .ref pa_n), (2, .long l2)]) hx hb dxc_valueOfUnary_59 hl (by decide) rfl (fun ls hl => ?_)
      refine lv_lload_n hx hb dxc_valueOfUnary_61 rfl (lv_at hl 3 rfl) ?_
      refine kxv_isLink l2 (sxv_isLink l2) rfl hx hb hml hts hown hK hP hD hS wi_157 (by rw [hRm]; exact ⟨Nat.le_of_ble_eq_true rfl, Nat.le_of_ble_eq_true rfl⟩) hl.1 (Nat.le_of_ble_eq_true rfl) dxc_valueOfUnary_62 ⟨Nat.zero_le _, Nat.zero_le _⟩ (fun H locs hP hD hS => ?_)
      refine lv_if_eq (tgt := 77) hx hb dxc_valueOfUnary_65 (by decide) (fun hc => ?_) (fun hc => ?_)
      · have h := (if_pos hc).symm.trans h
        refine lv_bipush (v := (-2)) hx hb dxc_valueOfUnary_77 (by decide) ?_
        refine kxv_error (-2) (sxv_error (-2)) rfl hx hb hml hts hown hK hP hD hS wi_158 (by rw [hRm]; exact ⟨Nat.le_of_ble_eq_true rfl, Nat.le_of_ble_eq_true rfl⟩) hl.1 (Nat.le_of_ble_eq_true rfl) dxc_valueOfUnary_79 ⟨Nat.zero_le _, Nat.zero_le _⟩ (fun H locs hP hD hS => ?_)
        have h := Option.some.inj h
        exact hq_lret hx hb hr hlocks hQ hK hP hD hS (by rw [← h]) rfl dxc_valueOfUnary_82
      · have h := (if_neg hc).symm.trans h
        refine lv_aload_n hx hb dxc_valueOfUnary_68 rfl (lv_at hl 1 rfl) ?_
        refine lv_iload hx hb dxc_valueOfUnary_69 (lv_at hl 0 rfl) ?_
        refine kxh_hasObject (sxv_contentOf l2) (sxh_hasObject (sxv_contentOf l2) hf_objectCount) rfl hx hb hml hts hown hK hP hD hS wi_159 (by rw [hRm]; exact ⟨Nat.le_of_ble_eq_true rfl, Nat.le_of_ble_eq_true rfl⟩) hl.1 (Nat.le_of_ble_eq_true rfl) dxc_valueOfUnary_71 ⟨Nat.zero_le _, Nat.zero_le _⟩ (fun H locs hP hD hS => ?_)
        refine lv_if_ne (tgt := 83) hx hb dxc_valueOfUnary_74 (by decide) (fun hc => ?_) (fun hc => ?_)
        · have h := (if_neg hc).symm.trans h
          refine lv_aload_n hx hb dxc_valueOfUnary_83 rfl (lv_at hl 2 rfl) ?_
          refine gx_n_code hx hb hts hown hK hP ph_n wi_138 dxc_valueOfUnary_84 ?_
          refine lv_bipush (v := 13) hx hb dxc_valueOfUnary_87 (by decide) ?_
          refine lv_icmp_ne (tgt := 105) hx hb dxc_valueOfUnary_89 (by decide) (fun hc => ?_) (fun hc => ?_)
          · have h := (if_neg hc).symm.trans h
            refine lv_aload_n hx hb dxc_valueOfUnary_105 rfl (lv_at hl 1 rfl) ?_
            refine lv_iload hx hb dxc_valueOfUnary_106 (lv_at hl 0 rfl) ?_
            refine lv_aload_n hx hb dxc_valueOfUnary_108 rfl (lv_at hl 2 rfl) ?_
            refine gx_n_number hx hb hts hown hK hP ph_n wi_139 dxc_valueOfUnary_109 ?_
            obtain ⟨v112, h112, h⟩ := hq_bind h
            refine kxc_factOf (sxv_contentOf l2) n_number v112 h112 hx hb hml hts hown hK hP hD hS wi_160 (by rw [hRm]; exact ⟨Nat.le_of_ble_eq_true rfl, Nat.le_of_ble_eq_true rfl⟩) hl.1 (Nat.le_of_ble_eq_true rfl) dxc_valueOfUnary_112 ⟨Nat.zero_le _, Nat.zero_le _⟩ (fun H locs hP hD hS => ?_)
            have h := Option.some.inj h
            exact hq_lret hx hb hr hlocks hQ hK hP hD hS (by rw [← h]) rfl dxc_valueOfUnary_115
          · have h := (if_pos hc).symm.trans h
            refine lv_aload_n hx hb dxc_valueOfUnary_92 rfl (lv_at hl 1 rfl) ?_
            refine lv_iload hx hb dxc_valueOfUnary_93 (lv_at hl 0 rfl) ?_
            refine lv_aload_n hx hb dxc_valueOfUnary_95 rfl (lv_at hl 2 rfl) ?_
            refine gx_n_number hx hb hts hown hK hP ph_n wi_139 dxc_valueOfUnary_96 ?_
            obtain ⟨v99, h99, h⟩ := hq_bind h
            refine kxh_fieldOf (sxv_contentOf l2) n_number v99 h99 hx hb hml hts hown hK hP hD hS wi_161 (by rw [hRm]; exact ⟨Nat.le_of_ble_eq_true rfl, Nat.le_of_ble_eq_true rfl⟩) hl.1 (Nat.le_of_ble_eq_true rfl) dxc_valueOfUnary_99 ⟨Nat.zero_le _, Nat.zero_le _⟩ (fun H locs hP hD hS => ?_)
            refine lv_goto (tgt := 115) hx hb dxc_valueOfUnary_102 (by decide) ?_
            have h := Option.some.inj h
            exact hq_lret hx hb hr hlocks hQ hK hP hD hS (by rw [← h]) rfl dxc_valueOfUnary_115
        · have h := (if_pos hc).symm.trans h
          refine lv_bipush (v := (-2)) hx hb dxc_valueOfUnary_77 (by decide) ?_
          refine kxv_error (-2) (sxv_error (-2)) rfl hx hb hml hts hown hK hP hD hS wi_158 (by rw [hRm]; exact ⟨Nat.le_of_ble_eq_true rfl, Nat.le_of_ble_eq_true rfl⟩) hl.1 (Nat.le_of_ble_eq_true rfl) dxc_valueOfUnary_79 ⟨Nat.zero_le _, Nat.zero_le _⟩ (fun H locs hP hD hS => ?_)
          have h := Option.some.inj h
          exact hq_lret hx hb hr hlocks hQ hK hP hD hS (by rw [← h]) rfl dxc_valueOfUnary_82
    · have h := (if_neg hc).symm.trans h
      refine lv_lconst (v := 0) hx hb dxc_valueOfUnary_53 (by decide) ?_
      have h := Option.some.inj h
      exact hq_lret hx hb hr hlocks hQ hK hP hD hS (by rw [← h]) rfl dxc_valueOfUnary_54
  · have h := (if_pos hc).symm.trans h
    refine lv_lload_n hx hb dxc_valueOfUnary_9 rfl (lv_at hl 2 rfl) ?_
    refine kxv_truthOf l2 (sxv_truthOf l2) rfl hx hb hml hts hown hK hP hD hS wi_162 (by rw [hRm]; exact ⟨Nat.le_of_ble_eq_true rfl, Nat.le_of_ble_eq_true rfl⟩) hl.1 (Nat.le_of_ble_eq_true rfl) dxc_valueOfUnary_10 ⟨Nat.zero_le _, Nat.zero_le _⟩ (fun H locs hP hD hS => ?_)
    refine lv_lstore (lv' := [(4, .long (sxv_truthOf l2)), (0, .ref (q 1)), (1, .ref pa_n), (2, .long l2)]) hx hb dxc_valueOfUnary_13 hl (by decide) rfl (fun ls hl => ?_)
    refine lv_lload hx hb dxc_valueOfUnary_15 (lv_at hl 0 rfl) ?_
    refine kxv_isError (sxv_truthOf l2) (sxv_isError (sxv_truthOf l2)) rfl hx hb hml hts hown hK hP hD hS wi_163 (by rw [hRm]; exact ⟨Nat.le_of_ble_eq_true rfl, Nat.le_of_ble_eq_true rfl⟩) hl.1 (Nat.le_of_ble_eq_true rfl) dxc_valueOfUnary_17 ⟨Nat.zero_le _, Nat.zero_le _⟩ (fun H locs hP hD hS => ?_)
    refine lv_if_eq (tgt := 28) hx hb dxc_valueOfUnary_20 (by decide) (fun hc => ?_) (fun hc => ?_)
    · have h := (if_pos hc).symm.trans h
      refine lv_lload hx hb dxc_valueOfUnary_28 (lv_at hl 0 rfl) ?_
      refine lv_ldc2 (v := 4294967296) hx hb hown (hts _ wi_164) dxc_valueOfUnary_30 ?_
      refine W.lcmp hx hb dxc_valueOfUnary_33 ?_
      refine lv_if_ne (tgt := 41) hx hb dxc_valueOfUnary_34 (by decide) (fun hc => ?_) (fun hc => ?_)
      · have h := (if_neg hc).symm.trans h
        refine lv_iconst (v := 0) hx hb dxc_valueOfUnary_41 (by decide) ?_
        refine kxv_flag 0 (sxv_flag 0) rfl hx hb hml hts hown hK hP hD hS wi_165 (by rw [hRm]; exact ⟨Nat.le_of_ble_eq_true rfl, Nat.le_of_ble_eq_true rfl⟩) hl.1 (Nat.le_of_ble_eq_true rfl) dxc_valueOfUnary_42 ⟨Nat.zero_le _, Nat.zero_le _⟩ (fun H locs hP hD hS => ?_)
        have h := Option.some.inj h
        exact hq_lret hx hb hr hlocks hQ hK hP hD hS (by rw [← h]) rfl dxc_valueOfUnary_45
      · have h := (if_pos hc).symm.trans h
        refine lv_iconst (v := 1) hx hb dxc_valueOfUnary_37 (by decide) ?_
        refine lv_goto (tgt := 42) hx hb dxc_valueOfUnary_38 (by decide) ?_
        refine kxv_flag 1 (sxv_flag 1) rfl hx hb hml hts hown hK hP hD hS wi_165 (by rw [hRm]; exact ⟨Nat.le_of_ble_eq_true rfl, Nat.le_of_ble_eq_true rfl⟩) hl.1 (Nat.le_of_ble_eq_true rfl) dxc_valueOfUnary_42 ⟨Nat.zero_le _, Nat.zero_le _⟩ (fun H locs hP hD hS => ?_)
        have h := Option.some.inj h
        exact hq_lret hx hb hr hlocks hQ hK hP hD hS (by rw [← h]) rfl dxc_valueOfUnary_45
    · have h := (if_neg hc).symm.trans h
      refine lv_lload hx hb dxc_valueOfUnary_23 (lv_at hl 0 rfl) ?_
      refine lv_goto (tgt := 45) hx hb dxc_valueOfUnary_25 (by decide) ?_
      have h := Option.some.inj h
      exact hq_lret hx hb hr hlocks hQ hK hP hD hS (by rw [← h]) rfl dxc_valueOfUnary_45
end
section
variable {p : Program} {l : Launch} {e : Env} {R : Room} {s : State} {m : MethodId} {args : Array Value} {below : List Frame} {meth : Method} {c : Code} {H H0 : Heap} {locs : List Loc} {cells slots : Nat} {Q : State → Prop}
variable {cc : ByteArray} {pc idx nC : Nat} {ls : Array Slot} {rest : List Value} {D : va_G} {A : Nat → Prop} {own : String} {q : Nat → Nat} {cI cZ cL : ClassId} {z w : va_W}
variable {hf_classCount hf_objectCount hf_roots hf_changed sf_objectCount sf_roots sf_reachable tf_count tf_bracketCount tf_place tf_inWhere tf_compared wf_count wf_looks n_code n_number s_isDistinct s_isRetained s_sourceClass s_withDescendants : Int32}
variable {ha_parents ha_classes ha_sizes sa_linkedFrom sa_linkCounts sa_retainedSets sa_retainedSizes sa_dominators sa_immediateDominators ta_codes ta_numbers ta_brackets : Nat → Int32}
variable {ha_fields wa_rows : Nat → Int64}
variable {xq_query n_left n_right s_row s_nested s_condition s_next : Option Nat}
variable {pa_n pk_n pa_s pk_s : Nat}
theorem kxc_valueOfUnary (l2 : Int64) (ur : Int64) (hu : sxc_valueOfUnary l2 ha_classes ha_sizes ha_fields hf_objectCount sa_linkCounts sa_retainedSizes sa_immediateDominators n_code n_number = some ur) (ph_n : z[pk_n]? = some (pa_n, .inr (7, [.int n_code, .int n_number, va_rf n_left, va_rf n_right]))) (hx : p.tables.exec = Jvm.exec) (hb : c.code = cc) (hml : c.maxLocals = nC) (hts : ∀ x ∈ hq_tbl, x.before args s = true) (hown : s.vm.findClass own = some m.cls) (hK : va_K D hq_cl (hq_tys cI cZ cL) s) (hP : va_P D hq_cl (hx_w q cI cZ cL xq_query ha_parents hf_classCount ha_classes ha_sizes ha_fields hf_objectCount hf_roots hf_changed sa_linkedFrom sa_linkCounts sa_retainedSets sa_retainedSizes sa_dominators sa_immediateDominators sf_objectCount sf_roots sf_reachable ta_codes ta_numbers tf_count ta_brackets tf_bracketCount tf_place tf_inWhere tf_compared wa_rows wf_count wf_looks ++ z) H) (hD : va_D A (hx_w q cI cZ cL xq_query ha_parents hf_classCount ha_classes ha_sizes ha_fields hf_objectCount hf_roots hf_changed sa_linkedFrom sa_linkCounts sa_retainedSets sa_retainedSizes sa_dominators sa_immediateDominators sf_objectCount sf_roots sf_reachable ta_codes ta_numbers tf_count ta_brackets tf_bracketCount tf_place tf_inWhere tf_compared wa_rows wf_count wf_looks ++ z)) (hS : va_S A H0 H locs) (h1 : Cond.methodLink own idx yxc_valueOfUnary ∈ hq_tbl) (hR : 2 + 1 ≤ R.frames ∧ 8 + (6 + 11) + 44 ≤ R.locals) (hls : ls.size = nC) (hW : (rest.map fun v => v.category).sum ≤ 8) (hdg : decode cc pc = .ok (.invokestatic idx, 3)) (hf : cells + 0 ≤ R.cells ∧ slots + 0 ≤ R.slots) (kk : ∀ (H1 : Heap) (locs1 : List Loc), va_P D hq_cl (hx_w q cI cZ cL xq_query ha_parents hf_classCount ha_classes ha_sizes ha_fields hf_objectCount hf_roots hf_changed sa_linkedFrom sa_linkCounts sa_retainedSets sa_retainedSizes sa_dominators sa_immediateDominators sf_objectCount sf_roots sf_reachable ta_codes ta_numbers tf_count ta_brackets tf_bracketCount tf_place tf_inWhere tf_compared wa_rows wf_count wf_looks ++ z) H1 → va_D A (hx_w q cI cZ cL xq_query ha_parents hf_classCount ha_classes ha_sizes ha_fields hf_objectCount hf_roots hf_changed sa_linkedFrom sa_linkCounts sa_retainedSets sa_retainedSizes sa_dominators sa_immediateDominators sf_objectCount sf_roots sf_reachable ta_codes ta_numbers tf_count ta_brackets tf_bracketCount tf_place tf_inWhere tf_compared wa_rows wf_count wf_looks ++ z) → va_S A H0 H1 locs1 → W p l e R s m args below meth c H1 locs1 cells slots Q (F0 m (pc + 3) ls (.long ur :: rest))) : W p l e R s m args below meth c H locs cells slots Q (F0 m pc ls (.long l2 :: .ref pa_n :: .ref (q 1) :: rest)) :=
  hq_callS hx hb hml hown hts hK hP hD hS (cxc_valueOfUnary l2 ur hu ph_n) h1 wi_503 wi_483 wi_504 3 rfl (by decide +kernel) ⟨rfl, rfl⟩ hR hls rfl hW hdg hf kk
end
theorem dxc_settles_0 : decode bxc_settles 0 = .ok (.iload_n 0, 1) := by decide +kernel
theorem dxc_settles_1 : decode bxc_settles 1 = .ok (.bipush 16, 2) := by decide +kernel
theorem dxc_settles_3 : decode bxc_settles 3 = .ok (.if_icmp .eq 11, 3) := by decide +kernel
theorem dxc_settles_6 : decode bxc_settles 6 = .ok (.iload_n 0, 1) := by decide +kernel
theorem dxc_settles_7 : decode bxc_settles 7 = .ok (.bipush 15, 2) := by decide +kernel
theorem dxc_settles_9 : decode bxc_settles 9 = .ok (.if_icmp .eq 5, 3) := by decide +kernel
theorem dxc_settles_12 : decode bxc_settles 12 = .ok (.iconst 0, 1) := by decide +kernel
theorem dxc_settles_13 : decode bxc_settles 13 = .ok (.ireturn, 1) := by decide +kernel
theorem dxc_settles_14 : decode bxc_settles 14 = .ok (.lload_n 1, 1) := by decide +kernel
theorem dxc_settles_15 : decode bxc_settles 15 = .ok (.invokestatic 46, 3) := by decide +kernel
theorem dxc_settles_18 : decode bxc_settles 18 = .ok (.lstore_n 3, 1) := by decide +kernel
theorem dxc_settles_19 : decode bxc_settles 19 = .ok (.lload_n 3, 1) := by decide +kernel
theorem dxc_settles_20 : decode bxc_settles 20 = .ok (.invokestatic 27, 3) := by decide +kernel
theorem dxc_settles_23 : decode bxc_settles 23 = .ok (.ifCond .ne 23, 3) := by decide +kernel
theorem dxc_settles_26 : decode bxc_settles 26 = .ok (.lload_n 3, 1) := by decide +kernel
theorem dxc_settles_27 : decode bxc_settles 27 = .ok (.iload_n 0, 1) := by decide +kernel
theorem dxc_settles_28 : decode bxc_settles 28 = .ok (.bipush 15, 2) := by decide +kernel
theorem dxc_settles_30 : decode bxc_settles 30 = .ok (.if_icmp .ne 9, 3) := by decide +kernel
theorem dxc_settles_33 : decode bxc_settles 33 = .ok (.ldc2_w 118, 3) := by decide +kernel
theorem dxc_settles_36 : decode bxc_settles 36 = .ok (.goto 6, 3) := by decide +kernel
theorem dxc_settles_39 : decode bxc_settles 39 = .ok (.ldc2_w 63, 3) := by decide +kernel
theorem dxc_settles_42 : decode bxc_settles 42 = .ok (.lcmp, 1) := by decide +kernel
theorem dxc_settles_43 : decode bxc_settles 43 = .ok (.ifCond .ne 7, 3) := by decide +kernel
theorem dxc_settles_46 : decode bxc_settles 46 = .ok (.iconst 1, 1) := by decide +kernel
theorem dxc_settles_47 : decode bxc_settles 47 = .ok (.goto 4, 3) := by decide +kernel
theorem dxc_settles_50 : decode bxc_settles 50 = .ok (.iconst 0, 1) := by decide +kernel
theorem dxc_settles_51 : decode bxc_settles 51 = .ok (.ireturn, 1) := by decide +kernel
section
variable {l : Launch} {D : va_G} {A : Nat → Prop} {z w : va_W} {q : Nat → Nat} {cI cZ cL : ClassId}
set_option maxHeartbeats 4000000 in
set_option maxRecDepth 100000 in
theorem cxc_settles (l0 : Int32) (l1 : Int64) (ur : Int32) (h : sxc_settles l0 l1 = ur) : hq_Ct l yxc_settles bxc_settles 5 (some .boolean) { frames := 2, cells := 0, slots := 0, locals := 42 } D (hq_tys cI cZ cL) A [.int l0, .long l1] w w (some (.int ur)) 0 0 := by
  refine hq_of (by decide) ?_ (Nat.le_of_ble_eq_true rfl)
  intro p e s m below meth c R args Q hRm hQ hx hb hr hml hts hown hlocks hnm hP hK hD ls hl hS
  have hl : lv_has ls 5 [(0, .int l0), (1, .long l1)] := hl
  have hown : s.vm.findClass "HeapQueries$Calculator" = some m.cls := hown
  unfold sxc_settles at h
  have J42 : ∀ (s0 : Int64) (s1 : Int64) {ls : Array Slot} {H : Heap} {locs : List Loc}, lv_has ls 5 [] → va_P D hq_cl w H → va_D A w → va_S A s.heap H locs → sxc_settles_J42 s0 s1 = ur → W p l e R s m args below meth c H locs 0 0 Q (F0 m 42 ls [.long s1, .long s0]) := by
    intro s0 s1 ls H locs hl hP hD hS h
    unfold sxc_settles_J42 at h
    refine W.lcmp hx hb dxc_settles_42 ?_
    refine lv_if_ne (tgt := 50) hx hb dxc_settles_43 (by decide) (fun hc => ?_) (fun hc => ?_)
    · have h := (if_neg hc).symm.trans h
      refine lv_iconst (v := 0) hx hb dxc_settles_50 (by decide) ?_
      exact hq_zret hx hb hr hlocks hQ hK hP hD hS (by decide) (by rw [← h]) rfl dxc_settles_51
    · have h := (if_pos hc).symm.trans h
      refine lv_iconst (v := 1) hx hb dxc_settles_46 (by decide) ?_
      refine lv_goto (tgt := 51) hx hb dxc_settles_47 (by decide) ?_
      exact hq_zret hx hb hr hlocks hQ hK hP hD hS (by decide) (by rw [← h]) rfl dxc_settles_51
  have J14 : ∀ (l0 : Int32) (l1 : Int64) {ls : Array Slot} {H : Heap} {locs : List Loc}, lv_has ls 5 [(0, .int l0), (1, .long l1)] → va_P D hq_cl w H → va_D A w → va_S A s.heap H locs → sxc_settles_J14 l0 l1 = ur → W p l e R s m args below meth c H locs 0 0 Q (F0 m 14 ls []) := by
    intro l0 l1 ls H locs hl hP hD hS h
    unfold sxc_settles_J14 at h
    refine lv_lload_n hx hb dxc_settles_14 rfl (lv_at hl 1 rfl) ?_
    refine kxv_truthOf l1 (sxv_truthOf l1) rfl hx hb hml hts hown hK hP hD hS wi_162 (by rw [hRm]; exact ⟨Nat.le_of_ble_eq_true rfl, Nat.le_of_ble_eq_true rfl⟩) hl.1 (Nat.le_of_ble_eq_true rfl) dxc_settles_15 ⟨Nat.zero_le _, Nat.zero_le _⟩ (fun H locs hP hD hS => ?_)
    refine lv_lstore_n (lv' := [(3, .long (sxv_truthOf l1)), (0, .int l0), (1, .long l1)]) hx hb dxc_settles_18 rfl hl (by decide) rfl (fun ls hl => ?_)
    refine lv_lload_n hx hb dxc_settles_19 rfl (lv_at hl 0 rfl) ?_
    refine kxv_isError (sxv_truthOf l1) (sxv_isError (sxv_truthOf l1)) rfl hx hb hml hts hown hK hP hD hS wi_163 (by rw [hRm]; exact ⟨Nat.le_of_ble_eq_true rfl, Nat.le_of_ble_eq_true rfl⟩) hl.1 (Nat.le_of_ble_eq_true rfl) dxc_settles_20 ⟨Nat.zero_le _, Nat.zero_le _⟩ (fun H locs hP hD hS => ?_)
    refine lv_if_ne (tgt := 46) hx hb dxc_settles_23 (by decide) (fun hc => ?_) (fun hc => ?_)
    · have h := (if_neg hc).symm.trans h
      refine lv_iconst (v := 1) hx hb dxc_settles_46 (by decide) ?_
      refine lv_goto (tgt := 51) hx hb dxc_settles_47 (by decide) ?_
      exact hq_zret hx hb hr hlocks hQ hK hP hD hS (by decide) (by rw [← h]) rfl dxc_settles_51
    · have h := (if_pos hc).symm.trans h
      refine lv_lload_n hx hb dxc_settles_26 rfl (lv_at hl 0 rfl) ?_
      refine lv_iload_n hx hb dxc_settles_27 rfl (lv_at hl 1 rfl) ?_
      refine lv_bipush (v := 15) hx hb dxc_settles_28 (by decide) ?_
      refine lv_icmp_ne (tgt := 39) hx hb dxc_settles_30 (by decide) (fun hc => ?_) (fun hc => ?_)
      · have h := (if_neg hc).symm.trans h
        refine lv_ldc2 (v := 4294967296) hx hb hown (hts _ wi_164) dxc_settles_39 ?_
        exact J42 (sxv_truthOf l1) 4294967296 (lv_sub hl [] rfl) hP hD hS h
      · have h := (if_pos hc).symm.trans h
        refine lv_ldc2 (v := 4294967297) hx hb hown (hts _ wi_166) dxc_settles_33 ?_
        refine lv_goto (tgt := 42) hx hb dxc_settles_36 (by decide) ?_
        exact J42 (sxv_truthOf l1) 4294967297 (lv_sub hl [] rfl) hP hD hS h
  refine lv_iload_n hx hb dxc_settles_0 rfl (lv_at hl 0 rfl) ?_
  refine lv_bipush (v := 16) hx hb dxc_settles_1 (by decide) ?_
  refine lv_icmp_eq (tgt := 14) hx hb dxc_settles_3 (by decide) (fun hc => ?_) (fun hc => ?_)
  · have h := (if_pos hc).symm.trans h
    exact J14 l0 l1 hl hP hD hS h
  · have h := (if_neg hc).symm.trans h
    refine lv_iload_n hx hb dxc_settles_6 rfl (lv_at hl 0 rfl) ?_
    refine lv_bipush (v := 15) hx hb dxc_settles_7 (by decide) ?_
    refine lv_icmp_eq (tgt := 14) hx hb dxc_settles_9 (by decide) (fun hc => ?_) (fun hc => ?_)
    · have h := (if_pos hc).symm.trans h
      exact J14 l0 l1 hl hP hD hS h
    · have h := (if_neg hc).symm.trans h
      refine lv_iconst (v := 0) hx hb dxc_settles_12 (by decide) ?_
      exact hq_zret hx hb hr hlocks hQ hK hP hD hS (by decide) (by rw [← h]) rfl dxc_settles_13
end
section
variable {p : Program} {l : Launch} {e : Env} {R : Room} {s : State} {m : MethodId} {args : Array Value} {below : List Frame} {meth : Method} {c : Code} {H H0 : Heap} {locs : List Loc} {cells slots : Nat} {Q : State → Prop}
variable {cc : ByteArray} {pc idx nC : Nat} {ls : Array Slot} {rest : List Value} {D : va_G} {A : Nat → Prop} {own : String} {q : Nat → Nat} {cI cZ cL : ClassId} {z w : va_W}
theorem kxc_settles (l0 : Int32) (l1 : Int64) (ur : Int32) (hu : sxc_settles l0 l1 = ur) (hx : p.tables.exec = Jvm.exec) (hb : c.code = cc) (hml : c.maxLocals = nC) (hts : ∀ x ∈ hq_tbl, x.before args s = true) (hown : s.vm.findClass own = some m.cls) (hK : va_K D hq_cl (hq_tys cI cZ cL) s) (hP : va_P D hq_cl w H) (hD : va_D A w) (hS : va_S A H0 H locs) (h1 : Cond.methodLink own idx yxc_settles ∈ hq_tbl) (hR : 2 + 1 ≤ R.frames ∧ 8 + (5 + 11) + 42 ≤ R.locals) (hls : ls.size = nC) (hW : (rest.map fun v => v.category).sum ≤ 8) (hdg : decode cc pc = .ok (.invokestatic idx, 3)) (hf : cells + 0 ≤ R.cells ∧ slots + 0 ≤ R.slots) (kk : ∀ (H1 : Heap) (locs1 : List Loc), va_P D hq_cl w H1 → va_D A w → va_S A H0 H1 locs1 → W p l e R s m args below meth c H1 locs1 cells slots Q (F0 m (pc + 3) ls (.int ur :: rest))) : W p l e R s m args below meth c H locs cells slots Q (F0 m pc ls (.long l1 :: .int l0 :: rest)) :=
  hq_callS hx hb hml hown hts hK hP hD hS (cxc_settles l0 l1 ur hu) h1 wi_505 wi_483 wi_506 2 rfl (by decide +kernel) ⟨rfl, rfl⟩ hR hls rfl hW hdg hf kk
end
theorem dxc_valueOfArithmetic_0 : decode bxc_valueOfArithmetic 0 = .ok (.lload_n 1, 1) := by decide +kernel
theorem dxc_valueOfArithmetic_1 : decode bxc_valueOfArithmetic 1 = .ok (.invokestatic 76, 3) := by decide +kernel
theorem dxc_valueOfArithmetic_4 : decode bxc_valueOfArithmetic 4 = .ok (.ifCond .ne 10, 3) := by decide +kernel
theorem dxc_valueOfArithmetic_7 : decode bxc_valueOfArithmetic 7 = .ok (.lload_n 3, 1) := by decide +kernel
theorem dxc_valueOfArithmetic_8 : decode bxc_valueOfArithmetic 8 = .ok (.invokestatic 76, 3) := by decide +kernel
theorem dxc_valueOfArithmetic_11 : decode bxc_valueOfArithmetic 11 = .ok (.ifCond .eq 9, 3) := by decide +kernel
theorem dxc_valueOfArithmetic_14 : decode bxc_valueOfArithmetic 14 = .ok (.bipush (-3), 2) := by decide +kernel
theorem dxc_valueOfArithmetic_16 : decode bxc_valueOfArithmetic 16 = .ok (.invokestatic 85, 3) := by decide +kernel
theorem dxc_valueOfArithmetic_19 : decode bxc_valueOfArithmetic 19 = .ok (.lreturn, 1) := by decide +kernel
theorem dxc_valueOfArithmetic_20 : decode bxc_valueOfArithmetic 20 = .ok (.lload_n 1, 1) := by decide +kernel
theorem dxc_valueOfArithmetic_21 : decode bxc_valueOfArithmetic 21 = .ok (.invokestatic 69, 3) := by decide +kernel
theorem dxc_valueOfArithmetic_24 : decode bxc_valueOfArithmetic 24 = .ok (.ifCond .ne 10, 3) := by decide +kernel
theorem dxc_valueOfArithmetic_27 : decode bxc_valueOfArithmetic 27 = .ok (.lload_n 3, 1) := by decide +kernel
theorem dxc_valueOfArithmetic_28 : decode bxc_valueOfArithmetic 28 = .ok (.invokestatic 69, 3) := by decide +kernel
theorem dxc_valueOfArithmetic_31 : decode bxc_valueOfArithmetic 31 = .ok (.ifCond .eq 17, 3) := by decide +kernel
theorem dxc_valueOfArithmetic_34 : decode bxc_valueOfArithmetic 34 = .ok (.iload_n 0, 1) := by decide +kernel
theorem dxc_valueOfArithmetic_35 : decode bxc_valueOfArithmetic 35 = .ok (.bipush 20, 2) := by decide +kernel
theorem dxc_valueOfArithmetic_37 : decode bxc_valueOfArithmetic 37 = .ok (.if_icmp .ne 9, 3) := by decide +kernel
theorem dxc_valueOfArithmetic_40 : decode bxc_valueOfArithmetic 40 = .ok (.ldc2_w 63, 3) := by decide +kernel
theorem dxc_valueOfArithmetic_43 : decode bxc_valueOfArithmetic 43 = .ok (.goto 4, 3) := by decide +kernel
theorem dxc_valueOfArithmetic_46 : decode bxc_valueOfArithmetic 46 = .ok (.lconst 0, 1) := by decide +kernel
theorem dxc_valueOfArithmetic_47 : decode bxc_valueOfArithmetic 47 = .ok (.lreturn, 1) := by decide +kernel
theorem dxc_valueOfArithmetic_48 : decode bxc_valueOfArithmetic 48 = .ok (.lload_n 1, 1) := by decide +kernel
theorem dxc_valueOfArithmetic_49 : decode bxc_valueOfArithmetic 49 = .ok (.invokestatic 72, 3) := by decide +kernel
theorem dxc_valueOfArithmetic_52 : decode bxc_valueOfArithmetic 52 = .ok (.istore 5, 2) := by decide +kernel
theorem dxc_valueOfArithmetic_54 : decode bxc_valueOfArithmetic 54 = .ok (.lload_n 3, 1) := by decide +kernel
theorem dxc_valueOfArithmetic_55 : decode bxc_valueOfArithmetic 55 = .ok (.invokestatic 72, 3) := by decide +kernel
theorem dxc_valueOfArithmetic_58 : decode bxc_valueOfArithmetic 58 = .ok (.istore 6, 2) := by decide +kernel
theorem dxc_valueOfArithmetic_60 : decode bxc_valueOfArithmetic 60 = .ok (.iload_n 0, 1) := by decide +kernel
theorem dxc_valueOfArithmetic_61 : decode bxc_valueOfArithmetic 61 = .ok (.tableswitch 61 20 22 #[27, 43, 52], 27) := by decide +kernel
theorem dxc_valueOfArithmetic_88 : decode bxc_valueOfArithmetic 88 = .ok (.iload 5, 2) := by decide +kernel
theorem dxc_valueOfArithmetic_90 : decode bxc_valueOfArithmetic 90 = .ok (.iload 6, 2) := by decide +kernel
theorem dxc_valueOfArithmetic_92 : decode bxc_valueOfArithmetic 92 = .ok (.if_icmp .ge 7, 3) := by decide +kernel
theorem dxc_valueOfArithmetic_95 : decode bxc_valueOfArithmetic 95 = .ok (.iconst 1, 1) := by decide +kernel
theorem dxc_valueOfArithmetic_96 : decode bxc_valueOfArithmetic 96 = .ok (.goto 4, 3) := by decide +kernel
theorem dxc_valueOfArithmetic_99 : decode bxc_valueOfArithmetic 99 = .ok (.iconst 0, 1) := by decide +kernel
theorem dxc_valueOfArithmetic_100 : decode bxc_valueOfArithmetic 100 = .ok (.invokestatic 65, 3) := by decide +kernel
theorem dxc_valueOfArithmetic_103 : decode bxc_valueOfArithmetic 103 = .ok (.lreturn, 1) := by decide +kernel
theorem dxc_valueOfArithmetic_104 : decode bxc_valueOfArithmetic 104 = .ok (.iload 5, 2) := by decide +kernel
theorem dxc_valueOfArithmetic_106 : decode bxc_valueOfArithmetic 106 = .ok (.iload 6, 2) := by decide +kernel
theorem dxc_valueOfArithmetic_108 : decode bxc_valueOfArithmetic 108 = .ok (.iadd, 1) := by decide +kernel
theorem dxc_valueOfArithmetic_109 : decode bxc_valueOfArithmetic 109 = .ok (.invokestatic 57, 3) := by decide +kernel
theorem dxc_valueOfArithmetic_112 : decode bxc_valueOfArithmetic 112 = .ok (.lreturn, 1) := by decide +kernel
theorem dxc_valueOfArithmetic_113 : decode bxc_valueOfArithmetic 113 = .ok (.iload 5, 2) := by decide +kernel
theorem dxc_valueOfArithmetic_115 : decode bxc_valueOfArithmetic 115 = .ok (.iload 6, 2) := by decide +kernel
theorem dxc_valueOfArithmetic_117 : decode bxc_valueOfArithmetic 117 = .ok (.isub, 1) := by decide +kernel
theorem dxc_valueOfArithmetic_118 : decode bxc_valueOfArithmetic 118 = .ok (.invokestatic 57, 3) := by decide +kernel
theorem dxc_valueOfArithmetic_121 : decode bxc_valueOfArithmetic 121 = .ok (.lreturn, 1) := by decide +kernel
theorem dxc_valueOfArithmetic_122 : decode bxc_valueOfArithmetic 122 = .ok (.iload 5, 2) := by decide +kernel
theorem dxc_valueOfArithmetic_124 : decode bxc_valueOfArithmetic 124 = .ok (.iload 6, 2) := by decide +kernel
theorem dxc_valueOfArithmetic_126 : decode bxc_valueOfArithmetic 126 = .ok (.imul, 1) := by decide +kernel
theorem dxc_valueOfArithmetic_127 : decode bxc_valueOfArithmetic 127 = .ok (.invokestatic 57, 3) := by decide +kernel
theorem dxc_valueOfArithmetic_130 : decode bxc_valueOfArithmetic 130 = .ok (.lreturn, 1) := by decide +kernel
section
variable {l : Launch} {D : va_G} {A : Nat → Prop} {z w : va_W} {q : Nat → Nat} {cI cZ cL : ClassId}
set_option maxHeartbeats 4000000 in
set_option maxRecDepth 100000 in
theorem cxc_valueOfArithmetic (l0 : Int32) (l1 : Int64) (l3 : Int64) (ur : Int64) (h : sxc_valueOfArithmetic l0 l1 l3 = ur) : hq_Ct l yxc_valueOfArithmetic bxc_valueOfArithmetic 7 (some .long) { frames := 1, cells := 0, slots := 0, locals := 21 } D (hq_tys cI cZ cL) A [.int l0, .long l1, .long l3] w w (some (.long ur)) 0 0 := by
  refine hq_of (by decide) ?_ (Nat.le_of_ble_eq_true rfl)
  intro p e s m below meth c R args Q hRm hQ hx hb hr hml hts hown hlocks hnm hP hK hD ls hl hS
  have hl : lv_has ls 7 [(0, .int l0), (1, .long l1), (3, .long l3)] := hl
  have hown : s.vm.findClass "HeapQueries$Calculator" = some m.cls := hown
  unfold sxc_valueOfArithmetic at h
  have J34 : ∀ (l0 : Int32) {ls : Array Slot} {H : Heap} {locs : List Loc}, lv_has ls 7 [(0, .int l0)] → va_P D hq_cl w H → va_D A w → va_S A s.heap H locs → sxc_valueOfArithmetic_J34 l0 = ur → W p l e R s m args below meth c H locs 0 0 Q (F0 m 34 ls []) := by
    intro l0 ls H locs hl hP hD hS h
    unfold sxc_valueOfArithmetic_J34 at h
    refine lv_iload_n hx hb dxc_valueOfArithmetic_34 rfl (lv_at hl 0 rfl) ?_
    refine lv_bipush (v := 20) hx hb dxc_valueOfArithmetic_35 (by decide) ?_
    refine lv_icmp_ne (tgt := 46) hx hb dxc_valueOfArithmetic_37 (by decide) (fun hc => ?_) (fun hc => ?_)
    · have h := (if_neg hc).symm.trans h
      refine lv_lconst (v := 0) hx hb dxc_valueOfArithmetic_46 (by decide) ?_
      exact hq_lret hx hb hr hlocks hQ hK hP hD hS (by rw [← h]) rfl dxc_valueOfArithmetic_47
    · have h := (if_pos hc).symm.trans h
      refine lv_ldc2 (v := 4294967296) hx hb hown (hts _ wi_164) dxc_valueOfArithmetic_40 ?_
      refine lv_goto (tgt := 47) hx hb dxc_valueOfArithmetic_43 (by decide) ?_
      exact hq_lret hx hb hr hlocks hQ hK hP hD hS (by rw [← h]) rfl dxc_valueOfArithmetic_47
  refine lv_lload_n hx hb dxc_valueOfArithmetic_0 rfl (lv_at hl 1 rfl) ?_
  refine kxv_isLink l1 (sxv_isLink l1) rfl hx hb hml hts hown hK hP hD hS wi_157 (by rw [hRm]; exact ⟨Nat.le_of_ble_eq_true rfl, Nat.le_of_ble_eq_true rfl⟩) hl.1 (Nat.le_of_ble_eq_true rfl) dxc_valueOfArithmetic_1 ⟨Nat.zero_le _, Nat.zero_le _⟩ (fun H locs hP hD hS => ?_)
  refine lv_if_ne (tgt := 14) hx hb dxc_valueOfArithmetic_4 (by decide) (fun hc => ?_) (fun hc => ?_)
  · have h := (if_neg hc).symm.trans h
    refine lv_bipush (v := (-3)) hx hb dxc_valueOfArithmetic_14 (by decide) ?_
    refine kxv_error (-3) (sxv_error (-3)) rfl hx hb hml hts hown hK hP hD hS wi_158 (by rw [hRm]; exact ⟨Nat.le_of_ble_eq_true rfl, Nat.le_of_ble_eq_true rfl⟩) hl.1 (Nat.le_of_ble_eq_true rfl) dxc_valueOfArithmetic_16 ⟨Nat.zero_le _, Nat.zero_le _⟩ (fun H locs hP hD hS => ?_)
    exact hq_lret hx hb hr hlocks hQ hK hP hD hS (by rw [← h]) rfl dxc_valueOfArithmetic_19
  · have h := (if_pos hc).symm.trans h
    refine lv_lload_n hx hb dxc_valueOfArithmetic_7 rfl (lv_at hl 2 rfl) ?_
    refine kxv_isLink l3 (sxv_isLink l3) rfl hx hb hml hts hown hK hP hD hS wi_157 (by rw [hRm]; exact ⟨Nat.le_of_ble_eq_true rfl, Nat.le_of_ble_eq_true rfl⟩) hl.1 (Nat.le_of_ble_eq_true rfl) dxc_valueOfArithmetic_8 ⟨Nat.zero_le _, Nat.zero_le _⟩ (fun H locs hP hD hS => ?_)
    refine lv_if_eq (tgt := 20) hx hb dxc_valueOfArithmetic_11 (by decide) (fun hc => ?_) (fun hc => ?_)
    · have h := (if_pos hc).symm.trans h
      refine lv_lload_n hx hb dxc_valueOfArithmetic_20 rfl (lv_at hl 1 rfl) ?_
      refine kxv_isEmpty l1 (sxv_isEmpty l1) rfl hx hb hml hts hown hK hP hD hS wi_155 (by rw [hRm]; exact ⟨Nat.le_of_ble_eq_true rfl, Nat.le_of_ble_eq_true rfl⟩) hl.1 (Nat.le_of_ble_eq_true rfl) dxc_valueOfArithmetic_21 ⟨Nat.zero_le _, Nat.zero_le _⟩ (fun H locs hP hD hS => ?_)
      refine lv_if_ne (tgt := 34) hx hb dxc_valueOfArithmetic_24 (by decide) (fun hc => ?_) (fun hc => ?_)
      · have h := (if_neg hc).symm.trans h
        exact J34 l0 (lv_sub hl [0] rfl) hP hD hS h
      · have h := (if_pos hc).symm.trans h
        refine lv_lload_n hx hb dxc_valueOfArithmetic_27 rfl (lv_at hl 2 rfl) ?_
        refine kxv_isEmpty l3 (sxv_isEmpty l3) rfl hx hb hml hts hown hK hP hD hS wi_155 (by rw [hRm]; exact ⟨Nat.le_of_ble_eq_true rfl, Nat.le_of_ble_eq_true rfl⟩) hl.1 (Nat.le_of_ble_eq_true rfl) dxc_valueOfArithmetic_28 ⟨Nat.zero_le _, Nat.zero_le _⟩ (fun H locs hP hD hS => ?_)
        refine lv_if_eq (tgt := 48) hx hb dxc_valueOfArithmetic_31 (by decide) (fun hc => ?_) (fun hc => ?_)
        · have h := (if_pos hc).symm.trans h
          refine lv_lload_n hx hb dxc_valueOfArithmetic_48 rfl (lv_at hl 1 rfl) ?_
          refine kxv_contentOf l1 (sxv_contentOf l1) rfl hx hb hml hts hown hK hP hD hS wi_156 (by rw [hRm]; exact ⟨Nat.le_of_ble_eq_true rfl, Nat.le_of_ble_eq_true rfl⟩) hl.1 (Nat.le_of_ble_eq_true rfl) dxc_valueOfArithmetic_49 ⟨Nat.zero_le _, Nat.zero_le _⟩ (fun H locs hP hD hS => ?_)
          refine lv_istore (lv' := [(5, .int (sxv_contentOf l1)), (0, .int l0), (1, .long l1), (3, .long l3)]) hx hb dxc_valueOfArithmetic_52 hl (by decide) rfl (fun ls hl => ?_)
          refine lv_lload_n hx hb dxc_valueOfArithmetic_54 rfl (lv_at hl 3 rfl) ?_
          refine kxv_contentOf l3 (sxv_contentOf l3) rfl hx hb hml hts hown hK hP hD hS wi_156 (by rw [hRm]; exact ⟨Nat.le_of_ble_eq_true rfl, Nat.le_of_ble_eq_true rfl⟩) hl.1 (Nat.le_of_ble_eq_true rfl) dxc_valueOfArithmetic_55 ⟨Nat.zero_le _, Nat.zero_le _⟩ (fun H locs hP hD hS => ?_)
          refine lv_istore (lv' := [(6, .int (sxv_contentOf l3)), (5, .int (sxv_contentOf l1)), (0, .int l0), (1, .long l1), (3, .long l3)]) hx hb dxc_valueOfArithmetic_58 hl (by decide) rfl (fun ls hl => ?_)
          refine lv_iload_n hx hb dxc_valueOfArithmetic_60 rfl (lv_at hl 2 rfl) ?_
          by_cases hk0 : l0 = 20
          · have h := (if_pos hk0).symm.trans h
            refine lv_tableIn (off := 27) (tgt := 88) hx hb dxc_valueOfArithmetic_61 (by rw [hk0]; decide) (by rw [hk0]; decide) (by rw [hk0]; rfl) (by decide) ?_
            refine lv_iload hx hb dxc_valueOfArithmetic_88 (lv_at hl 1 rfl) ?_
            refine lv_iload hx hb dxc_valueOfArithmetic_90 (lv_at hl 0 rfl) ?_
            refine lv_icmp_ge (tgt := 99) hx hb dxc_valueOfArithmetic_92 (by decide) (fun hc => ?_) (fun hc => ?_)
            · have h := (if_pos hc).symm.trans h
              refine lv_iconst (v := 0) hx hb dxc_valueOfArithmetic_99 (by decide) ?_
              refine kxv_flag 0 (sxv_flag 0) rfl hx hb hml hts hown hK hP hD hS wi_165 (by rw [hRm]; exact ⟨Nat.le_of_ble_eq_true rfl, Nat.le_of_ble_eq_true rfl⟩) hl.1 (Nat.le_of_ble_eq_true rfl) dxc_valueOfArithmetic_100 ⟨Nat.zero_le _, Nat.zero_le _⟩ (fun H locs hP hD hS => ?_)
              exact hq_lret hx hb hr hlocks hQ hK hP hD hS (by rw [← h]) rfl dxc_valueOfArithmetic_103
            · have h := (if_neg hc).symm.trans h
              refine lv_iconst (v := 1) hx hb dxc_valueOfArithmetic_95 (by decide) ?_
              refine lv_goto (tgt := 100) hx hb dxc_valueOfArithmetic_96 (by decide) ?_
              refine kxv_flag 1 (sxv_flag 1) rfl hx hb hml hts hown hK hP hD hS wi_165 (by rw [hRm]; exact ⟨Nat.le_of_ble_eq_true rfl, Nat.le_of_ble_eq_true rfl⟩) hl.1 (Nat.le_of_ble_eq_true rfl) dxc_valueOfArithmetic_100 ⟨Nat.zero_le _, Nat.zero_le _⟩ (fun H locs hP hD hS => ?_)
              exact hq_lret hx hb hr hlocks hQ hK hP hD hS (by rw [← h]) rfl dxc_valueOfArithmetic_103
          · have h := (if_neg hk0).symm.trans h
            by_cases hk1 : l0 = 21
            · have h := (if_pos hk1).symm.trans h
              refine lv_tableIn (off := 43) (tgt := 104) hx hb dxc_valueOfArithmetic_61 (by rw [hk1]; decide) (by rw [hk1]; decide) (by rw [hk1]; rfl) (by decide) ?_
              refine lv_iload hx hb dxc_valueOfArithmetic_104 (lv_at hl 1 rfl) ?_
              refine lv_iload hx hb dxc_valueOfArithmetic_106 (lv_at hl 0 rfl) ?_
              refine lv_iadd hx hb dxc_valueOfArithmetic_108 ?_
              refine kxv_number ((sxv_contentOf l1) + (sxv_contentOf l3)) (sxv_number ((sxv_contentOf l1) + (sxv_contentOf l3))) rfl hx hb hml hts hown hK hP hD hS wi_140 (by rw [hRm]; exact ⟨Nat.le_of_ble_eq_true rfl, Nat.le_of_ble_eq_true rfl⟩) hl.1 (Nat.le_of_ble_eq_true rfl) dxc_valueOfArithmetic_109 ⟨Nat.zero_le _, Nat.zero_le _⟩ (fun H locs hP hD hS => ?_)
              exact hq_lret hx hb hr hlocks hQ hK hP hD hS (by rw [← h]) rfl dxc_valueOfArithmetic_112
            · have h := (if_neg hk1).symm.trans h
              by_cases hk2 : l0 = 22
              · have h := (if_pos hk2).symm.trans h
                refine lv_tableIn (off := 52) (tgt := 113) hx hb dxc_valueOfArithmetic_61 (by rw [hk2]; decide) (by rw [hk2]; decide) (by rw [hk2]; rfl) (by decide) ?_
                refine lv_iload hx hb dxc_valueOfArithmetic_113 (lv_at hl 1 rfl) ?_
                refine lv_iload hx hb dxc_valueOfArithmetic_115 (lv_at hl 0 rfl) ?_
                refine lv_isub hx hb dxc_valueOfArithmetic_117 ?_
                refine kxv_number ((sxv_contentOf l1) - (sxv_contentOf l3)) (sxv_number ((sxv_contentOf l1) - (sxv_contentOf l3))) rfl hx hb hml hts hown hK hP hD hS wi_140 (by rw [hRm]; exact ⟨Nat.le_of_ble_eq_true rfl, Nat.le_of_ble_eq_true rfl⟩) hl.1 (Nat.le_of_ble_eq_true rfl) dxc_valueOfArithmetic_118 ⟨Nat.zero_le _, Nat.zero_le _⟩ (fun H locs hP hD hS => ?_)
                exact hq_lret hx hb hr hlocks hQ hK hP hD hS (by rw [← h]) rfl dxc_valueOfArithmetic_121
              · have h := (if_neg hk2).symm.trans h
                refine lv_tableOut (tgt := 122) hx hb dxc_valueOfArithmetic_61 (by have a0 := lv_neT (a := 20) hk0 (by decide); have a1 := lv_neT (a := 21) hk1 (by decide); have a2 := lv_neT (a := 22) hk2 (by decide); omega) (by decide) ?_
                refine lv_iload hx hb dxc_valueOfArithmetic_122 (lv_at hl 1 rfl) ?_
                refine lv_iload hx hb dxc_valueOfArithmetic_124 (lv_at hl 0 rfl) ?_
                refine lv_imul hx hb dxc_valueOfArithmetic_126 ?_
                refine kxv_number ((sxv_contentOf l1) * (sxv_contentOf l3)) (sxv_number ((sxv_contentOf l1) * (sxv_contentOf l3))) rfl hx hb hml hts hown hK hP hD hS wi_140 (by rw [hRm]; exact ⟨Nat.le_of_ble_eq_true rfl, Nat.le_of_ble_eq_true rfl⟩) hl.1 (Nat.le_of_ble_eq_true rfl) dxc_valueOfArithmetic_127 ⟨Nat.zero_le _, Nat.zero_le _⟩ (fun H locs hP hD hS => ?_)
                exact hq_lret hx hb hr hlocks hQ hK hP hD hS (by rw [← h]) rfl dxc_valueOfArithmetic_130
        · have h := (if_neg hc).symm.trans h
          exact J34 l0 (lv_sub hl [0] rfl) hP hD hS h
    · have h := (if_neg hc).symm.trans h
      refine lv_bipush (v := (-3)) hx hb dxc_valueOfArithmetic_14 (by decide) ?_
      refine kxv_error (-3) (sxv_error (-3)) rfl hx hb hml hts hown hK hP hD hS wi_158 (by rw [hRm]; exact ⟨Nat.le_of_ble_eq_true rfl, Nat.le_of_ble_eq_true rfl⟩) hl.1 (Nat.le_of_ble_eq_true rfl) dxc_valueOfArithmetic_16 ⟨Nat.zero_le _, Nat.zero_le _⟩ (fun H locs hP hD hS => ?_)
      exact hq_lret hx hb hr hlocks hQ hK hP hD hS (by rw [← h]) rfl dxc_valueOfArithmetic_19
end
section
variable {p : Program} {l : Launch} {e : Env} {R : Room} {s : State} {m : MethodId} {args : Array Value} {below : List Frame} {meth : Method} {c : Code} {H H0 : Heap} {locs : List Loc} {cells slots : Nat} {Q : State → Prop}
variable {cc : ByteArray} {pc idx nC : Nat} {ls : Array Slot} {rest : List Value} {D : va_G} {A : Nat → Prop} {own : String} {q : Nat → Nat} {cI cZ cL : ClassId} {z w : va_W}
theorem kxc_valueOfArithmetic (l0 : Int32) (l1 : Int64) (l3 : Int64) (ur : Int64) (hu : sxc_valueOfArithmetic l0 l1 l3 = ur) (hx : p.tables.exec = Jvm.exec) (hb : c.code = cc) (hml : c.maxLocals = nC) (hts : ∀ x ∈ hq_tbl, x.before args s = true) (hown : s.vm.findClass own = some m.cls) (hK : va_K D hq_cl (hq_tys cI cZ cL) s) (hP : va_P D hq_cl w H) (hD : va_D A w) (hS : va_S A H0 H locs) (h1 : Cond.methodLink own idx yxc_valueOfArithmetic ∈ hq_tbl) (hR : 1 + 1 ≤ R.frames ∧ 8 + (7 + 11) + 21 ≤ R.locals) (hls : ls.size = nC) (hW : (rest.map fun v => v.category).sum ≤ 8) (hdg : decode cc pc = .ok (.invokestatic idx, 3)) (hf : cells + 0 ≤ R.cells ∧ slots + 0 ≤ R.slots) (kk : ∀ (H1 : Heap) (locs1 : List Loc), va_P D hq_cl w H1 → va_D A w → va_S A H0 H1 locs1 → W p l e R s m args below meth c H1 locs1 cells slots Q (F0 m (pc + 3) ls (.long ur :: rest))) : W p l e R s m args below meth c H locs cells slots Q (F0 m pc ls (.long l3 :: .long l1 :: .int l0 :: rest)) :=
  hq_callS hx hb hml hown hts hK hP hD hS (cxc_valueOfArithmetic l0 l1 l3 ur hu) h1 wi_507 wi_483 wi_508 3 rfl (by decide +kernel) ⟨rfl, rfl⟩ hR hls rfl hW hdg hf kk
end
theorem dxc_valueOfBinary_0 : decode bxc_valueOfBinary 0 = .ok (.iload_n 0, 1) := by decide +kernel
theorem dxc_valueOfBinary_1 : decode bxc_valueOfBinary 1 = .ok (.tableswitch 70 15 19 #[35, 35, 70, 40, 55], 35) := by decide +kernel
theorem dxc_valueOfBinary_36 : decode bxc_valueOfBinary 36 = .ok (.lload_n 3, 1) := by decide +kernel
theorem dxc_valueOfBinary_37 : decode bxc_valueOfBinary 37 = .ok (.invokestatic 46, 3) := by decide +kernel
theorem dxc_valueOfBinary_40 : decode bxc_valueOfBinary 40 = .ok (.lreturn, 1) := by decide +kernel
theorem dxc_valueOfBinary_41 : decode bxc_valueOfBinary 41 = .ok (.lload_n 1, 1) := by decide +kernel
theorem dxc_valueOfBinary_42 : decode bxc_valueOfBinary 42 = .ok (.lload_n 3, 1) := by decide +kernel
theorem dxc_valueOfBinary_43 : decode bxc_valueOfBinary 43 = .ok (.lcmp, 1) := by decide +kernel
theorem dxc_valueOfBinary_44 : decode bxc_valueOfBinary 44 = .ok (.ifCond .ne 7, 3) := by decide +kernel
theorem dxc_valueOfBinary_47 : decode bxc_valueOfBinary 47 = .ok (.iconst 1, 1) := by decide +kernel
theorem dxc_valueOfBinary_48 : decode bxc_valueOfBinary 48 = .ok (.goto 4, 3) := by decide +kernel
theorem dxc_valueOfBinary_51 : decode bxc_valueOfBinary 51 = .ok (.iconst 0, 1) := by decide +kernel
theorem dxc_valueOfBinary_52 : decode bxc_valueOfBinary 52 = .ok (.invokestatic 65, 3) := by decide +kernel
theorem dxc_valueOfBinary_55 : decode bxc_valueOfBinary 55 = .ok (.lreturn, 1) := by decide +kernel
theorem dxc_valueOfBinary_56 : decode bxc_valueOfBinary 56 = .ok (.lload_n 1, 1) := by decide +kernel
theorem dxc_valueOfBinary_57 : decode bxc_valueOfBinary 57 = .ok (.lload_n 3, 1) := by decide +kernel
theorem dxc_valueOfBinary_58 : decode bxc_valueOfBinary 58 = .ok (.lcmp, 1) := by decide +kernel
theorem dxc_valueOfBinary_59 : decode bxc_valueOfBinary 59 = .ok (.ifCond .eq 7, 3) := by decide +kernel
theorem dxc_valueOfBinary_62 : decode bxc_valueOfBinary 62 = .ok (.iconst 1, 1) := by decide +kernel
theorem dxc_valueOfBinary_63 : decode bxc_valueOfBinary 63 = .ok (.goto 4, 3) := by decide +kernel
theorem dxc_valueOfBinary_66 : decode bxc_valueOfBinary 66 = .ok (.iconst 0, 1) := by decide +kernel
theorem dxc_valueOfBinary_67 : decode bxc_valueOfBinary 67 = .ok (.invokestatic 65, 3) := by decide +kernel
theorem dxc_valueOfBinary_70 : decode bxc_valueOfBinary 70 = .ok (.lreturn, 1) := by decide +kernel
theorem dxc_valueOfBinary_71 : decode bxc_valueOfBinary 71 = .ok (.iload_n 0, 1) := by decide +kernel
theorem dxc_valueOfBinary_72 : decode bxc_valueOfBinary 72 = .ok (.lload_n 1, 1) := by decide +kernel
theorem dxc_valueOfBinary_73 : decode bxc_valueOfBinary 73 = .ok (.lload_n 3, 1) := by decide +kernel
theorem dxc_valueOfBinary_74 : decode bxc_valueOfBinary 74 = .ok (.invokestatic 120, 3) := by decide +kernel
theorem dxc_valueOfBinary_77 : decode bxc_valueOfBinary 77 = .ok (.lreturn, 1) := by decide +kernel
section
variable {l : Launch} {D : va_G} {A : Nat → Prop} {z w : va_W} {q : Nat → Nat} {cI cZ cL : ClassId}
set_option maxHeartbeats 4000000 in
set_option maxRecDepth 100000 in
theorem cxc_valueOfBinary (l0 : Int32) (l1 : Int64) (l3 : Int64) (ur : Int64) (h : sxc_valueOfBinary l0 l1 l3 = ur) : hq_Ct l yxc_valueOfBinary bxc_valueOfBinary 5 (some .long) { frames := 2, cells := 0, slots := 0, locals := 47 } D (hq_tys cI cZ cL) A [.int l0, .long l1, .long l3] w w (some (.long ur)) 0 0 := by
  refine hq_of (by decide) ?_ (Nat.le_of_ble_eq_true rfl)
  intro p e s m below meth c R args Q hRm hQ hx hb hr hml hts hown hlocks hnm hP hK hD ls hl hS
  have hl : lv_has ls 5 [(0, .int l0), (1, .long l1), (3, .long l3)] := hl
  have hown : s.vm.findClass "HeapQueries$Calculator" = some m.cls := hown
  unfold sxc_valueOfBinary at h
  refine lv_iload_n hx hb dxc_valueOfBinary_0 rfl (lv_at hl 0 rfl) ?_
  by_cases hk0 : l0 = 15
  · have h := (if_pos hk0).symm.trans h
    refine lv_tableIn (off := 35) (tgt := 36) hx hb dxc_valueOfBinary_1 (by rw [hk0]; decide) (by rw [hk0]; decide) (by rw [hk0]; rfl) (by decide) ?_
    refine lv_lload_n hx hb dxc_valueOfBinary_36 rfl (lv_at hl 2 rfl) ?_
    refine kxv_truthOf l3 (sxv_truthOf l3) rfl hx hb hml hts hown hK hP hD hS wi_162 (by rw [hRm]; exact ⟨Nat.le_of_ble_eq_true rfl, Nat.le_of_ble_eq_true rfl⟩) hl.1 (Nat.le_of_ble_eq_true rfl) dxc_valueOfBinary_37 ⟨Nat.zero_le _, Nat.zero_le _⟩ (fun H locs hP hD hS => ?_)
    exact hq_lret hx hb hr hlocks hQ hK hP hD hS (by rw [← h]) rfl dxc_valueOfBinary_40
  · have h := (if_neg hk0).symm.trans h
    by_cases hk1 : l0 = 16
    · have h := (if_pos hk1).symm.trans h
      refine lv_tableIn (off := 35) (tgt := 36) hx hb dxc_valueOfBinary_1 (by rw [hk1]; decide) (by rw [hk1]; decide) (by rw [hk1]; rfl) (by decide) ?_
      refine lv_lload_n hx hb dxc_valueOfBinary_36 rfl (lv_at hl 2 rfl) ?_
      refine kxv_truthOf l3 (sxv_truthOf l3) rfl hx hb hml hts hown hK hP hD hS wi_162 (by rw [hRm]; exact ⟨Nat.le_of_ble_eq_true rfl, Nat.le_of_ble_eq_true rfl⟩) hl.1 (Nat.le_of_ble_eq_true rfl) dxc_valueOfBinary_37 ⟨Nat.zero_le _, Nat.zero_le _⟩ (fun H locs hP hD hS => ?_)
      exact hq_lret hx hb hr hlocks hQ hK hP hD hS (by rw [← h]) rfl dxc_valueOfBinary_40
    · have h := (if_neg hk1).symm.trans h
      by_cases hk2 : l0 = 17
      · have h := (if_pos hk2).symm.trans h
        refine lv_tableIn (off := 70) (tgt := 71) hx hb dxc_valueOfBinary_1 (by rw [hk2]; decide) (by rw [hk2]; decide) (by rw [hk2]; rfl) (by decide) ?_
        refine lv_iload_n hx hb dxc_valueOfBinary_71 rfl (lv_at hl 0 rfl) ?_
        refine lv_lload_n hx hb dxc_valueOfBinary_72 rfl (lv_at hl 1 rfl) ?_
        refine lv_lload_n hx hb dxc_valueOfBinary_73 rfl (lv_at hl 2 rfl) ?_
        refine kxc_valueOfArithmetic l0 l1 l3 (sxc_valueOfArithmetic l0 l1 l3) rfl hx hb hml hts hown hK hP hD hS wi_167 (by rw [hRm]; exact ⟨Nat.le_of_ble_eq_true rfl, Nat.le_of_ble_eq_true rfl⟩) hl.1 (Nat.le_of_ble_eq_true rfl) dxc_valueOfBinary_74 ⟨Nat.zero_le _, Nat.zero_le _⟩ (fun H locs hP hD hS => ?_)
        exact hq_lret hx hb hr hlocks hQ hK hP hD hS (by rw [← h]) rfl dxc_valueOfBinary_77
      · have h := (if_neg hk2).symm.trans h
        by_cases hk3 : l0 = 18
        · have h := (if_pos hk3).symm.trans h
          refine lv_tableIn (off := 40) (tgt := 41) hx hb dxc_valueOfBinary_1 (by rw [hk3]; decide) (by rw [hk3]; decide) (by rw [hk3]; rfl) (by decide) ?_
          refine lv_lload_n hx hb dxc_valueOfBinary_41 rfl (lv_at hl 1 rfl) ?_
          refine lv_lload_n hx hb dxc_valueOfBinary_42 rfl (lv_at hl 2 rfl) ?_
          refine W.lcmp hx hb dxc_valueOfBinary_43 ?_
          refine lv_if_ne (tgt := 51) hx hb dxc_valueOfBinary_44 (by decide) (fun hc => ?_) (fun hc => ?_)
          · have h := (if_neg hc).symm.trans h
            refine lv_iconst (v := 0) hx hb dxc_valueOfBinary_51 (by decide) ?_
            refine kxv_flag 0 (sxv_flag 0) rfl hx hb hml hts hown hK hP hD hS wi_165 (by rw [hRm]; exact ⟨Nat.le_of_ble_eq_true rfl, Nat.le_of_ble_eq_true rfl⟩) hl.1 (Nat.le_of_ble_eq_true rfl) dxc_valueOfBinary_52 ⟨Nat.zero_le _, Nat.zero_le _⟩ (fun H locs hP hD hS => ?_)
            exact hq_lret hx hb hr hlocks hQ hK hP hD hS (by rw [← h]) rfl dxc_valueOfBinary_55
          · have h := (if_pos hc).symm.trans h
            refine lv_iconst (v := 1) hx hb dxc_valueOfBinary_47 (by decide) ?_
            refine lv_goto (tgt := 52) hx hb dxc_valueOfBinary_48 (by decide) ?_
            refine kxv_flag 1 (sxv_flag 1) rfl hx hb hml hts hown hK hP hD hS wi_165 (by rw [hRm]; exact ⟨Nat.le_of_ble_eq_true rfl, Nat.le_of_ble_eq_true rfl⟩) hl.1 (Nat.le_of_ble_eq_true rfl) dxc_valueOfBinary_52 ⟨Nat.zero_le _, Nat.zero_le _⟩ (fun H locs hP hD hS => ?_)
            exact hq_lret hx hb hr hlocks hQ hK hP hD hS (by rw [← h]) rfl dxc_valueOfBinary_55
        · have h := (if_neg hk3).symm.trans h
          by_cases hk4 : l0 = 19
          · have h := (if_pos hk4).symm.trans h
            refine lv_tableIn (off := 55) (tgt := 56) hx hb dxc_valueOfBinary_1 (by rw [hk4]; decide) (by rw [hk4]; decide) (by rw [hk4]; rfl) (by decide) ?_
            refine lv_lload_n hx hb dxc_valueOfBinary_56 rfl (lv_at hl 1 rfl) ?_
            refine lv_lload_n hx hb dxc_valueOfBinary_57 rfl (lv_at hl 2 rfl) ?_
            refine W.lcmp hx hb dxc_valueOfBinary_58 ?_
            refine lv_if_eq (tgt := 66) hx hb dxc_valueOfBinary_59 (by decide) (fun hc => ?_) (fun hc => ?_)
            · have h := (if_pos hc).symm.trans h
              refine lv_iconst (v := 0) hx hb dxc_valueOfBinary_66 (by decide) ?_
              refine kxv_flag 0 (sxv_flag 0) rfl hx hb hml hts hown hK hP hD hS wi_165 (by rw [hRm]; exact ⟨Nat.le_of_ble_eq_true rfl, Nat.le_of_ble_eq_true rfl⟩) hl.1 (Nat.le_of_ble_eq_true rfl) dxc_valueOfBinary_67 ⟨Nat.zero_le _, Nat.zero_le _⟩ (fun H locs hP hD hS => ?_)
              exact hq_lret hx hb hr hlocks hQ hK hP hD hS (by rw [← h]) rfl dxc_valueOfBinary_70
            · have h := (if_neg hc).symm.trans h
              refine lv_iconst (v := 1) hx hb dxc_valueOfBinary_62 (by decide) ?_
              refine lv_goto (tgt := 67) hx hb dxc_valueOfBinary_63 (by decide) ?_
              refine kxv_flag 1 (sxv_flag 1) rfl hx hb hml hts hown hK hP hD hS wi_165 (by rw [hRm]; exact ⟨Nat.le_of_ble_eq_true rfl, Nat.le_of_ble_eq_true rfl⟩) hl.1 (Nat.le_of_ble_eq_true rfl) dxc_valueOfBinary_67 ⟨Nat.zero_le _, Nat.zero_le _⟩ (fun H locs hP hD hS => ?_)
              exact hq_lret hx hb hr hlocks hQ hK hP hD hS (by rw [← h]) rfl dxc_valueOfBinary_70
          · have h := (if_neg hk4).symm.trans h
            refine lv_tableOut (tgt := 71) hx hb dxc_valueOfBinary_1 (by have a0 := lv_neT (a := 15) hk0 (by decide); have a1 := lv_neT (a := 16) hk1 (by decide); have a2 := lv_neT (a := 17) hk2 (by decide); have a3 := lv_neT (a := 18) hk3 (by decide); have a4 := lv_neT (a := 19) hk4 (by decide); omega) (by decide) ?_
            refine lv_iload_n hx hb dxc_valueOfBinary_71 rfl (lv_at hl 0 rfl) ?_
            refine lv_lload_n hx hb dxc_valueOfBinary_72 rfl (lv_at hl 1 rfl) ?_
            refine lv_lload_n hx hb dxc_valueOfBinary_73 rfl (lv_at hl 2 rfl) ?_
            refine kxc_valueOfArithmetic l0 l1 l3 (sxc_valueOfArithmetic l0 l1 l3) rfl hx hb hml hts hown hK hP hD hS wi_167 (by rw [hRm]; exact ⟨Nat.le_of_ble_eq_true rfl, Nat.le_of_ble_eq_true rfl⟩) hl.1 (Nat.le_of_ble_eq_true rfl) dxc_valueOfBinary_74 ⟨Nat.zero_le _, Nat.zero_le _⟩ (fun H locs hP hD hS => ?_)
            exact hq_lret hx hb hr hlocks hQ hK hP hD hS (by rw [← h]) rfl dxc_valueOfBinary_77
end
section
variable {p : Program} {l : Launch} {e : Env} {R : Room} {s : State} {m : MethodId} {args : Array Value} {below : List Frame} {meth : Method} {c : Code} {H H0 : Heap} {locs : List Loc} {cells slots : Nat} {Q : State → Prop}
variable {cc : ByteArray} {pc idx nC : Nat} {ls : Array Slot} {rest : List Value} {D : va_G} {A : Nat → Prop} {own : String} {q : Nat → Nat} {cI cZ cL : ClassId} {z w : va_W}
theorem kxc_valueOfBinary (l0 : Int32) (l1 : Int64) (l3 : Int64) (ur : Int64) (hu : sxc_valueOfBinary l0 l1 l3 = ur) (hx : p.tables.exec = Jvm.exec) (hb : c.code = cc) (hml : c.maxLocals = nC) (hts : ∀ x ∈ hq_tbl, x.before args s = true) (hown : s.vm.findClass own = some m.cls) (hK : va_K D hq_cl (hq_tys cI cZ cL) s) (hP : va_P D hq_cl w H) (hD : va_D A w) (hS : va_S A H0 H locs) (h1 : Cond.methodLink own idx yxc_valueOfBinary ∈ hq_tbl) (hR : 2 + 1 ≤ R.frames ∧ 8 + (5 + 11) + 47 ≤ R.locals) (hls : ls.size = nC) (hW : (rest.map fun v => v.category).sum ≤ 8) (hdg : decode cc pc = .ok (.invokestatic idx, 3)) (hf : cells + 0 ≤ R.cells ∧ slots + 0 ≤ R.slots) (kk : ∀ (H1 : Heap) (locs1 : List Loc), va_P D hq_cl w H1 → va_D A w → va_S A H0 H1 locs1 → W p l e R s m args below meth c H1 locs1 cells slots Q (F0 m (pc + 3) ls (.long ur :: rest))) : W p l e R s m args below meth c H locs cells slots Q (F0 m pc ls (.long l3 :: .long l1 :: .int l0 :: rest)) :=
  hq_callS hx hb hml hown hts hK hP hD hS (cxc_valueOfBinary l0 l1 l3 ur hu) h1 wi_509 wi_483 wi_510 3 rfl (by decide +kernel) ⟨rfl, rfl⟩ hR hls rfl hW hdg hf kk
end
theorem dxh_isInstance_0 : decode bxh_isInstance 0 = .ok (.aload_n 0, 1) := by decide +kernel
theorem dxh_isInstance_1 : decode bxh_isInstance 1 = .ok (.getfield 15, 3) := by decide +kernel
theorem dxh_isInstance_4 : decode bxh_isInstance 4 = .ok (.iload_n 1, 1) := by decide +kernel
theorem dxh_isInstance_5 : decode bxh_isInstance 5 = .ok (.iaload, 1) := by decide +kernel
theorem dxh_isInstance_6 : decode bxh_isInstance 6 = .ok (.istore_n 3, 1) := by decide +kernel
theorem dxh_isInstance_7 : decode bxh_isInstance 7 = .ok (.iconst 0, 1) := by decide +kernel
theorem dxh_isInstance_8 : decode bxh_isInstance 8 = .ok (.istore 4, 2) := by decide +kernel
theorem dxh_isInstance_10 : decode bxh_isInstance 10 = .ok (.iload 4, 2) := by decide +kernel
theorem dxh_isInstance_12 : decode bxh_isInstance 12 = .ok (.bipush 8, 2) := by decide +kernel
theorem dxh_isInstance_14 : decode bxh_isInstance 14 = .ok (.if_icmp .ge 28, 3) := by decide +kernel
theorem dxh_isInstance_17 : decode bxh_isInstance 17 = .ok (.iload_n 3, 1) := by decide +kernel
theorem dxh_isInstance_18 : decode bxh_isInstance 18 = .ok (.iconst (-1), 1) := by decide +kernel
theorem dxh_isInstance_19 : decode bxh_isInstance 19 = .ok (.if_icmp .eq 23, 3) := by decide +kernel
theorem dxh_isInstance_22 : decode bxh_isInstance 22 = .ok (.iload_n 3, 1) := by decide +kernel
theorem dxh_isInstance_23 : decode bxh_isInstance 23 = .ok (.iload_n 2, 1) := by decide +kernel
theorem dxh_isInstance_24 : decode bxh_isInstance 24 = .ok (.if_icmp .ne 5, 3) := by decide +kernel
theorem dxh_isInstance_27 : decode bxh_isInstance 27 = .ok (.iconst 1, 1) := by decide +kernel
theorem dxh_isInstance_28 : decode bxh_isInstance 28 = .ok (.ireturn, 1) := by decide +kernel
theorem dxh_isInstance_29 : decode bxh_isInstance 29 = .ok (.aload_n 0, 1) := by decide +kernel
theorem dxh_isInstance_30 : decode bxh_isInstance 30 = .ok (.getfield 9, 3) := by decide +kernel
theorem dxh_isInstance_33 : decode bxh_isInstance 33 = .ok (.iload_n 3, 1) := by decide +kernel
theorem dxh_isInstance_34 : decode bxh_isInstance 34 = .ok (.iaload, 1) := by decide +kernel
theorem dxh_isInstance_35 : decode bxh_isInstance 35 = .ok (.istore_n 3, 1) := by decide +kernel
theorem dxh_isInstance_36 : decode bxh_isInstance 36 = .ok (.iinc 4 1, 3) := by decide +kernel
theorem dxh_isInstance_39 : decode bxh_isInstance 39 = .ok (.goto (-29), 3) := by decide +kernel
theorem dxh_isInstance_42 : decode bxh_isInstance 42 = .ok (.iconst 0, 1) := by decide +kernel
theorem dxh_isInstance_43 : decode bxh_isInstance 43 = .ok (.ireturn, 1) := by decide +kernel
section
variable {l : Launch} {D : va_G} {A : Nat → Prop} {z w : va_W} {q : Nat → Nat} {cI cZ cL : ClassId}
variable {hf_classCount hf_objectCount hf_roots hf_changed sf_objectCount sf_roots sf_reachable tf_count tf_bracketCount tf_place tf_inWhere tf_compared wf_count wf_looks n_code n_number s_isDistinct s_isRetained s_sourceClass s_withDescendants : Int32}
variable {ha_parents ha_classes ha_sizes sa_linkedFrom sa_linkCounts sa_retainedSets sa_retainedSizes sa_dominators sa_immediateDominators ta_codes ta_numbers ta_brackets : Nat → Int32}
variable {ha_fields wa_rows : Nat → Int64}
variable {xq_query n_left n_right s_row s_nested s_condition s_next : Option Nat}
variable {pa_n pk_n pa_s pk_s : Nat}
set_option maxHeartbeats 4000000 in
set_option maxRecDepth 100000 in
theorem cxh_isInstance (l1 : Int32) (l2 : Int32) (ur : Int32) (h : sxh_isInstance l1 l2 ha_parents ha_classes = some ur) : hq_Ct l yxh_isInstance bxh_isInstance 5 (some .boolean) { frames := 0, cells := 0, slots := 0, locals := 0 } D (hq_tys cI cZ cL) A [.ref (q 1), .int l1, .int l2] (hx_w q cI cZ cL xq_query ha_parents hf_classCount ha_classes ha_sizes ha_fields hf_objectCount hf_roots hf_changed sa_linkedFrom sa_linkCounts sa_retainedSets sa_retainedSizes sa_dominators sa_immediateDominators sf_objectCount sf_roots sf_reachable ta_codes ta_numbers tf_count ta_brackets tf_bracketCount tf_place tf_inWhere tf_compared wa_rows wf_count wf_looks ++ z) (hx_w q cI cZ cL xq_query ha_parents hf_classCount ha_classes ha_sizes ha_fields hf_objectCount hf_roots hf_changed sa_linkedFrom sa_linkCounts sa_retainedSets sa_retainedSizes sa_dominators sa_immediateDominators sf_objectCount sf_roots sf_reachable ta_codes ta_numbers tf_count ta_brackets tf_bracketCount tf_place tf_inWhere tf_compared wa_rows wf_count wf_looks ++ z) (some (.int ur)) 0 0 := by
  refine hq_of (by decide) ?_ (Nat.le_of_ble_eq_true rfl)
  intro p e s m below meth c R args Q hRm hQ hx hb hr hml hts hown hlocks hnm hP hK hD ls hl hS
  have hl : lv_has ls 5 [(0, .ref (q 1)), (1, .int l1), (2, .int l2)] := hl
  have hown : s.vm.findClass "HeapQueries$Heap" = some m.cls := hown
  unfold sxh_isInstance at h
  have L10 : ∀ (n : Nat) (l2 : Int32) (l3 : Int32) (l4 : Int32) {ls : Array Slot} {H : Heap} {locs : List Loc}, lv_has ls 5 [(0, .ref (q 1)), (2, .int l2), (3, .int l3), (4, .int l4)] → va_P D hq_cl (hx_w q cI cZ cL xq_query ha_parents hf_classCount ha_classes ha_sizes ha_fields hf_objectCount hf_roots hf_changed sa_linkedFrom sa_linkCounts sa_retainedSets sa_retainedSizes sa_dominators sa_immediateDominators sf_objectCount sf_roots sf_reachable ta_codes ta_numbers tf_count ta_brackets tf_bracketCount tf_place tf_inWhere tf_compared wa_rows wf_count wf_looks ++ z) H → va_D A (hx_w q cI cZ cL xq_query ha_parents hf_classCount ha_classes ha_sizes ha_fields hf_objectCount hf_roots hf_changed sa_linkedFrom sa_linkCounts sa_retainedSets sa_retainedSizes sa_dominators sa_immediateDominators sf_objectCount sf_roots sf_reachable ta_codes ta_numbers tf_count ta_brackets tf_bracketCount tf_place tf_inWhere tf_compared wa_rows wf_count wf_looks ++ z) → va_S A s.heap H locs → sxh_isInstance_L10 n l2 l3 l4 ha_parents ha_classes = some ur → W p l e R s m args below meth c H locs 0 0 Q (F0 m 10 ls []) := by
    intro n
    induction n with
    | zero =>
      intro l2 l3 l4 ls H locs hl hP hD hS h
      have h : (none : Option (Int32)) = some ur := h
      cases h
    | succ n ih =>
      intro l2 l3 l4 ls H locs hl hP hD hS h
      have h : sxh_isInstance_L10_B (sxh_isInstance_L10 n) l2 l3 l4 ha_parents ha_classes = some ur := h
      unfold sxh_isInstance_L10_B at h
      refine lv_iload hx hb dxh_isInstance_10 (lv_at hl 3 rfl) ?_
      refine lv_bipush (v := 8) hx hb dxh_isInstance_12 (by decide) ?_
      refine lv_icmp_ge (tgt := 42) hx hb dxh_isInstance_14 (by decide) (fun hc => ?_) (fun hc => ?_)
      · have h := (if_pos hc).symm.trans h
        refine lv_iconst (v := 0) hx hb dxh_isInstance_42 (by decide) ?_
        have h := Option.some.inj h
        exact hq_zret hx hb hr hlocks hQ hK hP hD hS (by decide) (by rw [← h]) rfl dxh_isInstance_43
      · have h := (if_neg hc).symm.trans h
        refine lv_iload_n hx hb dxh_isInstance_17 rfl (lv_at hl 2 rfl) ?_
        refine lv_iconst (v := (-1)) hx hb dxh_isInstance_18 (by decide) ?_
        refine lv_icmp_eq (tgt := 42) hx hb dxh_isInstance_19 (by decide) (fun hc => ?_) (fun hc => ?_)
        · have h := (if_pos hc).symm.trans h
          refine lv_iconst (v := 0) hx hb dxh_isInstance_42 (by decide) ?_
          have h := Option.some.inj h
          exact hq_zret hx hb hr hlocks hQ hK hP hD hS (by decide) (by rw [← h]) rfl dxh_isInstance_43
        · have h := (if_neg hc).symm.trans h
          refine lv_iload_n hx hb dxh_isInstance_22 rfl (lv_at hl 2 rfl) ?_
          refine lv_iload_n hx hb dxh_isInstance_23 rfl (lv_at hl 1 rfl) ?_
          refine lv_icmp_ne (tgt := 29) hx hb dxh_isInstance_24 (by decide) (fun hc => ?_) (fun hc => ?_)
          · have h := (if_neg hc).symm.trans h
            refine lv_aload_n hx hb dxh_isInstance_29 rfl (lv_at hl 0 rfl) ?_
            refine gx_1_parents hx hb hts hown hK hP wi_1 dxh_isInstance_30 ?_
            refine lv_iload_n hx hb dxh_isInstance_33 rfl (lv_at hl 2 rfl) ?_
            obtain ⟨hin, h⟩ := hq_idx h
            refine ax_5 hx hb hK hP hin dxh_isInstance_34 ?_
            refine lv_istore_n (lv' := [(3, .int (ha_parents l3.toNatClampNeg)), (0, .ref (q 1)), (2, .int l2), (4, .int l4)]) hx hb dxh_isInstance_35 rfl hl (by decide) rfl (fun ls hl => ?_)
            refine lv_iinc (k := 3) (v := l4 + 1) (lv' := [(4, .int (l4 + 1)), (3, .int (ha_parents l3.toNatClampNeg)), (0, .ref (q 1)), (2, .int l2)]) hx hb dxh_isInstance_36 hl rfl (congrArg (fun j => l4 + j) (by decide)) (by decide) rfl (fun ls hl => ?_)
            refine lv_goto (tgt := 10) hx hb dxh_isInstance_39 (by decide) ?_
            exact ih l2 (ha_parents l3.toNatClampNeg) (l4 + 1) (lv_sub hl [2, 3, 1, 0] rfl) hP hD hS h
          · have h := (if_pos hc).symm.trans h
            refine lv_iconst (v := 1) hx hb dxh_isInstance_27 (by decide) ?_
            have h := Option.some.inj h
            exact hq_zret hx hb hr hlocks hQ hK hP hD hS (by decide) (by rw [← h]) rfl dxh_isInstance_28
  refine lv_aload_n hx hb dxh_isInstance_0 rfl (lv_at hl 0 rfl) ?_
  refine gx_1_classes hx hb hts hown hK hP wi_6 dxh_isInstance_1 ?_
  refine lv_iload_n hx hb dxh_isInstance_4 rfl (lv_at hl 1 rfl) ?_
  obtain ⟨hin, h⟩ := hq_idx h
  refine ax_6 hx hb hK hP hin dxh_isInstance_5 ?_
  refine lv_istore_n (lv' := [(3, .int (ha_classes l1.toNatClampNeg)), (0, .ref (q 1)), (1, .int l1), (2, .int l2)]) hx hb dxh_isInstance_6 rfl hl (by decide) rfl (fun ls hl => ?_)
  refine lv_iconst (v := 0) hx hb dxh_isInstance_7 (by decide) ?_
  refine lv_istore (lv' := [(4, .int 0), (3, .int (ha_classes l1.toNatClampNeg)), (0, .ref (q 1)), (1, .int l1), (2, .int l2)]) hx hb dxh_isInstance_8 hl (by decide) rfl (fun ls hl => ?_)
  exact L10 kF l2 (ha_classes l1.toNatClampNeg) 0 (lv_sub hl [2, 4, 1, 0] rfl) hP hD hS h
end
section
variable {p : Program} {l : Launch} {e : Env} {R : Room} {s : State} {m : MethodId} {args : Array Value} {below : List Frame} {meth : Method} {c : Code} {H H0 : Heap} {locs : List Loc} {cells slots : Nat} {Q : State → Prop}
variable {cc : ByteArray} {pc idx nC : Nat} {ls : Array Slot} {rest : List Value} {D : va_G} {A : Nat → Prop} {own : String} {q : Nat → Nat} {cI cZ cL : ClassId} {z w : va_W}
variable {hf_classCount hf_objectCount hf_roots hf_changed sf_objectCount sf_roots sf_reachable tf_count tf_bracketCount tf_place tf_inWhere tf_compared wf_count wf_looks n_code n_number s_isDistinct s_isRetained s_sourceClass s_withDescendants : Int32}
variable {ha_parents ha_classes ha_sizes sa_linkedFrom sa_linkCounts sa_retainedSets sa_retainedSizes sa_dominators sa_immediateDominators ta_codes ta_numbers ta_brackets : Nat → Int32}
variable {ha_fields wa_rows : Nat → Int64}
variable {xq_query n_left n_right s_row s_nested s_condition s_next : Option Nat}
variable {pa_n pk_n pa_s pk_s : Nat}
theorem kxh_isInstance (l1 : Int32) (l2 : Int32) (ur : Int32) (hu : sxh_isInstance l1 l2 ha_parents ha_classes = some ur) (hx : p.tables.exec = Jvm.exec) (hb : c.code = cc) (hml : c.maxLocals = nC) (hts : ∀ x ∈ hq_tbl, x.before args s = true) (hown : s.vm.findClass own = some m.cls) (hK : va_K D hq_cl (hq_tys cI cZ cL) s) (hP : va_P D hq_cl (hx_w q cI cZ cL xq_query ha_parents hf_classCount ha_classes ha_sizes ha_fields hf_objectCount hf_roots hf_changed sa_linkedFrom sa_linkCounts sa_retainedSets sa_retainedSizes sa_dominators sa_immediateDominators sf_objectCount sf_roots sf_reachable ta_codes ta_numbers tf_count ta_brackets tf_bracketCount tf_place tf_inWhere tf_compared wa_rows wf_count wf_looks ++ z) H) (hD : va_D A (hx_w q cI cZ cL xq_query ha_parents hf_classCount ha_classes ha_sizes ha_fields hf_objectCount hf_roots hf_changed sa_linkedFrom sa_linkCounts sa_retainedSets sa_retainedSizes sa_dominators sa_immediateDominators sf_objectCount sf_roots sf_reachable ta_codes ta_numbers tf_count ta_brackets tf_bracketCount tf_place tf_inWhere tf_compared wa_rows wf_count wf_looks ++ z)) (hS : va_S A H0 H locs) (h1 : Cond.methodLink own idx yxh_isInstance ∈ hq_tbl) (hR : 0 + 1 ≤ R.frames ∧ 8 + (5 + 11) + 0 ≤ R.locals) (hls : ls.size = nC) (hW : (rest.map fun v => v.category).sum ≤ 8) (hdg : decode cc pc = .ok (.invokevirtual idx, 3)) (hf : cells + 0 ≤ R.cells ∧ slots + 0 ≤ R.slots) (kk : ∀ (H1 : Heap) (locs1 : List Loc), va_P D hq_cl (hx_w q cI cZ cL xq_query ha_parents hf_classCount ha_classes ha_sizes ha_fields hf_objectCount hf_roots hf_changed sa_linkedFrom sa_linkCounts sa_retainedSets sa_retainedSizes sa_dominators sa_immediateDominators sf_objectCount sf_roots sf_reachable ta_codes ta_numbers tf_count ta_brackets tf_bracketCount tf_place tf_inWhere tf_compared wa_rows wf_count wf_looks ++ z) H1 → va_D A (hx_w q cI cZ cL xq_query ha_parents hf_classCount ha_classes ha_sizes ha_fields hf_objectCount hf_roots hf_changed sa_linkedFrom sa_linkCounts sa_retainedSets sa_retainedSizes sa_dominators sa_immediateDominators sf_objectCount sf_roots sf_reachable ta_codes ta_numbers tf_count ta_brackets tf_bracketCount tf_place tf_inWhere tf_compared wa_rows wf_count wf_looks ++ z) → va_S A H0 H1 locs1 → W p l e R s m args below meth c H1 locs1 cells slots Q (F0 m (pc + 3) ls (.int ur :: rest))) : W p l e R s m args below meth c H locs cells slots Q (F0 m pc ls (.int l2 :: .int l1 :: .ref (q 1) :: rest)) :=
  hq_callV (q0 := 1) hx hb hml hown hts hK hP hD hS (cxh_isInstance l1 l2 ur hu) rfl rfl h1 wi_511 wi_512 wi_202 wi_513 2 rfl (by decide +kernel) ⟨rfl, rfl⟩ hR hls rfl hW hdg hf kk
end
theorem dxt_codeAt_0 : decode bxt_codeAt 0 = .ok (.iload_n 1, 1) := by decide +kernel
theorem dxt_codeAt_1 : decode bxt_codeAt 1 = .ok (.ifCond .lt 20, 3) := by decide +kernel
theorem dxt_codeAt_4 : decode bxt_codeAt 4 = .ok (.iload_n 1, 1) := by decide +kernel
theorem dxt_codeAt_5 : decode bxt_codeAt 5 = .ok (.aload_n 0, 1) := by decide +kernel
theorem dxt_codeAt_6 : decode bxt_codeAt 6 = .ok (.getfield 25, 3) := by decide +kernel
theorem dxt_codeAt_9 : decode bxt_codeAt 9 = .ok (.if_icmp .ge 12, 3) := by decide +kernel
theorem dxt_codeAt_12 : decode bxt_codeAt 12 = .ok (.aload_n 0, 1) := by decide +kernel
theorem dxt_codeAt_13 : decode bxt_codeAt 13 = .ok (.getfield 9, 3) := by decide +kernel
theorem dxt_codeAt_16 : decode bxt_codeAt 16 = .ok (.iload_n 1, 1) := by decide +kernel
theorem dxt_codeAt_17 : decode bxt_codeAt 17 = .ok (.iaload, 1) := by decide +kernel
theorem dxt_codeAt_18 : decode bxt_codeAt 18 = .ok (.goto 5, 3) := by decide +kernel
theorem dxt_codeAt_21 : decode bxt_codeAt 21 = .ok (.bipush 24, 2) := by decide +kernel
theorem dxt_codeAt_23 : decode bxt_codeAt 23 = .ok (.ireturn, 1) := by decide +kernel
section
variable {l : Launch} {D : va_G} {A : Nat → Prop} {z w : va_W} {q : Nat → Nat} {cI cZ cL : ClassId}
variable {hf_classCount hf_objectCount hf_roots hf_changed sf_objectCount sf_roots sf_reachable tf_count tf_bracketCount tf_place tf_inWhere tf_compared wf_count wf_looks n_code n_number s_isDistinct s_isRetained s_sourceClass s_withDescendants : Int32}
variable {ha_parents ha_classes ha_sizes sa_linkedFrom sa_linkCounts sa_retainedSets sa_retainedSizes sa_dominators sa_immediateDominators ta_codes ta_numbers ta_brackets : Nat → Int32}
variable {ha_fields wa_rows : Nat → Int64}
variable {xq_query n_left n_right s_row s_nested s_condition s_next : Option Nat}
variable {pa_n pk_n pa_s pk_s : Nat}
set_option maxHeartbeats 4000000 in
set_option maxRecDepth 100000 in
theorem cxt_codeAt (l1 : Int32) (ur : Int32) (h : sxt_codeAt l1 ta_codes tf_count = some ur) : hq_Ct l yxt_codeAt bxt_codeAt 2 (some .int) { frames := 0, cells := 0, slots := 0, locals := 0 } D (hq_tys cI cZ cL) A [.ref (q 3), .int l1] (hx_w q cI cZ cL xq_query ha_parents hf_classCount ha_classes ha_sizes ha_fields hf_objectCount hf_roots hf_changed sa_linkedFrom sa_linkCounts sa_retainedSets sa_retainedSizes sa_dominators sa_immediateDominators sf_objectCount sf_roots sf_reachable ta_codes ta_numbers tf_count ta_brackets tf_bracketCount tf_place tf_inWhere tf_compared wa_rows wf_count wf_looks ++ z) (hx_w q cI cZ cL xq_query ha_parents hf_classCount ha_classes ha_sizes ha_fields hf_objectCount hf_roots hf_changed sa_linkedFrom sa_linkCounts sa_retainedSets sa_retainedSizes sa_dominators sa_immediateDominators sf_objectCount sf_roots sf_reachable ta_codes ta_numbers tf_count ta_brackets tf_bracketCount tf_place tf_inWhere tf_compared wa_rows wf_count wf_looks ++ z) (some (.int ur)) 0 0 := by
  refine hq_of (by decide) ?_ (Nat.le_of_ble_eq_true rfl)
  intro p e s m below meth c R args Q hRm hQ hx hb hr hml hts hown hlocks hnm hP hK hD ls hl hS
  have hl : lv_has ls 2 [(0, .ref (q 3)), (1, .int l1)] := hl
  have hown : s.vm.findClass "HeapQueries$Text" = some m.cls := hown
  unfold sxt_codeAt at h
  refine lv_iload_n hx hb dxt_codeAt_0 rfl (lv_at hl 1 rfl) ?_
  refine lv_if_lt (tgt := 21) hx hb dxt_codeAt_1 (by decide) (fun hc => ?_) (fun hc => ?_)
  · have h := (if_pos hc).symm.trans h
    refine lv_bipush (v := 24) hx hb dxt_codeAt_21 (by decide) ?_
    have h := Option.some.inj h
    exact hq_iret hx hb hr hlocks hQ hK hP hD hS (by rw [← h]) rfl dxt_codeAt_23
  · have h := (if_neg hc).symm.trans h
    refine lv_iload_n hx hb dxt_codeAt_4 rfl (lv_at hl 1 rfl) ?_
    refine lv_aload_n hx hb dxt_codeAt_5 rfl (lv_at hl 0 rfl) ?_
    refine gx_3_count hx hb hts hown hK hP wi_51 dxt_codeAt_6 ?_
    refine lv_icmp_ge (tgt := 21) hx hb dxt_codeAt_9 (by decide) (fun hc => ?_) (fun hc => ?_)
    · have h := (if_pos hc).symm.trans h
      refine lv_bipush (v := 24) hx hb dxt_codeAt_21 (by decide) ?_
      have h := Option.some.inj h
      exact hq_iret hx hb hr hlocks hQ hK hP hD hS (by rw [← h]) rfl dxt_codeAt_23
    · have h := (if_neg hc).symm.trans h
      refine lv_aload_n hx hb dxt_codeAt_12 rfl (lv_at hl 0 rfl) ?_
      refine gx_3_codes hx hb hts hown hK hP wi_168 dxt_codeAt_13 ?_
      refine lv_iload_n hx hb dxt_codeAt_16 rfl (lv_at hl 1 rfl) ?_
      obtain ⟨hin, h⟩ := hq_idx h
      refine ax_15 hx hb hK hP hin dxt_codeAt_17 ?_
      refine lv_goto (tgt := 23) hx hb dxt_codeAt_18 (by decide) ?_
      have h := Option.some.inj h
      exact hq_iret hx hb hr hlocks hQ hK hP hD hS (by rw [← h]) rfl dxt_codeAt_23
end
section
variable {p : Program} {l : Launch} {e : Env} {R : Room} {s : State} {m : MethodId} {args : Array Value} {below : List Frame} {meth : Method} {c : Code} {H H0 : Heap} {locs : List Loc} {cells slots : Nat} {Q : State → Prop}
variable {cc : ByteArray} {pc idx nC : Nat} {ls : Array Slot} {rest : List Value} {D : va_G} {A : Nat → Prop} {own : String} {q : Nat → Nat} {cI cZ cL : ClassId} {z w : va_W}
variable {hf_classCount hf_objectCount hf_roots hf_changed sf_objectCount sf_roots sf_reachable tf_count tf_bracketCount tf_place tf_inWhere tf_compared wf_count wf_looks n_code n_number s_isDistinct s_isRetained s_sourceClass s_withDescendants : Int32}
variable {ha_parents ha_classes ha_sizes sa_linkedFrom sa_linkCounts sa_retainedSets sa_retainedSizes sa_dominators sa_immediateDominators ta_codes ta_numbers ta_brackets : Nat → Int32}
variable {ha_fields wa_rows : Nat → Int64}
variable {xq_query n_left n_right s_row s_nested s_condition s_next : Option Nat}
variable {pa_n pk_n pa_s pk_s : Nat}
theorem kxt_codeAt (l1 : Int32) (ur : Int32) (hu : sxt_codeAt l1 ta_codes tf_count = some ur) (hx : p.tables.exec = Jvm.exec) (hb : c.code = cc) (hml : c.maxLocals = nC) (hts : ∀ x ∈ hq_tbl, x.before args s = true) (hown : s.vm.findClass own = some m.cls) (hK : va_K D hq_cl (hq_tys cI cZ cL) s) (hP : va_P D hq_cl (hx_w q cI cZ cL xq_query ha_parents hf_classCount ha_classes ha_sizes ha_fields hf_objectCount hf_roots hf_changed sa_linkedFrom sa_linkCounts sa_retainedSets sa_retainedSizes sa_dominators sa_immediateDominators sf_objectCount sf_roots sf_reachable ta_codes ta_numbers tf_count ta_brackets tf_bracketCount tf_place tf_inWhere tf_compared wa_rows wf_count wf_looks ++ z) H) (hD : va_D A (hx_w q cI cZ cL xq_query ha_parents hf_classCount ha_classes ha_sizes ha_fields hf_objectCount hf_roots hf_changed sa_linkedFrom sa_linkCounts sa_retainedSets sa_retainedSizes sa_dominators sa_immediateDominators sf_objectCount sf_roots sf_reachable ta_codes ta_numbers tf_count ta_brackets tf_bracketCount tf_place tf_inWhere tf_compared wa_rows wf_count wf_looks ++ z)) (hS : va_S A H0 H locs) (h1 : Cond.methodLink own idx yxt_codeAt ∈ hq_tbl) (hR : 0 + 1 ≤ R.frames ∧ 8 + (2 + 11) + 0 ≤ R.locals) (hls : ls.size = nC) (hW : (rest.map fun v => v.category).sum ≤ 8) (hdg : decode cc pc = .ok (.invokevirtual idx, 3)) (hf : cells + 0 ≤ R.cells ∧ slots + 0 ≤ R.slots) (kk : ∀ (H1 : Heap) (locs1 : List Loc), va_P D hq_cl (hx_w q cI cZ cL xq_query ha_parents hf_classCount ha_classes ha_sizes ha_fields hf_objectCount hf_roots hf_changed sa_linkedFrom sa_linkCounts sa_retainedSets sa_retainedSizes sa_dominators sa_immediateDominators sf_objectCount sf_roots sf_reachable ta_codes ta_numbers tf_count ta_brackets tf_bracketCount tf_place tf_inWhere tf_compared wa_rows wf_count wf_looks ++ z) H1 → va_D A (hx_w q cI cZ cL xq_query ha_parents hf_classCount ha_classes ha_sizes ha_fields hf_objectCount hf_roots hf_changed sa_linkedFrom sa_linkCounts sa_retainedSets sa_retainedSizes sa_dominators sa_immediateDominators sf_objectCount sf_roots sf_reachable ta_codes ta_numbers tf_count ta_brackets tf_bracketCount tf_place tf_inWhere tf_compared wa_rows wf_count wf_looks ++ z) → va_S A H0 H1 locs1 → W p l e R s m args below meth c H1 locs1 cells slots Q (F0 m (pc + 3) ls (.int ur :: rest))) : W p l e R s m args below meth c H locs cells slots Q (F0 m pc ls (.int l1 :: .ref (q 3) :: rest)) :=
  hq_callV (q0 := 3) hx hb hml hown hts hK hP hD hS (cxt_codeAt l1 ur hu) rfl rfl h1 wi_514 wi_515 wi_298 wi_516 1 rfl (by decide +kernel) ⟨rfl, rfl⟩ hR hls rfl hW hdg hf kk
end
theorem dxt_numberAt_0 : decode bxt_numberAt 0 = .ok (.iload_n 1, 1) := by decide +kernel
theorem dxt_numberAt_1 : decode bxt_numberAt 1 = .ok (.ifCond .lt 20, 3) := by decide +kernel
theorem dxt_numberAt_4 : decode bxt_numberAt 4 = .ok (.iload_n 1, 1) := by decide +kernel
theorem dxt_numberAt_5 : decode bxt_numberAt 5 = .ok (.aload_n 0, 1) := by decide +kernel
theorem dxt_numberAt_6 : decode bxt_numberAt 6 = .ok (.getfield 25, 3) := by decide +kernel
theorem dxt_numberAt_9 : decode bxt_numberAt 9 = .ok (.if_icmp .ge 12, 3) := by decide +kernel
theorem dxt_numberAt_12 : decode bxt_numberAt 12 = .ok (.aload_n 0, 1) := by decide +kernel
theorem dxt_numberAt_13 : decode bxt_numberAt 13 = .ok (.getfield 15, 3) := by decide +kernel
theorem dxt_numberAt_16 : decode bxt_numberAt 16 = .ok (.iload_n 1, 1) := by decide +kernel
theorem dxt_numberAt_17 : decode bxt_numberAt 17 = .ok (.iaload, 1) := by decide +kernel
theorem dxt_numberAt_18 : decode bxt_numberAt 18 = .ok (.goto 4, 3) := by decide +kernel
theorem dxt_numberAt_21 : decode bxt_numberAt 21 = .ok (.iconst 0, 1) := by decide +kernel
theorem dxt_numberAt_22 : decode bxt_numberAt 22 = .ok (.ireturn, 1) := by decide +kernel
section
variable {l : Launch} {D : va_G} {A : Nat → Prop} {z w : va_W} {q : Nat → Nat} {cI cZ cL : ClassId}
variable {hf_classCount hf_objectCount hf_roots hf_changed sf_objectCount sf_roots sf_reachable tf_count tf_bracketCount tf_place tf_inWhere tf_compared wf_count wf_looks n_code n_number s_isDistinct s_isRetained s_sourceClass s_withDescendants : Int32}
variable {ha_parents ha_classes ha_sizes sa_linkedFrom sa_linkCounts sa_retainedSets sa_retainedSizes sa_dominators sa_immediateDominators ta_codes ta_numbers ta_brackets : Nat → Int32}
variable {ha_fields wa_rows : Nat → Int64}
variable {xq_query n_left n_right s_row s_nested s_condition s_next : Option Nat}
variable {pa_n pk_n pa_s pk_s : Nat}
set_option maxHeartbeats 4000000 in
set_option maxRecDepth 100000 in
theorem cxt_numberAt (l1 : Int32) (ur : Int32) (h : sxt_numberAt l1 ta_numbers tf_count = some ur) : hq_Ct l yxt_numberAt bxt_numberAt 2 (some .int) { frames := 0, cells := 0, slots := 0, locals := 0 } D (hq_tys cI cZ cL) A [.ref (q 3), .int l1] (hx_w q cI cZ cL xq_query ha_parents hf_classCount ha_classes ha_sizes ha_fields hf_objectCount hf_roots hf_changed sa_linkedFrom sa_linkCounts sa_retainedSets sa_retainedSizes sa_dominators sa_immediateDominators sf_objectCount sf_roots sf_reachable ta_codes ta_numbers tf_count ta_brackets tf_bracketCount tf_place tf_inWhere tf_compared wa_rows wf_count wf_looks ++ z) (hx_w q cI cZ cL xq_query ha_parents hf_classCount ha_classes ha_sizes ha_fields hf_objectCount hf_roots hf_changed sa_linkedFrom sa_linkCounts sa_retainedSets sa_retainedSizes sa_dominators sa_immediateDominators sf_objectCount sf_roots sf_reachable ta_codes ta_numbers tf_count ta_brackets tf_bracketCount tf_place tf_inWhere tf_compared wa_rows wf_count wf_looks ++ z) (some (.int ur)) 0 0 := by
  refine hq_of (by decide) ?_ (Nat.le_of_ble_eq_true rfl)
  intro p e s m below meth c R args Q hRm hQ hx hb hr hml hts hown hlocks hnm hP hK hD ls hl hS
  have hl : lv_has ls 2 [(0, .ref (q 3)), (1, .int l1)] := hl
  have hown : s.vm.findClass "HeapQueries$Text" = some m.cls := hown
  unfold sxt_numberAt at h
  refine lv_iload_n hx hb dxt_numberAt_0 rfl (lv_at hl 1 rfl) ?_
  refine lv_if_lt (tgt := 21) hx hb dxt_numberAt_1 (by decide) (fun hc => ?_) (fun hc => ?_)
  · have h := (if_pos hc).symm.trans h
    refine lv_iconst (v := 0) hx hb dxt_numberAt_21 (by decide) ?_
    have h := Option.some.inj h
    exact hq_iret hx hb hr hlocks hQ hK hP hD hS (by rw [← h]) rfl dxt_numberAt_22
  · have h := (if_neg hc).symm.trans h
    refine lv_iload_n hx hb dxt_numberAt_4 rfl (lv_at hl 1 rfl) ?_
    refine lv_aload_n hx hb dxt_numberAt_5 rfl (lv_at hl 0 rfl) ?_
    refine gx_3_count hx hb hts hown hK hP wi_51 dxt_numberAt_6 ?_
    refine lv_icmp_ge (tgt := 21) hx hb dxt_numberAt_9 (by decide) (fun hc => ?_) (fun hc => ?_)
    · have h := (if_pos hc).symm.trans h
      refine lv_iconst (v := 0) hx hb dxt_numberAt_21 (by decide) ?_
      have h := Option.some.inj h
      exact hq_iret hx hb hr hlocks hQ hK hP hD hS (by rw [← h]) rfl dxt_numberAt_22
    · have h := (if_neg hc).symm.trans h
      refine lv_aload_n hx hb dxt_numberAt_12 rfl (lv_at hl 0 rfl) ?_
      refine gx_3_numbers hx hb hts hown hK hP wi_169 dxt_numberAt_13 ?_
      refine lv_iload_n hx hb dxt_numberAt_16 rfl (lv_at hl 1 rfl) ?_
      obtain ⟨hin, h⟩ := hq_idx h
      refine ax_16 hx hb hK hP hin dxt_numberAt_17 ?_
      refine lv_goto (tgt := 22) hx hb dxt_numberAt_18 (by decide) ?_
      have h := Option.some.inj h
      exact hq_iret hx hb hr hlocks hQ hK hP hD hS (by rw [← h]) rfl dxt_numberAt_22
end
section
variable {p : Program} {l : Launch} {e : Env} {R : Room} {s : State} {m : MethodId} {args : Array Value} {below : List Frame} {meth : Method} {c : Code} {H H0 : Heap} {locs : List Loc} {cells slots : Nat} {Q : State → Prop}
variable {cc : ByteArray} {pc idx nC : Nat} {ls : Array Slot} {rest : List Value} {D : va_G} {A : Nat → Prop} {own : String} {q : Nat → Nat} {cI cZ cL : ClassId} {z w : va_W}
variable {hf_classCount hf_objectCount hf_roots hf_changed sf_objectCount sf_roots sf_reachable tf_count tf_bracketCount tf_place tf_inWhere tf_compared wf_count wf_looks n_code n_number s_isDistinct s_isRetained s_sourceClass s_withDescendants : Int32}
variable {ha_parents ha_classes ha_sizes sa_linkedFrom sa_linkCounts sa_retainedSets sa_retainedSizes sa_dominators sa_immediateDominators ta_codes ta_numbers ta_brackets : Nat → Int32}
variable {ha_fields wa_rows : Nat → Int64}
variable {xq_query n_left n_right s_row s_nested s_condition s_next : Option Nat}
variable {pa_n pk_n pa_s pk_s : Nat}
theorem kxt_numberAt (l1 : Int32) (ur : Int32) (hu : sxt_numberAt l1 ta_numbers tf_count = some ur) (hx : p.tables.exec = Jvm.exec) (hb : c.code = cc) (hml : c.maxLocals = nC) (hts : ∀ x ∈ hq_tbl, x.before args s = true) (hown : s.vm.findClass own = some m.cls) (hK : va_K D hq_cl (hq_tys cI cZ cL) s) (hP : va_P D hq_cl (hx_w q cI cZ cL xq_query ha_parents hf_classCount ha_classes ha_sizes ha_fields hf_objectCount hf_roots hf_changed sa_linkedFrom sa_linkCounts sa_retainedSets sa_retainedSizes sa_dominators sa_immediateDominators sf_objectCount sf_roots sf_reachable ta_codes ta_numbers tf_count ta_brackets tf_bracketCount tf_place tf_inWhere tf_compared wa_rows wf_count wf_looks ++ z) H) (hD : va_D A (hx_w q cI cZ cL xq_query ha_parents hf_classCount ha_classes ha_sizes ha_fields hf_objectCount hf_roots hf_changed sa_linkedFrom sa_linkCounts sa_retainedSets sa_retainedSizes sa_dominators sa_immediateDominators sf_objectCount sf_roots sf_reachable ta_codes ta_numbers tf_count ta_brackets tf_bracketCount tf_place tf_inWhere tf_compared wa_rows wf_count wf_looks ++ z)) (hS : va_S A H0 H locs) (h1 : Cond.methodLink own idx yxt_numberAt ∈ hq_tbl) (hR : 0 + 1 ≤ R.frames ∧ 8 + (2 + 11) + 0 ≤ R.locals) (hls : ls.size = nC) (hW : (rest.map fun v => v.category).sum ≤ 8) (hdg : decode cc pc = .ok (.invokevirtual idx, 3)) (hf : cells + 0 ≤ R.cells ∧ slots + 0 ≤ R.slots) (kk : ∀ (H1 : Heap) (locs1 : List Loc), va_P D hq_cl (hx_w q cI cZ cL xq_query ha_parents hf_classCount ha_classes ha_sizes ha_fields hf_objectCount hf_roots hf_changed sa_linkedFrom sa_linkCounts sa_retainedSets sa_retainedSizes sa_dominators sa_immediateDominators sf_objectCount sf_roots sf_reachable ta_codes ta_numbers tf_count ta_brackets tf_bracketCount tf_place tf_inWhere tf_compared wa_rows wf_count wf_looks ++ z) H1 → va_D A (hx_w q cI cZ cL xq_query ha_parents hf_classCount ha_classes ha_sizes ha_fields hf_objectCount hf_roots hf_changed sa_linkedFrom sa_linkCounts sa_retainedSets sa_retainedSizes sa_dominators sa_immediateDominators sf_objectCount sf_roots sf_reachable ta_codes ta_numbers tf_count ta_brackets tf_bracketCount tf_place tf_inWhere tf_compared wa_rows wf_count wf_looks ++ z) → va_S A H0 H1 locs1 → W p l e R s m args below meth c H1 locs1 cells slots Q (F0 m (pc + 3) ls (.int ur :: rest))) : W p l e R s m args below meth c H locs cells slots Q (F0 m pc ls (.int l1 :: .ref (q 3) :: rest)) :=
  hq_callV (q0 := 3) hx hb hml hown hts hK hP hD hS (cxt_numberAt l1 ur hu) rfl rfl h1 wi_517 wi_518 wi_298 wi_519 1 rfl (by decide +kernel) ⟨rfl, rfl⟩ hR hls rfl hW hdg hf kk
end
theorem dxt_forget_0 : decode bxt_forget 0 = .ok (.aload_n 0, 1) := by decide +kernel
theorem dxt_forget_1 : decode bxt_forget 1 = .ok (.iconst 0, 1) := by decide +kernel
theorem dxt_forget_2 : decode bxt_forget 2 = .ok (.putfield 25, 3) := by decide +kernel
theorem dxt_forget_5 : decode bxt_forget 5 = .ok (.aload_n 0, 1) := by decide +kernel
theorem dxt_forget_6 : decode bxt_forget 6 = .ok (.iconst 0, 1) := by decide +kernel
theorem dxt_forget_7 : decode bxt_forget 7 = .ok (.putfield 28, 3) := by decide +kernel
theorem dxt_forget_10 : decode bxt_forget 10 = .ok (.aload_n 0, 1) := by decide +kernel
theorem dxt_forget_11 : decode bxt_forget 11 = .ok (.iconst 0, 1) := by decide +kernel
theorem dxt_forget_12 : decode bxt_forget 12 = .ok (.putfield 21, 3) := by decide +kernel
theorem dxt_forget_15 : decode bxt_forget 15 = .ok (.return_, 1) := by decide +kernel
section
variable {l : Launch} {D : va_G} {A : Nat → Prop} {z w : va_W} {q : Nat → Nat} {cI cZ cL : ClassId}
variable {hf_classCount hf_objectCount hf_roots hf_changed sf_objectCount sf_roots sf_reachable tf_count tf_bracketCount tf_place tf_inWhere tf_compared wf_count wf_looks n_code n_number s_isDistinct s_isRetained s_sourceClass s_withDescendants : Int32}
variable {ha_parents ha_classes ha_sizes sa_linkedFrom sa_linkCounts sa_retainedSets sa_retainedSizes sa_dominators sa_immediateDominators ta_codes ta_numbers ta_brackets : Nat → Int32}
variable {ha_fields wa_rows : Nat → Int64}
variable {xq_query n_left n_right s_row s_nested s_condition s_next : Option Nat}
variable {pa_n pk_n pa_s pk_s : Nat}
set_option maxHeartbeats 4000000 in
set_option maxRecDepth 100000 in
theorem cxt_forget  (ur : Int32 × Int32 × Int32) (h : sxt_forget tf_count tf_bracketCount tf_place = ur) : hq_Ct l yxt_forget bxt_forget 1 none { frames := 0, cells := 0, slots := 0, locals := 0 } D (hq_tys cI cZ cL) A [.ref (q 3)] (hx_w q cI cZ cL xq_query ha_parents hf_classCount ha_classes ha_sizes ha_fields hf_objectCount hf_roots hf_changed sa_linkedFrom sa_linkCounts sa_retainedSets sa_retainedSizes sa_dominators sa_immediateDominators sf_objectCount sf_roots sf_reachable ta_codes ta_numbers tf_count ta_brackets tf_bracketCount tf_place tf_inWhere tf_compared wa_rows wf_count wf_looks ++ z) (hx_w q cI cZ cL xq_query ha_parents hf_classCount ha_classes ha_sizes ha_fields hf_objectCount hf_roots hf_changed sa_linkedFrom sa_linkCounts sa_retainedSets sa_retainedSizes sa_dominators sa_immediateDominators sf_objectCount sf_roots sf_reachable ta_codes ta_numbers ur.1 ta_brackets ur.2.1 ur.2.2 tf_inWhere tf_compared wa_rows wf_count wf_looks ++ z) none 0 0 := by
  refine hq_of (by decide) ?_ (Nat.le_of_ble_eq_true rfl)
  intro p e s m below meth c R args Q hRm hQ hx hb hr hml hts hown hlocks hnm hP hK hD ls hl hS
  have hl : lv_has ls 1 [(0, .ref (q 3))] := hl
  have hown : s.vm.findClass "HeapQueries$Text" = some m.cls := hown
  unfold sxt_forget at h
  refine lv_aload_n hx hb dxt_forget_0 rfl (lv_at hl 0 rfl) ?_
  refine lv_iconst (v := 0) hx hb dxt_forget_1 (by decide) ?_
  refine px_3_count hx hb hts hown hK hP hD hS wi_51 dxt_forget_2 (fun H locs hP hD hS => ?_)
  refine lv_aload_n hx hb dxt_forget_5 rfl (lv_at hl 0 rfl) ?_
  refine lv_iconst (v := 0) hx hb dxt_forget_6 (by decide) ?_
  refine px_3_bracketCount hx hb hts hown hK hP hD hS wi_54 dxt_forget_7 (fun H locs hP hD hS => ?_)
  refine lv_aload_n hx hb dxt_forget_10 rfl (lv_at hl 0 rfl) ?_
  refine lv_iconst (v := 0) hx hb dxt_forget_11 (by decide) ?_
  refine px_3_place hx hb hts hown hK hP hD hS wi_170 dxt_forget_12 (fun H locs hP hD hS => ?_)
  exact hq_vret hx hb hr hlocks hQ hK hP hD hS rfl (by rw [← h]) dxt_forget_15
end
section
variable {p : Program} {l : Launch} {e : Env} {R : Room} {s : State} {m : MethodId} {args : Array Value} {below : List Frame} {meth : Method} {c : Code} {H H0 : Heap} {locs : List Loc} {cells slots : Nat} {Q : State → Prop}
variable {cc : ByteArray} {pc idx nC : Nat} {ls : Array Slot} {rest : List Value} {D : va_G} {A : Nat → Prop} {own : String} {q : Nat → Nat} {cI cZ cL : ClassId} {z w : va_W}
variable {hf_classCount hf_objectCount hf_roots hf_changed sf_objectCount sf_roots sf_reachable tf_count tf_bracketCount tf_place tf_inWhere tf_compared wf_count wf_looks n_code n_number s_isDistinct s_isRetained s_sourceClass s_withDescendants : Int32}
variable {ha_parents ha_classes ha_sizes sa_linkedFrom sa_linkCounts sa_retainedSets sa_retainedSizes sa_dominators sa_immediateDominators ta_codes ta_numbers ta_brackets : Nat → Int32}
variable {ha_fields wa_rows : Nat → Int64}
variable {xq_query n_left n_right s_row s_nested s_condition s_next : Option Nat}
variable {pa_n pk_n pa_s pk_s : Nat}
theorem kxt_forget  (ur : Int32 × Int32 × Int32) (hu : sxt_forget tf_count tf_bracketCount tf_place = ur) (hx : p.tables.exec = Jvm.exec) (hb : c.code = cc) (hml : c.maxLocals = nC) (hts : ∀ x ∈ hq_tbl, x.before args s = true) (hown : s.vm.findClass own = some m.cls) (hK : va_K D hq_cl (hq_tys cI cZ cL) s) (hP : va_P D hq_cl (hx_w q cI cZ cL xq_query ha_parents hf_classCount ha_classes ha_sizes ha_fields hf_objectCount hf_roots hf_changed sa_linkedFrom sa_linkCounts sa_retainedSets sa_retainedSizes sa_dominators sa_immediateDominators sf_objectCount sf_roots sf_reachable ta_codes ta_numbers tf_count ta_brackets tf_bracketCount tf_place tf_inWhere tf_compared wa_rows wf_count wf_looks ++ z) H) (hD : va_D A (hx_w q cI cZ cL xq_query ha_parents hf_classCount ha_classes ha_sizes ha_fields hf_objectCount hf_roots hf_changed sa_linkedFrom sa_linkCounts sa_retainedSets sa_retainedSizes sa_dominators sa_immediateDominators sf_objectCount sf_roots sf_reachable ta_codes ta_numbers tf_count ta_brackets tf_bracketCount tf_place tf_inWhere tf_compared wa_rows wf_count wf_looks ++ z)) (hS : va_S A H0 H locs) (h1 : Cond.methodLink own idx yxt_forget ∈ hq_tbl) (hR : 0 + 1 ≤ R.frames ∧ 8 + (1 + 11) + 0 ≤ R.locals) (hls : ls.size = nC) (hW : (rest.map fun v => v.category).sum ≤ 8) (hdg : decode cc pc = .ok (.invokevirtual idx, 3)) (hf : cells + 0 ≤ R.cells ∧ slots + 0 ≤ R.slots) (kk : ∀ (H1 : Heap) (locs1 : List Loc), va_P D hq_cl (hx_w q cI cZ cL xq_query ha_parents hf_classCount ha_classes ha_sizes ha_fields hf_objectCount hf_roots hf_changed sa_linkedFrom sa_linkCounts sa_retainedSets sa_retainedSizes sa_dominators sa_immediateDominators sf_objectCount sf_roots sf_reachable ta_codes ta_numbers ur.1 ta_brackets ur.2.1 ur.2.2 tf_inWhere tf_compared wa_rows wf_count wf_looks ++ z) H1 → va_D A (hx_w q cI cZ cL xq_query ha_parents hf_classCount ha_classes ha_sizes ha_fields hf_objectCount hf_roots hf_changed sa_linkedFrom sa_linkCounts sa_retainedSets sa_retainedSizes sa_dominators sa_immediateDominators sf_objectCount sf_roots sf_reachable ta_codes ta_numbers ur.1 ta_brackets ur.2.1 ur.2.2 tf_inWhere tf_compared wa_rows wf_count wf_looks ++ z) → va_S A H0 H1 locs1 → W p l e R s m args below meth c H1 locs1 cells slots Q (F0 m (pc + 3) ls (rest))) : W p l e R s m args below meth c H locs cells slots Q (F0 m pc ls (.ref (q 3) :: rest)) :=
  hq_callV (q0 := 3) hx hb hml hown hts hK hP hD hS (cxt_forget  ur hu) rfl rfl h1 wi_520 wi_521 wi_298 wi_522 0 rfl (by decide +kernel) ⟨rfl, rfl⟩ hR hls rfl hW hdg hf kk
end
