/-! run, what the query means being given -/
def sxq_run (dQ : hd_Y) (xq_query : Option Nat) (ha_parents : Nat → Int32) (ha_classes : Nat → Int32) (ha_sizes : Nat → Int32) (ha_fields : Nat → Int64) (hf_objectCount : Int32) (hf_roots : Int32) (hf_changed : Int32) (sa_linkedFrom : Nat → Int32) (sa_linkCounts : Nat → Int32) (sa_retainedSets : Nat → Int32) (sa_retainedSizes : Nat → Int32) (sa_dominators : Nat → Int32) (sa_immediateDominators : Nat → Int32) (sf_objectCount : Int32) (sf_roots : Int32) (sf_reachable : Int32) (wa_rows : Nat → Int64) (wf_count : Int32) (wf_looks : Int32) : Option (Int32 × Int32 × (Nat → Int32) × (Nat → Int32) × (Nat → Int32) × (Nat → Int32) × (Nat → Int32) × (Nat → Int32) × Int32 × Int32 × Int32 × (Nat → Int64) × Int32 × Int32) :=
  if xq_query = none then
    some (((-1), hf_changed, sa_linkedFrom, sa_linkCounts, sa_retainedSets, sa_retainedSizes, sa_dominators, sa_immediateDominators, sf_objectCount, sf_roots, sf_reachable, wa_rows, wf_count, wf_looks))
  else
    (sxh_refreshSurvey ha_sizes ha_fields hf_objectCount hf_roots hf_changed sa_linkedFrom sa_linkCounts sa_retainedSets sa_retainedSizes sa_dominators sa_immediateDominators sf_objectCount sf_roots sf_reachable).bind fun v13 =>
      (dQ ha_parents ha_classes ha_sizes ha_fields hf_objectCount v13.2.1 v13.2.2.1 v13.2.2.2.2.1 v13.2.2.2.2.2.2.1 v13.2.2.2.2.2.2.2.2.1 v13.2.2.2.2.2.2.2.2.2 wa_rows ((sxw_begin wf_count wf_looks).1) ((sxw_begin wf_count wf_looks).2)).bind fun v36 =>
        if v36.1 = 0 then
          some (((sxw_rowCount v36.2.2.1), v13.1, v13.2.1, v13.2.2.1, v13.2.2.2.1, v13.2.2.2.2.1, v13.2.2.2.2.2.1, v13.2.2.2.2.2.2.1, v13.2.2.2.2.2.2.2.1, v13.2.2.2.2.2.2.2.2.1, v13.2.2.2.2.2.2.2.2.2, v36.2.1, v36.2.2.1, v36.2.2.2))
        else
          some ((v36.1, v13.1, v13.2.1, v13.2.2.1, v13.2.2.2.1, v13.2.2.2.2.1, v13.2.2.2.2.2.1, v13.2.2.2.2.2.2.1, v13.2.2.2.2.2.2.2.1, v13.2.2.2.2.2.2.2.2.1, v13.2.2.2.2.2.2.2.2.2, v36.2.1, (sxw_dropRows v36.2.2.1), v36.2.2.2))
theorem dxq_run_0 : decode bxq_run 0 = .ok (.aload_n 0, 1) := by decide +kernel
theorem dxq_run_1 : decode bxq_run 1 = .ok (.getfield 90, 3) := by decide +kernel
theorem dxq_run_4 : decode bxq_run 4 = .ok (.ifnonnull 5, 3) := by decide +kernel
theorem dxq_run_7 : decode bxq_run 7 = .ok (.iconst (-1), 1) := by decide +kernel
theorem dxq_run_8 : decode bxq_run 8 = .ok (.ireturn, 1) := by decide +kernel
theorem dxq_run_9 : decode bxq_run 9 = .ok (.aload_n 0, 1) := by decide +kernel
theorem dxq_run_10 : decode bxq_run 10 = .ok (.getfield 12, 3) := by decide +kernel
theorem dxq_run_13 : decode bxq_run 13 = .ok (.invokevirtual 59, 3) := by decide +kernel
theorem dxq_run_16 : decode bxq_run 16 = .ok (.aload_n 0, 1) := by decide +kernel
theorem dxq_run_17 : decode bxq_run 17 = .ok (.getfield 26, 3) := by decide +kernel
theorem dxq_run_20 : decode bxq_run 20 = .ok (.invokevirtual 107, 3) := by decide +kernel
theorem dxq_run_23 : decode bxq_run 23 = .ok (.aload_n 0, 1) := by decide +kernel
theorem dxq_run_24 : decode bxq_run 24 = .ok (.getfield 26, 3) := by decide +kernel
theorem dxq_run_27 : decode bxq_run 27 = .ok (.aload_n 0, 1) := by decide +kernel
theorem dxq_run_28 : decode bxq_run 28 = .ok (.getfield 12, 3) := by decide +kernel
theorem dxq_run_31 : decode bxq_run 31 = .ok (.aload_n 0, 1) := by decide +kernel
theorem dxq_run_32 : decode bxq_run 32 = .ok (.getfield 90, 3) := by decide +kernel
theorem dxq_run_35 : decode bxq_run 35 = .ok (.iconst 0, 1) := by decide +kernel
theorem dxq_run_36 : decode bxq_run 36 = .ok (.invokevirtual 110, 3) := by decide +kernel
theorem dxq_run_39 : decode bxq_run 39 = .ok (.istore_n 1, 1) := by decide +kernel
theorem dxq_run_40 : decode bxq_run 40 = .ok (.iload_n 1, 1) := by decide +kernel
theorem dxq_run_41 : decode bxq_run 41 = .ok (.ifCond .eq 12, 3) := by decide +kernel
theorem dxq_run_44 : decode bxq_run 44 = .ok (.aload_n 0, 1) := by decide +kernel
theorem dxq_run_45 : decode bxq_run 45 = .ok (.getfield 26, 3) := by decide +kernel
theorem dxq_run_48 : decode bxq_run 48 = .ok (.invokevirtual 114, 3) := by decide +kernel
theorem dxq_run_51 : decode bxq_run 51 = .ok (.iload_n 1, 1) := by decide +kernel
theorem dxq_run_52 : decode bxq_run 52 = .ok (.ireturn, 1) := by decide +kernel
theorem dxq_run_53 : decode bxq_run 53 = .ok (.aload_n 0, 1) := by decide +kernel
theorem dxq_run_54 : decode bxq_run 54 = .ok (.getfield 26, 3) := by decide +kernel
theorem dxq_run_57 : decode bxq_run 57 = .ok (.invokevirtual 117, 3) := by decide +kernel
theorem dxq_run_60 : decode bxq_run 60 = .ok (.ireturn, 1) := by decide +kernel
section
variable {l : Launch} {D : va_G} {A : Nat → Prop} {z w : va_W} {q : Nat → Nat} {cI cZ cL : ClassId}
variable {hf_classCount hf_objectCount hf_roots hf_changed sf_objectCount sf_roots sf_reachable tf_count tf_bracketCount tf_place tf_inWhere tf_compared wf_count wf_looks n_code n_number s_isDistinct s_isRetained s_sourceClass s_withDescendants : Int32}
variable {ha_parents ha_classes ha_sizes sa_linkedFrom sa_linkCounts sa_retainedSets sa_retainedSizes sa_dominators sa_immediateDominators ta_codes ta_numbers ta_brackets : Nat → Int32}
variable {ha_fields wa_rows : Nat → Int64}
variable {xq_query n_left n_right s_row s_nested s_condition s_next : Option Nat}
variable {pa_n pk_n pa_s pk_s : Nat}
set_option maxHeartbeats 4000000 in
set_option maxRecDepth 100000 in
theorem cxq_run (dQ : hd_Y) (hQd : hd_Q l D A q cI cZ cL z xq_query 9 dQ) (ur : Int32 × Int32 × (Nat → Int32) × (Nat → Int32) × (Nat → Int32) × (Nat → Int32) × (Nat → Int32) × (Nat → Int32) × Int32 × Int32 × Int32 × (Nat → Int64) × Int32 × Int32) (h : sxq_run dQ xq_query ha_parents ha_classes ha_sizes ha_fields hf_objectCount hf_roots hf_changed sa_linkedFrom sa_linkCounts sa_retainedSets sa_retainedSizes sa_dominators sa_immediateDominators sf_objectCount sf_roots sf_reachable wa_rows wf_count wf_looks = some ur) : hq_Ct l yxq_run bxq_run 2 (some .int) { frames := 90, cells := 0, slots := 0, locals := 3300 } D (hq_tys cI cZ cL) A [.ref (q 0)] (hx_w q cI cZ cL xq_query ha_parents hf_classCount ha_classes ha_sizes ha_fields hf_objectCount hf_roots hf_changed sa_linkedFrom sa_linkCounts sa_retainedSets sa_retainedSizes sa_dominators sa_immediateDominators sf_objectCount sf_roots sf_reachable ta_codes ta_numbers tf_count ta_brackets tf_bracketCount tf_place tf_inWhere tf_compared wa_rows wf_count wf_looks ++ z) (hx_w q cI cZ cL xq_query ha_parents hf_classCount ha_classes ha_sizes ha_fields hf_objectCount hf_roots ur.2.1 ur.2.2.1 ur.2.2.2.1 ur.2.2.2.2.1 ur.2.2.2.2.2.1 ur.2.2.2.2.2.2.1 ur.2.2.2.2.2.2.2.1 ur.2.2.2.2.2.2.2.2.1 ur.2.2.2.2.2.2.2.2.2.1 ur.2.2.2.2.2.2.2.2.2.2.1 ta_codes ta_numbers tf_count ta_brackets tf_bracketCount tf_place tf_inWhere tf_compared ur.2.2.2.2.2.2.2.2.2.2.2.1 ur.2.2.2.2.2.2.2.2.2.2.2.2.1 ur.2.2.2.2.2.2.2.2.2.2.2.2.2 ++ z) (some (.int ur.1)) 0 0 := by
  refine hq_of (by decide) ?_ (Nat.le_of_ble_eq_true rfl)
  intro p e s m below meth c R args Q hRm hQ hx hb hr hml hts hown hlocks hnm hP hK hD ls hl hS
  have hl : lv_has ls 2 [(0, .ref (q 0))] := hl
  have hown : s.vm.findClass "HeapQueries" = some m.cls := hown
  unfold sxq_run at h
  refine lv_aload_n hx hb dxq_run_0 rfl (lv_at hl 0 rfl) ?_
  refine gx_0_query hx hb hts hown hK hP wi_691 dxq_run_1 ?_
  refine hq_ifnonnull (tgt := 9) hx hb dxq_run_4 (by decide) (fun hc => ?_) (fun hc => ?_)
  · have h := (if_pos hc).symm.trans h
    refine lv_iconst (v := (-1)) hx hb dxq_run_7 (by decide) ?_
    have h := Option.some.inj h
    exact hq_iret hx hb hr hlocks hQ hK hP hD hS (by rw [← h]) (by rw [← h]) dxq_run_8
  · have h := (if_neg hc).symm.trans h
    refine lv_aload_n hx hb dxq_run_9 rfl (lv_at hl 0 rfl) ?_
    refine gx_0_heap hx hb hts hown hK hP wi_3 dxq_run_10 ?_
    obtain ⟨v13, h13, h⟩ := hq_bind h
    refine kxh_refreshSurvey  v13 h13 hx hb hml hts hown hK hP hD hS wi_46 (by rw [hRm]; exact ⟨Nat.le_of_ble_eq_true rfl, Nat.le_of_ble_eq_true rfl⟩) hl.1 (Nat.le_of_ble_eq_true rfl) dxq_run_13 ⟨Nat.zero_le _, Nat.zero_le _⟩ (fun H locs hP hD hS => ?_)
    refine lv_aload_n hx hb dxq_run_16 rfl (lv_at hl 0 rfl) ?_
    refine gx_0_worker hx hb hts hown hK hP wi_57 dxq_run_17 ?_
    refine kxw_begin  (sxw_begin wf_count wf_looks) rfl hx hb hml hts hown hK hP hD hS wi_692 (by rw [hRm]; exact ⟨Nat.le_of_ble_eq_true rfl, Nat.le_of_ble_eq_true rfl⟩) hl.1 (Nat.le_of_ble_eq_true rfl) dxq_run_20 ⟨Nat.zero_le _, Nat.zero_le _⟩ (fun H locs hP hD hS => ?_)
    refine lv_aload_n hx hb dxq_run_23 rfl (lv_at hl 0 rfl) ?_
    refine gx_0_worker hx hb hts hown hK hP wi_57 dxq_run_24 ?_
    refine lv_aload_n hx hb dxq_run_27 rfl (lv_at hl 0 rfl) ?_
    refine gx_0_heap hx hb hts hown hK hP wi_3 dxq_run_28 ?_
    refine lv_aload_n hx hb dxq_run_31 rfl (lv_at hl 0 rfl) ?_
    refine gx_0_query hx hb hts hown hK hP wi_691 dxq_run_32 ?_
    refine lv_iconst (v := 0) hx hb dxq_run_35 (by decide) ?_
    obtain ⟨v36, h36, h⟩ := hq_bind h
    refine kxw_recq (k := 0) (l3 := 0) (q0 := 4) (hQd z hz_le.rf 0 (by decide) _ _ _ _ _ _ _ _ _ _ _ _ _ _ _ _ _ _ _ _ _ _ _ _ _ _ _ _ _ v36 h36) rfl hx hb hml hts hown hK hP hD hS wi_693 (by rw [hRm]; exact ⟨Nat.le_of_ble_eq_true rfl, Nat.le_of_ble_eq_true rfl⟩) hl.1 (Nat.le_of_ble_eq_true rfl) dxq_run_36 ⟨Nat.zero_le _, Nat.zero_le _⟩ (fun H locs hP hD hS => ?_)
    refine lv_istore_n (lv' := [(1, .int v36.1), (0, .ref (q 0))]) hx hb dxq_run_39 rfl hl (by decide) rfl (fun ls hl => ?_)
    refine lv_iload_n hx hb dxq_run_40 rfl (lv_at hl 0 rfl) ?_
    refine lv_if_eq (tgt := 53) hx hb dxq_run_41 (by decide) (fun hc => ?_) (fun hc => ?_)
    · have h := (if_pos hc).symm.trans h
      refine lv_aload_n hx hb dxq_run_53 rfl (lv_at hl 1 rfl) ?_
      refine gx_0_worker hx hb hts hown hK hP wi_57 dxq_run_54 ?_
      refine kxw_rowCount  (sxw_rowCount v36.2.2.1) rfl hx hb hml hts hown hK hP hD hS wi_58 (by rw [hRm]; exact ⟨Nat.le_of_ble_eq_true rfl, Nat.le_of_ble_eq_true rfl⟩) hl.1 (Nat.le_of_ble_eq_true rfl) dxq_run_57 ⟨Nat.zero_le _, Nat.zero_le _⟩ (fun H locs hP hD hS => ?_)
      have h := Option.some.inj h
      exact hq_iret hx hb hr hlocks hQ hK hP hD hS (by rw [← h]) (by rw [← h]) dxq_run_60
    · have h := (if_neg hc).symm.trans h
      refine lv_aload_n hx hb dxq_run_44 rfl (lv_at hl 1 rfl) ?_
      refine gx_0_worker hx hb hts hown hK hP wi_57 dxq_run_45 ?_
      refine kxw_dropRows  (sxw_dropRows v36.2.2.1) rfl hx hb hml hts hown hK hP hD hS wi_694 (by rw [hRm]; exact ⟨Nat.le_of_ble_eq_true rfl, Nat.le_of_ble_eq_true rfl⟩) hl.1 (Nat.le_of_ble_eq_true rfl) dxq_run_48 ⟨Nat.zero_le _, Nat.zero_le _⟩ (fun H locs hP hD hS => ?_)
      refine lv_iload_n hx hb dxq_run_51 rfl (lv_at hl 0 rfl) ?_
      have h := Option.some.inj h
      exact hq_iret hx hb hr hlocks hQ hK hP hD hS (by rw [← h]) (by rw [← h]) dxq_run_52
end
section
variable {p : Program} {l : Launch} {e : Env} {R : Room} {s : State} {m : MethodId} {args : Array Value} {below : List Frame} {meth : Method} {c : Code} {H H0 : Heap} {locs : List Loc} {cells slots : Nat} {Q : State → Prop}
variable {cc : ByteArray} {pc idx nC : Nat} {ls : Array Slot} {rest : List Value} {D : va_G} {A : Nat → Prop} {own : String} {q : Nat → Nat} {cI cZ cL : ClassId} {z w : va_W}
variable {hf_classCount hf_objectCount hf_roots hf_changed sf_objectCount sf_roots sf_reachable tf_count tf_bracketCount tf_place tf_inWhere tf_compared wf_count wf_looks n_code n_number s_isDistinct s_isRetained s_sourceClass s_withDescendants : Int32}
variable {ha_parents ha_classes ha_sizes sa_linkedFrom sa_linkCounts sa_retainedSets sa_retainedSizes sa_dominators sa_immediateDominators ta_codes ta_numbers ta_brackets : Nat → Int32}
variable {ha_fields wa_rows : Nat → Int64}
variable {xq_query n_left n_right s_row s_nested s_condition s_next : Option Nat}
variable {pa_n pk_n pa_s pk_s : Nat}
theorem kxq_run (dQ : hd_Y) (hQd : hd_Q l D A q cI cZ cL z xq_query 9 dQ) (ur : Int32 × Int32 × (Nat → Int32) × (Nat → Int32) × (Nat → Int32) × (Nat → Int32) × (Nat → Int32) × (Nat → Int32) × Int32 × Int32 × Int32 × (Nat → Int64) × Int32 × Int32) (hu : sxq_run dQ xq_query ha_parents ha_classes ha_sizes ha_fields hf_objectCount hf_roots hf_changed sa_linkedFrom sa_linkCounts sa_retainedSets sa_retainedSizes sa_dominators sa_immediateDominators sf_objectCount sf_roots sf_reachable wa_rows wf_count wf_looks = some ur) (hx : p.tables.exec = Jvm.exec) (hb : c.code = cc) (hml : c.maxLocals = nC) (hts : ∀ x ∈ hq_tbl, x.before args s = true) (hown : s.vm.findClass own = some m.cls) (hK : va_K D hq_cl (hq_tys cI cZ cL) s) (hP : va_P D hq_cl (hx_w q cI cZ cL xq_query ha_parents hf_classCount ha_classes ha_sizes ha_fields hf_objectCount hf_roots hf_changed sa_linkedFrom sa_linkCounts sa_retainedSets sa_retainedSizes sa_dominators sa_immediateDominators sf_objectCount sf_roots sf_reachable ta_codes ta_numbers tf_count ta_brackets tf_bracketCount tf_place tf_inWhere tf_compared wa_rows wf_count wf_looks ++ z) H) (hD : va_D A (hx_w q cI cZ cL xq_query ha_parents hf_classCount ha_classes ha_sizes ha_fields hf_objectCount hf_roots hf_changed sa_linkedFrom sa_linkCounts sa_retainedSets sa_retainedSizes sa_dominators sa_immediateDominators sf_objectCount sf_roots sf_reachable ta_codes ta_numbers tf_count ta_brackets tf_bracketCount tf_place tf_inWhere tf_compared wa_rows wf_count wf_looks ++ z)) (hS : va_S A H0 H locs) (h1 : Cond.methodLink own idx yxq_run ∈ hq_tbl) (hR : 90 + 1 ≤ R.frames ∧ 8 + (2 + 11) + 3300 ≤ R.locals) (hls : ls.size = nC) (hW : (rest.map fun v => v.category).sum ≤ 8) (hdg : decode cc pc = .ok (.invokevirtual idx, 3)) (hf : cells + 0 ≤ R.cells ∧ slots + 0 ≤ R.slots) (kk : ∀ (H1 : Heap) (locs1 : List Loc), va_P D hq_cl (hx_w q cI cZ cL xq_query ha_parents hf_classCount ha_classes ha_sizes ha_fields hf_objectCount hf_roots ur.2.1 ur.2.2.1 ur.2.2.2.1 ur.2.2.2.2.1 ur.2.2.2.2.2.1 ur.2.2.2.2.2.2.1 ur.2.2.2.2.2.2.2.1 ur.2.2.2.2.2.2.2.2.1 ur.2.2.2.2.2.2.2.2.2.1 ur.2.2.2.2.2.2.2.2.2.2.1 ta_codes ta_numbers tf_count ta_brackets tf_bracketCount tf_place tf_inWhere tf_compared ur.2.2.2.2.2.2.2.2.2.2.2.1 ur.2.2.2.2.2.2.2.2.2.2.2.2.1 ur.2.2.2.2.2.2.2.2.2.2.2.2.2 ++ z) H1 → va_D A (hx_w q cI cZ cL xq_query ha_parents hf_classCount ha_classes ha_sizes ha_fields hf_objectCount hf_roots ur.2.1 ur.2.2.1 ur.2.2.2.1 ur.2.2.2.2.1 ur.2.2.2.2.2.1 ur.2.2.2.2.2.2.1 ur.2.2.2.2.2.2.2.1 ur.2.2.2.2.2.2.2.2.1 ur.2.2.2.2.2.2.2.2.2.1 ur.2.2.2.2.2.2.2.2.2.2.1 ta_codes ta_numbers tf_count ta_brackets tf_bracketCount tf_place tf_inWhere tf_compared ur.2.2.2.2.2.2.2.2.2.2.2.1 ur.2.2.2.2.2.2.2.2.2.2.2.2.1 ur.2.2.2.2.2.2.2.2.2.2.2.2.2 ++ z) → va_S A H0 H1 locs1 → W p l e R s m args below meth c H1 locs1 cells slots Q (F0 m (pc + 3) ls (.int ur.1 :: rest))) : W p l e R s m args below meth c H locs cells slots Q (F0 m pc ls (.ref (q 0) :: rest)) :=
  hq_callV (q0 := 0) hx hb hml hown hts hK hP hD hS (cxq_run dQ hQd ur hu) rfl rfl h1 wi_695 wi_696 wi_209 wi_697 0 rfl (by decide +kernel) ⟨rfl, rfl⟩ hR hls rfl hW hdg hf kk
end
