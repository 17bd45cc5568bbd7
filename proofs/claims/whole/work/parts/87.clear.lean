/-! clear; storing the query -/
section
variable {p : Program} {l : Launch} {e : Env} {R : Room} {s : State} {m : MethodId} {args : Array Value} {below : List Frame} {meth : Method} {c : Code} {H H0 : Heap} {locs : List Loc} {cells slots : Nat} {Q : State → Prop}
variable {cc : ByteArray} {pc idx nC : Nat} {ls : Array Slot} {rest : List Value} {D : va_G} {A : Nat → Prop} {own : String} {q : Nat → Nat} {cI cZ cL : ClassId} {z w : va_W}
variable {hf_classCount hf_objectCount hf_roots hf_changed sf_objectCount sf_roots sf_reachable tf_count tf_bracketCount tf_place tf_inWhere tf_compared wf_count wf_looks n_code n_number s_isDistinct s_isRetained s_sourceClass s_withDescendants : Int32}
variable {ha_parents ha_classes ha_sizes sa_linkedFrom sa_linkCounts sa_retainedSets sa_retainedSizes sa_dominators sa_immediateDominators ta_codes ta_numbers ta_brackets : Nat → Int32}
variable {ha_fields wa_rows : Nat → Int64}
variable {xq_query n_left n_right s_row s_nested s_condition s_next : Option Nat}
variable {pa_n pk_n pa_s pk_s : Nat}
theorem px_0_query {r : Option Nat} (hx : p.tables.exec = Jvm.exec) (hb : c.code = cc) (hts : ∀ x ∈ hq_tbl, x.before args s = true) (hown : s.vm.findClass own = some m.cls) (hK : va_K D hq_cl (hq_tys cI cZ cL) s) (hP : va_P D hq_cl (hx_w q cI cZ cL xq_query ha_parents hf_classCount ha_classes ha_sizes ha_fields hf_objectCount hf_roots hf_changed sa_linkedFrom sa_linkCounts sa_retainedSets sa_retainedSizes sa_dominators sa_immediateDominators sf_objectCount sf_roots sf_reachable ta_codes ta_numbers tf_count ta_brackets tf_bracketCount tf_place tf_inWhere tf_compared wa_rows wf_count wf_looks ++ z) H) (hD : va_D A (hx_w q cI cZ cL xq_query ha_parents hf_classCount ha_classes ha_sizes ha_fields hf_objectCount hf_roots hf_changed sa_linkedFrom sa_linkCounts sa_retainedSets sa_retainedSizes sa_dominators sa_immediateDominators sf_objectCount sf_roots sf_reachable ta_codes ta_numbers tf_count ta_brackets tf_bracketCount tf_place tf_inWhere tf_compared wa_rows wf_count wf_looks ++ z)) (hS : va_S A H0 H locs) (hw : Cond.fieldLink own idx "HeapQueries" "query" "LHeapQueries$Select;" ∈ hq_tbl) (hdg : decode cc pc = .ok (.putfield idx, 3))
    (kk : ∀ (H1 : Heap) (locs1 : List Loc), va_P D hq_cl (hx_w q cI cZ cL r ha_parents hf_classCount ha_classes ha_sizes ha_fields hf_objectCount hf_roots hf_changed sa_linkedFrom sa_linkCounts sa_retainedSets sa_retainedSizes sa_dominators sa_immediateDominators sf_objectCount sf_roots sf_reachable ta_codes ta_numbers tf_count ta_brackets tf_bracketCount tf_place tf_inWhere tf_compared wa_rows wf_count wf_looks ++ z) H1 → va_D A (hx_w q cI cZ cL r ha_parents hf_classCount ha_classes ha_sizes ha_fields hf_objectCount hf_roots hf_changed sa_linkedFrom sa_linkCounts sa_retainedSets sa_retainedSizes sa_dominators sa_immediateDominators sf_objectCount sf_roots sf_reachable ta_codes ta_numbers tf_count ta_brackets tf_bracketCount tf_place tf_inWhere tf_compared wa_rows wf_count wf_looks ++ z) → va_S A H0 H1 locs1 → W p l e R s m args below meth c H1 locs1 cells slots Q (F0 m (pc + 3) ls rest)) : W p l e R s m args below meth c H locs cells slots Q (F0 m pc ls (va_rf r :: .ref (q 0) :: rest)) :=
  va_put (ty := .object "HeapQueries$Select") hx hb hts hin_xq hty_xq hty_xq_ok hnm_xq hown hK hP hD hS 0 rfl rfl 3 (by decide) (hts _ hw) (fun _ h9 => h9) rfl (by decide +kernel) (hq_nref r) (hq_fref r) (Nat.le_of_ble_eq_true rfl) hdg kk
end
theorem dxq_clear_0 : decode bxq_clear 0 = .ok (.aload_n 0, 1) := by decide +kernel
theorem dxq_clear_1 : decode bxq_clear 1 = .ok (.getfield 19, 3) := by decide +kernel
theorem dxq_clear_4 : decode bxq_clear 4 = .ok (.invokevirtual 104, 3) := by decide +kernel
theorem dxq_clear_7 : decode bxq_clear 7 = .ok (.aload_n 0, 1) := by decide +kernel
theorem dxq_clear_8 : decode bxq_clear 8 = .ok (.aconst_null, 1) := by decide +kernel
theorem dxq_clear_9 : decode bxq_clear 9 = .ok (.putfield 90, 3) := by decide +kernel
theorem dxq_clear_12 : decode bxq_clear 12 = .ok (.return_, 1) := by decide +kernel
section
variable {l : Launch} {D : va_G} {A : Nat → Prop} {z w : va_W} {q : Nat → Nat} {cI cZ cL : ClassId}
variable {hf_classCount hf_objectCount hf_roots hf_changed sf_objectCount sf_roots sf_reachable tf_count tf_bracketCount tf_place tf_inWhere tf_compared wf_count wf_looks n_code n_number s_isDistinct s_isRetained s_sourceClass s_withDescendants : Int32}
variable {ha_parents ha_classes ha_sizes sa_linkedFrom sa_linkCounts sa_retainedSets sa_retainedSizes sa_dominators sa_immediateDominators ta_codes ta_numbers ta_brackets : Nat → Int32}
variable {ha_fields wa_rows : Nat → Int64}
variable {xq_query n_left n_right s_row s_nested s_condition s_next : Option Nat}
variable {pa_n pk_n pa_s pk_s : Nat}
theorem cxq_clear : hq_Ct l yxq_clear bxq_clear 1 none { frames := 1, cells := 0, slots := 0, locals := 40 } D (hq_tys cI cZ cL) A [.ref (q 0)] (hx_w q cI cZ cL xq_query ha_parents hf_classCount ha_classes ha_sizes ha_fields hf_objectCount hf_roots hf_changed sa_linkedFrom sa_linkCounts sa_retainedSets sa_retainedSizes sa_dominators sa_immediateDominators sf_objectCount sf_roots sf_reachable ta_codes ta_numbers tf_count ta_brackets tf_bracketCount tf_place tf_inWhere tf_compared wa_rows wf_count wf_looks ++ z) (hx_w q cI cZ cL none ha_parents hf_classCount ha_classes ha_sizes ha_fields hf_objectCount hf_roots hf_changed sa_linkedFrom sa_linkCounts sa_retainedSets sa_retainedSizes sa_dominators sa_immediateDominators sf_objectCount sf_roots sf_reachable ta_codes ta_numbers 0 ta_brackets 0 0 tf_inWhere tf_compared wa_rows wf_count wf_looks ++ z) none 0 0 := by
  refine hq_of (by decide) ?_ (Nat.le_of_ble_eq_true rfl)
  intro p e s m below meth c R args Q hRm hQ hx hb hr hml hts hown hlocks hnm hP hK hD ls hl hS
  have hl : lv_has ls 1 [(0, .ref (q 0))] := hl
  have hown : s.vm.findClass "HeapQueries" = some m.cls := hown
  refine lv_aload_n hx hb dxq_clear_0 rfl (lv_at hl 0 rfl) ?_
  refine gx_0_text hx hb hts hown hK hP wi_52 dxq_clear_1 ?_
  refine kxt_forget (0, 0, 0) rfl hx hb hml hts hown hK hP hD hS wi_698 (by rw [hRm]; exact ⟨Nat.le_of_ble_eq_true rfl, Nat.le_of_ble_eq_true rfl⟩) hl.1 (Nat.le_of_ble_eq_true rfl) dxq_clear_4 ⟨Nat.zero_le _, Nat.zero_le _⟩ (fun H locs hP hD hS => ?_)
  refine lv_aload_n hx hb dxq_clear_7 rfl (lv_at hl 0 rfl) ?_
  refine hq_null hx hb dxq_clear_8 ?_
  refine px_0_query (r := none) hx hb hts hown hK hP hD hS wi_691 dxq_clear_9 (fun H locs hP hD hS => ?_)
  exact hq_vret hx hb hr hlocks hQ hK hP hD hS rfl rfl dxq_clear_12
end
