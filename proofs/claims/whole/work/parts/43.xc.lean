theorem dxt_placeInS_0 : decode bxt_placeInS 0 = .ok (.iload_n 1, 1) := by decide +kernel
theorem dxt_placeInS_1 : decode bxt_placeInS 1 = .ok (.tableswitch 47 6 12 #[45, 47, 47, 47, 43, 43, 43], 43) := by decide +kernel
theorem dxt_placeInS_44 : decode bxt_placeInS 44 = .ok (.iconst 5, 1) := by decide +kernel
theorem dxt_placeInS_45 : decode bxt_placeInS 45 = .ok (.ireturn, 1) := by decide +kernel
theorem dxt_placeInS_46 : decode bxt_placeInS 46 = .ok (.iconst 3, 1) := by decide +kernel
theorem dxt_placeInS_47 : decode bxt_placeInS 47 = .ok (.ireturn, 1) := by decide +kernel
theorem dxt_placeInS_48 : decode bxt_placeInS 48 = .ok (.iconst (-1), 1) := by decide +kernel
theorem dxt_placeInS_49 : decode bxt_placeInS 49 = .ok (.ireturn, 1) := by decide +kernel
section
variable {l : Launch} {D : va_G} {A : Nat → Prop} {z w : va_W} {q : Nat → Nat} {cI cZ cL : ClassId}
variable {hf_classCount hf_objectCount hf_roots hf_changed sf_objectCount sf_roots sf_reachable tf_count tf_bracketCount tf_place tf_inWhere tf_compared wf_count wf_looks n_code n_number s_isDistinct s_isRetained s_sourceClass s_withDescendants : Int32}
variable {ha_parents ha_classes ha_sizes sa_linkedFrom sa_linkCounts sa_retainedSets sa_retainedSizes sa_dominators sa_immediateDominators ta_codes ta_numbers ta_brackets : Nat → Int32}
variable {ha_fields wa_rows : Nat → Int64}
variable {xq_query n_left n_right s_row s_nested s_condition s_next : Option Nat}
variable {pa_n pk_n pa_s pk_s : Nat}
set_option maxHeartbeats 4000000 in
set_option maxRecDepth 100000 in
theorem cxt_placeInS (l1 : Int32) (ur : Int32) (h : sxt_placeInS l1 = ur) : hq_Ct l yxt_placeInS bxt_placeInS 2 (some .int) { frames := 0, cells := 0, slots := 0, locals := 0 } D (hq_tys cI cZ cL) A [.ref (q 3), .int l1] (hx_w q cI cZ cL xq_query ha_parents hf_classCount ha_classes ha_sizes ha_fields hf_objectCount hf_roots hf_changed sa_linkedFrom sa_linkCounts sa_retainedSets sa_retainedSizes sa_dominators sa_immediateDominators sf_objectCount sf_roots sf_reachable ta_codes ta_numbers tf_count ta_brackets tf_bracketCount tf_place tf_inWhere tf_compared wa_rows wf_count wf_looks ++ z) (hx_w q cI cZ cL xq_query ha_parents hf_classCount ha_classes ha_sizes ha_fields hf_objectCount hf_roots hf_changed sa_linkedFrom sa_linkCounts sa_retainedSets sa_retainedSizes sa_dominators sa_immediateDominators sf_objectCount sf_roots sf_reachable ta_codes ta_numbers tf_count ta_brackets tf_bracketCount tf_place tf_inWhere tf_compared wa_rows wf_count wf_looks ++ z) (some (.int ur)) 0 0 := by
  refine hq_of (by decide) ?_ (Nat.le_of_ble_eq_true rfl)
  intro p e s m below meth c R args Q hRm hQ hx hb hr hml hts hown hlocks hnm hP hK hD ls hl hS
  have hl : lv_has ls 2 [(0, .ref (q 3)), (1, .int l1)] := hl
  have hown : s.vm.findClass "HeapQueries$Text" = some m.cls := hown
  unfold sxt_placeInS at h
  refine lv_iload_n hx hb dxt_placeInS_0 rfl (lv_at hl 1 rfl) ?_
  by_cases hk0 : l1 = 6
  · have h := (if_pos hk0).symm.trans h
    refine lv_tableIn (off := 45) (tgt := 46) hx hb dxt_placeInS_1 (by rw [hk0]; decide) (by rw [hk0]; decide) (by rw [hk0]; rfl) (by decide) ?_
    refine lv_iconst (v := 3) hx hb dxt_placeInS_46 (by decide) ?_
    exact hq_iret hx hb hr hlocks hQ hK hP hD hS (by rw [← h]) rfl dxt_placeInS_47
  · have h := (if_neg hk0).symm.trans h
    by_cases hk1 : l1 = 7
    · have h := (if_pos hk1).symm.trans h
      refine lv_tableIn (off := 47) (tgt := 48) hx hb dxt_placeInS_1 (by rw [hk1]; decide) (by rw [hk1]; decide) (by rw [hk1]; rfl) (by decide) ?_
      refine lv_iconst (v := (-1)) hx hb dxt_placeInS_48 (by decide) ?_
      exact hq_iret hx hb hr hlocks hQ hK hP hD hS (by rw [← h]) rfl dxt_placeInS_49
    · have h := (if_neg hk1).symm.trans h
      by_cases hk2 : l1 = 8
      · have h := (if_pos hk2).symm.trans h
        refine lv_tableIn (off := 47) (tgt := 48) hx hb dxt_placeInS_1 (by rw [hk2]; decide) (by rw [hk2]; decide) (by rw [hk2]; rfl) (by decide) ?_
        refine lv_iconst (v := (-1)) hx hb dxt_placeInS_48 (by decide) ?_
        exact hq_iret hx hb hr hlocks hQ hK hP hD hS (by rw [← h]) rfl dxt_placeInS_49
      · have h := (if_neg hk2).symm.trans h
        by_cases hk3 : l1 = 9
        · have h := (if_pos hk3).symm.trans h
          refine lv_tableIn (off := 47) (tgt := 48) hx hb dxt_placeInS_1 (by rw [hk3]; decide) (by rw [hk3]; decide) (by rw [hk3]; rfl) (by decide) ?_
          refine lv_iconst (v := (-1)) hx hb dxt_placeInS_48 (by decide) ?_
          exact hq_iret hx hb hr hlocks hQ hK hP hD hS (by rw [← h]) rfl dxt_placeInS_49
        · have h := (if_neg hk3).symm.trans h
          by_cases hk4 : l1 = 10
          · have h := (if_pos hk4).symm.trans h
            refine lv_tableIn (off := 43) (tgt := 44) hx hb dxt_placeInS_1 (by rw [hk4]; decide) (by rw [hk4]; decide) (by rw [hk4]; rfl) (by decide) ?_
            refine lv_iconst (v := 5) hx hb dxt_placeInS_44 (by decide) ?_
            exact hq_iret hx hb hr hlocks hQ hK hP hD hS (by rw [← h]) rfl dxt_placeInS_45
          · have h := (if_neg hk4).symm.trans h
            by_cases hk5 : l1 = 11
            · have h := (if_pos hk5).symm.trans h
              refine lv_tableIn (off := 43) (tgt := 44) hx hb dxt_placeInS_1 (by rw [hk5]; decide) (by rw [hk5]; decide) (by rw [hk5]; rfl) (by decide) ?_
              refine lv_iconst (v := 5) hx hb dxt_placeInS_44 (by decide) ?_
              exact hq_iret hx hb hr hlocks hQ hK hP hD hS (by rw [← h]) rfl dxt_placeInS_45
            · have h := (if_neg hk5).symm.trans h
              by_cases hk6 : l1 = 12
              · have h := (if_pos hk6).symm.trans h
                refine lv_tableIn (off := 43) (tgt := 44) hx hb dxt_placeInS_1 (by rw [hk6]; decide) (by rw [hk6]; decide) (by rw [hk6]; rfl) (by decide) ?_
                refine lv_iconst (v := 5) hx hb dxt_placeInS_44 (by decide) ?_
                exact hq_iret hx hb hr hlocks hQ hK hP hD hS (by rw [← h]) rfl dxt_placeInS_45
              · have h := (if_neg hk6).symm.trans h
                refine lv_tableOut (tgt := 48) hx hb dxt_placeInS_1 (by have a0 := lv_neT (a := 6) hk0 (by decide); have a1 := lv_neT (a := 7) hk1 (by decide); have a2 := lv_neT (a := 8) hk2 (by decide); have a3 := lv_neT (a := 9) hk3 (by decide); have a4 := lv_neT (a := 10) hk4 (by decide); have a5 := lv_neT (a := 11) hk5 (by decide); have a6 := lv_neT (a := 12) hk6 (by decide); omega) (by decide) ?_
                refine lv_iconst (v := (-1)) hx hb dxt_placeInS_48 (by decide) ?_
                exact hq_iret hx hb hr hlocks hQ hK hP hD hS (by rw [← h]) rfl dxt_placeInS_49
end
section
variable {p : Program} {l : Launch} {e : Env} {R : Room} {s : State} {m : MethodId} {args : Array Value} {below : List Frame} {meth : Method} {c : Code} {H H0 : Heap} {locs : List Loc} {cells slots : Nat} {Q : State → Prop}
variable {cc : ByteArray} {pc idx nC : Nat} {ls : Array Slot} {rest : List Value} {D : va_G} {A : Nat → Prop} {own : String} {q : Nat → Nat} {cI cZ cL : ClassId} {z w : va_W}
variable {hf_classCount hf_objectCount hf_roots hf_changed sf_objectCount sf_roots sf_reachable tf_count tf_bracketCount tf_place tf_inWhere tf_compared wf_count wf_looks n_code n_number s_isDistinct s_isRetained s_sourceClass s_withDescendants : Int32}
variable {ha_parents ha_classes ha_sizes sa_linkedFrom sa_linkCounts sa_retainedSets sa_retainedSizes sa_dominators sa_immediateDominators ta_codes ta_numbers ta_brackets : Nat → Int32}
variable {ha_fields wa_rows : Nat → Int64}
variable {xq_query n_left n_right s_row s_nested s_condition s_next : Option Nat}
variable {pa_n pk_n pa_s pk_s : Nat}
theorem kxt_placeInS (l1 : Int32) (ur : Int32) (hu : sxt_placeInS l1 = ur) (hx : p.tables.exec = Jvm.exec) (hb : c.code = cc) (hml : c.maxLocals = nC) (hts : ∀ x ∈ hq_tbl, x.before args s = true) (hown : s.vm.findClass own = some m.cls) (hK : va_K D hq_cl (hq_tys cI cZ cL) s) (hP : va_P D hq_cl (hx_w q cI cZ cL xq_query ha_parents hf_classCount ha_classes ha_sizes ha_fields hf_objectCount hf_roots hf_changed sa_linkedFrom sa_linkCounts sa_retainedSets sa_retainedSizes sa_dominators sa_immediateDominators sf_objectCount sf_roots sf_reachable ta_codes ta_numbers tf_count ta_brackets tf_bracketCount tf_place tf_inWhere tf_compared wa_rows wf_count wf_looks ++ z) H) (hD : va_D A (hx_w q cI cZ cL xq_query ha_parents hf_classCount ha_classes ha_sizes ha_fields hf_objectCount hf_roots hf_changed sa_linkedFrom sa_linkCounts sa_retainedSets sa_retainedSizes sa_dominators sa_immediateDominators sf_objectCount sf_roots sf_reachable ta_codes ta_numbers tf_count ta_brackets tf_bracketCount tf_place tf_inWhere tf_compared wa_rows wf_count wf_looks ++ z)) (hS : va_S A H0 H locs) (h1 : Cond.methodLink own idx yxt_placeInS ∈ hq_tbl) (hR : 0 + 1 ≤ R.frames ∧ 8 + (2 + 11) + 0 ≤ R.locals) (hls : ls.size = nC) (hW : (rest.map fun v => v.category).sum ≤ 8) (hdg : decode cc pc = .ok (.invokevirtual idx, 3)) (hf : cells + 0 ≤ R.cells ∧ slots + 0 ≤ R.slots) (kk : ∀ (H1 : Heap) (locs1 : List Loc), va_P D hq_cl (hx_w q cI cZ cL xq_query ha_parents hf_classCount ha_classes ha_sizes ha_fields hf_objectCount hf_roots hf_changed sa_linkedFrom sa_linkCounts sa_retainedSets sa_retainedSizes sa_dominators sa_immediateDominators sf_objectCount sf_roots sf_reachable ta_codes ta_numbers tf_count ta_brackets tf_bracketCount tf_place tf_inWhere tf_compared wa_rows wf_count wf_looks ++ z) H1 → va_D A (hx_w q cI cZ cL xq_query ha_parents hf_classCount ha_classes ha_sizes ha_fields hf_objectCount hf_roots hf_changed sa_linkedFrom sa_linkCounts sa_retainedSets sa_retainedSizes sa_dominators sa_immediateDominators sf_objectCount sf_roots sf_reachable ta_codes ta_numbers tf_count ta_brackets tf_bracketCount tf_place tf_inWhere tf_compared wa_rows wf_count wf_looks ++ z) → va_S A H0 H1 locs1 → W p l e R s m args below meth c H1 locs1 cells slots Q (F0 m (pc + 3) ls (.int ur :: rest))) : W p l e R s m args below meth c H locs cells slots Q (F0 m pc ls (.int l1 :: .ref (q 3) :: rest)) :=
  hq_callV (q0 := 3) hx hb hml hown hts hK hP hD hS (cxt_placeInS l1 ur hu) rfl rfl h1 wi_523 wi_524 wi_298 wi_525 1 rfl (by decide +kernel) ⟨rfl, rfl⟩ hR hls rfl hW hdg hf kk
end
theorem dxt_placeAfterDistinct_0 : decode bxt_placeAfterDistinct 0 = .ok (.iload_n 1, 1) := by decide +kernel
theorem dxt_placeAfterDistinct_1 : decode bxt_placeAfterDistinct 1 = .ok (.iconst 2, 1) := by decide +kernel
theorem dxt_placeAfterDistinct_2 : decode bxt_placeAfterDistinct 2 = .ok (.if_icmp .eq 9, 3) := by decide +kernel
theorem dxt_placeAfterDistinct_5 : decode bxt_placeAfterDistinct 5 = .ok (.iload_n 1, 1) := by decide +kernel
theorem dxt_placeAfterDistinct_6 : decode bxt_placeAfterDistinct 6 = .ok (.bipush 17, 2) := by decide +kernel
theorem dxt_placeAfterDistinct_8 : decode bxt_placeAfterDistinct 8 = .ok (.if_icmp .ne 7, 3) := by decide +kernel
theorem dxt_placeAfterDistinct_11 : decode bxt_placeAfterDistinct 11 = .ok (.iconst 3, 1) := by decide +kernel
theorem dxt_placeAfterDistinct_12 : decode bxt_placeAfterDistinct 12 = .ok (.goto 8, 3) := by decide +kernel
theorem dxt_placeAfterDistinct_15 : decode bxt_placeAfterDistinct 15 = .ok (.aload_n 0, 1) := by decide +kernel
theorem dxt_placeAfterDistinct_16 : decode bxt_placeAfterDistinct 16 = .ok (.iload_n 1, 1) := by decide +kernel
theorem dxt_placeAfterDistinct_17 : decode bxt_placeAfterDistinct 17 = .ok (.invokevirtual 42, 3) := by decide +kernel
theorem dxt_placeAfterDistinct_20 : decode bxt_placeAfterDistinct 20 = .ok (.ireturn, 1) := by decide +kernel
section
variable {l : Launch} {D : va_G} {A : Nat → Prop} {z w : va_W} {q : Nat → Nat} {cI cZ cL : ClassId}
variable {hf_classCount hf_objectCount hf_roots hf_changed sf_objectCount sf_roots sf_reachable tf_count tf_bracketCount tf_place tf_inWhere tf_compared wf_count wf_looks n_code n_number s_isDistinct s_isRetained s_sourceClass s_withDescendants : Int32}
variable {ha_parents ha_classes ha_sizes sa_linkedFrom sa_linkCounts sa_retainedSets sa_retainedSizes sa_dominators sa_immediateDominators ta_codes ta_numbers ta_brackets : Nat → Int32}
variable {ha_fields wa_rows : Nat → Int64}
variable {xq_query n_left n_right s_row s_nested s_condition s_next : Option Nat}
variable {pa_n pk_n pa_s pk_s : Nat}
set_option maxHeartbeats 4000000 in
set_option maxRecDepth 100000 in
theorem cxt_placeAfterDistinct (l1 : Int32) (ur : Int32) (h : sxt_placeAfterDistinct l1 = ur) : hq_Ct l yxt_placeAfterDistinct bxt_placeAfterDistinct 2 (some .int) { frames := 1, cells := 0, slots := 0, locals := 21 } D (hq_tys cI cZ cL) A [.ref (q 3), .int l1] (hx_w q cI cZ cL xq_query ha_parents hf_classCount ha_classes ha_sizes ha_fields hf_objectCount hf_roots hf_changed sa_linkedFrom sa_linkCounts sa_retainedSets sa_retainedSizes sa_dominators sa_immediateDominators sf_objectCount sf_roots sf_reachable ta_codes ta_numbers tf_count ta_brackets tf_bracketCount tf_place tf_inWhere tf_compared wa_rows wf_count wf_looks ++ z) (hx_w q cI cZ cL xq_query ha_parents hf_classCount ha_classes ha_sizes ha_fields hf_objectCount hf_roots hf_changed sa_linkedFrom sa_linkCounts sa_retainedSets sa_retainedSizes sa_dominators sa_immediateDominators sf_objectCount sf_roots sf_reachable ta_codes ta_numbers tf_count ta_brackets tf_bracketCount tf_place tf_inWhere tf_compared wa_rows wf_count wf_looks ++ z) (some (.int ur)) 0 0 := by
  refine hq_of (by decide) ?_ (Nat.le_of_ble_eq_true rfl)
  intro p e s m below meth c R args Q hRm hQ hx hb hr hml hts hown hlocks hnm hP hK hD ls hl hS
  have hl : lv_has ls 2 [(0, .ref (q 3)), (1, .int l1)] := hl
  have hown : s.vm.findClass "HeapQueries$Text" = some m.cls := hown
  unfold sxt_placeAfterDistinct at h
  refine lv_iload_n hx hb dxt_placeAfterDistinct_0 rfl (lv_at hl 1 rfl) ?_
  refine lv_iconst (v := 2) hx hb dxt_placeAfterDistinct_1 (by decide) ?_
  refine lv_icmp_eq (tgt := 11) hx hb dxt_placeAfterDistinct_2 (by decide) (fun hc => ?_) (fun hc => ?_)
  · have h := (if_pos hc).symm.trans h
    refine lv_iconst (v := 3) hx hb dxt_placeAfterDistinct_11 (by decide) ?_
    refine lv_goto (tgt := 20) hx hb dxt_placeAfterDistinct_12 (by decide) ?_
    exact hq_iret hx hb hr hlocks hQ hK hP hD hS (by rw [← h]) rfl dxt_placeAfterDistinct_20
  · have h := (if_neg hc).symm.trans h
    refine lv_iload_n hx hb dxt_placeAfterDistinct_5 rfl (lv_at hl 1 rfl) ?_
    refine lv_bipush (v := 17) hx hb dxt_placeAfterDistinct_6 (by decide) ?_
    refine lv_icmp_ne (tgt := 15) hx hb dxt_placeAfterDistinct_8 (by decide) (fun hc => ?_) (fun hc => ?_)
    · have h := (if_neg hc).symm.trans h
      refine lv_aload_n hx hb dxt_placeAfterDistinct_15 rfl (lv_at hl 0 rfl) ?_
      refine lv_iload_n hx hb dxt_placeAfterDistinct_16 rfl (lv_at hl 1 rfl) ?_
      refine kxt_placeInS l1 (sxt_placeInS l1) rfl hx hb hml hts hown hK hP hD hS wi_171 (by rw [hRm]; exact ⟨Nat.le_of_ble_eq_true rfl, Nat.le_of_ble_eq_true rfl⟩) hl.1 (Nat.le_of_ble_eq_true rfl) dxt_placeAfterDistinct_17 ⟨Nat.zero_le _, Nat.zero_le _⟩ (fun H locs hP hD hS => ?_)
      exact hq_iret hx hb hr hlocks hQ hK hP hD hS (by rw [← h]) rfl dxt_placeAfterDistinct_20
    · have h := (if_pos hc).symm.trans h
      refine lv_iconst (v := 3) hx hb dxt_placeAfterDistinct_11 (by decide) ?_
      refine lv_goto (tgt := 20) hx hb dxt_placeAfterDistinct_12 (by decide) ?_
      exact hq_iret hx hb hr hlocks hQ hK hP hD hS (by rw [← h]) rfl dxt_placeAfterDistinct_20
end
section
variable {p : Program} {l : Launch} {e : Env} {R : Room} {s : State} {m : MethodId} {args : Array Value} {below : List Frame} {meth : Method} {c : Code} {H H0 : Heap} {locs : List Loc} {cells slots : Nat} {Q : State → Prop}
variable {cc : ByteArray} {pc idx nC : Nat} {ls : Array Slot} {rest : List Value} {D : va_G} {A : Nat → Prop} {own : String} {q : Nat → Nat} {cI cZ cL : ClassId} {z w : va_W}
variable {hf_classCount hf_objectCount hf_roots hf_changed sf_objectCount sf_roots sf_reachable tf_count tf_bracketCount tf_place tf_inWhere tf_compared wf_count wf_looks n_code n_number s_isDistinct s_isRetained s_sourceClass s_withDescendants : Int32}
variable {ha_parents ha_classes ha_sizes sa_linkedFrom sa_linkCounts sa_retainedSets sa_retainedSizes sa_dominators sa_immediateDominators ta_codes ta_numbers ta_brackets : Nat → Int32}
variable {ha_fields wa_rows : Nat → Int64}
variable {xq_query n_left n_right s_row s_nested s_condition s_next : Option Nat}
variable {pa_n pk_n pa_s pk_s : Nat}
theorem kxt_placeAfterDistinct (l1 : Int32) (ur : Int32) (hu : sxt_placeAfterDistinct l1 = ur) (hx : p.tables.exec = Jvm.exec) (hb : c.code = cc) (hml : c.maxLocals = nC) (hts : ∀ x ∈ hq_tbl, x.before args s = true) (hown : s.vm.findClass own = some m.cls) (hK : va_K D hq_cl (hq_tys cI cZ cL) s) (hP : va_P D hq_cl (hx_w q cI cZ cL xq_query ha_parents hf_classCount ha_classes ha_sizes ha_fields hf_objectCount hf_roots hf_changed sa_linkedFrom sa_linkCounts sa_retainedSets sa_retainedSizes sa_dominators sa_immediateDominators sf_objectCount sf_roots sf_reachable ta_codes ta_numbers tf_count ta_brackets tf_bracketCount tf_place tf_inWhere tf_compared wa_rows wf_count wf_looks ++ z) H) (hD : va_D A (hx_w q cI cZ cL xq_query ha_parents hf_classCount ha_classes ha_sizes ha_fields hf_objectCount hf_roots hf_changed sa_linkedFrom sa_linkCounts sa_retainedSets sa_retainedSizes sa_dominators sa_immediateDominators sf_objectCount sf_roots sf_reachable ta_codes ta_numbers tf_count ta_brackets tf_bracketCount tf_place tf_inWhere tf_compared wa_rows wf_count wf_looks ++ z)) (hS : va_S A H0 H locs) (h1 : Cond.methodLink own idx yxt_placeAfterDistinct ∈ hq_tbl) (hR : 1 + 1 ≤ R.frames ∧ 8 + (2 + 11) + 21 ≤ R.locals) (hls : ls.size = nC) (hW : (rest.map fun v => v.category).sum ≤ 8) (hdg : decode cc pc = .ok (.invokevirtual idx, 3)) (hf : cells + 0 ≤ R.cells ∧ slots + 0 ≤ R.slots) (kk : ∀ (H1 : Heap) (locs1 : List Loc), va_P D hq_cl (hx_w q cI cZ cL xq_query ha_parents hf_classCount ha_classes ha_sizes ha_fields hf_objectCount hf_roots hf_changed sa_linkedFrom sa_linkCounts sa_retainedSets sa_retainedSizes sa_dominators sa_immediateDominators sf_objectCount sf_roots sf_reachable ta_codes ta_numbers tf_count ta_brackets tf_bracketCount tf_place tf_inWhere tf_compared wa_rows wf_count wf_looks ++ z) H1 → va_D A (hx_w q cI cZ cL xq_query ha_parents hf_classCount ha_classes ha_sizes ha_fields hf_objectCount hf_roots hf_changed sa_linkedFrom sa_linkCounts sa_retainedSets sa_retainedSizes sa_dominators sa_immediateDominators sf_objectCount sf_roots sf_reachable ta_codes ta_numbers tf_count ta_brackets tf_bracketCount tf_place tf_inWhere tf_compared wa_rows wf_count wf_looks ++ z) → va_S A H0 H1 locs1 → W p l e R s m args below meth c H1 locs1 cells slots Q (F0 m (pc + 3) ls (.int ur :: rest))) : W p l e R s m args below meth c H locs cells slots Q (F0 m pc ls (.int l1 :: .ref (q 3) :: rest)) :=
  hq_callV (q0 := 3) hx hb hml hown hts hK hP hD hS (cxt_placeAfterDistinct l1 ur hu) rfl rfl h1 wi_526 wi_527 wi_298 wi_528 1 rfl (by decide +kernel) ⟨rfl, rfl⟩ hR hls rfl hW hdg hf kk
end
theorem dxt_isInsideE_0 : decode bxt_isInsideE 0 = .ok (.aload_n 0, 1) := by decide +kernel
theorem dxt_isInsideE_1 : decode bxt_isInsideE 1 = .ok (.getfield 28, 3) := by decide +kernel
theorem dxt_isInsideE_4 : decode bxt_isInsideE 4 = .ok (.ifCond .le 21, 3) := by decide +kernel
theorem dxt_isInsideE_7 : decode bxt_isInsideE 7 = .ok (.aload_n 0, 1) := by decide +kernel
theorem dxt_isInsideE_8 : decode bxt_isInsideE 8 = .ok (.getfield 18, 3) := by decide +kernel
theorem dxt_isInsideE_11 : decode bxt_isInsideE 11 = .ok (.aload_n 0, 1) := by decide +kernel
theorem dxt_isInsideE_12 : decode bxt_isInsideE 12 = .ok (.getfield 28, 3) := by decide +kernel
theorem dxt_isInsideE_15 : decode bxt_isInsideE 15 = .ok (.iconst 1, 1) := by decide +kernel
theorem dxt_isInsideE_16 : decode bxt_isInsideE 16 = .ok (.isub, 1) := by decide +kernel
theorem dxt_isInsideE_17 : decode bxt_isInsideE 17 = .ok (.iaload, 1) := by decide +kernel
theorem dxt_isInsideE_18 : decode bxt_isInsideE 18 = .ok (.ifCond .eq 7, 3) := by decide +kernel
theorem dxt_isInsideE_21 : decode bxt_isInsideE 21 = .ok (.iconst 1, 1) := by decide +kernel
theorem dxt_isInsideE_22 : decode bxt_isInsideE 22 = .ok (.goto 4, 3) := by decide +kernel
theorem dxt_isInsideE_25 : decode bxt_isInsideE 25 = .ok (.iconst 0, 1) := by decide +kernel
theorem dxt_isInsideE_26 : decode bxt_isInsideE 26 = .ok (.ireturn, 1) := by decide +kernel
section
variable {l : Launch} {D : va_G} {A : Nat → Prop} {z w : va_W} {q : Nat → Nat} {cI cZ cL : ClassId}
variable {hf_classCount hf_objectCount hf_roots hf_changed sf_objectCount sf_roots sf_reachable tf_count tf_bracketCount tf_place tf_inWhere tf_compared wf_count wf_looks n_code n_number s_isDistinct s_isRetained s_sourceClass s_withDescendants : Int32}
variable {ha_parents ha_classes ha_sizes sa_linkedFrom sa_linkCounts sa_retainedSets sa_retainedSizes sa_dominators sa_immediateDominators ta_codes ta_numbers ta_brackets : Nat → Int32}
variable {ha_fields wa_rows : Nat → Int64}
variable {xq_query n_left n_right s_row s_nested s_condition s_next : Option Nat}
variable {pa_n pk_n pa_s pk_s : Nat}
set_option maxHeartbeats 4000000 in
set_option maxRecDepth 100000 in
theorem cxt_isInsideE  (ur : Int32) (h : sxt_isInsideE ta_brackets tf_bracketCount = some ur) : hq_Ct l yxt_isInsideE bxt_isInsideE 1 (some .boolean) { frames := 0, cells := 0, slots := 0, locals := 0 } D (hq_tys cI cZ cL) A [.ref (q 3)] (hx_w q cI cZ cL xq_query ha_parents hf_classCount ha_classes ha_sizes ha_fields hf_objectCount hf_roots hf_changed sa_linkedFrom sa_linkCounts sa_retainedSets sa_retainedSizes sa_dominators sa_immediateDominators sf_objectCount sf_roots sf_reachable ta_codes ta_numbers tf_count ta_brackets tf_bracketCount tf_place tf_inWhere tf_compared wa_rows wf_count wf_looks ++ z) (hx_w q cI cZ cL xq_query ha_parents hf_classCount ha_classes ha_sizes ha_fields hf_objectCount hf_roots hf_changed sa_linkedFrom sa_linkCounts sa_retainedSets sa_retainedSizes sa_dominators sa_immediateDominators sf_objectCount sf_roots sf_reachable ta_codes ta_numbers tf_count ta_brackets tf_bracketCount tf_place tf_inWhere tf_compared wa_rows wf_count wf_looks ++ z) (some (.int ur)) 0 0 := by
  refine hq_of (by decide) ?_ (Nat.le_of_ble_eq_true rfl)
  intro p e s m below meth c R args Q hRm hQ hx hb hr hml hts hown hlocks hnm hP hK hD ls hl hS
  have hl : lv_has ls 1 [(0, .ref (q 3))] := hl
  have hown : s.vm.findClass "HeapQueries$Text" = some m.cls := hown
  unfold sxt_isInsideE at h
  refine lv_aload_n hx hb dxt_isInsideE_0 rfl (lv_at hl 0 rfl) ?_
  refine gx_3_bracketCount hx hb hts hown hK hP wi_54 dxt_isInsideE_1 ?_
  refine lv_if_le (tgt := 25) hx hb dxt_isInsideE_4 (by decide) (fun hc => ?_) (fun hc => ?_)
  · have h := (if_pos hc).symm.trans h
    refine lv_iconst (v := 0) hx hb dxt_isInsideE_25 (by decide) ?_
    have h := Option.some.inj h
    exact hq_zret hx hb hr hlocks hQ hK hP hD hS (by decide) (by rw [← h]) rfl dxt_isInsideE_26
  · have h := (if_neg hc).symm.trans h
    refine lv_aload_n hx hb dxt_isInsideE_7 rfl (lv_at hl 0 rfl) ?_
    refine gx_3_brackets hx hb hts hown hK hP wi_172 dxt_isInsideE_8 ?_
    refine lv_aload_n hx hb dxt_isInsideE_11 rfl (lv_at hl 0 rfl) ?_
    refine gx_3_bracketCount hx hb hts hown hK hP wi_54 dxt_isInsideE_12 ?_
    refine lv_iconst (v := 1) hx hb dxt_isInsideE_15 (by decide) ?_
    refine lv_isub hx hb dxt_isInsideE_16 ?_
    obtain ⟨hin, h⟩ := hq_idx h
    refine ax_17 hx hb hK hP hin dxt_isInsideE_17 ?_
    refine lv_if_eq (tgt := 25) hx hb dxt_isInsideE_18 (by decide) (fun hc => ?_) (fun hc => ?_)
    · have h := (if_pos hc).symm.trans h
      refine lv_iconst (v := 0) hx hb dxt_isInsideE_25 (by decide) ?_
      have h := Option.some.inj h
      exact hq_zret hx hb hr hlocks hQ hK hP hD hS (by decide) (by rw [← h]) rfl dxt_isInsideE_26
    · have h := (if_neg hc).symm.trans h
      refine lv_iconst (v := 1) hx hb dxt_isInsideE_21 (by decide) ?_
      refine lv_goto (tgt := 26) hx hb dxt_isInsideE_22 (by decide) ?_
      have h := Option.some.inj h
      exact hq_zret hx hb hr hlocks hQ hK hP hD hS (by decide) (by rw [← h]) rfl dxt_isInsideE_26
end
section
variable {p : Program} {l : Launch} {e : Env} {R : Room} {s : State} {m : MethodId} {args : Array Value} {below : List Frame} {meth : Method} {c : Code} {H H0 : Heap} {locs : List Loc} {cells slots : Nat} {Q : State → Prop}
variable {cc : ByteArray} {pc idx nC : Nat} {ls : Array Slot} {rest : List Value} {D : va_G} {A : Nat → Prop} {own : String} {q : Nat → Nat} {cI cZ cL : ClassId} {z w : va_W}
variable {hf_classCount hf_objectCount hf_roots hf_changed sf_objectCount sf_roots sf_reachable tf_count tf_bracketCount tf_place tf_inWhere tf_compared wf_count wf_looks n_code n_number s_isDistinct s_isRetained s_sourceClass s_withDescendants : Int32}
variable {ha_parents ha_classes ha_sizes sa_linkedFrom sa_linkCounts sa_retainedSets sa_retainedSizes sa_dominators sa_immediateDominators ta_codes ta_numbers ta_brackets : Nat → Int32}
variable {ha_fields wa_rows : Nat → Int64}
variable {xq_query n_left n_right s_row s_nested s_condition s_next : Option Nat}
variable {pa_n pk_n pa_s pk_s : Nat}
theorem kxt_isInsideE  (ur : Int32) (hu : sxt_isInsideE ta_brackets tf_bracketCount = some ur) (hx : p.tables.exec = Jvm.exec) (hb : c.code = cc) (hml : c.maxLocals = nC) (hts : ∀ x ∈ hq_tbl, x.before args s = true) (hown : s.vm.findClass own = some m.cls) (hK : va_K D hq_cl (hq_tys cI cZ cL) s) (hP : va_P D hq_cl (hx_w q cI cZ cL xq_query ha_parents hf_classCount ha_classes ha_sizes ha_fields hf_objectCount hf_roots hf_changed sa_linkedFrom sa_linkCounts sa_retainedSets sa_retainedSizes sa_dominators sa_immediateDominators sf_objectCount sf_roots sf_reachable ta_codes ta_numbers tf_count ta_brackets tf_bracketCount tf_place tf_inWhere tf_compared wa_rows wf_count wf_looks ++ z) H) (hD : va_D A (hx_w q cI cZ cL xq_query ha_parents hf_classCount ha_classes ha_sizes ha_fields hf_objectCount hf_roots hf_changed sa_linkedFrom sa_linkCounts sa_retainedSets sa_retainedSizes sa_dominators sa_immediateDominators sf_objectCount sf_roots sf_reachable ta_codes ta_numbers tf_count ta_brackets tf_bracketCount tf_place tf_inWhere tf_compared wa_rows wf_count wf_looks ++ z)) (hS : va_S A H0 H locs) (h1 : Cond.methodLink own idx yxt_isInsideE ∈ hq_tbl) (hR : 0 + 1 ≤ R.frames ∧ 8 + (1 + 11) + 0 ≤ R.locals) (hls : ls.size = nC) (hW : (rest.map fun v => v.category).sum ≤ 8) (hdg : decode cc pc = .ok (.invokevirtual idx, 3)) (hf : cells + 0 ≤ R.cells ∧ slots + 0 ≤ R.slots) (kk : ∀ (H1 : Heap) (locs1 : List Loc), va_P D hq_cl (hx_w q cI cZ cL xq_query ha_parents hf_classCount ha_classes ha_sizes ha_fields hf_objectCount hf_roots hf_changed sa_linkedFrom sa_linkCounts sa_retainedSets sa_retainedSizes sa_dominators sa_immediateDominators sf_objectCount sf_roots sf_reachable ta_codes ta_numbers tf_count ta_brackets tf_bracketCount tf_place tf_inWhere tf_compared wa_rows wf_count wf_looks ++ z) H1 → va_D A (hx_w q cI cZ cL xq_query ha_parents hf_classCount ha_classes ha_sizes ha_fields hf_objectCount hf_roots hf_changed sa_linkedFrom sa_linkCounts sa_retainedSets sa_retainedSizes sa_dominators sa_immediateDominators sf_objectCount sf_roots sf_reachable ta_codes ta_numbers tf_count ta_brackets tf_bracketCount tf_place tf_inWhere tf_compared wa_rows wf_count wf_looks ++ z) → va_S A H0 H1 locs1 → W p l e R s m args below meth c H1 locs1 cells slots Q (F0 m (pc + 3) ls (.int ur :: rest))) : W p l e R s m args below meth c H locs cells slots Q (F0 m pc ls (.ref (q 3) :: rest)) :=
  hq_callV (q0 := 3) hx hb hml hown hts hK hP hD hS (cxt_isInsideE  ur hu) rfl rfl h1 wi_529 wi_530 wi_298 wi_531 0 rfl (by decide +kernel) ⟨rfl, rfl⟩ hR hls rfl hW hdg hf kk
end
theorem dxt_placeAfterWholeSelect_0 : decode bxt_placeAfterWholeSelect 0 = .ok (.iload_n 1, 1) := by decide +kernel
theorem dxt_placeAfterWholeSelect_1 : decode bxt_placeAfterWholeSelect 1 = .ok (.lookupswitch 65 #[(5, 35), (7, 37), (24, 51)], 35) := by decide +kernel
theorem dxt_placeAfterWholeSelect_36 : decode bxt_placeAfterWholeSelect 36 = .ok (.iconst 0, 1) := by decide +kernel
theorem dxt_placeAfterWholeSelect_37 : decode bxt_placeAfterWholeSelect 37 = .ok (.ireturn, 1) := by decide +kernel
theorem dxt_placeAfterWholeSelect_38 : decode bxt_placeAfterWholeSelect 38 = .ok (.aload_n 0, 1) := by decide +kernel
theorem dxt_placeAfterWholeSelect_39 : decode bxt_placeAfterWholeSelect 39 = .ok (.getfield 28, 3) := by decide +kernel
theorem dxt_placeAfterWholeSelect_42 : decode bxt_placeAfterWholeSelect 42 = .ok (.ifCond .le 8, 3) := by decide +kernel
theorem dxt_placeAfterWholeSelect_45 : decode bxt_placeAfterWholeSelect 45 = .ok (.bipush 7, 2) := by decide +kernel
theorem dxt_placeAfterWholeSelect_47 : decode bxt_placeAfterWholeSelect 47 = .ok (.goto 4, 3) := by decide +kernel
theorem dxt_placeAfterWholeSelect_50 : decode bxt_placeAfterWholeSelect 50 = .ok (.iconst (-1), 1) := by decide +kernel
theorem dxt_placeAfterWholeSelect_51 : decode bxt_placeAfterWholeSelect 51 = .ok (.ireturn, 1) := by decide +kernel
theorem dxt_placeAfterWholeSelect_52 : decode bxt_placeAfterWholeSelect 52 = .ok (.aload_n 0, 1) := by decide +kernel
theorem dxt_placeAfterWholeSelect_53 : decode bxt_placeAfterWholeSelect 53 = .ok (.getfield 28, 3) := by decide +kernel
theorem dxt_placeAfterWholeSelect_56 : decode bxt_placeAfterWholeSelect 56 = .ok (.ifCond .ne 8, 3) := by decide +kernel
theorem dxt_placeAfterWholeSelect_59 : decode bxt_placeAfterWholeSelect 59 = .ok (.bipush 8, 2) := by decide +kernel
theorem dxt_placeAfterWholeSelect_61 : decode bxt_placeAfterWholeSelect 61 = .ok (.goto 4, 3) := by decide +kernel
theorem dxt_placeAfterWholeSelect_64 : decode bxt_placeAfterWholeSelect 64 = .ok (.iconst (-1), 1) := by decide +kernel
theorem dxt_placeAfterWholeSelect_65 : decode bxt_placeAfterWholeSelect 65 = .ok (.ireturn, 1) := by decide +kernel
theorem dxt_placeAfterWholeSelect_66 : decode bxt_placeAfterWholeSelect 66 = .ok (.iconst (-1), 1) := by decide +kernel
theorem dxt_placeAfterWholeSelect_67 : decode bxt_placeAfterWholeSelect 67 = .ok (.ireturn, 1) := by decide +kernel
section
variable {l : Launch} {D : va_G} {A : Nat → Prop} {z w : va_W} {q : Nat → Nat} {cI cZ cL : ClassId}
variable {hf_classCount hf_objectCount hf_roots hf_changed sf_objectCount sf_roots sf_reachable tf_count tf_bracketCount tf_place tf_inWhere tf_compared wf_count wf_looks n_code n_number s_isDistinct s_isRetained s_sourceClass s_withDescendants : Int32}
variable {ha_parents ha_classes ha_sizes sa_linkedFrom sa_linkCounts sa_retainedSets sa_retainedSizes sa_dominators sa_immediateDominators ta_codes ta_numbers ta_brackets : Nat → Int32}
variable {ha_fields wa_rows : Nat → Int64}
variable {xq_query n_left n_right s_row s_nested s_condition s_next : Option Nat}
variable {pa_n pk_n pa_s pk_s : Nat}
set_option maxHeartbeats 4000000 in
set_option maxRecDepth 100000 in
theorem cxt_placeAfterWholeSelect (l1 : Int32) (ur : Int32) (h : sxt_placeAfterWholeSelect l1 tf_bracketCount = ur) : hq_Ct l yxt_placeAfterWholeSelect bxt_placeAfterWholeSelect 2 (some .int) { frames := 0, cells := 0, slots := 0, locals := 0 } D (hq_tys cI cZ cL) A [.ref (q 3), .int l1] (hx_w q cI cZ cL xq_query ha_parents hf_classCount ha_classes ha_sizes ha_fields hf_objectCount hf_roots hf_changed sa_linkedFrom sa_linkCounts sa_retainedSets sa_retainedSizes sa_dominators sa_immediateDominators sf_objectCount sf_roots sf_reachable ta_codes ta_numbers tf_count ta_brackets tf_bracketCount tf_place tf_inWhere tf_compared wa_rows wf_count wf_looks ++ z) (hx_w q cI cZ cL xq_query ha_parents hf_classCount ha_classes ha_sizes ha_fields hf_objectCount hf_roots hf_changed sa_linkedFrom sa_linkCounts sa_retainedSets sa_retainedSizes sa_dominators sa_immediateDominators sf_objectCount sf_roots sf_reachable ta_codes ta_numbers tf_count ta_brackets tf_bracketCount tf_place tf_inWhere tf_compared wa_rows wf_count wf_looks ++ z) (some (.int ur)) 0 0 := by
  refine hq_of (by decide) ?_ (Nat.le_of_ble_eq_true rfl)
  intro p e s m below meth c R args Q hRm hQ hx hb hr hml hts hown hlocks hnm hP hK hD ls hl hS
  have hl : lv_has ls 2 [(0, .ref (q 3)), (1, .int l1)] := hl
  have hown : s.vm.findClass "HeapQueries$Text" = some m.cls := hown
  unfold sxt_placeAfterWholeSelect at h
  refine lv_iload_n hx hb dxt_placeAfterWholeSelect_0 rfl (lv_at hl 1 rfl) ?_
  by_cases hk0 : l1 = 5
  · have h := (if_pos hk0).symm.trans h
    refine lv_lookup (off := 35) (tgt := 36) hx hb dxt_placeAfterWholeSelect_1 (by decide) (by rw [hk0]; decide) (by decide) ?_
    refine lv_iconst (v := 0) hx hb dxt_placeAfterWholeSelect_36 (by decide) ?_
    exact hq_iret hx hb hr hlocks hQ hK hP hD hS (by rw [← h]) rfl dxt_placeAfterWholeSelect_37
  · have h := (if_neg hk0).symm.trans h
    by_cases hk1 : l1 = 7
    · have h := (if_pos hk1).symm.trans h
      refine lv_lookup (off := 37) (tgt := 38) hx hb dxt_placeAfterWholeSelect_1 (by decide) (by rw [hk1]; decide) (by decide) ?_
      refine lv_aload_n hx hb dxt_placeAfterWholeSelect_38 rfl (lv_at hl 0 rfl) ?_
      refine gx_3_bracketCount hx hb hts hown hK hP wi_54 dxt_placeAfterWholeSelect_39 ?_
      refine lv_if_le (tgt := 50) hx hb dxt_placeAfterWholeSelect_42 (by decide) (fun hc => ?_) (fun hc => ?_)
      · have h := (if_pos hc).symm.trans h
        refine lv_iconst (v := (-1)) hx hb dxt_placeAfterWholeSelect_50 (by decide) ?_
        exact hq_iret hx hb hr hlocks hQ hK hP hD hS (by rw [← h]) rfl dxt_placeAfterWholeSelect_51
      · have h := (if_neg hc).symm.trans h
        refine lv_bipush (v := 7) hx hb dxt_placeAfterWholeSelect_45 (by decide) ?_
        refine lv_goto (tgt := 51) hx hb dxt_placeAfterWholeSelect_47 (by decide) ?_
        exact hq_iret hx hb hr hlocks hQ hK hP hD hS (by rw [← h]) rfl dxt_placeAfterWholeSelect_51
    · have h := (if_neg hk1).symm.trans h
      by_cases hk2 : l1 = 24
      · have h := (if_pos hk2).symm.trans h
        refine lv_lookup (off := 51) (tgt := 52) hx hb dxt_placeAfterWholeSelect_1 (by decide) (by rw [hk2]; decide) (by decide) ?_
        refine lv_aload_n hx hb dxt_placeAfterWholeSelect_52 rfl (lv_at hl 0 rfl) ?_
        refine gx_3_bracketCount hx hb hts hown hK hP wi_54 dxt_placeAfterWholeSelect_53 ?_
        refine lv_if_ne (tgt := 64) hx hb dxt_placeAfterWholeSelect_56 (by decide) (fun hc => ?_) (fun hc => ?_)
        · have h := (if_neg hc).symm.trans h
          refine lv_iconst (v := (-1)) hx hb dxt_placeAfterWholeSelect_64 (by decide) ?_
          exact hq_iret hx hb hr hlocks hQ hK hP hD hS (by rw [← h]) rfl dxt_placeAfterWholeSelect_65
        · have h := (if_pos hc).symm.trans h
          refine lv_bipush (v := 8) hx hb dxt_placeAfterWholeSelect_59 (by decide) ?_
          refine lv_goto (tgt := 65) hx hb dxt_placeAfterWholeSelect_61 (by decide) ?_
          exact hq_iret hx hb hr hlocks hQ hK hP hD hS (by rw [← h]) rfl dxt_placeAfterWholeSelect_65
      · have h := (if_neg hk2).symm.trans h
        refine lv_lookup (off := 65) (tgt := 66) hx hb dxt_placeAfterWholeSelect_1 (by decide) ((lv_osw hk0 (by decide)).trans ((lv_osw hk1 (by decide)).trans ((lv_osw hk2 (by decide)).trans rfl))) (by decide) ?_
        refine lv_iconst (v := (-1)) hx hb dxt_placeAfterWholeSelect_66 (by decide) ?_
        exact hq_iret hx hb hr hlocks hQ hK hP hD hS (by rw [← h]) rfl dxt_placeAfterWholeSelect_67
end
section
variable {p : Program} {l : Launch} {e : Env} {R : Room} {s : State} {m : MethodId} {args : Array Value} {below : List Frame} {meth : Method} {c : Code} {H H0 : Heap} {locs : List Loc} {cells slots : Nat} {Q : State → Prop}
variable {cc : ByteArray} {pc idx nC : Nat} {ls : Array Slot} {rest : List Value} {D : va_G} {A : Nat → Prop} {own : String} {q : Nat → Nat} {cI cZ cL : ClassId} {z w : va_W}
variable {hf_classCount hf_objectCount hf_roots hf_changed sf_objectCount sf_roots sf_reachable tf_count tf_bracketCount tf_place tf_inWhere tf_compared wf_count wf_looks n_code n_number s_isDistinct s_isRetained s_sourceClass s_withDescendants : Int32}
variable {ha_parents ha_classes ha_sizes sa_linkedFrom sa_linkCounts sa_retainedSets sa_retainedSizes sa_dominators sa_immediateDominators ta_codes ta_numbers ta_brackets : Nat → Int32}
variable {ha_fields wa_rows : Nat → Int64}
variable {xq_query n_left n_right s_row s_nested s_condition s_next : Option Nat}
variable {pa_n pk_n pa_s pk_s : Nat}
theorem kxt_placeAfterWholeSelect (l1 : Int32) (ur : Int32) (hu : sxt_placeAfterWholeSelect l1 tf_bracketCount = ur) (hx : p.tables.exec = Jvm.exec) (hb : c.code = cc) (hml : c.maxLocals = nC) (hts : ∀ x ∈ hq_tbl, x.before args s = true) (hown : s.vm.findClass own = some m.cls) (hK : va_K D hq_cl (hq_tys cI cZ cL) s) (hP : va_P D hq_cl (hx_w q cI cZ cL xq_query ha_parents hf_classCount ha_classes ha_sizes ha_fields hf_objectCount hf_roots hf_changed sa_linkedFrom sa_linkCounts sa_retainedSets sa_retainedSizes sa_dominators sa_immediateDominators sf_objectCount sf_roots sf_reachable ta_codes ta_numbers tf_count ta_brackets tf_bracketCount tf_place tf_inWhere tf_compared wa_rows wf_count wf_looks ++ z) H) (hD : va_D A (hx_w q cI cZ cL xq_query ha_parents hf_classCount ha_classes ha_sizes ha_fields hf_objectCount hf_roots hf_changed sa_linkedFrom sa_linkCounts sa_retainedSets sa_retainedSizes sa_dominators sa_immediateDominators sf_objectCount sf_roots sf_reachable ta_codes ta_numbers tf_count ta_brackets tf_bracketCount tf_place tf_inWhere tf_compared wa_rows wf_count wf_looks ++ z)) (hS : va_S A H0 H locs) (h1 : Cond.methodLink own idx yxt_placeAfterWholeSelect ∈ hq_tbl) (hR : 0 + 1 ≤ R.frames ∧ 8 + (2 + 11) + 0 ≤ R.locals) (hls : ls.size = nC) (hW : (rest.map fun v => v.category).sum ≤ 8) (hdg : decode cc pc = .ok (.invokevirtual idx, 3)) (hf : cells + 0 ≤ R.cells ∧ slots + 0 ≤ R.slots) (kk : ∀ (H1 : Heap) (locs1 : List Loc), va_P D hq_cl (hx_w q cI cZ cL xq_query ha_parents hf_classCount ha_classes ha_sizes ha_fields hf_objectCount hf_roots hf_changed sa_linkedFrom sa_linkCounts sa_retainedSets sa_retainedSizes sa_dominators sa_immediateDominators sf_objectCount sf_roots sf_reachable ta_codes ta_numbers tf_count ta_brackets tf_bracketCount tf_place tf_inWhere tf_compared wa_rows wf_count wf_looks ++ z) H1 → va_D A (hx_w q cI cZ cL xq_query ha_parents hf_classCount ha_classes ha_sizes ha_fields hf_objectCount hf_roots hf_changed sa_linkedFrom sa_linkCounts sa_retainedSets sa_retainedSizes sa_dominators sa_immediateDominators sf_objectCount sf_roots sf_reachable ta_codes ta_numbers tf_count ta_brackets tf_bracketCount tf_place tf_inWhere tf_compared wa_rows wf_count wf_looks ++ z) → va_S A H0 H1 locs1 → W p l e R s m args below meth c H1 locs1 cells slots Q (F0 m (pc + 3) ls (.int ur :: rest))) : W p l e R s m args below meth c H locs cells slots Q (F0 m pc ls (.int l1 :: .ref (q 3) :: rest)) :=
  hq_callV (q0 := 3) hx hb hml hown hts hK hP hD hS (cxt_placeAfterWholeSelect l1 ur hu) rfl rfl h1 wi_532 wi_533 wi_298 wi_534 1 rfl (by decide +kernel) ⟨rfl, rfl⟩ hR hls rfl hW hdg hf kk
end
theorem dxt_placeAfterE_0 : decode bxt_placeAfterE 0 = .ok (.aload_n 0, 1) := by decide +kernel
theorem dxt_placeAfterE_1 : decode bxt_placeAfterE 1 = .ok (.invokevirtual 61, 3) := by decide +kernel
theorem dxt_placeAfterE_4 : decode bxt_placeAfterE 4 = .ok (.ifCond .eq 15, 3) := by decide +kernel
theorem dxt_placeAfterE_7 : decode bxt_placeAfterE 7 = .ok (.iload_n 1, 1) := by decide +kernel
theorem dxt_placeAfterE_8 : decode bxt_placeAfterE 8 = .ok (.bipush 7, 2) := by decide +kernel
theorem dxt_placeAfterE_10 : decode bxt_placeAfterE 10 = .ok (.if_icmp .ne 7, 3) := by decide +kernel
theorem dxt_placeAfterE_13 : decode bxt_placeAfterE 13 = .ok (.iconst 5, 1) := by decide +kernel
theorem dxt_placeAfterE_14 : decode bxt_placeAfterE 14 = .ok (.goto 4, 3) := by decide +kernel
theorem dxt_placeAfterE_17 : decode bxt_placeAfterE 17 = .ok (.iconst (-1), 1) := by decide +kernel
theorem dxt_placeAfterE_18 : decode bxt_placeAfterE 18 = .ok (.ireturn, 1) := by decide +kernel
theorem dxt_placeAfterE_19 : decode bxt_placeAfterE 19 = .ok (.aload_n 0, 1) := by decide +kernel
theorem dxt_placeAfterE_20 : decode bxt_placeAfterE 20 = .ok (.getfield 65, 3) := by decide +kernel
theorem dxt_placeAfterE_23 : decode bxt_placeAfterE 23 = .ok (.ifCond .eq 9, 3) := by decide +kernel
theorem dxt_placeAfterE_26 : decode bxt_placeAfterE 26 = .ok (.aload_n 0, 1) := by decide +kernel
theorem dxt_placeAfterE_27 : decode bxt_placeAfterE 27 = .ok (.iload_n 1, 1) := by decide +kernel
theorem dxt_placeAfterE_28 : decode bxt_placeAfterE 28 = .ok (.invokevirtual 51, 3) := by decide +kernel
theorem dxt_placeAfterE_31 : decode bxt_placeAfterE 31 = .ok (.ireturn, 1) := by decide +kernel
theorem dxt_placeAfterE_32 : decode bxt_placeAfterE 32 = .ok (.iload_n 1, 1) := by decide +kernel
theorem dxt_placeAfterE_33 : decode bxt_placeAfterE 33 = .ok (.iconst 3, 1) := by decide +kernel
theorem dxt_placeAfterE_34 : decode bxt_placeAfterE 34 = .ok (.if_icmp .ne 8, 3) := by decide +kernel
theorem dxt_placeAfterE_37 : decode bxt_placeAfterE 37 = .ok (.bipush 6, 2) := by decide +kernel
theorem dxt_placeAfterE_39 : decode bxt_placeAfterE 39 = .ok (.goto 4, 3) := by decide +kernel
theorem dxt_placeAfterE_42 : decode bxt_placeAfterE 42 = .ok (.iconst (-1), 1) := by decide +kernel
theorem dxt_placeAfterE_43 : decode bxt_placeAfterE 43 = .ok (.ireturn, 1) := by decide +kernel
section
variable {l : Launch} {D : va_G} {A : Nat → Prop} {z w : va_W} {q : Nat → Nat} {cI cZ cL : ClassId}
variable {hf_classCount hf_objectCount hf_roots hf_changed sf_objectCount sf_roots sf_reachable tf_count tf_bracketCount tf_place tf_inWhere tf_compared wf_count wf_looks n_code n_number s_isDistinct s_isRetained s_sourceClass s_withDescendants : Int32}
variable {ha_parents ha_classes ha_sizes sa_linkedFrom sa_linkCounts sa_retainedSets sa_retainedSizes sa_dominators sa_immediateDominators ta_codes ta_numbers ta_brackets : Nat → Int32}
variable {ha_fields wa_rows : Nat → Int64}
variable {xq_query n_left n_right s_row s_nested s_condition s_next : Option Nat}
variable {pa_n pk_n pa_s pk_s : Nat}
set_option maxHeartbeats 4000000 in
set_option maxRecDepth 100000 in
theorem cxt_placeAfterE (l1 : Int32) (ur : Int32) (h : sxt_placeAfterE l1 ta_brackets tf_bracketCount tf_inWhere = some ur) : hq_Ct l yxt_placeAfterE bxt_placeAfterE 2 (some .int) { frames := 1, cells := 0, slots := 0, locals := 21 } D (hq_tys cI cZ cL) A [.ref (q 3), .int l1] (hx_w q cI cZ cL xq_query ha_parents hf_classCount ha_classes ha_sizes ha_fields hf_objectCount hf_roots hf_changed sa_linkedFrom sa_linkCounts sa_retainedSets sa_retainedSizes sa_dominators sa_immediateDominators sf_objectCount sf_roots sf_reachable ta_codes ta_numbers tf_count ta_brackets tf_bracketCount tf_place tf_inWhere tf_compared wa_rows wf_count wf_looks ++ z) (hx_w q cI cZ cL xq_query ha_parents hf_classCount ha_classes ha_sizes ha_fields hf_objectCount hf_roots hf_changed sa_linkedFrom sa_linkCounts sa_retainedSets sa_retainedSizes sa_dominators sa_immediateDominators sf_objectCount sf_roots sf_reachable ta_codes ta_numbers tf_count ta_brackets tf_bracketCount tf_place tf_inWhere tf_compared wa_rows wf_count wf_looks ++ z) (some (.int ur)) 0 0 := by
  refine hq_of (by decide) ?_ (Nat.le_of_ble_eq_true rfl)
  intro p e s m below meth c R args Q hRm hQ hx hb hr hml hts hown hlocks hnm hP hK hD ls hl hS
  have hl : lv_has ls 2 [(0, .ref (q 3)), (1, .int l1)] := hl
  have hown : s.vm.findClass "HeapQueries$Text" = some m.cls := hown
  unfold sxt_placeAfterE at h
  refine lv_aload_n hx hb dxt_placeAfterE_0 rfl (lv_at hl 0 rfl) ?_
  obtain ⟨v1, h1, h⟩ := hq_bind h
  refine kxt_isInsideE  v1 h1 hx hb hml hts hown hK hP hD hS wi_173 (by rw [hRm]; exact ⟨Nat.le_of_ble_eq_true rfl, Nat.le_of_ble_eq_true rfl⟩) hl.1 (Nat.le_of_ble_eq_true rfl) dxt_placeAfterE_1 ⟨Nat.zero_le _, Nat.zero_le _⟩ (fun H locs hP hD hS => ?_)
  refine lv_if_eq (tgt := 19) hx hb dxt_placeAfterE_4 (by decide) (fun hc => ?_) (fun hc => ?_)
  · have h := (if_pos hc).symm.trans h
    refine lv_aload_n hx hb dxt_placeAfterE_19 rfl (lv_at hl 0 rfl) ?_
    refine gx_3_inWhere hx hb hts hown hK hP wi_174 dxt_placeAfterE_20 ?_
    refine lv_if_eq (tgt := 32) hx hb dxt_placeAfterE_23 (by decide) (fun hc => ?_) (fun hc => ?_)
    · have h := (if_pos hc).symm.trans h
      refine lv_iload_n hx hb dxt_placeAfterE_32 rfl (lv_at hl 1 rfl) ?_
      refine lv_iconst (v := 3) hx hb dxt_placeAfterE_33 (by decide) ?_
      refine lv_icmp_ne (tgt := 42) hx hb dxt_placeAfterE_34 (by decide) (fun hc => ?_) (fun hc => ?_)
      · have h := (if_neg hc).symm.trans h
        refine lv_iconst (v := (-1)) hx hb dxt_placeAfterE_42 (by decide) ?_
        have h := Option.some.inj h
        exact hq_iret hx hb hr hlocks hQ hK hP hD hS (by rw [← h]) rfl dxt_placeAfterE_43
      · have h := (if_pos hc).symm.trans h
        refine lv_bipush (v := 6) hx hb dxt_placeAfterE_37 (by decide) ?_
        refine lv_goto (tgt := 43) hx hb dxt_placeAfterE_39 (by decide) ?_
        have h := Option.some.inj h
        exact hq_iret hx hb hr hlocks hQ hK hP hD hS (by rw [← h]) rfl dxt_placeAfterE_43
    · have h := (if_neg hc).symm.trans h
      refine lv_aload_n hx hb dxt_placeAfterE_26 rfl (lv_at hl 0 rfl) ?_
      refine lv_iload_n hx hb dxt_placeAfterE_27 rfl (lv_at hl 1 rfl) ?_
      refine kxt_placeAfterWholeSelect l1 (sxt_placeAfterWholeSelect l1 tf_bracketCount) rfl hx hb hml hts hown hK hP hD hS wi_175 (by rw [hRm]; exact ⟨Nat.le_of_ble_eq_true rfl, Nat.le_of_ble_eq_true rfl⟩) hl.1 (Nat.le_of_ble_eq_true rfl) dxt_placeAfterE_28 ⟨Nat.zero_le _, Nat.zero_le _⟩ (fun H locs hP hD hS => ?_)
      have h := Option.some.inj h
      exact hq_iret hx hb hr hlocks hQ hK hP hD hS (by rw [← h]) rfl dxt_placeAfterE_31
  · have h := (if_neg hc).symm.trans h
    refine lv_iload_n hx hb dxt_placeAfterE_7 rfl (lv_at hl 1 rfl) ?_
    refine lv_bipush (v := 7) hx hb dxt_placeAfterE_8 (by decide) ?_
    refine lv_icmp_ne (tgt := 17) hx hb dxt_placeAfterE_10 (by decide) (fun hc => ?_) (fun hc => ?_)
    · have h := (if_neg hc).symm.trans h
      refine lv_iconst (v := (-1)) hx hb dxt_placeAfterE_17 (by decide) ?_
      have h := Option.some.inj h
      exact hq_iret hx hb hr hlocks hQ hK hP hD hS (by rw [← h]) rfl dxt_placeAfterE_18
    · have h := (if_pos hc).symm.trans h
      refine lv_iconst (v := 5) hx hb dxt_placeAfterE_13 (by decide) ?_
      refine lv_goto (tgt := 18) hx hb dxt_placeAfterE_14 (by decide) ?_
      have h := Option.some.inj h
      exact hq_iret hx hb hr hlocks hQ hK hP hD hS (by rw [← h]) rfl dxt_placeAfterE_18
end
section
variable {p : Program} {l : Launch} {e : Env} {R : Room} {s : State} {m : MethodId} {args : Array Value} {below : List Frame} {meth : Method} {c : Code} {H H0 : Heap} {locs : List Loc} {cells slots : Nat} {Q : State → Prop}
variable {cc : ByteArray} {pc idx nC : Nat} {ls : Array Slot} {rest : List Value} {D : va_G} {A : Nat → Prop} {own : String} {q : Nat → Nat} {cI cZ cL : ClassId} {z w : va_W}
variable {hf_classCount hf_objectCount hf_roots hf_changed sf_objectCount sf_roots sf_reachable tf_count tf_bracketCount tf_place tf_inWhere tf_compared wf_count wf_looks n_code n_number s_isDistinct s_isRetained s_sourceClass s_withDescendants : Int32}
variable {ha_parents ha_classes ha_sizes sa_linkedFrom sa_linkCounts sa_retainedSets sa_retainedSizes sa_dominators sa_immediateDominators ta_codes ta_numbers ta_brackets : Nat → Int32}
variable {ha_fields wa_rows : Nat → Int64}
variable {xq_query n_left n_right s_row s_nested s_condition s_next : Option Nat}
variable {pa_n pk_n pa_s pk_s : Nat}
theorem kxt_placeAfterE (l1 : Int32) (ur : Int32) (hu : sxt_placeAfterE l1 ta_brackets tf_bracketCount tf_inWhere = some ur) (hx : p.tables.exec = Jvm.exec) (hb : c.code = cc) (hml : c.maxLocals = nC) (hts : ∀ x ∈ hq_tbl, x.before args s = true) (hown : s.vm.findClass own = some m.cls) (hK : va_K D hq_cl (hq_tys cI cZ cL) s) (hP : va_P D hq_cl (hx_w q cI cZ cL xq_query ha_parents hf_classCount ha_classes ha_sizes ha_fields hf_objectCount hf_roots hf_changed sa_linkedFrom sa_linkCounts sa_retainedSets sa_retainedSizes sa_dominators sa_immediateDominators sf_objectCount sf_roots sf_reachable ta_codes ta_numbers tf_count ta_brackets tf_bracketCount tf_place tf_inWhere tf_compared wa_rows wf_count wf_looks ++ z) H) (hD : va_D A (hx_w q cI cZ cL xq_query ha_parents hf_classCount ha_classes ha_sizes ha_fields hf_objectCount hf_roots hf_changed sa_linkedFrom sa_linkCounts sa_retainedSets sa_retainedSizes sa_dominators sa_immediateDominators sf_objectCount sf_roots sf_reachable ta_codes ta_numbers tf_count ta_brackets tf_bracketCount tf_place tf_inWhere tf_compared wa_rows wf_count wf_looks ++ z)) (hS : va_S A H0 H locs) (h1 : Cond.methodLink own idx yxt_placeAfterE ∈ hq_tbl) (hR : 1 + 1 ≤ R.frames ∧ 8 + (2 + 11) + 21 ≤ R.locals) (hls : ls.size = nC) (hW : (rest.map fun v => v.category).sum ≤ 8) (hdg : decode cc pc = .ok (.invokevirtual idx, 3)) (hf : cells + 0 ≤ R.cells ∧ slots + 0 ≤ R.slots) (kk : ∀ (H1 : Heap) (locs1 : List Loc), va_P D hq_cl (hx_w q cI cZ cL xq_query ha_parents hf_classCount ha_classes ha_sizes ha_fields hf_objectCount hf_roots hf_changed sa_linkedFrom sa_linkCounts sa_retainedSets sa_retainedSizes sa_dominators sa_immediateDominators sf_objectCount sf_roots sf_reachable ta_codes ta_numbers tf_count ta_brackets tf_bracketCount tf_place tf_inWhere tf_compared wa_rows wf_count wf_looks ++ z) H1 → va_D A (hx_w q cI cZ cL xq_query ha_parents hf_classCount ha_classes ha_sizes ha_fields hf_objectCount hf_roots hf_changed sa_linkedFrom sa_linkCounts sa_retainedSets sa_retainedSizes sa_dominators sa_immediateDominators sf_objectCount sf_roots sf_reachable ta_codes ta_numbers tf_count ta_brackets tf_bracketCount tf_place tf_inWhere tf_compared wa_rows wf_count wf_looks ++ z) → va_S A H0 H1 locs1 → W p l e R s m args below meth c H1 locs1 cells slots Q (F0 m (pc + 3) ls (.int ur :: rest))) : W p l e R s m args below meth c H locs cells slots Q (F0 m pc ls (.int l1 :: .ref (q 3) :: rest)) :=
  hq_callV (q0 := 3) hx hb hml hown hts hK hP hD hS (cxt_placeAfterE l1 ur hu) rfl rfl h1 wi_535 wi_536 wi_298 wi_537 1 rfl (by decide +kernel) ⟨rfl, rfl⟩ hR hls rfl hW hdg hf kk
end
theorem dxt_placeAfterU_0 : decode bxt_placeAfterU 0 = .ok (.iload_n 1, 1) := by decide +kernel
theorem dxt_placeAfterU_1 : decode bxt_placeAfterU 1 = .ok (.tableswitch 78 13 23 #[59, 59, 76, 76, 78, 63, 63, 63, 61, 61, 61], 59) := by decide +kernel
theorem dxt_placeAfterU_60 : decode bxt_placeAfterU 60 = .ok (.iconst 5, 1) := by decide +kernel
theorem dxt_placeAfterU_61 : decode bxt_placeAfterU 61 = .ok (.ireturn, 1) := by decide +kernel
theorem dxt_placeAfterU_62 : decode bxt_placeAfterU 62 = .ok (.iconst 4, 1) := by decide +kernel
theorem dxt_placeAfterU_63 : decode bxt_placeAfterU 63 = .ok (.ireturn, 1) := by decide +kernel
theorem dxt_placeAfterU_64 : decode bxt_placeAfterU 64 = .ok (.aload_n 0, 1) := by decide +kernel
theorem dxt_placeAfterU_65 : decode bxt_placeAfterU 65 = .ok (.getfield 54, 3) := by decide +kernel
theorem dxt_placeAfterU_68 : decode bxt_placeAfterU 68 = .ok (.ifCond .eq 7, 3) := by decide +kernel
theorem dxt_placeAfterU_71 : decode bxt_placeAfterU 71 = .ok (.iconst (-1), 1) := by decide +kernel
theorem dxt_placeAfterU_72 : decode bxt_placeAfterU 72 = .ok (.goto 4, 3) := by decide +kernel
theorem dxt_placeAfterU_75 : decode bxt_placeAfterU 75 = .ok (.iconst 4, 1) := by decide +kernel
theorem dxt_placeAfterU_76 : decode bxt_placeAfterU 76 = .ok (.ireturn, 1) := by decide +kernel
theorem dxt_placeAfterU_77 : decode bxt_placeAfterU 77 = .ok (.iconst 3, 1) := by decide +kernel
theorem dxt_placeAfterU_78 : decode bxt_placeAfterU 78 = .ok (.ireturn, 1) := by decide +kernel
theorem dxt_placeAfterU_79 : decode bxt_placeAfterU 79 = .ok (.aload_n 0, 1) := by decide +kernel
theorem dxt_placeAfterU_80 : decode bxt_placeAfterU 80 = .ok (.iload_n 1, 1) := by decide +kernel
theorem dxt_placeAfterU_81 : decode bxt_placeAfterU 81 = .ok (.invokevirtual 58, 3) := by decide +kernel
theorem dxt_placeAfterU_84 : decode bxt_placeAfterU 84 = .ok (.ireturn, 1) := by decide +kernel
section
variable {l : Launch} {D : va_G} {A : Nat → Prop} {z w : va_W} {q : Nat → Nat} {cI cZ cL : ClassId}
variable {hf_classCount hf_objectCount hf_roots hf_changed sf_objectCount sf_roots sf_reachable tf_count tf_bracketCount tf_place tf_inWhere tf_compared wf_count wf_looks n_code n_number s_isDistinct s_isRetained s_sourceClass s_withDescendants : Int32}
variable {ha_parents ha_classes ha_sizes sa_linkedFrom sa_linkCounts sa_retainedSets sa_retainedSizes sa_dominators sa_immediateDominators ta_codes ta_numbers ta_brackets : Nat → Int32}
variable {ha_fields wa_rows : Nat → Int64}
variable {xq_query n_left n_right s_row s_nested s_condition s_next : Option Nat}
variable {pa_n pk_n pa_s pk_s : Nat}
set_option maxHeartbeats 4000000 in
set_option maxRecDepth 100000 in
theorem cxt_placeAfterU (l1 : Int32) (ur : Int32) (h : sxt_placeAfterU l1 ta_brackets tf_bracketCount tf_inWhere tf_compared = some ur) : hq_Ct l yxt_placeAfterU bxt_placeAfterU 2 (some .int) { frames := 2, cells := 0, slots := 0, locals := 42 } D (hq_tys cI cZ cL) A [.ref (q 3), .int l1] (hx_w q cI cZ cL xq_query ha_parents hf_classCount ha_classes ha_sizes ha_fields hf_objectCount hf_roots hf_changed sa_linkedFrom sa_linkCounts sa_retainedSets sa_retainedSizes sa_dominators sa_immediateDominators sf_objectCount sf_roots sf_reachable ta_codes ta_numbers tf_count ta_brackets tf_bracketCount tf_place tf_inWhere tf_compared wa_rows wf_count wf_looks ++ z) (hx_w q cI cZ cL xq_query ha_parents hf_classCount ha_classes ha_sizes ha_fields hf_objectCount hf_roots hf_changed sa_linkedFrom sa_linkCounts sa_retainedSets sa_retainedSizes sa_dominators sa_immediateDominators sf_objectCount sf_roots sf_reachable ta_codes ta_numbers tf_count ta_brackets tf_bracketCount tf_place tf_inWhere tf_compared wa_rows wf_count wf_looks ++ z) (some (.int ur)) 0 0 := by
  refine hq_of (by decide) ?_ (Nat.le_of_ble_eq_true rfl)
  intro p e s m below meth c R args Q hRm hQ hx hb hr hml hts hown hlocks hnm hP hK hD ls hl hS
  have hl : lv_has ls 2 [(0, .ref (q 3)), (1, .int l1)] := hl
  have hown : s.vm.findClass "HeapQueries$Text" = some m.cls := hown
  unfold sxt_placeAfterU at h
  have J64 : ∀ {ls : Array Slot} {H : Heap} {locs : List Loc}, lv_has ls 2 [(0, .ref (q 3))] → va_P D hq_cl (hx_w q cI cZ cL xq_query ha_parents hf_classCount ha_classes ha_sizes ha_fields hf_objectCount hf_roots hf_changed sa_linkedFrom sa_linkCounts sa_retainedSets sa_retainedSizes sa_dominators sa_immediateDominators sf_objectCount sf_roots sf_reachable ta_codes ta_numbers tf_count ta_brackets tf_bracketCount tf_place tf_inWhere tf_compared wa_rows wf_count wf_looks ++ z) H → va_D A (hx_w q cI cZ cL xq_query ha_parents hf_classCount ha_classes ha_sizes ha_fields hf_objectCount hf_roots hf_changed sa_linkedFrom sa_linkCounts sa_retainedSets sa_retainedSizes sa_dominators sa_immediateDominators sf_objectCount sf_roots sf_reachable ta_codes ta_numbers tf_count ta_brackets tf_bracketCount tf_place tf_inWhere tf_compared wa_rows wf_count wf_looks ++ z) → va_S A s.heap H locs → sxt_placeAfterU_J64 ta_brackets tf_bracketCount tf_inWhere tf_compared = some ur → W p l e R s m args below meth c H locs 0 0 Q (F0 m 64 ls []) := by
    intro ls H locs hl hP hD hS h
    unfold sxt_placeAfterU_J64 at h
    refine lv_aload_n hx hb dxt_placeAfterU_64 rfl (lv_at hl 0 rfl) ?_
    refine gx_3_compared hx hb hts hown hK hP wi_176 dxt_placeAfterU_65 ?_
    refine lv_if_eq (tgt := 75) hx hb dxt_placeAfterU_68 (by decide) (fun hc => ?_) (fun hc => ?_)
    · have h := (if_pos hc).symm.trans h
      refine lv_iconst (v := 4) hx hb dxt_placeAfterU_75 (by decide) ?_
      have h := Option.some.inj h
      exact hq_iret hx hb hr hlocks hQ hK hP hD hS (by rw [← h]) rfl dxt_placeAfterU_76
    · have h := (if_neg hc).symm.trans h
      refine lv_iconst (v := (-1)) hx hb dxt_placeAfterU_71 (by decide) ?_
      refine lv_goto (tgt := 76) hx hb dxt_placeAfterU_72 (by decide) ?_
      have h := Option.some.inj h
      exact hq_iret hx hb hr hlocks hQ hK hP hD hS (by rw [← h]) rfl dxt_placeAfterU_76
  refine lv_iload_n hx hb dxt_placeAfterU_0 rfl (lv_at hl 1 rfl) ?_
  by_cases hk0 : l1 = 13
  · have h := (if_pos hk0).symm.trans h
    refine lv_tableIn (off := 59) (tgt := 60) hx hb dxt_placeAfterU_1 (by rw [hk0]; decide) (by rw [hk0]; decide) (by rw [hk0]; rfl) (by decide) ?_
    refine lv_iconst (v := 5) hx hb dxt_placeAfterU_60 (by decide) ?_
    have h := Option.some.inj h
    exact hq_iret hx hb hr hlocks hQ hK hP hD hS (by rw [← h]) rfl dxt_placeAfterU_61
  · have h := (if_neg hk0).symm.trans h
    by_cases hk1 : l1 = 14
    · have h := (if_pos hk1).symm.trans h
      refine lv_tableIn (off := 59) (tgt := 60) hx hb dxt_placeAfterU_1 (by rw [hk1]; decide) (by rw [hk1]; decide) (by rw [hk1]; rfl) (by decide) ?_
      refine lv_iconst (v := 5) hx hb dxt_placeAfterU_60 (by decide) ?_
      have h := Option.some.inj h
      exact hq_iret hx hb hr hlocks hQ hK hP hD hS (by rw [← h]) rfl dxt_placeAfterU_61
    · have h := (if_neg hk1).symm.trans h
      by_cases hk2 : l1 = 15
      · have h := (if_pos hk2).symm.trans h
        refine lv_tableIn (off := 76) (tgt := 77) hx hb dxt_placeAfterU_1 (by rw [hk2]; decide) (by rw [hk2]; decide) (by rw [hk2]; rfl) (by decide) ?_
        refine lv_iconst (v := 3) hx hb dxt_placeAfterU_77 (by decide) ?_
        have h := Option.some.inj h
        exact hq_iret hx hb hr hlocks hQ hK hP hD hS (by rw [← h]) rfl dxt_placeAfterU_78
      · have h := (if_neg hk2).symm.trans h
        by_cases hk3 : l1 = 16
        · have h := (if_pos hk3).symm.trans h
          refine lv_tableIn (off := 76) (tgt := 77) hx hb dxt_placeAfterU_1 (by rw [hk3]; decide) (by rw [hk3]; decide) (by rw [hk3]; rfl) (by decide) ?_
          refine lv_iconst (v := 3) hx hb dxt_placeAfterU_77 (by decide) ?_
          have h := Option.some.inj h
          exact hq_iret hx hb hr hlocks hQ hK hP hD hS (by rw [← h]) rfl dxt_placeAfterU_78
        · have h := (if_neg hk3).symm.trans h
          by_cases hk4 : l1 = 17
          · have h := (if_pos hk4).symm.trans h
            refine lv_tableIn (off := 78) (tgt := 79) hx hb dxt_placeAfterU_1 (by rw [hk4]; decide) (by rw [hk4]; decide) (by rw [hk4]; rfl) (by decide) ?_
            refine lv_aload_n hx hb dxt_placeAfterU_79 rfl (lv_at hl 0 rfl) ?_
            refine lv_iload_n hx hb dxt_placeAfterU_80 rfl (lv_at hl 1 rfl) ?_
            obtain ⟨v81, h81, h⟩ := hq_bind h
            refine kxt_placeAfterE l1 v81 h81 hx hb hml hts hown hK hP hD hS wi_177 (by rw [hRm]; exact ⟨Nat.le_of_ble_eq_true rfl, Nat.le_of_ble_eq_true rfl⟩) hl.1 (Nat.le_of_ble_eq_true rfl) dxt_placeAfterU_81 ⟨Nat.zero_le _, Nat.zero_le _⟩ (fun H locs hP hD hS => ?_)
            have h := Option.some.inj h
            exact hq_iret hx hb hr hlocks hQ hK hP hD hS (by rw [← h]) rfl dxt_placeAfterU_84
          · have h := (if_neg hk4).symm.trans h
            by_cases hk5 : l1 = 18
            · have h := (if_pos hk5).symm.trans h
              refine lv_tableIn (off := 63) (tgt := 64) hx hb dxt_placeAfterU_1 (by rw [hk5]; decide) (by rw [hk5]; decide) (by rw [hk5]; rfl) (by decide) ?_
              exact J64  (lv_sub hl [0] rfl) hP hD hS h
            · have h := (if_neg hk5).symm.trans h
              by_cases hk6 : l1 = 19
              · have h := (if_pos hk6).symm.trans h
                refine lv_tableIn (off := 63) (tgt := 64) hx hb dxt_placeAfterU_1 (by rw [hk6]; decide) (by rw [hk6]; decide) (by rw [hk6]; rfl) (by decide) ?_
                exact J64  (lv_sub hl [0] rfl) hP hD hS h
              · have h := (if_neg hk6).symm.trans h
                by_cases hk7 : l1 = 20
                · have h := (if_pos hk7).symm.trans h
                  refine lv_tableIn (off := 63) (tgt := 64) hx hb dxt_placeAfterU_1 (by rw [hk7]; decide) (by rw [hk7]; decide) (by rw [hk7]; rfl) (by decide) ?_
                  exact J64  (lv_sub hl [0] rfl) hP hD hS h
                · have h := (if_neg hk7).symm.trans h
                  by_cases hk8 : l1 = 21
                  · have h := (if_pos hk8).symm.trans h
                    refine lv_tableIn (off := 61) (tgt := 62) hx hb dxt_placeAfterU_1 (by rw [hk8]; decide) (by rw [hk8]; decide) (by rw [hk8]; rfl) (by decide) ?_
                    refine lv_iconst (v := 4) hx hb dxt_placeAfterU_62 (by decide) ?_
                    have h := Option.some.inj h
                    exact hq_iret hx hb hr hlocks hQ hK hP hD hS (by rw [← h]) rfl dxt_placeAfterU_63
                  · have h := (if_neg hk8).symm.trans h
                    by_cases hk9 : l1 = 22
                    · have h := (if_pos hk9).symm.trans h
                      refine lv_tableIn (off := 61) (tgt := 62) hx hb dxt_placeAfterU_1 (by rw [hk9]; decide) (by rw [hk9]; decide) (by rw [hk9]; rfl) (by decide) ?_
                      refine lv_iconst (v := 4) hx hb dxt_placeAfterU_62 (by decide) ?_
                      have h := Option.some.inj h
                      exact hq_iret hx hb hr hlocks hQ hK hP hD hS (by rw [← h]) rfl dxt_placeAfterU_63
                    · have h := (if_neg hk9).symm.trans h
                      by_cases hk10 : l1 = 23
                      · have h := (if_pos hk10).symm.trans h
                        refine lv_tableIn (off := 61) (tgt := 62) hx hb dxt_placeAfterU_1 (by rw [hk10]; decide) (by rw [hk10]; decide) (by rw [hk10]; rfl) (by decide) ?_
                        refine lv_iconst (v := 4) hx hb dxt_placeAfterU_62 (by decide) ?_
                        have h := Option.some.inj h
                        exact hq_iret hx hb hr hlocks hQ hK hP hD hS (by rw [← h]) rfl dxt_placeAfterU_63
                      · have h := (if_neg hk10).symm.trans h
                        refine lv_tableOut (tgt := 79) hx hb dxt_placeAfterU_1 (by have a0 := lv_neT (a := 13) hk0 (by decide); have a1 := lv_neT (a := 14) hk1 (by decide); have a2 := lv_neT (a := 15) hk2 (by decide); have a3 := lv_neT (a := 16) hk3 (by decide); have a4 := lv_neT (a := 17) hk4 (by decide); have a5 := lv_neT (a := 18) hk5 (by decide); have a6 := lv_neT (a := 19) hk6 (by decide); have a7 := lv_neT (a := 20) hk7 (by decide); have a8 := lv_neT (a := 21) hk8 (by decide); have a9 := lv_neT (a := 22) hk9 (by decide); have a10 := lv_neT (a := 23) hk10 (by decide); omega) (by decide) ?_
                        refine lv_aload_n hx hb dxt_placeAfterU_79 rfl (lv_at hl 0 rfl) ?_
                        refine lv_iload_n hx hb dxt_placeAfterU_80 rfl (lv_at hl 1 rfl) ?_
                        obtain ⟨v81, h81, h⟩ := hq_bind h
                        refine kxt_placeAfterE l1 v81 h81 hx hb hml hts hown hK hP hD hS wi_177 (by rw [hRm]; exact ⟨Nat.le_of_ble_eq_true rfl, Nat.le_of_ble_eq_true rfl⟩) hl.1 (Nat.le_of_ble_eq_true rfl) dxt_placeAfterU_81 ⟨Nat.zero_le _, Nat.zero_le _⟩ (fun H locs hP hD hS => ?_)
                        have h := Option.some.inj h
                        exact hq_iret hx hb hr hlocks hQ hK hP hD hS (by rw [← h]) rfl dxt_placeAfterU_84
end
section
variable {p : Program} {l : Launch} {e : Env} {R : Room} {s : State} {m : MethodId} {args : Array Value} {below : List Frame} {meth : Method} {c : Code} {H H0 : Heap} {locs : List Loc} {cells slots : Nat} {Q : State → Prop}
variable {cc : ByteArray} {pc idx nC : Nat} {ls : Array Slot} {rest : List Value} {D : va_G} {A : Nat → Prop} {own : String} {q : Nat → Nat} {cI cZ cL : ClassId} {z w : va_W}
variable {hf_classCount hf_objectCount hf_roots hf_changed sf_objectCount sf_roots sf_reachable tf_count tf_bracketCount tf_place tf_inWhere tf_compared wf_count wf_looks n_code n_number s_isDistinct s_isRetained s_sourceClass s_withDescendants : Int32}
variable {ha_parents ha_classes ha_sizes sa_linkedFrom sa_linkCounts sa_retainedSets sa_retainedSizes sa_dominators sa_immediateDominators ta_codes ta_numbers ta_brackets : Nat → Int32}
variable {ha_fields wa_rows : Nat → Int64}
variable {xq_query n_left n_right s_row s_nested s_condition s_next : Option Nat}
variable {pa_n pk_n pa_s pk_s : Nat}
theorem kxt_placeAfterU (l1 : Int32) (ur : Int32) (hu : sxt_placeAfterU l1 ta_brackets tf_bracketCount tf_inWhere tf_compared = some ur) (hx : p.tables.exec = Jvm.exec) (hb : c.code = cc) (hml : c.maxLocals = nC) (hts : ∀ x ∈ hq_tbl, x.before args s = true) (hown : s.vm.findClass own = some m.cls) (hK : va_K D hq_cl (hq_tys cI cZ cL) s) (hP : va_P D hq_cl (hx_w q cI cZ cL xq_query ha_parents hf_classCount ha_classes ha_sizes ha_fields hf_objectCount hf_roots hf_changed sa_linkedFrom sa_linkCounts sa_retainedSets sa_retainedSizes sa_dominators sa_immediateDominators sf_objectCount sf_roots sf_reachable ta_codes ta_numbers tf_count ta_brackets tf_bracketCount tf_place tf_inWhere tf_compared wa_rows wf_count wf_looks ++ z) H) (hD : va_D A (hx_w q cI cZ cL xq_query ha_parents hf_classCount ha_classes ha_sizes ha_fields hf_objectCount hf_roots hf_changed sa_linkedFrom sa_linkCounts sa_retainedSets sa_retainedSizes sa_dominators sa_immediateDominators sf_objectCount sf_roots sf_reachable ta_codes ta_numbers tf_count ta_brackets tf_bracketCount tf_place tf_inWhere tf_compared wa_rows wf_count wf_looks ++ z)) (hS : va_S A H0 H locs) (h1 : Cond.methodLink own idx yxt_placeAfterU ∈ hq_tbl) (hR : 2 + 1 ≤ R.frames ∧ 8 + (2 + 11) + 42 ≤ R.locals) (hls : ls.size = nC) (hW : (rest.map fun v => v.category).sum ≤ 8) (hdg : decode cc pc = .ok (.invokevirtual idx, 3)) (hf : cells + 0 ≤ R.cells ∧ slots + 0 ≤ R.slots) (kk : ∀ (H1 : Heap) (locs1 : List Loc), va_P D hq_cl (hx_w q cI cZ cL xq_query ha_parents hf_classCount ha_classes ha_sizes ha_fields hf_objectCount hf_roots hf_changed sa_linkedFrom sa_linkCounts sa_retainedSets sa_retainedSizes sa_dominators sa_immediateDominators sf_objectCount sf_roots sf_reachable ta_codes ta_numbers tf_count ta_brackets tf_bracketCount tf_place tf_inWhere tf_compared wa_rows wf_count wf_looks ++ z) H1 → va_D A (hx_w q cI cZ cL xq_query ha_parents hf_classCount ha_classes ha_sizes ha_fields hf_objectCount hf_roots hf_changed sa_linkedFrom sa_linkCounts sa_retainedSets sa_retainedSizes sa_dominators sa_immediateDominators sf_objectCount sf_roots sf_reachable ta_codes ta_numbers tf_count ta_brackets tf_bracketCount tf_place tf_inWhere tf_compared wa_rows wf_count wf_looks ++ z) → va_S A H0 H1 locs1 → W p l e R s m args below meth c H1 locs1 cells slots Q (F0 m (pc + 3) ls (.int ur :: rest))) : W p l e R s m args below meth c H locs cells slots Q (F0 m pc ls (.int l1 :: .ref (q 3) :: rest)) :=
  hq_callV (q0 := 3) hx hb hml hown hts hK hP hD hS (cxt_placeAfterU l1 ur hu) rfl rfl h1 wi_538 wi_539 wi_298 wi_540 1 rfl (by decide +kernel) ⟨rfl, rfl⟩ hR hls rfl hW hdg hf kk
end
theorem dxt_placeInSource_0 : decode bxt_placeInSource 0 = .ok (.iload_n 1, 1) := by decide +kernel
theorem dxt_placeInSource_1 : decode bxt_placeInSource 1 = .ok (.tableswitch 36 6 9 #[34, 36, 31, 31], 31) := by decide +kernel
theorem dxt_placeInSource_32 : decode bxt_placeInSource 32 = .ok (.bipush 7, 2) := by decide +kernel
theorem dxt_placeInSource_34 : decode bxt_placeInSource 34 = .ok (.ireturn, 1) := by decide +kernel
theorem dxt_placeInSource_35 : decode bxt_placeInSource 35 = .ok (.iconst 0, 1) := by decide +kernel
theorem dxt_placeInSource_36 : decode bxt_placeInSource 36 = .ok (.ireturn, 1) := by decide +kernel
theorem dxt_placeInSource_37 : decode bxt_placeInSource 37 = .ok (.iconst (-1), 1) := by decide +kernel
theorem dxt_placeInSource_38 : decode bxt_placeInSource 38 = .ok (.ireturn, 1) := by decide +kernel
section
variable {l : Launch} {D : va_G} {A : Nat → Prop} {z w : va_W} {q : Nat → Nat} {cI cZ cL : ClassId}
variable {hf_classCount hf_objectCount hf_roots hf_changed sf_objectCount sf_roots sf_reachable tf_count tf_bracketCount tf_place tf_inWhere tf_compared wf_count wf_looks n_code n_number s_isDistinct s_isRetained s_sourceClass s_withDescendants : Int32}
variable {ha_parents ha_classes ha_sizes sa_linkedFrom sa_linkCounts sa_retainedSets sa_retainedSizes sa_dominators sa_immediateDominators ta_codes ta_numbers ta_brackets : Nat → Int32}
variable {ha_fields wa_rows : Nat → Int64}
variable {xq_query n_left n_right s_row s_nested s_condition s_next : Option Nat}
variable {pa_n pk_n pa_s pk_s : Nat}
set_option maxHeartbeats 4000000 in
set_option maxRecDepth 100000 in
theorem cxt_placeInSource (l1 : Int32) (ur : Int32) (h : sxt_placeInSource l1 = ur) : hq_Ct l yxt_placeInSource bxt_placeInSource 2 (some .int) { frames := 0, cells := 0, slots := 0, locals := 0 } D (hq_tys cI cZ cL) A [.ref (q 3), .int l1] (hx_w q cI cZ cL xq_query ha_parents hf_classCount ha_classes ha_sizes ha_fields hf_objectCount hf_roots hf_changed sa_linkedFrom sa_linkCounts sa_retainedSets sa_retainedSizes sa_dominators sa_immediateDominators sf_objectCount sf_roots sf_reachable ta_codes ta_numbers tf_count ta_brackets tf_bracketCount tf_place tf_inWhere tf_compared wa_rows wf_count wf_looks ++ z) (hx_w q cI cZ cL xq_query ha_parents hf_classCount ha_classes ha_sizes ha_fields hf_objectCount hf_roots hf_changed sa_linkedFrom sa_linkCounts sa_retainedSets sa_retainedSizes sa_dominators sa_immediateDominators sf_objectCount sf_roots sf_reachable ta_codes ta_numbers tf_count ta_brackets tf_bracketCount tf_place tf_inWhere tf_compared wa_rows wf_count wf_looks ++ z) (some (.int ur)) 0 0 := by
  refine hq_of (by decide) ?_ (Nat.le_of_ble_eq_true rfl)
  intro p e s m below meth c R args Q hRm hQ hx hb hr hml hts hown hlocks hnm hP hK hD ls hl hS
  have hl : lv_has ls 2 [(0, .ref (q 3)), (1, .int l1)] := hl
  have hown : s.vm.findClass "HeapQueries$Text" = some m.cls := hown
  unfold sxt_placeInSource at h
  refine lv_iload_n hx hb dxt_placeInSource_0 rfl (lv_at hl 1 rfl) ?_
  by_cases hk0 : l1 = 6
  · have h := (if_pos hk0).symm.trans h
    refine lv_tableIn (off := 34) (tgt := 35) hx hb dxt_placeInSource_1 (by rw [hk0]; decide) (by rw [hk0]; decide) (by rw [hk0]; rfl) (by decide) ?_
    refine lv_iconst (v := 0) hx hb dxt_placeInSource_35 (by decide) ?_
    exact hq_iret hx hb hr hlocks hQ hK hP hD hS (by rw [← h]) rfl dxt_placeInSource_36
  · have h := (if_neg hk0).symm.trans h
    by_cases hk1 : l1 = 7
    · have h := (if_pos hk1).symm.trans h
      refine lv_tableIn (off := 36) (tgt := 37) hx hb dxt_placeInSource_1 (by rw [hk1]; decide) (by rw [hk1]; decide) (by rw [hk1]; rfl) (by decide) ?_
      refine lv_iconst (v := (-1)) hx hb dxt_placeInSource_37 (by decide) ?_
      exact hq_iret hx hb hr hlocks hQ hK hP hD hS (by rw [← h]) rfl dxt_placeInSource_38
    · have h := (if_neg hk1).symm.trans h
      by_cases hk2 : l1 = 8
      · have h := (if_pos hk2).symm.trans h
        refine lv_tableIn (off := 31) (tgt := 32) hx hb dxt_placeInSource_1 (by rw [hk2]; decide) (by rw [hk2]; decide) (by rw [hk2]; rfl) (by decide) ?_
        refine lv_bipush (v := 7) hx hb dxt_placeInSource_32 (by decide) ?_
        exact hq_iret hx hb hr hlocks hQ hK hP hD hS (by rw [← h]) rfl dxt_placeInSource_34
      · have h := (if_neg hk2).symm.trans h
        by_cases hk3 : l1 = 9
        · have h := (if_pos hk3).symm.trans h
          refine lv_tableIn (off := 31) (tgt := 32) hx hb dxt_placeInSource_1 (by rw [hk3]; decide) (by rw [hk3]; decide) (by rw [hk3]; rfl) (by decide) ?_
          refine lv_bipush (v := 7) hx hb dxt_placeInSource_32 (by decide) ?_
          exact hq_iret hx hb hr hlocks hQ hK hP hD hS (by rw [← h]) rfl dxt_placeInSource_34
        · have h := (if_neg hk3).symm.trans h
          refine lv_tableOut (tgt := 37) hx hb dxt_placeInSource_1 (by have a0 := lv_neT (a := 6) hk0 (by decide); have a1 := lv_neT (a := 7) hk1 (by decide); have a2 := lv_neT (a := 8) hk2 (by decide); have a3 := lv_neT (a := 9) hk3 (by decide); omega) (by decide) ?_
          refine lv_iconst (v := (-1)) hx hb dxt_placeInSource_37 (by decide) ?_
          exact hq_iret hx hb hr hlocks hQ hK hP hD hS (by rw [← h]) rfl dxt_placeInSource_38
end
section
variable {p : Program} {l : Launch} {e : Env} {R : Room} {s : State} {m : MethodId} {args : Array Value} {below : List Frame} {meth : Method} {c : Code} {H H0 : Heap} {locs : List Loc} {cells slots : Nat} {Q : State → Prop}
variable {cc : ByteArray} {pc idx nC : Nat} {ls : Array Slot} {rest : List Value} {D : va_G} {A : Nat → Prop} {own : String} {q : Nat → Nat} {cI cZ cL : ClassId} {z w : va_W}
variable {hf_classCount hf_objectCount hf_roots hf_changed sf_objectCount sf_roots sf_reachable tf_count tf_bracketCount tf_place tf_inWhere tf_compared wf_count wf_looks n_code n_number s_isDistinct s_isRetained s_sourceClass s_withDescendants : Int32}
variable {ha_parents ha_classes ha_sizes sa_linkedFrom sa_linkCounts sa_retainedSets sa_retainedSizes sa_dominators sa_immediateDominators ta_codes ta_numbers ta_brackets : Nat → Int32}
variable {ha_fields wa_rows : Nat → Int64}
variable {xq_query n_left n_right s_row s_nested s_condition s_next : Option Nat}
variable {pa_n pk_n pa_s pk_s : Nat}
theorem kxt_placeInSource (l1 : Int32) (ur : Int32) (hu : sxt_placeInSource l1 = ur) (hx : p.tables.exec = Jvm.exec) (hb : c.code = cc) (hml : c.maxLocals = nC) (hts : ∀ x ∈ hq_tbl, x.before args s = true) (hown : s.vm.findClass own = some m.cls) (hK : va_K D hq_cl (hq_tys cI cZ cL) s) (hP : va_P D hq_cl (hx_w q cI cZ cL xq_query ha_parents hf_classCount ha_classes ha_sizes ha_fields hf_objectCount hf_roots hf_changed sa_linkedFrom sa_linkCounts sa_retainedSets sa_retainedSizes sa_dominators sa_immediateDominators sf_objectCount sf_roots sf_reachable ta_codes ta_numbers tf_count ta_brackets tf_bracketCount tf_place tf_inWhere tf_compared wa_rows wf_count wf_looks ++ z) H) (hD : va_D A (hx_w q cI cZ cL xq_query ha_parents hf_classCount ha_classes ha_sizes ha_fields hf_objectCount hf_roots hf_changed sa_linkedFrom sa_linkCounts sa_retainedSets sa_retainedSizes sa_dominators sa_immediateDominators sf_objectCount sf_roots sf_reachable ta_codes ta_numbers tf_count ta_brackets tf_bracketCount tf_place tf_inWhere tf_compared wa_rows wf_count wf_looks ++ z)) (hS : va_S A H0 H locs) (h1 : Cond.methodLink own idx yxt_placeInSource ∈ hq_tbl) (hR : 0 + 1 ≤ R.frames ∧ 8 + (2 + 11) + 0 ≤ R.locals) (hls : ls.size = nC) (hW : (rest.map fun v => v.category).sum ≤ 8) (hdg : decode cc pc = .ok (.invokevirtual idx, 3)) (hf : cells + 0 ≤ R.cells ∧ slots + 0 ≤ R.slots) (kk : ∀ (H1 : Heap) (locs1 : List Loc), va_P D hq_cl (hx_w q cI cZ cL xq_query ha_parents hf_classCount ha_classes ha_sizes ha_fields hf_objectCount hf_roots hf_changed sa_linkedFrom sa_linkCounts sa_retainedSets sa_retainedSizes sa_dominators sa_immediateDominators sf_objectCount sf_roots sf_reachable ta_codes ta_numbers tf_count ta_brackets tf_bracketCount tf_place tf_inWhere tf_compared wa_rows wf_count wf_looks ++ z) H1 → va_D A (hx_w q cI cZ cL xq_query ha_parents hf_classCount ha_classes ha_sizes ha_fields hf_objectCount hf_roots hf_changed sa_linkedFrom sa_linkCounts sa_retainedSets sa_retainedSizes sa_dominators sa_immediateDominators sf_objectCount sf_roots sf_reachable ta_codes ta_numbers tf_count ta_brackets tf_bracketCount tf_place tf_inWhere tf_compared wa_rows wf_count wf_looks ++ z) → va_S A H0 H1 locs1 → W p l e R s m args below meth c H1 locs1 cells slots Q (F0 m (pc + 3) ls (.int ur :: rest))) : W p l e R s m args below meth c H locs cells slots Q (F0 m pc ls (.int l1 :: .ref (q 3) :: rest)) :=
  hq_callV (q0 := 3) hx hb hml hown hts hK hP hD hS (cxt_placeInSource l1 ur hu) rfl rfl h1 wi_541 wi_542 wi_298 wi_543 1 rfl (by decide +kernel) ⟨rfl, rfl⟩ hR hls rfl hW hdg hf kk
end
theorem dxt_placeAfter_0 : decode bxt_placeAfter 0 = .ok (.aload_n 0, 1) := by decide +kernel
theorem dxt_placeAfter_1 : decode bxt_placeAfter 1 = .ok (.getfield 21, 3) := by decide +kernel
theorem dxt_placeAfter_4 : decode bxt_placeAfter 4 = .ok (.tableswitch 128 0 7 #[48, 58, 73, 79, 95, 101, 107, 113], 48) := by decide +kernel
theorem dxt_placeAfter_52 : decode bxt_placeAfter 52 = .ok (.iload_n 1, 1) := by decide +kernel
theorem dxt_placeAfter_53 : decode bxt_placeAfter 53 = .ok (.ifCond .ne 7, 3) := by decide +kernel
theorem dxt_placeAfter_56 : decode bxt_placeAfter 56 = .ok (.iconst 1, 1) := by decide +kernel
theorem dxt_placeAfter_57 : decode bxt_placeAfter 57 = .ok (.goto 4, 3) := by decide +kernel
theorem dxt_placeAfter_60 : decode bxt_placeAfter 60 = .ok (.iconst (-1), 1) := by decide +kernel
theorem dxt_placeAfter_61 : decode bxt_placeAfter 61 = .ok (.ireturn, 1) := by decide +kernel
theorem dxt_placeAfter_62 : decode bxt_placeAfter 62 = .ok (.iload_n 1, 1) := by decide +kernel
theorem dxt_placeAfter_63 : decode bxt_placeAfter 63 = .ok (.iconst 1, 1) := by decide +kernel
theorem dxt_placeAfter_64 : decode bxt_placeAfter 64 = .ok (.if_icmp .ne 7, 3) := by decide +kernel
theorem dxt_placeAfter_67 : decode bxt_placeAfter 67 = .ok (.iconst 2, 1) := by decide +kernel
theorem dxt_placeAfter_68 : decode bxt_placeAfter 68 = .ok (.goto 8, 3) := by decide +kernel
theorem dxt_placeAfter_71 : decode bxt_placeAfter 71 = .ok (.aload_n 0, 1) := by decide +kernel
theorem dxt_placeAfter_72 : decode bxt_placeAfter 72 = .ok (.iload_n 1, 1) := by decide +kernel
theorem dxt_placeAfter_73 : decode bxt_placeAfter 73 = .ok (.invokevirtual 39, 3) := by decide +kernel
theorem dxt_placeAfter_76 : decode bxt_placeAfter 76 = .ok (.ireturn, 1) := by decide +kernel
theorem dxt_placeAfter_77 : decode bxt_placeAfter 77 = .ok (.aload_n 0, 1) := by decide +kernel
theorem dxt_placeAfter_78 : decode bxt_placeAfter 78 = .ok (.iload_n 1, 1) := by decide +kernel
theorem dxt_placeAfter_79 : decode bxt_placeAfter 79 = .ok (.invokevirtual 39, 3) := by decide +kernel
theorem dxt_placeAfter_82 : decode bxt_placeAfter 82 = .ok (.ireturn, 1) := by decide +kernel
theorem dxt_placeAfter_83 : decode bxt_placeAfter 83 = .ok (.iload_n 1, 1) := by decide +kernel
theorem dxt_placeAfter_84 : decode bxt_placeAfter 84 = .ok (.bipush 17, 2) := by decide +kernel
theorem dxt_placeAfter_86 : decode bxt_placeAfter 86 = .ok (.if_icmp .ne 7, 3) := by decide +kernel
theorem dxt_placeAfter_89 : decode bxt_placeAfter 89 = .ok (.iconst 3, 1) := by decide +kernel
theorem dxt_placeAfter_90 : decode bxt_placeAfter 90 = .ok (.goto 8, 3) := by decide +kernel
theorem dxt_placeAfter_93 : decode bxt_placeAfter 93 = .ok (.aload_n 0, 1) := by decide +kernel
theorem dxt_placeAfter_94 : decode bxt_placeAfter 94 = .ok (.iload_n 1, 1) := by decide +kernel
theorem dxt_placeAfter_95 : decode bxt_placeAfter 95 = .ok (.invokevirtual 42, 3) := by decide +kernel
theorem dxt_placeAfter_98 : decode bxt_placeAfter 98 = .ok (.ireturn, 1) := by decide +kernel
theorem dxt_placeAfter_99 : decode bxt_placeAfter 99 = .ok (.aload_n 0, 1) := by decide +kernel
theorem dxt_placeAfter_100 : decode bxt_placeAfter 100 = .ok (.iload_n 1, 1) := by decide +kernel
theorem dxt_placeAfter_101 : decode bxt_placeAfter 101 = .ok (.invokevirtual 42, 3) := by decide +kernel
theorem dxt_placeAfter_104 : decode bxt_placeAfter 104 = .ok (.ireturn, 1) := by decide +kernel
theorem dxt_placeAfter_105 : decode bxt_placeAfter 105 = .ok (.aload_n 0, 1) := by decide +kernel
theorem dxt_placeAfter_106 : decode bxt_placeAfter 106 = .ok (.iload_n 1, 1) := by decide +kernel
theorem dxt_placeAfter_107 : decode bxt_placeAfter 107 = .ok (.invokevirtual 45, 3) := by decide +kernel
theorem dxt_placeAfter_110 : decode bxt_placeAfter 110 = .ok (.ireturn, 1) := by decide +kernel
theorem dxt_placeAfter_111 : decode bxt_placeAfter 111 = .ok (.aload_n 0, 1) := by decide +kernel
theorem dxt_placeAfter_112 : decode bxt_placeAfter 112 = .ok (.iload_n 1, 1) := by decide +kernel
theorem dxt_placeAfter_113 : decode bxt_placeAfter 113 = .ok (.invokevirtual 48, 3) := by decide +kernel
theorem dxt_placeAfter_116 : decode bxt_placeAfter 116 = .ok (.ireturn, 1) := by decide +kernel
theorem dxt_placeAfter_117 : decode bxt_placeAfter 117 = .ok (.iload_n 1, 1) := by decide +kernel
theorem dxt_placeAfter_118 : decode bxt_placeAfter 118 = .ok (.iconst 4, 1) := by decide +kernel
theorem dxt_placeAfter_119 : decode bxt_placeAfter 119 = .ok (.if_icmp .ne 7, 3) := by decide +kernel
theorem dxt_placeAfter_122 : decode bxt_placeAfter 122 = .ok (.iconst 3, 1) := by decide +kernel
theorem dxt_placeAfter_123 : decode bxt_placeAfter 123 = .ok (.goto 8, 3) := by decide +kernel
theorem dxt_placeAfter_126 : decode bxt_placeAfter 126 = .ok (.aload_n 0, 1) := by decide +kernel
theorem dxt_placeAfter_127 : decode bxt_placeAfter 127 = .ok (.iload_n 1, 1) := by decide +kernel
theorem dxt_placeAfter_128 : decode bxt_placeAfter 128 = .ok (.invokevirtual 51, 3) := by decide +kernel
theorem dxt_placeAfter_131 : decode bxt_placeAfter 131 = .ok (.ireturn, 1) := by decide +kernel
theorem dxt_placeAfter_132 : decode bxt_placeAfter 132 = .ok (.iconst (-1), 1) := by decide +kernel
theorem dxt_placeAfter_133 : decode bxt_placeAfter 133 = .ok (.ireturn, 1) := by decide +kernel
section
variable {l : Launch} {D : va_G} {A : Nat → Prop} {z w : va_W} {q : Nat → Nat} {cI cZ cL : ClassId}
variable {hf_classCount hf_objectCount hf_roots hf_changed sf_objectCount sf_roots sf_reachable tf_count tf_bracketCount tf_place tf_inWhere tf_compared wf_count wf_looks n_code n_number s_isDistinct s_isRetained s_sourceClass s_withDescendants : Int32}
variable {ha_parents ha_classes ha_sizes sa_linkedFrom sa_linkCounts sa_retainedSets sa_retainedSizes sa_dominators sa_immediateDominators ta_codes ta_numbers ta_brackets : Nat → Int32}
variable {ha_fields wa_rows : Nat → Int64}
variable {xq_query n_left n_right s_row s_nested s_condition s_next : Option Nat}
variable {pa_n pk_n pa_s pk_s : Nat}
set_option maxHeartbeats 4000000 in
set_option maxRecDepth 100000 in
theorem cxt_placeAfter (l1 : Int32) (ur : Int32) (h : sxt_placeAfter l1 ta_brackets tf_bracketCount tf_place tf_inWhere tf_compared = some ur) : hq_Ct l yxt_placeAfter bxt_placeAfter 2 (some .int) { frames := 3, cells := 0, slots := 0, locals := 63 } D (hq_tys cI cZ cL) A [.ref (q 3), .int l1] (hx_w q cI cZ cL xq_query ha_parents hf_classCount ha_classes ha_sizes ha_fields hf_objectCount hf_roots hf_changed sa_linkedFrom sa_linkCounts sa_retainedSets sa_retainedSizes sa_dominators sa_immediateDominators sf_objectCount sf_roots sf_reachable ta_codes ta_numbers tf_count ta_brackets tf_bracketCount tf_place tf_inWhere tf_compared wa_rows wf_count wf_looks ++ z) (hx_w q cI cZ cL xq_query ha_parents hf_classCount ha_classes ha_sizes ha_fields hf_objectCount hf_roots hf_changed sa_linkedFrom sa_linkCounts sa_retainedSets sa_retainedSizes sa_dominators sa_immediateDominators sf_objectCount sf_roots sf_reachable ta_codes ta_numbers tf_count ta_brackets tf_bracketCount tf_place tf_inWhere tf_compared wa_rows wf_count wf_looks ++ z) (some (.int ur)) 0 0 := by
  refine hq_of (by decide) ?_ (Nat.le_of_ble_eq_true rfl)
  intro p e s m below meth c R args Q hRm hQ hx hb hr hml hts hown hlocks hnm hP hK hD ls hl hS
  have hl : lv_has ls 2 [(0, .ref (q 3)), (1, .int l1)] := hl
  have hown : s.vm.findClass "HeapQueries$Text" = some m.cls := hown
  unfold sxt_placeAfter at h
  refine lv_aload_n hx hb dxt_placeAfter_0 rfl (lv_at hl 0 rfl) ?_
  refine gx_3_place hx hb hts hown hK hP wi_170 dxt_placeAfter_1 ?_
  by_cases hk0 : tf_place = 0
  · have h := (if_pos hk0).symm.trans h
    refine lv_tableIn (off := 48) (tgt := 52) hx hb dxt_placeAfter_4 (by rw [hk0]; decide) (by rw [hk0]; decide) (by rw [hk0]; rfl) (by decide) ?_
    refine lv_iload_n hx hb dxt_placeAfter_52 rfl (lv_at hl 1 rfl) ?_
    refine lv_if_ne (tgt := 60) hx hb dxt_placeAfter_53 (by decide) (fun hc => ?_) (fun hc => ?_)
    · have h := (if_neg hc).symm.trans h
      refine lv_iconst (v := (-1)) hx hb dxt_placeAfter_60 (by decide) ?_
      have h := Option.some.inj h
      exact hq_iret hx hb hr hlocks hQ hK hP hD hS (by rw [← h]) rfl dxt_placeAfter_61
    · have h := (if_pos hc).symm.trans h
      refine lv_iconst (v := 1) hx hb dxt_placeAfter_56 (by decide) ?_
      refine lv_goto (tgt := 61) hx hb dxt_placeAfter_57 (by decide) ?_
      have h := Option.some.inj h
      exact hq_iret hx hb hr hlocks hQ hK hP hD hS (by rw [← h]) rfl dxt_placeAfter_61
  · have h := (if_neg hk0).symm.trans h
    by_cases hk1 : tf_place = 1
    · have h := (if_pos hk1).symm.trans h
      refine lv_tableIn (off := 58) (tgt := 62) hx hb dxt_placeAfter_4 (by rw [hk1]; decide) (by rw [hk1]; decide) (by rw [hk1]; rfl) (by decide) ?_
      refine lv_iload_n hx hb dxt_placeAfter_62 rfl (lv_at hl 1 rfl) ?_
      refine lv_iconst (v := 1) hx hb dxt_placeAfter_63 (by decide) ?_
      refine lv_icmp_ne (tgt := 71) hx hb dxt_placeAfter_64 (by decide) (fun hc => ?_) (fun hc => ?_)
      · have h := (if_neg hc).symm.trans h
        refine lv_aload_n hx hb dxt_placeAfter_71 rfl (lv_at hl 0 rfl) ?_
        refine lv_iload_n hx hb dxt_placeAfter_72 rfl (lv_at hl 1 rfl) ?_
        refine kxt_placeAfterDistinct l1 (sxt_placeAfterDistinct l1) rfl hx hb hml hts hown hK hP hD hS wi_178 (by rw [hRm]; exact ⟨Nat.le_of_ble_eq_true rfl, Nat.le_of_ble_eq_true rfl⟩) hl.1 (Nat.le_of_ble_eq_true rfl) dxt_placeAfter_73 ⟨Nat.zero_le _, Nat.zero_le _⟩ (fun H locs hP hD hS => ?_)
        have h := Option.some.inj h
        exact hq_iret hx hb hr hlocks hQ hK hP hD hS (by rw [← h]) rfl dxt_placeAfter_76
      · have h := (if_pos hc).symm.trans h
        refine lv_iconst (v := 2) hx hb dxt_placeAfter_67 (by decide) ?_
        refine lv_goto (tgt := 76) hx hb dxt_placeAfter_68 (by decide) ?_
        have h := Option.some.inj h
        exact hq_iret hx hb hr hlocks hQ hK hP hD hS (by rw [← h]) rfl dxt_placeAfter_76
    · have h := (if_neg hk1).symm.trans h
      by_cases hk2 : tf_place = 2
      · have h := (if_pos hk2).symm.trans h
        refine lv_tableIn (off := 73) (tgt := 77) hx hb dxt_placeAfter_4 (by rw [hk2]; decide) (by rw [hk2]; decide) (by rw [hk2]; rfl) (by decide) ?_
        refine lv_aload_n hx hb dxt_placeAfter_77 rfl (lv_at hl 0 rfl) ?_
        refine lv_iload_n hx hb dxt_placeAfter_78 rfl (lv_at hl 1 rfl) ?_
        refine kxt_placeAfterDistinct l1 (sxt_placeAfterDistinct l1) rfl hx hb hml hts hown hK hP hD hS wi_178 (by rw [hRm]; exact ⟨Nat.le_of_ble_eq_true rfl, Nat.le_of_ble_eq_true rfl⟩) hl.1 (Nat.le_of_ble_eq_true rfl) dxt_placeAfter_79 ⟨Nat.zero_le _, Nat.zero_le _⟩ (fun H locs hP hD hS => ?_)
        have h := Option.some.inj h
        exact hq_iret hx hb hr hlocks hQ hK hP hD hS (by rw [← h]) rfl dxt_placeAfter_82
      · have h := (if_neg hk2).symm.trans h
        by_cases hk3 : tf_place = 3
        · have h := (if_pos hk3).symm.trans h
          refine lv_tableIn (off := 79) (tgt := 83) hx hb dxt_placeAfter_4 (by rw [hk3]; decide) (by rw [hk3]; decide) (by rw [hk3]; rfl) (by decide) ?_
          refine lv_iload_n hx hb dxt_placeAfter_83 rfl (lv_at hl 1 rfl) ?_
          refine lv_bipush (v := 17) hx hb dxt_placeAfter_84 (by decide) ?_
          refine lv_icmp_ne (tgt := 93) hx hb dxt_placeAfter_86 (by decide) (fun hc => ?_) (fun hc => ?_)
          · have h := (if_neg hc).symm.trans h
            refine lv_aload_n hx hb dxt_placeAfter_93 rfl (lv_at hl 0 rfl) ?_
            refine lv_iload_n hx hb dxt_placeAfter_94 rfl (lv_at hl 1 rfl) ?_
            refine kxt_placeInS l1 (sxt_placeInS l1) rfl hx hb hml hts hown hK hP hD hS wi_171 (by rw [hRm]; exact ⟨Nat.le_of_ble_eq_true rfl, Nat.le_of_ble_eq_true rfl⟩) hl.1 (Nat.le_of_ble_eq_true rfl) dxt_placeAfter_95 ⟨Nat.zero_le _, Nat.zero_le _⟩ (fun H locs hP hD hS => ?_)
            have h := Option.some.inj h
            exact hq_iret hx hb hr hlocks hQ hK hP hD hS (by rw [← h]) rfl dxt_placeAfter_98
          · have h := (if_pos hc).symm.trans h
            refine lv_iconst (v := 3) hx hb dxt_placeAfter_89 (by decide) ?_
            refine lv_goto (tgt := 98) hx hb dxt_placeAfter_90 (by decide) ?_
            have h := Option.some.inj h
            exact hq_iret hx hb hr hlocks hQ hK hP hD hS (by rw [← h]) rfl dxt_placeAfter_98
        · have h := (if_neg hk3).symm.trans h
          by_cases hk4 : tf_place = 4
          · have h := (if_pos hk4).symm.trans h
            refine lv_tableIn (off := 95) (tgt := 99) hx hb dxt_placeAfter_4 (by rw [hk4]; decide) (by rw [hk4]; decide) (by rw [hk4]; rfl) (by decide) ?_
            refine lv_aload_n hx hb dxt_placeAfter_99 rfl (lv_at hl 0 rfl) ?_
            refine lv_iload_n hx hb dxt_placeAfter_100 rfl (lv_at hl 1 rfl) ?_
            refine kxt_placeInS l1 (sxt_placeInS l1) rfl hx hb hml hts hown hK hP hD hS wi_171 (by rw [hRm]; exact ⟨Nat.le_of_ble_eq_true rfl, Nat.le_of_ble_eq_true rfl⟩) hl.1 (Nat.le_of_ble_eq_true rfl) dxt_placeAfter_101 ⟨Nat.zero_le _, Nat.zero_le _⟩ (fun H locs hP hD hS => ?_)
            have h := Option.some.inj h
            exact hq_iret hx hb hr hlocks hQ hK hP hD hS (by rw [← h]) rfl dxt_placeAfter_104
          · have h := (if_neg hk4).symm.trans h
            by_cases hk5 : tf_place = 5
            · have h := (if_pos hk5).symm.trans h
              refine lv_tableIn (off := 101) (tgt := 105) hx hb dxt_placeAfter_4 (by rw [hk5]; decide) (by rw [hk5]; decide) (by rw [hk5]; rfl) (by decide) ?_
              refine lv_aload_n hx hb dxt_placeAfter_105 rfl (lv_at hl 0 rfl) ?_
              refine lv_iload_n hx hb dxt_placeAfter_106 rfl (lv_at hl 1 rfl) ?_
              obtain ⟨v107, h107, h⟩ := hq_bind h
              refine kxt_placeAfterU l1 v107 h107 hx hb hml hts hown hK hP hD hS wi_179 (by rw [hRm]; exact ⟨Nat.le_of_ble_eq_true rfl, Nat.le_of_ble_eq_true rfl⟩) hl.1 (Nat.le_of_ble_eq_true rfl) dxt_placeAfter_107 ⟨Nat.zero_le _, Nat.zero_le _⟩ (fun H locs hP hD hS => ?_)
              have h := Option.some.inj h
              exact hq_iret hx hb hr hlocks hQ hK hP hD hS (by rw [← h]) rfl dxt_placeAfter_110
            · have h := (if_neg hk5).symm.trans h
              by_cases hk6 : tf_place = 6
              · have h := (if_pos hk6).symm.trans h
                refine lv_tableIn (off := 107) (tgt := 111) hx hb dxt_placeAfter_4 (by rw [hk6]; decide) (by rw [hk6]; decide) (by rw [hk6]; rfl) (by decide) ?_
                refine lv_aload_n hx hb dxt_placeAfter_111 rfl (lv_at hl 0 rfl) ?_
                refine lv_iload_n hx hb dxt_placeAfter_112 rfl (lv_at hl 1 rfl) ?_
                refine kxt_placeInSource l1 (sxt_placeInSource l1) rfl hx hb hml hts hown hK hP hD hS wi_180 (by rw [hRm]; exact ⟨Nat.le_of_ble_eq_true rfl, Nat.le_of_ble_eq_true rfl⟩) hl.1 (Nat.le_of_ble_eq_true rfl) dxt_placeAfter_113 ⟨Nat.zero_le _, Nat.zero_le _⟩ (fun H locs hP hD hS => ?_)
                have h := Option.some.inj h
                exact hq_iret hx hb hr hlocks hQ hK hP hD hS (by rw [← h]) rfl dxt_placeAfter_116
              · have h := (if_neg hk6).symm.trans h
                by_cases hk7 : tf_place = 7
                · have h := (if_pos hk7).symm.trans h
                  refine lv_tableIn (off := 113) (tgt := 117) hx hb dxt_placeAfter_4 (by rw [hk7]; decide) (by rw [hk7]; decide) (by rw [hk7]; rfl) (by decide) ?_
                  refine lv_iload_n hx hb dxt_placeAfter_117 rfl (lv_at hl 1 rfl) ?_
                  refine lv_iconst (v := 4) hx hb dxt_placeAfter_118 (by decide) ?_
                  refine lv_icmp_ne (tgt := 126) hx hb dxt_placeAfter_119 (by decide) (fun hc => ?_) (fun hc => ?_)
                  · have h := (if_neg hc).symm.trans h
                    refine lv_aload_n hx hb dxt_placeAfter_126 rfl (lv_at hl 0 rfl) ?_
                    refine lv_iload_n hx hb dxt_placeAfter_127 rfl (lv_at hl 1 rfl) ?_
                    refine kxt_placeAfterWholeSelect l1 (sxt_placeAfterWholeSelect l1 tf_bracketCount) rfl hx hb hml hts hown hK hP hD hS wi_175 (by rw [hRm]; exact ⟨Nat.le_of_ble_eq_true rfl, Nat.le_of_ble_eq_true rfl⟩) hl.1 (Nat.le_of_ble_eq_true rfl) dxt_placeAfter_128 ⟨Nat.zero_le _, Nat.zero_le _⟩ (fun H locs hP hD hS => ?_)
                    have h := Option.some.inj h
                    exact hq_iret hx hb hr hlocks hQ hK hP hD hS (by rw [← h]) rfl dxt_placeAfter_131
                  · have h := (if_pos hc).symm.trans h
                    refine lv_iconst (v := 3) hx hb dxt_placeAfter_122 (by decide) ?_
                    refine lv_goto (tgt := 131) hx hb dxt_placeAfter_123 (by decide) ?_
                    have h := Option.some.inj h
                    exact hq_iret hx hb hr hlocks hQ hK hP hD hS (by rw [← h]) rfl dxt_placeAfter_131
                · have h := (if_neg hk7).symm.trans h
                  refine lv_tableOut (tgt := 132) hx hb dxt_placeAfter_4 (by have a0 := lv_neT (a := 0) hk0 (by decide); have a1 := lv_neT (a := 1) hk1 (by decide); have a2 := lv_neT (a := 2) hk2 (by decide); have a3 := lv_neT (a := 3) hk3 (by decide); have a4 := lv_neT (a := 4) hk4 (by decide); have a5 := lv_neT (a := 5) hk5 (by decide); have a6 := lv_neT (a := 6) hk6 (by decide); have a7 := lv_neT (a := 7) hk7 (by decide); omega) (by decide) ?_
                  refine lv_iconst (v := (-1)) hx hb dxt_placeAfter_132 (by decide) ?_
                  have h := Option.some.inj h
                  exact hq_iret hx hb hr hlocks hQ hK hP hD hS (by rw [← h]) rfl dxt_placeAfter_133
end
section
variable {p : Program} {l : Launch} {e : Env} {R : Room} {s : State} {m : MethodId} {args : Array Value} {below : List Frame} {meth : Method} {c : Code} {H H0 : Heap} {locs : List Loc} {cells slots : Nat} {Q : State → Prop}
variable {cc : ByteArray} {pc idx nC : Nat} {ls : Array Slot} {rest : List Value} {D : va_G} {A : Nat → Prop} {own : String} {q : Nat → Nat} {cI cZ cL : ClassId} {z w : va_W}
variable {hf_classCount hf_objectCount hf_roots hf_changed sf_objectCount sf_roots sf_reachable tf_count tf_bracketCount tf_place tf_inWhere tf_compared wf_count wf_looks n_code n_number s_isDistinct s_isRetained s_sourceClass s_withDescendants : Int32}
variable {ha_parents ha_classes ha_sizes sa_linkedFrom sa_linkCounts sa_retainedSets sa_retainedSizes sa_dominators sa_immediateDominators ta_codes ta_numbers ta_brackets : Nat → Int32}
variable {ha_fields wa_rows : Nat → Int64}
variable {xq_query n_left n_right s_row s_nested s_condition s_next : Option Nat}
variable {pa_n pk_n pa_s pk_s : Nat}
theorem kxt_placeAfter (l1 : Int32) (ur : Int32) (hu : sxt_placeAfter l1 ta_brackets tf_bracketCount tf_place tf_inWhere tf_compared = some ur) (hx : p.tables.exec = Jvm.exec) (hb : c.code = cc) (hml : c.maxLocals = nC) (hts : ∀ x ∈ hq_tbl, x.before args s = true) (hown : s.vm.findClass own = some m.cls) (hK : va_K D hq_cl (hq_tys cI cZ cL) s) (hP : va_P D hq_cl (hx_w q cI cZ cL xq_query ha_parents hf_classCount ha_classes ha_sizes ha_fields hf_objectCount hf_roots hf_changed sa_linkedFrom sa_linkCounts sa_retainedSets sa_retainedSizes sa_dominators sa_immediateDominators sf_objectCount sf_roots sf_reachable ta_codes ta_numbers tf_count ta_brackets tf_bracketCount tf_place tf_inWhere tf_compared wa_rows wf_count wf_looks ++ z) H) (hD : va_D A (hx_w q cI cZ cL xq_query ha_parents hf_classCount ha_classes ha_sizes ha_fields hf_objectCount hf_roots hf_changed sa_linkedFrom sa_linkCounts sa_retainedSets sa_retainedSizes sa_dominators sa_immediateDominators sf_objectCount sf_roots sf_reachable ta_codes ta_numbers tf_count ta_brackets tf_bracketCount tf_place tf_inWhere tf_compared wa_rows wf_count wf_looks ++ z)) (hS : va_S A H0 H locs) (h1 : Cond.methodLink own idx yxt_placeAfter ∈ hq_tbl) (hR : 3 + 1 ≤ R.frames ∧ 8 + (2 + 11) + 63 ≤ R.locals) (hls : ls.size = nC) (hW : (rest.map fun v => v.category).sum ≤ 8) (hdg : decode cc pc = .ok (.invokevirtual idx, 3)) (hf : cells + 0 ≤ R.cells ∧ slots + 0 ≤ R.slots) (kk : ∀ (H1 : Heap) (locs1 : List Loc), va_P D hq_cl (hx_w q cI cZ cL xq_query ha_parents hf_classCount ha_classes ha_sizes ha_fields hf_objectCount hf_roots hf_changed sa_linkedFrom sa_linkCounts sa_retainedSets sa_retainedSizes sa_dominators sa_immediateDominators sf_objectCount sf_roots sf_reachable ta_codes ta_numbers tf_count ta_brackets tf_bracketCount tf_place tf_inWhere tf_compared wa_rows wf_count wf_looks ++ z) H1 → va_D A (hx_w q cI cZ cL xq_query ha_parents hf_classCount ha_classes ha_sizes ha_fields hf_objectCount hf_roots hf_changed sa_linkedFrom sa_linkCounts sa_retainedSets sa_retainedSizes sa_dominators sa_immediateDominators sf_objectCount sf_roots sf_reachable ta_codes ta_numbers tf_count ta_brackets tf_bracketCount tf_place tf_inWhere tf_compared wa_rows wf_count wf_looks ++ z) → va_S A H0 H1 locs1 → W p l e R s m args below meth c H1 locs1 cells slots Q (F0 m (pc + 3) ls (.int ur :: rest))) : W p l e R s m args below meth c H locs cells slots Q (F0 m pc ls (.int l1 :: .ref (q 3) :: rest)) :=
  hq_callV (q0 := 3) hx hb hml hown hts hK hP hD hS (cxt_placeAfter l1 ur hu) rfl rfl h1 wi_544 wi_545 wi_298 wi_546 1 rfl (by decide +kernel) ⟨rfl, rfl⟩ hR hls rfl hW hdg hf kk
end
theorem dxt_openBracket_0 : decode bxt_openBracket 0 = .ok (.aload_n 0, 1) := by decide +kernel
theorem dxt_openBracket_1 : decode bxt_openBracket 1 = .ok (.getfield 28, 3) := by decide +kernel
theorem dxt_openBracket_4 : decode bxt_openBracket 4 = .ok (.bipush 40, 2) := by decide +kernel
theorem dxt_openBracket_6 : decode bxt_openBracket 6 = .ok (.if_icmp .lt 4, 3) := by decide +kernel
theorem dxt_openBracket_9 : decode bxt_openBracket 9 = .ok (.return_, 1) := by decide +kernel
theorem dxt_openBracket_10 : decode bxt_openBracket 10 = .ok (.aload_n 0, 1) := by decide +kernel
theorem dxt_openBracket_11 : decode bxt_openBracket 11 = .ok (.getfield 54, 3) := by decide +kernel
theorem dxt_openBracket_14 : decode bxt_openBracket 14 = .ok (.ifCond .eq 7, 3) := by decide +kernel
theorem dxt_openBracket_17 : decode bxt_openBracket 17 = .ok (.iconst 2, 1) := by decide +kernel
theorem dxt_openBracket_18 : decode bxt_openBracket 18 = .ok (.goto 4, 3) := by decide +kernel
theorem dxt_openBracket_21 : decode bxt_openBracket 21 = .ok (.iconst 1, 1) := by decide +kernel
theorem dxt_openBracket_22 : decode bxt_openBracket 22 = .ok (.istore_n 1, 1) := by decide +kernel
theorem dxt_openBracket_23 : decode bxt_openBracket 23 = .ok (.aload_n 0, 1) := by decide +kernel
theorem dxt_openBracket_24 : decode bxt_openBracket 24 = .ok (.getfield 18, 3) := by decide +kernel
theorem dxt_openBracket_27 : decode bxt_openBracket 27 = .ok (.aload_n 0, 1) := by decide +kernel
theorem dxt_openBracket_28 : decode bxt_openBracket 28 = .ok (.getfield 28, 3) := by decide +kernel
theorem dxt_openBracket_31 : decode bxt_openBracket 31 = .ok (.aload_n 0, 1) := by decide +kernel
theorem dxt_openBracket_32 : decode bxt_openBracket 32 = .ok (.getfield 21, 3) := by decide +kernel
theorem dxt_openBracket_35 : decode bxt_openBracket 35 = .ok (.bipush 6, 2) := by decide +kernel
theorem dxt_openBracket_37 : decode bxt_openBracket 37 = .ok (.if_icmp .ne 7, 3) := by decide +kernel
theorem dxt_openBracket_40 : decode bxt_openBracket 40 = .ok (.iconst 0, 1) := by decide +kernel
theorem dxt_openBracket_41 : decode bxt_openBracket 41 = .ok (.goto 4, 3) := by decide +kernel
theorem dxt_openBracket_44 : decode bxt_openBracket 44 = .ok (.iload_n 1, 1) := by decide +kernel
theorem dxt_openBracket_45 : decode bxt_openBracket 45 = .ok (.iastore, 1) := by decide +kernel
theorem dxt_openBracket_46 : decode bxt_openBracket 46 = .ok (.aload_n 0, 1) := by decide +kernel
theorem dxt_openBracket_47 : decode bxt_openBracket 47 = .ok (.dup, 1) := by decide +kernel
theorem dxt_openBracket_48 : decode bxt_openBracket 48 = .ok (.getfield 28, 3) := by decide +kernel
theorem dxt_openBracket_51 : decode bxt_openBracket 51 = .ok (.iconst 1, 1) := by decide +kernel
theorem dxt_openBracket_52 : decode bxt_openBracket 52 = .ok (.iadd, 1) := by decide +kernel
theorem dxt_openBracket_53 : decode bxt_openBracket 53 = .ok (.putfield 28, 3) := by decide +kernel
theorem dxt_openBracket_56 : decode bxt_openBracket 56 = .ok (.aload_n 0, 1) := by decide +kernel
theorem dxt_openBracket_57 : decode bxt_openBracket 57 = .ok (.iconst 0, 1) := by decide +kernel
theorem dxt_openBracket_58 : decode bxt_openBracket 58 = .ok (.putfield 54, 3) := by decide +kernel
theorem dxt_openBracket_61 : decode bxt_openBracket 61 = .ok (.return_, 1) := by decide +kernel
section
variable {l : Launch} {D : va_G} {A : Nat → Prop} {z w : va_W} {q : Nat → Nat} {cI cZ cL : ClassId}
variable {hf_classCount hf_objectCount hf_roots hf_changed sf_objectCount sf_roots sf_reachable tf_count tf_bracketCount tf_place tf_inWhere tf_compared wf_count wf_looks n_code n_number s_isDistinct s_isRetained s_sourceClass s_withDescendants : Int32}
variable {ha_parents ha_classes ha_sizes sa_linkedFrom sa_linkCounts sa_retainedSets sa_retainedSizes sa_dominators sa_immediateDominators ta_codes ta_numbers ta_brackets : Nat → Int32}
variable {ha_fields wa_rows : Nat → Int64}
variable {xq_query n_left n_right s_row s_nested s_condition s_next : Option Nat}
variable {pa_n pk_n pa_s pk_s : Nat}
set_option maxHeartbeats 4000000 in
set_option maxRecDepth 100000 in
theorem cxt_openBracket  (ur : (Nat → Int32) × Int32 × Int32) (h : sxt_openBracket ta_brackets tf_bracketCount tf_place tf_compared = some ur) : hq_Ct l yxt_openBracket bxt_openBracket 2 none { frames := 0, cells := 0, slots := 0, locals := 0 } D (hq_tys cI cZ cL) A [.ref (q 3)] (hx_w q cI cZ cL xq_query ha_parents hf_classCount ha_classes ha_sizes ha_fields hf_objectCount hf_roots hf_changed sa_linkedFrom sa_linkCounts sa_retainedSets sa_retainedSizes sa_dominators sa_immediateDominators sf_objectCount sf_roots sf_reachable ta_codes ta_numbers tf_count ta_brackets tf_bracketCount tf_place tf_inWhere tf_compared wa_rows wf_count wf_looks ++ z) (hx_w q cI cZ cL xq_query ha_parents hf_classCount ha_classes ha_sizes ha_fields hf_objectCount hf_roots hf_changed sa_linkedFrom sa_linkCounts sa_retainedSets sa_retainedSizes sa_dominators sa_immediateDominators sf_objectCount sf_roots sf_reachable ta_codes ta_numbers tf_count ur.1 ur.2.1 tf_place tf_inWhere ur.2.2 wa_rows wf_count wf_looks ++ z) none 0 0 := by
  refine hq_of (by decide) ?_ (Nat.le_of_ble_eq_true rfl)
  intro p e s m below meth c R args Q hRm hQ hx hb hr hml hts hown hlocks hnm hP hK hD ls hl hS
  have hl : lv_has ls 2 [(0, .ref (q 3))] := hl
  have hown : s.vm.findClass "HeapQueries$Text" = some m.cls := hown
  unfold sxt_openBracket at h
  have J45 : ∀ (s1 : Int32) (s2 : Int32) {ta_brackets : Nat → Int32} {tf_bracketCount : Int32} {tf_compared : Int32} {ls : Array Slot} {H : Heap} {locs : List Loc}, lv_has ls 2 [(0, .ref (q 3))] → va_P D hq_cl (hx_w q cI cZ cL xq_query ha_parents hf_classCount ha_classes ha_sizes ha_fields hf_objectCount hf_roots hf_changed sa_linkedFrom sa_linkCounts sa_retainedSets sa_retainedSizes sa_dominators sa_immediateDominators sf_objectCount sf_roots sf_reachable ta_codes ta_numbers tf_count ta_brackets tf_bracketCount tf_place tf_inWhere tf_compared wa_rows wf_count wf_looks ++ z) H → va_D A (hx_w q cI cZ cL xq_query ha_parents hf_classCount ha_classes ha_sizes ha_fields hf_objectCount hf_roots hf_changed sa_linkedFrom sa_linkCounts sa_retainedSets sa_retainedSizes sa_dominators sa_immediateDominators sf_objectCount sf_roots sf_reachable ta_codes ta_numbers tf_count ta_brackets tf_bracketCount tf_place tf_inWhere tf_compared wa_rows wf_count wf_looks ++ z) → va_S A s.heap H locs → sxt_openBracket_J45 s1 s2 ta_brackets tf_bracketCount tf_place tf_compared = some ur → W p l e R s m args below meth c H locs 0 0 Q (F0 m 45 ls [.int s2, .int s1, .ref (q 17)]) := by
    intro s1 s2 ta_brackets tf_bracketCount tf_compared ls H locs hl hP hD hS h
    unfold sxt_openBracket_J45 at h
    obtain ⟨hin, h⟩ := hq_idx h
    refine tx_17 hx hb hK hP hD hS hin dxt_openBracket_45 (fun H locs hP hD hS => ?_)
    refine lv_aload_n hx hb dxt_openBracket_46 rfl (lv_at hl 0 rfl) ?_
    refine lv_dup hx hb dxt_openBracket_47 rfl ?_
    refine gx_3_bracketCount hx hb hts hown hK hP wi_54 dxt_openBracket_48 ?_
    refine lv_iconst (v := 1) hx hb dxt_openBracket_51 (by decide) ?_
    refine lv_iadd hx hb dxt_openBracket_52 ?_
    refine px_3_bracketCount hx hb hts hown hK hP hD hS wi_54 dxt_openBracket_53 (fun H locs hP hD hS => ?_)
    refine lv_aload_n hx hb dxt_openBracket_56 rfl (lv_at hl 0 rfl) ?_
    refine lv_iconst (v := 0) hx hb dxt_openBracket_57 (by decide) ?_
    refine px_3_compared hx hb hts hown hK hP hD hS wi_176 (by decide) dxt_openBracket_58 (fun H locs hP hD hS => ?_)
    have h := Option.some.inj h
    exact hq_vret hx hb hr hlocks hQ hK hP hD hS rfl (by rw [← h]) dxt_openBracket_61
  have J22 : ∀ (s0 : Int32) {ta_brackets : Nat → Int32} {tf_bracketCount : Int32} {tf_compared : Int32} {ls : Array Slot} {H : Heap} {locs : List Loc}, lv_has ls 2 [(0, .ref (q 3))] → va_P D hq_cl (hx_w q cI cZ cL xq_query ha_parents hf_classCount ha_classes ha_sizes ha_fields hf_objectCount hf_roots hf_changed sa_linkedFrom sa_linkCounts sa_retainedSets sa_retainedSizes sa_dominators sa_immediateDominators sf_objectCount sf_roots sf_reachable ta_codes ta_numbers tf_count ta_brackets tf_bracketCount tf_place tf_inWhere tf_compared wa_rows wf_count wf_looks ++ z) H → va_D A (hx_w q cI cZ cL xq_query ha_parents hf_classCount ha_classes ha_sizes ha_fields hf_objectCount hf_roots hf_changed sa_linkedFrom sa_linkCounts sa_retainedSets sa_retainedSizes sa_dominators sa_immediateDominators sf_objectCount sf_roots sf_reachable ta_codes ta_numbers tf_count ta_brackets tf_bracketCount tf_place tf_inWhere tf_compared wa_rows wf_count wf_looks ++ z) → va_S A s.heap H locs → sxt_openBracket_J22 s0 ta_brackets tf_bracketCount tf_place tf_compared = some ur → W p l e R s m args below meth c H locs 0 0 Q (F0 m 22 ls [.int s0]) := by
    intro s0 ta_brackets tf_bracketCount tf_compared ls H locs hl hP hD hS h
    unfold sxt_openBracket_J22 at h
    refine lv_istore_n (lv' := [(1, .int s0), (0, .ref (q 3))]) hx hb dxt_openBracket_22 rfl hl (by decide) rfl (fun ls hl => ?_)
    refine lv_aload_n hx hb dxt_openBracket_23 rfl (lv_at hl 1 rfl) ?_
    refine gx_3_brackets hx hb hts hown hK hP wi_172 dxt_openBracket_24 ?_
    refine lv_aload_n hx hb dxt_openBracket_27 rfl (lv_at hl 1 rfl) ?_
    refine gx_3_bracketCount hx hb hts hown hK hP wi_54 dxt_openBracket_28 ?_
    refine lv_aload_n hx hb dxt_openBracket_31 rfl (lv_at hl 1 rfl) ?_
    refine gx_3_place hx hb hts hown hK hP wi_170 dxt_openBracket_32 ?_
    refine lv_bipush (v := 6) hx hb dxt_openBracket_35 (by decide) ?_
    refine lv_icmp_ne (tgt := 44) hx hb dxt_openBracket_37 (by decide) (fun hc => ?_) (fun hc => ?_)
    · have h := (if_neg hc).symm.trans h
      refine lv_iload_n hx hb dxt_openBracket_44 rfl (lv_at hl 0 rfl) ?_
      exact J45 tf_bracketCount s0 (lv_sub hl [1] rfl) hP hD hS h
    · have h := (if_pos hc).symm.trans h
      refine lv_iconst (v := 0) hx hb dxt_openBracket_40 (by decide) ?_
      refine lv_goto (tgt := 45) hx hb dxt_openBracket_41 (by decide) ?_
      exact J45 tf_bracketCount 0 (lv_sub hl [1] rfl) hP hD hS h
  refine lv_aload_n hx hb dxt_openBracket_0 rfl (lv_at hl 0 rfl) ?_
  refine gx_3_bracketCount hx hb hts hown hK hP wi_54 dxt_openBracket_1 ?_
  refine lv_bipush (v := 40) hx hb dxt_openBracket_4 (by decide) ?_
  refine lv_icmp_lt (tgt := 10) hx hb dxt_openBracket_6 (by decide) (fun hc => ?_) (fun hc => ?_)
  · have h := (if_pos hc).symm.trans h
    refine lv_aload_n hx hb dxt_openBracket_10 rfl (lv_at hl 0 rfl) ?_
    refine gx_3_compared hx hb hts hown hK hP wi_176 dxt_openBracket_11 ?_
    refine lv_if_eq (tgt := 21) hx hb dxt_openBracket_14 (by decide) (fun hc => ?_) (fun hc => ?_)
    · have h := (if_pos hc).symm.trans h
      refine lv_iconst (v := 1) hx hb dxt_openBracket_21 (by decide) ?_
      exact J22 1 hl hP hD hS h
    · have h := (if_neg hc).symm.trans h
      refine lv_iconst (v := 2) hx hb dxt_openBracket_17 (by decide) ?_
      refine lv_goto (tgt := 22) hx hb dxt_openBracket_18 (by decide) ?_
      exact J22 2 hl hP hD hS h
  · have h := (if_neg hc).symm.trans h
    have h := Option.some.inj h
    exact hq_vret hx hb hr hlocks hQ hK hP hD hS rfl (by rw [← h]) dxt_openBracket_9
end
section
variable {p : Program} {l : Launch} {e : Env} {R : Room} {s : State} {m : MethodId} {args : Array Value} {below : List Frame} {meth : Method} {c : Code} {H H0 : Heap} {locs : List Loc} {cells slots : Nat} {Q : State → Prop}
variable {cc : ByteArray} {pc idx nC : Nat} {ls : Array Slot} {rest : List Value} {D : va_G} {A : Nat → Prop} {own : String} {q : Nat → Nat} {cI cZ cL : ClassId} {z w : va_W}
variable {hf_classCount hf_objectCount hf_roots hf_changed sf_objectCount sf_roots sf_reachable tf_count tf_bracketCount tf_place tf_inWhere tf_compared wf_count wf_looks n_code n_number s_isDistinct s_isRetained s_sourceClass s_withDescendants : Int32}
variable {ha_parents ha_classes ha_sizes sa_linkedFrom sa_linkCounts sa_retainedSets sa_retainedSizes sa_dominators sa_immediateDominators ta_codes ta_numbers ta_brackets : Nat → Int32}
variable {ha_fields wa_rows : Nat → Int64}
variable {xq_query n_left n_right s_row s_nested s_condition s_next : Option Nat}
variable {pa_n pk_n pa_s pk_s : Nat}
theorem kxt_openBracket  (ur : (Nat → Int32) × Int32 × Int32) (hu : sxt_openBracket ta_brackets tf_bracketCount tf_place tf_compared = some ur) (hx : p.tables.exec = Jvm.exec) (hb : c.code = cc) (hml : c.maxLocals = nC) (hts : ∀ x ∈ hq_tbl, x.before args s = true) (hown : s.vm.findClass own = some m.cls) (hK : va_K D hq_cl (hq_tys cI cZ cL) s) (hP : va_P D hq_cl (hx_w q cI cZ cL xq_query ha_parents hf_classCount ha_classes ha_sizes ha_fields hf_objectCount hf_roots hf_changed sa_linkedFrom sa_linkCounts sa_retainedSets sa_retainedSizes sa_dominators sa_immediateDominators sf_objectCount sf_roots sf_reachable ta_codes ta_numbers tf_count ta_brackets tf_bracketCount tf_place tf_inWhere tf_compared wa_rows wf_count wf_looks ++ z) H) (hD : va_D A (hx_w q cI cZ cL xq_query ha_parents hf_classCount ha_classes ha_sizes ha_fields hf_objectCount hf_roots hf_changed sa_linkedFrom sa_linkCounts sa_retainedSets sa_retainedSizes sa_dominators sa_immediateDominators sf_objectCount sf_roots sf_reachable ta_codes ta_numbers tf_count ta_brackets tf_bracketCount tf_place tf_inWhere tf_compared wa_rows wf_count wf_looks ++ z)) (hS : va_S A H0 H locs) (h1 : Cond.methodLink own idx yxt_openBracket ∈ hq_tbl) (hR : 0 + 1 ≤ R.frames ∧ 8 + (2 + 11) + 0 ≤ R.locals) (hls : ls.size = nC) (hW : (rest.map fun v => v.category).sum ≤ 8) (hdg : decode cc pc = .ok (.invokevirtual idx, 3)) (hf : cells + 0 ≤ R.cells ∧ slots + 0 ≤ R.slots) (kk : ∀ (H1 : Heap) (locs1 : List Loc), va_P D hq_cl (hx_w q cI cZ cL xq_query ha_parents hf_classCount ha_classes ha_sizes ha_fields hf_objectCount hf_roots hf_changed sa_linkedFrom sa_linkCounts sa_retainedSets sa_retainedSizes sa_dominators sa_immediateDominators sf_objectCount sf_roots sf_reachable ta_codes ta_numbers tf_count ur.1 ur.2.1 tf_place tf_inWhere ur.2.2 wa_rows wf_count wf_looks ++ z) H1 → va_D A (hx_w q cI cZ cL xq_query ha_parents hf_classCount ha_classes ha_sizes ha_fields hf_objectCount hf_roots hf_changed sa_linkedFrom sa_linkCounts sa_retainedSets sa_retainedSizes sa_dominators sa_immediateDominators sf_objectCount sf_roots sf_reachable ta_codes ta_numbers tf_count ur.1 ur.2.1 tf_place tf_inWhere ur.2.2 wa_rows wf_count wf_looks ++ z) → va_S A H0 H1 locs1 → W p l e R s m args below meth c H1 locs1 cells slots Q (F0 m (pc + 3) ls (rest))) : W p l e R s m args below meth c H locs cells slots Q (F0 m pc ls (.ref (q 3) :: rest)) :=
  hq_callV (q0 := 3) hx hb hml hown hts hK hP hD hS (cxt_openBracket  ur hu) rfl rfl h1 wi_547 wi_548 wi_298 wi_549 0 rfl (by decide +kernel) ⟨rfl, rfl⟩ hR hls rfl hW hdg hf kk
end
theorem dxt_closeBracket_0 : decode bxt_closeBracket 0 = .ok (.aload_n 0, 1) := by decide +kernel
theorem dxt_closeBracket_1 : decode bxt_closeBracket 1 = .ok (.getfield 28, 3) := by decide +kernel
theorem dxt_closeBracket_4 : decode bxt_closeBracket 4 = .ok (.ifCond .gt 4, 3) := by decide +kernel
theorem dxt_closeBracket_7 : decode bxt_closeBracket 7 = .ok (.return_, 1) := by decide +kernel
theorem dxt_closeBracket_8 : decode bxt_closeBracket 8 = .ok (.aload_n 0, 1) := by decide +kernel
theorem dxt_closeBracket_9 : decode bxt_closeBracket 9 = .ok (.dup, 1) := by decide +kernel
theorem dxt_closeBracket_10 : decode bxt_closeBracket 10 = .ok (.getfield 28, 3) := by decide +kernel
theorem dxt_closeBracket_13 : decode bxt_closeBracket 13 = .ok (.iconst 1, 1) := by decide +kernel
theorem dxt_closeBracket_14 : decode bxt_closeBracket 14 = .ok (.isub, 1) := by decide +kernel
theorem dxt_closeBracket_15 : decode bxt_closeBracket 15 = .ok (.putfield 28, 3) := by decide +kernel
theorem dxt_closeBracket_18 : decode bxt_closeBracket 18 = .ok (.aload_n 0, 1) := by decide +kernel
theorem dxt_closeBracket_19 : decode bxt_closeBracket 19 = .ok (.aload_n 0, 1) := by decide +kernel
theorem dxt_closeBracket_20 : decode bxt_closeBracket 20 = .ok (.getfield 18, 3) := by decide +kernel
theorem dxt_closeBracket_23 : decode bxt_closeBracket 23 = .ok (.aload_n 0, 1) := by decide +kernel
theorem dxt_closeBracket_24 : decode bxt_closeBracket 24 = .ok (.getfield 28, 3) := by decide +kernel
theorem dxt_closeBracket_27 : decode bxt_closeBracket 27 = .ok (.iaload, 1) := by decide +kernel
theorem dxt_closeBracket_28 : decode bxt_closeBracket 28 = .ok (.iconst 2, 1) := by decide +kernel
theorem dxt_closeBracket_29 : decode bxt_closeBracket 29 = .ok (.if_icmp .ne 7, 3) := by decide +kernel
theorem dxt_closeBracket_32 : decode bxt_closeBracket 32 = .ok (.iconst 1, 1) := by decide +kernel
theorem dxt_closeBracket_33 : decode bxt_closeBracket 33 = .ok (.goto 4, 3) := by decide +kernel
theorem dxt_closeBracket_36 : decode bxt_closeBracket 36 = .ok (.iconst 0, 1) := by decide +kernel
theorem dxt_closeBracket_37 : decode bxt_closeBracket 37 = .ok (.putfield 54, 3) := by decide +kernel
theorem dxt_closeBracket_40 : decode bxt_closeBracket 40 = .ok (.return_, 1) := by decide +kernel
section
variable {l : Launch} {D : va_G} {A : Nat → Prop} {z w : va_W} {q : Nat → Nat} {cI cZ cL : ClassId}
variable {hf_classCount hf_objectCount hf_roots hf_changed sf_objectCount sf_roots sf_reachable tf_count tf_bracketCount tf_place tf_inWhere tf_compared wf_count wf_looks n_code n_number s_isDistinct s_isRetained s_sourceClass s_withDescendants : Int32}
variable {ha_parents ha_classes ha_sizes sa_linkedFrom sa_linkCounts sa_retainedSets sa_retainedSizes sa_dominators sa_immediateDominators ta_codes ta_numbers ta_brackets : Nat → Int32}
variable {ha_fields wa_rows : Nat → Int64}
variable {xq_query n_left n_right s_row s_nested s_condition s_next : Option Nat}
variable {pa_n pk_n pa_s pk_s : Nat}
set_option maxHeartbeats 4000000 in
set_option maxRecDepth 100000 in
theorem cxt_closeBracket  (ur : Int32 × Int32) (h : sxt_closeBracket ta_brackets tf_bracketCount tf_compared = some ur) : hq_Ct l yxt_closeBracket bxt_closeBracket 1 none { frames := 0, cells := 0, slots := 0, locals := 0 } D (hq_tys cI cZ cL) A [.ref (q 3)] (hx_w q cI cZ cL xq_query ha_parents hf_classCount ha_classes ha_sizes ha_fields hf_objectCount hf_roots hf_changed sa_linkedFrom sa_linkCounts sa_retainedSets sa_retainedSizes sa_dominators sa_immediateDominators sf_objectCount sf_roots sf_reachable ta_codes ta_numbers tf_count ta_brackets tf_bracketCount tf_place tf_inWhere tf_compared wa_rows wf_count wf_looks ++ z) (hx_w q cI cZ cL xq_query ha_parents hf_classCount ha_classes ha_sizes ha_fields hf_objectCount hf_roots hf_changed sa_linkedFrom sa_linkCounts sa_retainedSets sa_retainedSizes sa_dominators sa_immediateDominators sf_objectCount sf_roots sf_reachable ta_codes ta_numbers tf_count ta_brackets ur.1 tf_place tf_inWhere ur.2 wa_rows wf_count wf_looks ++ z) none 0 0 := by
  refine hq_of (by decide) ?_ (Nat.le_of_ble_eq_true rfl)
  intro p e s m below meth c R args Q hRm hQ hx hb hr hml hts hown hlocks hnm hP hK hD ls hl hS
  have hl : lv_has ls 1 [(0, .ref (q 3))] := hl
  have hown : s.vm.findClass "HeapQueries$Text" = some m.cls := hown
  unfold sxt_closeBracket at h
  refine lv_aload_n hx hb dxt_closeBracket_0 rfl (lv_at hl 0 rfl) ?_
  refine gx_3_bracketCount hx hb hts hown hK hP wi_54 dxt_closeBracket_1 ?_
  refine lv_if_gt (tgt := 8) hx hb dxt_closeBracket_4 (by decide) (fun hc => ?_) (fun hc => ?_)
  · have h := (if_pos hc).symm.trans h
    refine lv_aload_n hx hb dxt_closeBracket_8 rfl (lv_at hl 0 rfl) ?_
    refine lv_dup hx hb dxt_closeBracket_9 rfl ?_
    refine gx_3_bracketCount hx hb hts hown hK hP wi_54 dxt_closeBracket_10 ?_
    refine lv_iconst (v := 1) hx hb dxt_closeBracket_13 (by decide) ?_
    refine lv_isub hx hb dxt_closeBracket_14 ?_
    refine px_3_bracketCount hx hb hts hown hK hP hD hS wi_54 dxt_closeBracket_15 (fun H locs hP hD hS => ?_)
    refine lv_aload_n hx hb dxt_closeBracket_18 rfl (lv_at hl 0 rfl) ?_
    refine lv_aload_n hx hb dxt_closeBracket_19 rfl (lv_at hl 0 rfl) ?_
    refine gx_3_brackets hx hb hts hown hK hP wi_172 dxt_closeBracket_20 ?_
    refine lv_aload_n hx hb dxt_closeBracket_23 rfl (lv_at hl 0 rfl) ?_
    refine gx_3_bracketCount hx hb hts hown hK hP wi_54 dxt_closeBracket_24 ?_
    obtain ⟨hin, h⟩ := hq_idx h
    refine ax_17 hx hb hK hP hin dxt_closeBracket_27 ?_
    refine lv_iconst (v := 2) hx hb dxt_closeBracket_28 (by decide) ?_
    refine lv_icmp_ne (tgt := 36) hx hb dxt_closeBracket_29 (by decide) (fun hc => ?_) (fun hc => ?_)
    · have h := (if_neg hc).symm.trans h
      refine lv_iconst (v := 0) hx hb dxt_closeBracket_36 (by decide) ?_
      refine px_3_compared hx hb hts hown hK hP hD hS wi_176 (by decide) dxt_closeBracket_37 (fun H locs hP hD hS => ?_)
      have h := Option.some.inj h
      exact hq_vret hx hb hr hlocks hQ hK hP hD hS rfl (by rw [← h]) dxt_closeBracket_40
    · have h := (if_pos hc).symm.trans h
      refine lv_iconst (v := 1) hx hb dxt_closeBracket_32 (by decide) ?_
      refine lv_goto (tgt := 37) hx hb dxt_closeBracket_33 (by decide) ?_
      refine px_3_compared hx hb hts hown hK hP hD hS wi_176 (by decide) dxt_closeBracket_37 (fun H locs hP hD hS => ?_)
      have h := Option.some.inj h
      exact hq_vret hx hb hr hlocks hQ hK hP hD hS rfl (by rw [← h]) dxt_closeBracket_40
  · have h := (if_neg hc).symm.trans h
    have h := Option.some.inj h
    exact hq_vret hx hb hr hlocks hQ hK hP hD hS rfl (by rw [← h]) dxt_closeBracket_7
end
section
variable {p : Program} {l : Launch} {e : Env} {R : Room} {s : State} {m : MethodId} {args : Array Value} {below : List Frame} {meth : Method} {c : Code} {H H0 : Heap} {locs : List Loc} {cells slots : Nat} {Q : State → Prop}
variable {cc : ByteArray} {pc idx nC : Nat} {ls : Array Slot} {rest : List Value} {D : va_G} {A : Nat → Prop} {own : String} {q : Nat → Nat} {cI cZ cL : ClassId} {z w : va_W}
variable {hf_classCount hf_objectCount hf_roots hf_changed sf_objectCount sf_roots sf_reachable tf_count tf_bracketCount tf_place tf_inWhere tf_compared wf_count wf_looks n_code n_number s_isDistinct s_isRetained s_sourceClass s_withDescendants : Int32}
variable {ha_parents ha_classes ha_sizes sa_linkedFrom sa_linkCounts sa_retainedSets sa_retainedSizes sa_dominators sa_immediateDominators ta_codes ta_numbers ta_brackets : Nat → Int32}
variable {ha_fields wa_rows : Nat → Int64}
variable {xq_query n_left n_right s_row s_nested s_condition s_next : Option Nat}
variable {pa_n pk_n pa_s pk_s : Nat}
theorem kxt_closeBracket  (ur : Int32 × Int32) (hu : sxt_closeBracket ta_brackets tf_bracketCount tf_compared = some ur) (hx : p.tables.exec = Jvm.exec) (hb : c.code = cc) (hml : c.maxLocals = nC) (hts : ∀ x ∈ hq_tbl, x.before args s = true) (hown : s.vm.findClass own = some m.cls) (hK : va_K D hq_cl (hq_tys cI cZ cL) s) (hP : va_P D hq_cl (hx_w q cI cZ cL xq_query ha_parents hf_classCount ha_classes ha_sizes ha_fields hf_objectCount hf_roots hf_changed sa_linkedFrom sa_linkCounts sa_retainedSets sa_retainedSizes sa_dominators sa_immediateDominators sf_objectCount sf_roots sf_reachable ta_codes ta_numbers tf_count ta_brackets tf_bracketCount tf_place tf_inWhere tf_compared wa_rows wf_count wf_looks ++ z) H) (hD : va_D A (hx_w q cI cZ cL xq_query ha_parents hf_classCount ha_classes ha_sizes ha_fields hf_objectCount hf_roots hf_changed sa_linkedFrom sa_linkCounts sa_retainedSets sa_retainedSizes sa_dominators sa_immediateDominators sf_objectCount sf_roots sf_reachable ta_codes ta_numbers tf_count ta_brackets tf_bracketCount tf_place tf_inWhere tf_compared wa_rows wf_count wf_looks ++ z)) (hS : va_S A H0 H locs) (h1 : Cond.methodLink own idx yxt_closeBracket ∈ hq_tbl) (hR : 0 + 1 ≤ R.frames ∧ 8 + (1 + 11) + 0 ≤ R.locals) (hls : ls.size = nC) (hW : (rest.map fun v => v.category).sum ≤ 8) (hdg : decode cc pc = .ok (.invokevirtual idx, 3)) (hf : cells + 0 ≤ R.cells ∧ slots + 0 ≤ R.slots) (kk : ∀ (H1 : Heap) (locs1 : List Loc), va_P D hq_cl (hx_w q cI cZ cL xq_query ha_parents hf_classCount ha_classes ha_sizes ha_fields hf_objectCount hf_roots hf_changed sa_linkedFrom sa_linkCounts sa_retainedSets sa_retainedSizes sa_dominators sa_immediateDominators sf_objectCount sf_roots sf_reachable ta_codes ta_numbers tf_count ta_brackets ur.1 tf_place tf_inWhere ur.2 wa_rows wf_count wf_looks ++ z) H1 → va_D A (hx_w q cI cZ cL xq_query ha_parents hf_classCount ha_classes ha_sizes ha_fields hf_objectCount hf_roots hf_changed sa_linkedFrom sa_linkCounts sa_retainedSets sa_retainedSizes sa_dominators sa_immediateDominators sf_objectCount sf_roots sf_reachable ta_codes ta_numbers tf_count ta_brackets ur.1 tf_place tf_inWhere ur.2 wa_rows wf_count wf_looks ++ z) → va_S A H0 H1 locs1 → W p l e R s m args below meth c H1 locs1 cells slots Q (F0 m (pc + 3) ls (rest))) : W p l e R s m args below meth c H locs cells slots Q (F0 m pc ls (.ref (q 3) :: rest)) :=
  hq_callV (q0 := 3) hx hb hml hown hts hK hP hD hS (cxt_closeBracket  ur hu) rfl rfl h1 wi_550 wi_551 wi_298 wi_552 0 rfl (by decide +kernel) ⟨rfl, rfl⟩ hR hls rfl hW hdg hf kk
end
theorem dxt_remember_0 : decode bxt_remember 0 = .ok (.iload_n 1, 1) := by decide +kernel
theorem dxt_remember_1 : decode bxt_remember 1 = .ok (.tableswitch 151 0 20 #[99, 151, 151, 151, 99, 151, 137, 144, 151, 151, 151, 151, 151, 151, 151, 129, 129, 151, 121, 121, 121], 99) := by decide +kernel
theorem dxt_remember_100 : decode bxt_remember 100 = .ok (.aload_n 0, 1) := by decide +kernel
theorem dxt_remember_101 : decode bxt_remember 101 = .ok (.iload_n 1, 1) := by decide +kernel
theorem dxt_remember_102 : decode bxt_remember 102 = .ok (.iconst 4, 1) := by decide +kernel
theorem dxt_remember_103 : decode bxt_remember 103 = .ok (.if_icmp .ne 7, 3) := by decide +kernel
theorem dxt_remember_106 : decode bxt_remember 106 = .ok (.iconst 1, 1) := by decide +kernel
theorem dxt_remember_107 : decode bxt_remember 107 = .ok (.goto 4, 3) := by decide +kernel
theorem dxt_remember_110 : decode bxt_remember 110 = .ok (.iconst 0, 1) := by decide +kernel
theorem dxt_remember_111 : decode bxt_remember 111 = .ok (.putfield 65, 3) := by decide +kernel
theorem dxt_remember_114 : decode bxt_remember 114 = .ok (.aload_n 0, 1) := by decide +kernel
theorem dxt_remember_115 : decode bxt_remember 115 = .ok (.iconst 0, 1) := by decide +kernel
theorem dxt_remember_116 : decode bxt_remember 116 = .ok (.putfield 54, 3) := by decide +kernel
theorem dxt_remember_119 : decode bxt_remember 119 = .ok (.goto 33, 3) := by decide +kernel
theorem dxt_remember_122 : decode bxt_remember 122 = .ok (.aload_n 0, 1) := by decide +kernel
theorem dxt_remember_123 : decode bxt_remember 123 = .ok (.iconst 1, 1) := by decide +kernel
theorem dxt_remember_124 : decode bxt_remember 124 = .ok (.putfield 54, 3) := by decide +kernel
theorem dxt_remember_127 : decode bxt_remember 127 = .ok (.goto 25, 3) := by decide +kernel
theorem dxt_remember_130 : decode bxt_remember 130 = .ok (.aload_n 0, 1) := by decide +kernel
theorem dxt_remember_131 : decode bxt_remember 131 = .ok (.iconst 0, 1) := by decide +kernel
theorem dxt_remember_132 : decode bxt_remember 132 = .ok (.putfield 54, 3) := by decide +kernel
theorem dxt_remember_135 : decode bxt_remember 135 = .ok (.goto 17, 3) := by decide +kernel
theorem dxt_remember_138 : decode bxt_remember 138 = .ok (.aload_n 0, 1) := by decide +kernel
theorem dxt_remember_139 : decode bxt_remember 139 = .ok (.invokevirtual 68, 3) := by decide +kernel
theorem dxt_remember_142 : decode bxt_remember 142 = .ok (.goto 10, 3) := by decide +kernel
theorem dxt_remember_145 : decode bxt_remember 145 = .ok (.aload_n 0, 1) := by decide +kernel
theorem dxt_remember_146 : decode bxt_remember 146 = .ok (.invokevirtual 71, 3) := by decide +kernel
theorem dxt_remember_149 : decode bxt_remember 149 = .ok (.goto 3, 3) := by decide +kernel
theorem dxt_remember_152 : decode bxt_remember 152 = .ok (.return_, 1) := by decide +kernel
section
variable {l : Launch} {D : va_G} {A : Nat → Prop} {z w : va_W} {q : Nat → Nat} {cI cZ cL : ClassId}
variable {hf_classCount hf_objectCount hf_roots hf_changed sf_objectCount sf_roots sf_reachable tf_count tf_bracketCount tf_place tf_inWhere tf_compared wf_count wf_looks n_code n_number s_isDistinct s_isRetained s_sourceClass s_withDescendants : Int32}
variable {ha_parents ha_classes ha_sizes sa_linkedFrom sa_linkCounts sa_retainedSets sa_retainedSizes sa_dominators sa_immediateDominators ta_codes ta_numbers ta_brackets : Nat → Int32}
variable {ha_fields wa_rows : Nat → Int64}
variable {xq_query n_left n_right s_row s_nested s_condition s_next : Option Nat}
variable {pa_n pk_n pa_s pk_s : Nat}
set_option maxHeartbeats 4000000 in
set_option maxRecDepth 100000 in
theorem cxt_remember (l1 : Int32) (ur : (Nat → Int32) × Int32 × Int32 × Int32) (h : sxt_remember l1 ta_brackets tf_bracketCount tf_place tf_inWhere tf_compared = some ur) : hq_Ct l yxt_remember bxt_remember 2 none { frames := 1, cells := 0, slots := 0, locals := 21 } D (hq_tys cI cZ cL) A [.ref (q 3), .int l1] (hx_w q cI cZ cL xq_query ha_parents hf_classCount ha_classes ha_sizes ha_fields hf_objectCount hf_roots hf_changed sa_linkedFrom sa_linkCounts sa_retainedSets sa_retainedSizes sa_dominators sa_immediateDominators sf_objectCount sf_roots sf_reachable ta_codes ta_numbers tf_count ta_brackets tf_bracketCount tf_place tf_inWhere tf_compared wa_rows wf_count wf_looks ++ z) (hx_w q cI cZ cL xq_query ha_parents hf_classCount ha_classes ha_sizes ha_fields hf_objectCount hf_roots hf_changed sa_linkedFrom sa_linkCounts sa_retainedSets sa_retainedSizes sa_dominators sa_immediateDominators sf_objectCount sf_roots sf_reachable ta_codes ta_numbers tf_count ur.1 ur.2.1 tf_place ur.2.2.1 ur.2.2.2 wa_rows wf_count wf_looks ++ z) none 0 0 := by
  refine hq_of (by decide) ?_ (Nat.le_of_ble_eq_true rfl)
  intro p e s m below meth c R args Q hRm hQ hx hb hr hml hts hown hlocks hnm hP hK hD ls hl hS
  have hl : lv_has ls 2 [(0, .ref (q 3)), (1, .int l1)] := hl
  have hown : s.vm.findClass "HeapQueries$Text" = some m.cls := hown
  unfold sxt_remember at h
  have J111 : ∀ (s1 : Int32) {ta_brackets : Nat → Int32} {tf_bracketCount : Int32} {tf_inWhere : Int32} {tf_compared : Int32} {ls : Array Slot} {H : Heap} {locs : List Loc}, lv_has ls 2 [(0, .ref (q 3))] → va_P D hq_cl (hx_w q cI cZ cL xq_query ha_parents hf_classCount ha_classes ha_sizes ha_fields hf_objectCount hf_roots hf_changed sa_linkedFrom sa_linkCounts sa_retainedSets sa_retainedSizes sa_dominators sa_immediateDominators sf_objectCount sf_roots sf_reachable ta_codes ta_numbers tf_count ta_brackets tf_bracketCount tf_place tf_inWhere tf_compared wa_rows wf_count wf_looks ++ z) H → va_D A (hx_w q cI cZ cL xq_query ha_parents hf_classCount ha_classes ha_sizes ha_fields hf_objectCount hf_roots hf_changed sa_linkedFrom sa_linkCounts sa_retainedSets sa_retainedSizes sa_dominators sa_immediateDominators sf_objectCount sf_roots sf_reachable ta_codes ta_numbers tf_count ta_brackets tf_bracketCount tf_place tf_inWhere tf_compared wa_rows wf_count wf_looks ++ z) → va_S A s.heap H locs → sxt_remember_J111 s1 ta_brackets tf_bracketCount tf_place tf_inWhere tf_compared = some ur → W p l e R s m args below meth c H locs 0 0 Q (F0 m 111 ls [.int s1, .ref (q 3)]) := by
    intro s1 ta_brackets tf_bracketCount tf_inWhere tf_compared ls H locs hl hP hD hS h
    unfold sxt_remember_J111 at h
    obtain ⟨hz, h⟩ := hq_ok h
    refine px_3_inWhere hx hb hts hown hK hP hD hS wi_174 hz dxt_remember_111 (fun H locs hP hD hS => ?_)
    refine lv_aload_n hx hb dxt_remember_114 rfl (lv_at hl 0 rfl) ?_
    refine lv_iconst (v := 0) hx hb dxt_remember_115 (by decide) ?_
    refine px_3_compared hx hb hts hown hK hP hD hS wi_176 (by decide) dxt_remember_116 (fun H locs hP hD hS => ?_)
    refine lv_goto (tgt := 152) hx hb dxt_remember_119 (by decide) ?_
    have h := Option.some.inj h
    exact hq_vret hx hb hr hlocks hQ hK hP hD hS rfl (by rw [← h]) dxt_remember_152
  have J100 : ∀ (l1 : Int32) {ta_brackets : Nat → Int32} {tf_bracketCount : Int32} {tf_inWhere : Int32} {tf_compared : Int32} {ls : Array Slot} {H : Heap} {locs : List Loc}, lv_has ls 2 [(0, .ref (q 3)), (1, .int l1)] → va_P D hq_cl (hx_w q cI cZ cL xq_query ha_parents hf_classCount ha_classes ha_sizes ha_fields hf_objectCount hf_roots hf_changed sa_linkedFrom sa_linkCounts sa_retainedSets sa_retainedSizes sa_dominators sa_immediateDominators sf_objectCount sf_roots sf_reachable ta_codes ta_numbers tf_count ta_brackets tf_bracketCount tf_place tf_inWhere tf_compared wa_rows wf_count wf_looks ++ z) H → va_D A (hx_w q cI cZ cL xq_query ha_parents hf_classCount ha_classes ha_sizes ha_fields hf_objectCount hf_roots hf_changed sa_linkedFrom sa_linkCounts sa_retainedSets sa_retainedSizes sa_dominators sa_immediateDominators sf_objectCount sf_roots sf_reachable ta_codes ta_numbers tf_count ta_brackets tf_bracketCount tf_place tf_inWhere tf_compared wa_rows wf_count wf_looks ++ z) → va_S A s.heap H locs → sxt_remember_J100 l1 ta_brackets tf_bracketCount tf_place tf_inWhere tf_compared = some ur → W p l e R s m args below meth c H locs 0 0 Q (F0 m 100 ls []) := by
    intro l1 ta_brackets tf_bracketCount tf_inWhere tf_compared ls H locs hl hP hD hS h
    unfold sxt_remember_J100 at h
    refine lv_aload_n hx hb dxt_remember_100 rfl (lv_at hl 0 rfl) ?_
    refine lv_iload_n hx hb dxt_remember_101 rfl (lv_at hl 1 rfl) ?_
    refine lv_iconst (v := 4) hx hb dxt_remember_102 (by decide) ?_
    refine lv_icmp_ne (tgt := 110) hx hb dxt_remember_103 (by decide) (fun hc => ?_) (fun hc => ?_)
    · have h := (if_neg hc).symm.trans h
      refine lv_iconst (v := 0) hx hb dxt_remember_110 (by decide) ?_
      exact J111 0 (lv_sub hl [0] rfl) hP hD hS h
    · have h := (if_pos hc).symm.trans h
      refine lv_iconst (v := 1) hx hb dxt_remember_106 (by decide) ?_
      refine lv_goto (tgt := 111) hx hb dxt_remember_107 (by decide) ?_
      exact J111 1 (lv_sub hl [0] rfl) hP hD hS h
  refine lv_iload_n hx hb dxt_remember_0 rfl (lv_at hl 1 rfl) ?_
  by_cases hk0 : l1 = 0
  · have h := (if_pos hk0).symm.trans h
    refine lv_tableIn (off := 99) (tgt := 100) hx hb dxt_remember_1 (by rw [hk0]; decide) (by rw [hk0]; decide) (by rw [hk0]; rfl) (by decide) ?_
    exact J100 l1 hl hP hD hS h
  · have h := (if_neg hk0).symm.trans h
    by_cases hk1 : l1 = 1
    · have h := (if_pos hk1).symm.trans h
      refine lv_tableIn (off := 151) (tgt := 152) hx hb dxt_remember_1 (by rw [hk1]; decide) (by rw [hk1]; decide) (by rw [hk1]; rfl) (by decide) ?_
      have h := Option.some.inj h
      exact hq_vret hx hb hr hlocks hQ hK hP hD hS rfl (by rw [← h]) dxt_remember_152
    · have h := (if_neg hk1).symm.trans h
      by_cases hk2 : l1 = 2
      · have h := (if_pos hk2).symm.trans h
        refine lv_tableIn (off := 151) (tgt := 152) hx hb dxt_remember_1 (by rw [hk2]; decide) (by rw [hk2]; decide) (by rw [hk2]; rfl) (by decide) ?_
        have h := Option.some.inj h
        exact hq_vret hx hb hr hlocks hQ hK hP hD hS rfl (by rw [← h]) dxt_remember_152
      · have h := (if_neg hk2).symm.trans h
        by_cases hk3 : l1 = 3
        · have h := (if_pos hk3).symm.trans h
          refine lv_tableIn (off := 151) (tgt := 152) hx hb dxt_remember_1 (by rw [hk3]; decide) (by rw [hk3]; decide) (by rw [hk3]; rfl) (by decide) ?_
          have h := Option.some.inj h
          exact hq_vret hx hb hr hlocks hQ hK hP hD hS rfl (by rw [← h]) dxt_remember_152
        · have h := (if_neg hk3).symm.trans h
          by_cases hk4 : l1 = 4
          · have h := (if_pos hk4).symm.trans h
            refine lv_tableIn (off := 99) (tgt := 100) hx hb dxt_remember_1 (by rw [hk4]; decide) (by rw [hk4]; decide) (by rw [hk4]; rfl) (by decide) ?_
            exact J100 l1 hl hP hD hS h
          · have h := (if_neg hk4).symm.trans h
            by_cases hk5 : l1 = 5
            · have h := (if_pos hk5).symm.trans h
              refine lv_tableIn (off := 151) (tgt := 152) hx hb dxt_remember_1 (by rw [hk5]; decide) (by rw [hk5]; decide) (by rw [hk5]; rfl) (by decide) ?_
              have h := Option.some.inj h
              exact hq_vret hx hb hr hlocks hQ hK hP hD hS rfl (by rw [← h]) dxt_remember_152
            · have h := (if_neg hk5).symm.trans h
              by_cases hk6 : l1 = 6
              · have h := (if_pos hk6).symm.trans h
                refine lv_tableIn (off := 137) (tgt := 138) hx hb dxt_remember_1 (by rw [hk6]; decide) (by rw [hk6]; decide) (by rw [hk6]; rfl) (by decide) ?_
                refine lv_aload_n hx hb dxt_remember_138 rfl (lv_at hl 0 rfl) ?_
                obtain ⟨v139, h139, h⟩ := hq_bind h
                refine kxt_openBracket  v139 h139 hx hb hml hts hown hK hP hD hS wi_181 (by rw [hRm]; exact ⟨Nat.le_of_ble_eq_true rfl, Nat.le_of_ble_eq_true rfl⟩) hl.1 (Nat.le_of_ble_eq_true rfl) dxt_remember_139 ⟨Nat.zero_le _, Nat.zero_le _⟩ (fun H locs hP hD hS => ?_)
                refine lv_goto (tgt := 152) hx hb dxt_remember_142 (by decide) ?_
                have h := Option.some.inj h
                exact hq_vret hx hb hr hlocks hQ hK hP hD hS rfl (by rw [← h]) dxt_remember_152
              · have h := (if_neg hk6).symm.trans h
                by_cases hk7 : l1 = 7
                · have h := (if_pos hk7).symm.trans h
                  refine lv_tableIn (off := 144) (tgt := 145) hx hb dxt_remember_1 (by rw [hk7]; decide) (by rw [hk7]; decide) (by rw [hk7]; rfl) (by decide) ?_
                  refine lv_aload_n hx hb dxt_remember_145 rfl (lv_at hl 0 rfl) ?_
                  obtain ⟨v146, h146, h⟩ := hq_bind h
                  refine kxt_closeBracket  v146 h146 hx hb hml hts hown hK hP hD hS wi_182 (by rw [hRm]; exact ⟨Nat.le_of_ble_eq_true rfl, Nat.le_of_ble_eq_true rfl⟩) hl.1 (Nat.le_of_ble_eq_true rfl) dxt_remember_146 ⟨Nat.zero_le _, Nat.zero_le _⟩ (fun H locs hP hD hS => ?_)
                  refine lv_goto (tgt := 152) hx hb dxt_remember_149 (by decide) ?_
                  have h := Option.some.inj h
                  exact hq_vret hx hb hr hlocks hQ hK hP hD hS rfl (by rw [← h]) dxt_remember_152
                · have h := (if_neg hk7).symm.trans h
                  by_cases hk8 : l1 = 8
                  · have h := (if_pos hk8).symm.trans h
                    refine lv_tableIn (off := 151) (tgt := 152) hx hb dxt_remember_1 (by rw [hk8]; decide) (by rw [hk8]; decide) (by rw [hk8]; rfl) (by decide) ?_
                    have h := Option.some.inj h
                    exact hq_vret hx hb hr hlocks hQ hK hP hD hS rfl (by rw [← h]) dxt_remember_152
                  · have h := (if_neg hk8).symm.trans h
                    by_cases hk9 : l1 = 9
                    · have h := (if_pos hk9).symm.trans h
                      refine lv_tableIn (off := 151) (tgt := 152) hx hb dxt_remember_1 (by rw [hk9]; decide) (by rw [hk9]; decide) (by rw [hk9]; rfl) (by decide) ?_
                      have h := Option.some.inj h
                      exact hq_vret hx hb hr hlocks hQ hK hP hD hS rfl (by rw [← h]) dxt_remember_152
                    · have h := (if_neg hk9).symm.trans h
                      by_cases hk10 : l1 = 10
                      · have h := (if_pos hk10).symm.trans h
                        refine lv_tableIn (off := 151) (tgt := 152) hx hb dxt_remember_1 (by rw [hk10]; decide) (by rw [hk10]; decide) (by rw [hk10]; rfl) (by decide) ?_
                        have h := Option.some.inj h
                        exact hq_vret hx hb hr hlocks hQ hK hP hD hS rfl (by rw [← h]) dxt_remember_152
                      · have h := (if_neg hk10).symm.trans h
                        by_cases hk11 : l1 = 11
                        · have h := (if_pos hk11).symm.trans h
                          refine lv_tableIn (off := 151) (tgt := 152) hx hb dxt_remember_1 (by rw [hk11]; decide) (by rw [hk11]; decide) (by rw [hk11]; rfl) (by decide) ?_
                          have h := Option.some.inj h
                          exact hq_vret hx hb hr hlocks hQ hK hP hD hS rfl (by rw [← h]) dxt_remember_152
                        · have h := (if_neg hk11).symm.trans h
                          by_cases hk12 : l1 = 12
                          · have h := (if_pos hk12).symm.trans h
                            refine lv_tableIn (off := 151) (tgt := 152) hx hb dxt_remember_1 (by rw [hk12]; decide) (by rw [hk12]; decide) (by rw [hk12]; rfl) (by decide) ?_
                            have h := Option.some.inj h
                            exact hq_vret hx hb hr hlocks hQ hK hP hD hS rfl (by rw [← h]) dxt_remember_152
                          · have h := (if_neg hk12).symm.trans h
                            by_cases hk13 : l1 = 13
                            · have h := (if_pos hk13).symm.trans h
                              refine lv_tableIn (off := 151) (tgt := 152) hx hb dxt_remember_1 (by rw [hk13]; decide) (by rw [hk13]; decide) (by rw [hk13]; rfl) (by decide) ?_
                              have h := Option.some.inj h
                              exact hq_vret hx hb hr hlocks hQ hK hP hD hS rfl (by rw [← h]) dxt_remember_152
                            · have h := (if_neg hk13).symm.trans h
                              by_cases hk14 : l1 = 14
                              · have h := (if_pos hk14).symm.trans h
                                refine lv_tableIn (off := 151) (tgt := 152) hx hb dxt_remember_1 (by rw [hk14]; decide) (by rw [hk14]; decide) (by rw [hk14]; rfl) (by decide) ?_
                                have h := Option.some.inj h
                                exact hq_vret hx hb hr hlocks hQ hK hP hD hS rfl (by rw [← h]) dxt_remember_152
                              · have h := (if_neg hk14).symm.trans h
                                by_cases hk15 : l1 = 15
                                · have h := (if_pos hk15).symm.trans h
                                  refine lv_tableIn (off := 129) (tgt := 130) hx hb dxt_remember_1 (by rw [hk15]; decide) (by rw [hk15]; decide) (by rw [hk15]; rfl) (by decide) ?_
                                  refine lv_aload_n hx hb dxt_remember_130 rfl (lv_at hl 0 rfl) ?_
                                  refine lv_iconst (v := 0) hx hb dxt_remember_131 (by decide) ?_
                                  refine px_3_compared hx hb hts hown hK hP hD hS wi_176 (by decide) dxt_remember_132 (fun H locs hP hD hS => ?_)
                                  refine lv_goto (tgt := 152) hx hb dxt_remember_135 (by decide) ?_
                                  have h := Option.some.inj h
                                  exact hq_vret hx hb hr hlocks hQ hK hP hD hS rfl (by rw [← h]) dxt_remember_152
                                · have h := (if_neg hk15).symm.trans h
                                  by_cases hk16 : l1 = 16
                                  · have h := (if_pos hk16).symm.trans h
                                    refine lv_tableIn (off := 129) (tgt := 130) hx hb dxt_remember_1 (by rw [hk16]; decide) (by rw [hk16]; decide) (by rw [hk16]; rfl) (by decide) ?_
                                    refine lv_aload_n hx hb dxt_remember_130 rfl (lv_at hl 0 rfl) ?_
                                    refine lv_iconst (v := 0) hx hb dxt_remember_131 (by decide) ?_
                                    refine px_3_compared hx hb hts hown hK hP hD hS wi_176 (by decide) dxt_remember_132 (fun H locs hP hD hS => ?_)
                                    refine lv_goto (tgt := 152) hx hb dxt_remember_135 (by decide) ?_
                                    have h := Option.some.inj h
                                    exact hq_vret hx hb hr hlocks hQ hK hP hD hS rfl (by rw [← h]) dxt_remember_152
                                  · have h := (if_neg hk16).symm.trans h
                                    by_cases hk17 : l1 = 17
                                    · have h := (if_pos hk17).symm.trans h
                                      refine lv_tableIn (off := 151) (tgt := 152) hx hb dxt_remember_1 (by rw [hk17]; decide) (by rw [hk17]; decide) (by rw [hk17]; rfl) (by decide) ?_
                                      have h := Option.some.inj h
                                      exact hq_vret hx hb hr hlocks hQ hK hP hD hS rfl (by rw [← h]) dxt_remember_152
                                    · have h := (if_neg hk17).symm.trans h
                                      by_cases hk18 : l1 = 18
                                      · have h := (if_pos hk18).symm.trans h
                                        refine lv_tableIn (off := 121) (tgt := 122) hx hb dxt_remember_1 (by rw [hk18]; decide) (by rw [hk18]; decide) (by rw [hk18]; rfl) (by decide) ?_
                                        refine lv_aload_n hx hb dxt_remember_122 rfl (lv_at hl 0 rfl) ?_
                                        refine lv_iconst (v := 1) hx hb dxt_remember_123 (by decide) ?_
                                        refine px_3_compared hx hb hts hown hK hP hD hS wi_176 (by decide) dxt_remember_124 (fun H locs hP hD hS => ?_)
                                        refine lv_goto (tgt := 152) hx hb dxt_remember_127 (by decide) ?_
                                        have h := Option.some.inj h
                                        exact hq_vret hx hb hr hlocks hQ hK hP hD hS rfl (by rw [← h]) dxt_remember_152
                                      · have h := (if_neg hk18).symm.trans h
                                        by_cases hk19 : l1 = 19
                                        · have h := (if_pos hk19).symm.trans h
                                          refine lv_tableIn (off := 121) (tgt := 122) hx hb dxt_remember_1 (by rw [hk19]; decide) (by rw [hk19]; decide) (by rw [hk19]; rfl) (by decide) ?_
                                          refine lv_aload_n hx hb dxt_remember_122 rfl (lv_at hl 0 rfl) ?_
                                          refine lv_iconst (v := 1) hx hb dxt_remember_123 (by decide) ?_
                                          refine px_3_compared hx hb hts hown hK hP hD hS wi_176 (by decide) dxt_remember_124 (fun H locs hP hD hS => ?_)
                                          refine lv_goto (tgt := 152) hx hb dxt_remember_127 (by decide) ?_
                                          have h := Option.some.inj h
                                          exact hq_vret hx hb hr hlocks hQ hK hP hD hS rfl (by rw [← h]) dxt_remember_152
                                        · have h := (if_neg hk19).symm.trans h
                                          by_cases hk20 : l1 = 20
                                          · have h := (if_pos hk20).symm.trans h
                                            refine lv_tableIn (off := 121) (tgt := 122) hx hb dxt_remember_1 (by rw [hk20]; decide) (by rw [hk20]; decide) (by rw [hk20]; rfl) (by decide) ?_
                                            refine lv_aload_n hx hb dxt_remember_122 rfl (lv_at hl 0 rfl) ?_
                                            refine lv_iconst (v := 1) hx hb dxt_remember_123 (by decide) ?_
                                            refine px_3_compared hx hb hts hown hK hP hD hS wi_176 (by decide) dxt_remember_124 (fun H locs hP hD hS => ?_)
                                            refine lv_goto (tgt := 152) hx hb dxt_remember_127 (by decide) ?_
                                            have h := Option.some.inj h
                                            exact hq_vret hx hb hr hlocks hQ hK hP hD hS rfl (by rw [← h]) dxt_remember_152
                                          · have h := (if_neg hk20).symm.trans h
                                            refine lv_tableOut (tgt := 152) hx hb dxt_remember_1 (by have a0 := lv_neT (a := 0) hk0 (by decide); have a1 := lv_neT (a := 1) hk1 (by decide); have a2 := lv_neT (a := 2) hk2 (by decide); have a3 := lv_neT (a := 3) hk3 (by decide); have a4 := lv_neT (a := 4) hk4 (by decide); have a5 := lv_neT (a := 5) hk5 (by decide); have a6 := lv_neT (a := 6) hk6 (by decide); have a7 := lv_neT (a := 7) hk7 (by decide); have a8 := lv_neT (a := 8) hk8 (by decide); have a9 := lv_neT (a := 9) hk9 (by decide); have a10 := lv_neT (a := 10) hk10 (by decide); have a11 := lv_neT (a := 11) hk11 (by decide); have a12 := lv_neT (a := 12) hk12 (by decide); have a13 := lv_neT (a := 13) hk13 (by decide); have a14 := lv_neT (a := 14) hk14 (by decide); have a15 := lv_neT (a := 15) hk15 (by decide); have a16 := lv_neT (a := 16) hk16 (by decide); have a17 := lv_neT (a := 17) hk17 (by decide); have a18 := lv_neT (a := 18) hk18 (by decide); have a19 := lv_neT (a := 19) hk19 (by decide); have a20 := lv_neT (a := 20) hk20 (by decide); omega) (by decide) ?_
                                            have h := Option.some.inj h
                                            exact hq_vret hx hb hr hlocks hQ hK hP hD hS rfl (by rw [← h]) dxt_remember_152
end
section
variable {p : Program} {l : Launch} {e : Env} {R : Room} {s : State} {m : MethodId} {args : Array Value} {below : List Frame} {meth : Method} {c : Code} {H H0 : Heap} {locs : List Loc} {cells slots : Nat} {Q : State → Prop}
variable {cc : ByteArray} {pc idx nC : Nat} {ls : Array Slot} {rest : List Value} {D : va_G} {A : Nat → Prop} {own : String} {q : Nat → Nat} {cI cZ cL : ClassId} {z w : va_W}
variable {hf_classCount hf_objectCount hf_roots hf_changed sf_objectCount sf_roots sf_reachable tf_count tf_bracketCount tf_place tf_inWhere tf_compared wf_count wf_looks n_code n_number s_isDistinct s_isRetained s_sourceClass s_withDescendants : Int32}
variable {ha_parents ha_classes ha_sizes sa_linkedFrom sa_linkCounts sa_retainedSets sa_retainedSizes sa_dominators sa_immediateDominators ta_codes ta_numbers ta_brackets : Nat → Int32}
variable {ha_fields wa_rows : Nat → Int64}
variable {xq_query n_left n_right s_row s_nested s_condition s_next : Option Nat}
variable {pa_n pk_n pa_s pk_s : Nat}
theorem kxt_remember (l1 : Int32) (ur : (Nat → Int32) × Int32 × Int32 × Int32) (hu : sxt_remember l1 ta_brackets tf_bracketCount tf_place tf_inWhere tf_compared = some ur) (hx : p.tables.exec = Jvm.exec) (hb : c.code = cc) (hml : c.maxLocals = nC) (hts : ∀ x ∈ hq_tbl, x.before args s = true) (hown : s.vm.findClass own = some m.cls) (hK : va_K D hq_cl (hq_tys cI cZ cL) s) (hP : va_P D hq_cl (hx_w q cI cZ cL xq_query ha_parents hf_classCount ha_classes ha_sizes ha_fields hf_objectCount hf_roots hf_changed sa_linkedFrom sa_linkCounts sa_retainedSets sa_retainedSizes sa_dominators sa_immediateDominators sf_objectCount sf_roots sf_reachable ta_codes ta_numbers tf_count ta_brackets tf_bracketCount tf_place tf_inWhere tf_compared wa_rows wf_count wf_looks ++ z) H) (hD : va_D A (hx_w q cI cZ cL xq_query ha_parents hf_classCount ha_classes ha_sizes ha_fields hf_objectCount hf_roots hf_changed sa_linkedFrom sa_linkCounts sa_retainedSets sa_retainedSizes sa_dominators sa_immediateDominators sf_objectCount sf_roots sf_reachable ta_codes ta_numbers tf_count ta_brackets tf_bracketCount tf_place tf_inWhere tf_compared wa_rows wf_count wf_looks ++ z)) (hS : va_S A H0 H locs) (h1 : Cond.methodLink own idx yxt_remember ∈ hq_tbl) (hR : 1 + 1 ≤ R.frames ∧ 8 + (2 + 11) + 21 ≤ R.locals) (hls : ls.size = nC) (hW : (rest.map fun v => v.category).sum ≤ 8) (hdg : decode cc pc = .ok (.invokevirtual idx, 3)) (hf : cells + 0 ≤ R.cells ∧ slots + 0 ≤ R.slots) (kk : ∀ (H1 : Heap) (locs1 : List Loc), va_P D hq_cl (hx_w q cI cZ cL xq_query ha_parents hf_classCount ha_classes ha_sizes ha_fields hf_objectCount hf_roots hf_changed sa_linkedFrom sa_linkCounts sa_retainedSets sa_retainedSizes sa_dominators sa_immediateDominators sf_objectCount sf_roots sf_reachable ta_codes ta_numbers tf_count ur.1 ur.2.1 tf_place ur.2.2.1 ur.2.2.2 wa_rows wf_count wf_looks ++ z) H1 → va_D A (hx_w q cI cZ cL xq_query ha_parents hf_classCount ha_classes ha_sizes ha_fields hf_objectCount hf_roots hf_changed sa_linkedFrom sa_linkCounts sa_retainedSets sa_retainedSizes sa_dominators sa_immediateDominators sf_objectCount sf_roots sf_reachable ta_codes ta_numbers tf_count ur.1 ur.2.1 tf_place ur.2.2.1 ur.2.2.2 wa_rows wf_count wf_looks ++ z) → va_S A H0 H1 locs1 → W p l e R s m args below meth c H1 locs1 cells slots Q (F0 m (pc + 3) ls (rest))) : W p l e R s m args below meth c H locs cells slots Q (F0 m pc ls (.int l1 :: .ref (q 3) :: rest)) :=
  hq_callV (q0 := 3) hx hb hml hown hts hK hP hD hS (cxt_remember l1 ur hu) rfl rfl h1 wi_553 wi_554 wi_298 wi_555 1 rfl (by decide +kernel) ⟨rfl, rfl⟩ hR hls rfl hW hdg hf kk
end
theorem dxt_take_0 : decode bxt_take 0 = .ok (.aload_n 0, 1) := by decide +kernel
theorem dxt_take_1 : decode bxt_take 1 = .ok (.iload_n 1, 1) := by decide +kernel
theorem dxt_take_2 : decode bxt_take 2 = .ok (.invokevirtual 31, 3) := by decide +kernel
theorem dxt_take_5 : decode bxt_take 5 = .ok (.istore_n 3, 1) := by decide +kernel
theorem dxt_take_6 : decode bxt_take 6 = .ok (.aload_n 0, 1) := by decide +kernel
theorem dxt_take_7 : decode bxt_take 7 = .ok (.getfield 25, 3) := by decide +kernel
theorem dxt_take_10 : decode bxt_take 10 = .ok (.bipush 40, 2) := by decide +kernel
theorem dxt_take_12 : decode bxt_take 12 = .ok (.if_icmp .ge 8, 3) := by decide +kernel
theorem dxt_take_15 : decode bxt_take 15 = .ok (.iload_n 3, 1) := by decide +kernel
theorem dxt_take_16 : decode bxt_take 16 = .ok (.iconst (-1), 1) := by decide +kernel
theorem dxt_take_17 : decode bxt_take 17 = .ok (.if_icmp .ne 5, 3) := by decide +kernel
theorem dxt_take_20 : decode bxt_take 20 = .ok (.iconst 0, 1) := by decide +kernel
theorem dxt_take_21 : decode bxt_take 21 = .ok (.ireturn, 1) := by decide +kernel
theorem dxt_take_22 : decode bxt_take 22 = .ok (.aload_n 0, 1) := by decide +kernel
theorem dxt_take_23 : decode bxt_take 23 = .ok (.getfield 9, 3) := by decide +kernel
theorem dxt_take_26 : decode bxt_take 26 = .ok (.aload_n 0, 1) := by decide +kernel
theorem dxt_take_27 : decode bxt_take 27 = .ok (.getfield 25, 3) := by decide +kernel
theorem dxt_take_30 : decode bxt_take 30 = .ok (.iload_n 1, 1) := by decide +kernel
theorem dxt_take_31 : decode bxt_take 31 = .ok (.iastore, 1) := by decide +kernel
theorem dxt_take_32 : decode bxt_take 32 = .ok (.aload_n 0, 1) := by decide +kernel
theorem dxt_take_33 : decode bxt_take 33 = .ok (.getfield 15, 3) := by decide +kernel
theorem dxt_take_36 : decode bxt_take 36 = .ok (.aload_n 0, 1) := by decide +kernel
theorem dxt_take_37 : decode bxt_take 37 = .ok (.getfield 25, 3) := by decide +kernel
theorem dxt_take_40 : decode bxt_take 40 = .ok (.iload_n 2, 1) := by decide +kernel
theorem dxt_take_41 : decode bxt_take 41 = .ok (.iastore, 1) := by decide +kernel
theorem dxt_take_42 : decode bxt_take 42 = .ok (.aload_n 0, 1) := by decide +kernel
theorem dxt_take_43 : decode bxt_take 43 = .ok (.dup, 1) := by decide +kernel
theorem dxt_take_44 : decode bxt_take 44 = .ok (.getfield 25, 3) := by decide +kernel
theorem dxt_take_47 : decode bxt_take 47 = .ok (.iconst 1, 1) := by decide +kernel
theorem dxt_take_48 : decode bxt_take 48 = .ok (.iadd, 1) := by decide +kernel
theorem dxt_take_49 : decode bxt_take 49 = .ok (.putfield 25, 3) := by decide +kernel
theorem dxt_take_52 : decode bxt_take 52 = .ok (.aload_n 0, 1) := by decide +kernel
theorem dxt_take_53 : decode bxt_take 53 = .ok (.iload_n 1, 1) := by decide +kernel
theorem dxt_take_54 : decode bxt_take 54 = .ok (.invokevirtual 35, 3) := by decide +kernel
theorem dxt_take_57 : decode bxt_take 57 = .ok (.aload_n 0, 1) := by decide +kernel
theorem dxt_take_58 : decode bxt_take 58 = .ok (.iload_n 3, 1) := by decide +kernel
theorem dxt_take_59 : decode bxt_take 59 = .ok (.putfield 21, 3) := by decide +kernel
theorem dxt_take_62 : decode bxt_take 62 = .ok (.iconst 1, 1) := by decide +kernel
theorem dxt_take_63 : decode bxt_take 63 = .ok (.ireturn, 1) := by decide +kernel
section
variable {l : Launch} {D : va_G} {A : Nat → Prop} {z w : va_W} {q : Nat → Nat} {cI cZ cL : ClassId}
variable {hf_classCount hf_objectCount hf_roots hf_changed sf_objectCount sf_roots sf_reachable tf_count tf_bracketCount tf_place tf_inWhere tf_compared wf_count wf_looks n_code n_number s_isDistinct s_isRetained s_sourceClass s_withDescendants : Int32}
variable {ha_parents ha_classes ha_sizes sa_linkedFrom sa_linkCounts sa_retainedSets sa_retainedSizes sa_dominators sa_immediateDominators ta_codes ta_numbers ta_brackets : Nat → Int32}
variable {ha_fields wa_rows : Nat → Int64}
variable {xq_query n_left n_right s_row s_nested s_condition s_next : Option Nat}
variable {pa_n pk_n pa_s pk_s : Nat}
set_option maxHeartbeats 4000000 in
set_option maxRecDepth 100000 in
theorem cxt_take (l1 : Int32) (l2 : Int32) (ur : Int32 × (Nat → Int32) × (Nat → Int32) × Int32 × (Nat → Int32) × Int32 × Int32 × Int32 × Int32) (h : sxt_take l1 l2 ta_codes ta_numbers tf_count ta_brackets tf_bracketCount tf_place tf_inWhere tf_compared = some ur) : hq_Ct l yxt_take bxt_take 4 (some .boolean) { frames := 4, cells := 0, slots := 0, locals := 84 } D (hq_tys cI cZ cL) A [.ref (q 3), .int l1, .int l2] (hx_w q cI cZ cL xq_query ha_parents hf_classCount ha_classes ha_sizes ha_fields hf_objectCount hf_roots hf_changed sa_linkedFrom sa_linkCounts sa_retainedSets sa_retainedSizes sa_dominators sa_immediateDominators sf_objectCount sf_roots sf_reachable ta_codes ta_numbers tf_count ta_brackets tf_bracketCount tf_place tf_inWhere tf_compared wa_rows wf_count wf_looks ++ z) (hx_w q cI cZ cL xq_query ha_parents hf_classCount ha_classes ha_sizes ha_fields hf_objectCount hf_roots hf_changed sa_linkedFrom sa_linkCounts sa_retainedSets sa_retainedSizes sa_dominators sa_immediateDominators sf_objectCount sf_roots sf_reachable ur.2.1 ur.2.2.1 ur.2.2.2.1 ur.2.2.2.2.1 ur.2.2.2.2.2.1 ur.2.2.2.2.2.2.1 ur.2.2.2.2.2.2.2.1 ur.2.2.2.2.2.2.2.2 wa_rows wf_count wf_looks ++ z) (some (.int ur.1)) 0 0 := by
  refine hq_of (by decide) ?_ (Nat.le_of_ble_eq_true rfl)
  intro p e s m below meth c R args Q hRm hQ hx hb hr hml hts hown hlocks hnm hP hK hD ls hl hS
  have hl : lv_has ls 4 [(0, .ref (q 3)), (1, .int l1), (2, .int l2)] := hl
  have hown : s.vm.findClass "HeapQueries$Text" = some m.cls := hown
  unfold sxt_take at h
  refine lv_aload_n hx hb dxt_take_0 rfl (lv_at hl 0 rfl) ?_
  refine lv_iload_n hx hb dxt_take_1 rfl (lv_at hl 1 rfl) ?_
  obtain ⟨v2, h2, h⟩ := hq_bind h
  refine kxt_placeAfter l1 v2 h2 hx hb hml hts hown hK hP hD hS wi_183 (by rw [hRm]; exact ⟨Nat.le_of_ble_eq_true rfl, Nat.le_of_ble_eq_true rfl⟩) hl.1 (Nat.le_of_ble_eq_true rfl) dxt_take_2 ⟨Nat.zero_le _, Nat.zero_le _⟩ (fun H locs hP hD hS => ?_)
  refine lv_istore_n (lv' := [(3, .int v2), (0, .ref (q 3)), (1, .int l1), (2, .int l2)]) hx hb dxt_take_5 rfl hl (by decide) rfl (fun ls hl => ?_)
  refine lv_aload_n hx hb dxt_take_6 rfl (lv_at hl 1 rfl) ?_
  refine gx_3_count hx hb hts hown hK hP wi_51 dxt_take_7 ?_
  refine lv_bipush (v := 40) hx hb dxt_take_10 (by decide) ?_
  refine lv_icmp_ge (tgt := 20) hx hb dxt_take_12 (by decide) (fun hc => ?_) (fun hc => ?_)
  · have h := (if_pos hc).symm.trans h
    refine lv_iconst (v := 0) hx hb dxt_take_20 (by decide) ?_
    have h := Option.some.inj h
    exact hq_zret hx hb hr hlocks hQ hK hP hD hS (by decide) (by rw [← h]) (by rw [← h]) dxt_take_21
  · have h := (if_neg hc).symm.trans h
    refine lv_iload_n hx hb dxt_take_15 rfl (lv_at hl 0 rfl) ?_
    refine lv_iconst (v := (-1)) hx hb dxt_take_16 (by decide) ?_
    refine lv_icmp_ne (tgt := 22) hx hb dxt_take_17 (by decide) (fun hc => ?_) (fun hc => ?_)
    · have h := (if_neg hc).symm.trans h
      refine lv_aload_n hx hb dxt_take_22 rfl (lv_at hl 1 rfl) ?_
      refine gx_3_codes hx hb hts hown hK hP wi_168 dxt_take_23 ?_
      refine lv_aload_n hx hb dxt_take_26 rfl (lv_at hl 1 rfl) ?_
      refine gx_3_count hx hb hts hown hK hP wi_51 dxt_take_27 ?_
      refine lv_iload_n hx hb dxt_take_30 rfl (lv_at hl 2 rfl) ?_
      obtain ⟨hin, h⟩ := hq_idx h
      refine tx_15 hx hb hK hP hD hS hin dxt_take_31 (fun H locs hP hD hS => ?_)
      refine lv_aload_n hx hb dxt_take_32 rfl (lv_at hl 1 rfl) ?_
      refine gx_3_numbers hx hb hts hown hK hP wi_169 dxt_take_33 ?_
      refine lv_aload_n hx hb dxt_take_36 rfl (lv_at hl 1 rfl) ?_
      refine gx_3_count hx hb hts hown hK hP wi_51 dxt_take_37 ?_
      refine lv_iload_n hx hb dxt_take_40 rfl (lv_at hl 3 rfl) ?_
      obtain ⟨hin, h⟩ := hq_idx h
      refine tx_16 hx hb hK hP hD hS hin dxt_take_41 (fun H locs hP hD hS => ?_)
      refine lv_aload_n hx hb dxt_take_42 rfl (lv_at hl 1 rfl) ?_
      refine lv_dup hx hb dxt_take_43 rfl ?_
      refine gx_3_count hx hb hts hown hK hP wi_51 dxt_take_44 ?_
      refine lv_iconst (v := 1) hx hb dxt_take_47 (by decide) ?_
      refine lv_iadd hx hb dxt_take_48 ?_
      refine px_3_count hx hb hts hown hK hP hD hS wi_51 dxt_take_49 (fun H locs hP hD hS => ?_)
      refine lv_aload_n hx hb dxt_take_52 rfl (lv_at hl 1 rfl) ?_
      refine lv_iload_n hx hb dxt_take_53 rfl (lv_at hl 2 rfl) ?_
      obtain ⟨v54, h54, h⟩ := hq_bind h
      refine kxt_remember l1 v54 h54 hx hb hml hts hown hK hP hD hS wi_184 (by rw [hRm]; exact ⟨Nat.le_of_ble_eq_true rfl, Nat.le_of_ble_eq_true rfl⟩) hl.1 (Nat.le_of_ble_eq_true rfl) dxt_take_54 ⟨Nat.zero_le _, Nat.zero_le _⟩ (fun H locs hP hD hS => ?_)
      refine lv_aload_n hx hb dxt_take_57 rfl (lv_at hl 1 rfl) ?_
      refine lv_iload_n hx hb dxt_take_58 rfl (lv_at hl 0 rfl) ?_
      refine px_3_place hx hb hts hown hK hP hD hS wi_170 dxt_take_59 (fun H locs hP hD hS => ?_)
      refine lv_iconst (v := 1) hx hb dxt_take_62 (by decide) ?_
      have h := Option.some.inj h
      exact hq_zret hx hb hr hlocks hQ hK hP hD hS (by decide) (by rw [← h]) (by rw [← h]) dxt_take_63
    · have h := (if_pos hc).symm.trans h
      refine lv_iconst (v := 0) hx hb dxt_take_20 (by decide) ?_
      have h := Option.some.inj h
      exact hq_zret hx hb hr hlocks hQ hK hP hD hS (by decide) (by rw [← h]) (by rw [← h]) dxt_take_21
end
section
variable {p : Program} {l : Launch} {e : Env} {R : Room} {s : State} {m : MethodId} {args : Array Value} {below : List Frame} {meth : Method} {c : Code} {H H0 : Heap} {locs : List Loc} {cells slots : Nat} {Q : State → Prop}
variable {cc : ByteArray} {pc idx nC : Nat} {ls : Array Slot} {rest : List Value} {D : va_G} {A : Nat → Prop} {own : String} {q : Nat → Nat} {cI cZ cL : ClassId} {z w : va_W}
variable {hf_classCount hf_objectCount hf_roots hf_changed sf_objectCount sf_roots sf_reachable tf_count tf_bracketCount tf_place tf_inWhere tf_compared wf_count wf_looks n_code n_number s_isDistinct s_isRetained s_sourceClass s_withDescendants : Int32}
variable {ha_parents ha_classes ha_sizes sa_linkedFrom sa_linkCounts sa_retainedSets sa_retainedSizes sa_dominators sa_immediateDominators ta_codes ta_numbers ta_brackets : Nat → Int32}
variable {ha_fields wa_rows : Nat → Int64}
variable {xq_query n_left n_right s_row s_nested s_condition s_next : Option Nat}
variable {pa_n pk_n pa_s pk_s : Nat}
theorem kxt_take (l1 : Int32) (l2 : Int32) (ur : Int32 × (Nat → Int32) × (Nat → Int32) × Int32 × (Nat → Int32) × Int32 × Int32 × Int32 × Int32) (hu : sxt_take l1 l2 ta_codes ta_numbers tf_count ta_brackets tf_bracketCount tf_place tf_inWhere tf_compared = some ur) (hx : p.tables.exec = Jvm.exec) (hb : c.code = cc) (hml : c.maxLocals = nC) (hts : ∀ x ∈ hq_tbl, x.before args s = true) (hown : s.vm.findClass own = some m.cls) (hK : va_K D hq_cl (hq_tys cI cZ cL) s) (hP : va_P D hq_cl (hx_w q cI cZ cL xq_query ha_parents hf_classCount ha_classes ha_sizes ha_fields hf_objectCount hf_roots hf_changed sa_linkedFrom sa_linkCounts sa_retainedSets sa_retainedSizes sa_dominators sa_immediateDominators sf_objectCount sf_roots sf_reachable ta_codes ta_numbers tf_count ta_brackets tf_bracketCount tf_place tf_inWhere tf_compared wa_rows wf_count wf_looks ++ z) H) (hD : va_D A (hx_w q cI cZ cL xq_query ha_parents hf_classCount ha_classes ha_sizes ha_fields hf_objectCount hf_roots hf_changed sa_linkedFrom sa_linkCounts sa_retainedSets sa_retainedSizes sa_dominators sa_immediateDominators sf_objectCount sf_roots sf_reachable ta_codes ta_numbers tf_count ta_brackets tf_bracketCount tf_place tf_inWhere tf_compared wa_rows wf_count wf_looks ++ z)) (hS : va_S A H0 H locs) (h1 : Cond.methodLink own idx yxt_take ∈ hq_tbl) (hR : 4 + 1 ≤ R.frames ∧ 8 + (4 + 11) + 84 ≤ R.locals) (hls : ls.size = nC) (hW : (rest.map fun v => v.category).sum ≤ 8) (hdg : decode cc pc = .ok (.invokevirtual idx, 3)) (hf : cells + 0 ≤ R.cells ∧ slots + 0 ≤ R.slots) (kk : ∀ (H1 : Heap) (locs1 : List Loc), va_P D hq_cl (hx_w q cI cZ cL xq_query ha_parents hf_classCount ha_classes ha_sizes ha_fields hf_objectCount hf_roots hf_changed sa_linkedFrom sa_linkCounts sa_retainedSets sa_retainedSizes sa_dominators sa_immediateDominators sf_objectCount sf_roots sf_reachable ur.2.1 ur.2.2.1 ur.2.2.2.1 ur.2.2.2.2.1 ur.2.2.2.2.2.1 ur.2.2.2.2.2.2.1 ur.2.2.2.2.2.2.2.1 ur.2.2.2.2.2.2.2.2 wa_rows wf_count wf_looks ++ z) H1 → va_D A (hx_w q cI cZ cL xq_query ha_parents hf_classCount ha_classes ha_sizes ha_fields hf_objectCount hf_roots hf_changed sa_linkedFrom sa_linkCounts sa_retainedSets sa_retainedSizes sa_dominators sa_immediateDominators sf_objectCount sf_roots sf_reachable ur.2.1 ur.2.2.1 ur.2.2.2.1 ur.2.2.2.2.1 ur.2.2.2.2.2.1 ur.2.2.2.2.2.2.1 ur.2.2.2.2.2.2.2.1 ur.2.2.2.2.2.2.2.2 wa_rows wf_count wf_looks ++ z) → va_S A H0 H1 locs1 → W p l e R s m args below meth c H1 locs1 cells slots Q (F0 m (pc + 3) ls (.int ur.1 :: rest))) : W p l e R s m args below meth c H locs cells slots Q (F0 m pc ls (.int l2 :: .int l1 :: .ref (q 3) :: rest)) :=
  hq_callV (q0 := 3) hx hb hml hown hts hK hP hD hS (cxt_take l1 l2 ur hu) rfl rfl h1 wi_556 wi_557 wi_298 wi_558 2 rfl (by decide +kernel) ⟨rfl, rfl⟩ hR hls rfl hW hdg hf kk
end
theorem dxw_begin_0 : decode bxw_begin 0 = .ok (.aload_n 0, 1) := by decide +kernel
theorem dxw_begin_1 : decode bxw_begin 1 = .ok (.iconst 0, 1) := by decide +kernel
theorem dxw_begin_2 : decode bxw_begin 2 = .ok (.putfield 15, 3) := by decide +kernel
theorem dxw_begin_5 : decode bxw_begin 5 = .ok (.aload_n 0, 1) := by decide +kernel
theorem dxw_begin_6 : decode bxw_begin 6 = .ok (.iconst 0, 1) := by decide +kernel
theorem dxw_begin_7 : decode bxw_begin 7 = .ok (.putfield 19, 3) := by decide +kernel
theorem dxw_begin_10 : decode bxw_begin 10 = .ok (.return_, 1) := by decide +kernel
section
variable {l : Launch} {D : va_G} {A : Nat → Prop} {z w : va_W} {q : Nat → Nat} {cI cZ cL : ClassId}
variable {hf_classCount hf_objectCount hf_roots hf_changed sf_objectCount sf_roots sf_reachable tf_count tf_bracketCount tf_place tf_inWhere tf_compared wf_count wf_looks n_code n_number s_isDistinct s_isRetained s_sourceClass s_withDescendants : Int32}
variable {ha_parents ha_classes ha_sizes sa_linkedFrom sa_linkCounts sa_retainedSets sa_retainedSizes sa_dominators sa_immediateDominators ta_codes ta_numbers ta_brackets : Nat → Int32}
variable {ha_fields wa_rows : Nat → Int64}
variable {xq_query n_left n_right s_row s_nested s_condition s_next : Option Nat}
variable {pa_n pk_n pa_s pk_s : Nat}
set_option maxHeartbeats 4000000 in
set_option maxRecDepth 100000 in
theorem cxw_begin  (ur : Int32 × Int32) (h : sxw_begin wf_count wf_looks = ur) : hq_Ct l yxw_begin bxw_begin 1 none { frames := 0, cells := 0, slots := 0, locals := 0 } D (hq_tys cI cZ cL) A [.ref (q 4)] (hx_w q cI cZ cL xq_query ha_parents hf_classCount ha_classes ha_sizes ha_fields hf_objectCount hf_roots hf_changed sa_linkedFrom sa_linkCounts sa_retainedSets sa_retainedSizes sa_dominators sa_immediateDominators sf_objectCount sf_roots sf_reachable ta_codes ta_numbers tf_count ta_brackets tf_bracketCount tf_place tf_inWhere tf_compared wa_rows wf_count wf_looks ++ z) (hx_w q cI cZ cL xq_query ha_parents hf_classCount ha_classes ha_sizes ha_fields hf_objectCount hf_roots hf_changed sa_linkedFrom sa_linkCounts sa_retainedSets sa_retainedSizes sa_dominators sa_immediateDominators sf_objectCount sf_roots sf_reachable ta_codes ta_numbers tf_count ta_brackets tf_bracketCount tf_place tf_inWhere tf_compared wa_rows ur.1 ur.2 ++ z) none 0 0 := by
  refine hq_of (by decide) ?_ (Nat.le_of_ble_eq_true rfl)
  intro p e s m below meth c R args Q hRm hQ hx hb hr hml hts hown hlocks hnm hP hK hD ls hl hS
  have hl : lv_has ls 1 [(0, .ref (q 4))] := hl
  have hown : s.vm.findClass "HeapQueries$Worker" = some m.cls := hown
  unfold sxw_begin at h
  refine lv_aload_n hx hb dxw_begin_0 rfl (lv_at hl 0 rfl) ?_
  refine lv_iconst (v := 0) hx hb dxw_begin_1 (by decide) ?_
  refine px_4_count hx hb hts hown hK hP hD hS wi_56 dxw_begin_2 (fun H locs hP hD hS => ?_)
  refine lv_aload_n hx hb dxw_begin_5 rfl (lv_at hl 0 rfl) ?_
  refine lv_iconst (v := 0) hx hb dxw_begin_6 (by decide) ?_
  refine px_4_looks hx hb hts hown hK hP hD hS wi_64 dxw_begin_7 (fun H locs hP hD hS => ?_)
  exact hq_vret hx hb hr hlocks hQ hK hP hD hS rfl (by rw [← h]) dxw_begin_10
end
section
variable {p : Program} {l : Launch} {e : Env} {R : Room} {s : State} {m : MethodId} {args : Array Value} {below : List Frame} {meth : Method} {c : Code} {H H0 : Heap} {locs : List Loc} {cells slots : Nat} {Q : State → Prop}
variable {cc : ByteArray} {pc idx nC : Nat} {ls : Array Slot} {rest : List Value} {D : va_G} {A : Nat → Prop} {own : String} {q : Nat → Nat} {cI cZ cL : ClassId} {z w : va_W}
variable {hf_classCount hf_objectCount hf_roots hf_changed sf_objectCount sf_roots sf_reachable tf_count tf_bracketCount tf_place tf_inWhere tf_compared wf_count wf_looks n_code n_number s_isDistinct s_isRetained s_sourceClass s_withDescendants : Int32}
variable {ha_parents ha_classes ha_sizes sa_linkedFrom sa_linkCounts sa_retainedSets sa_retainedSizes sa_dominators sa_immediateDominators ta_codes ta_numbers ta_brackets : Nat → Int32}
variable {ha_fields wa_rows : Nat → Int64}
variable {xq_query n_left n_right s_row s_nested s_condition s_next : Option Nat}
variable {pa_n pk_n pa_s pk_s : Nat}
theorem kxw_begin  (ur : Int32 × Int32) (hu : sxw_begin wf_count wf_looks = ur) (hx : p.tables.exec = Jvm.exec) (hb : c.code = cc) (hml : c.maxLocals = nC) (hts : ∀ x ∈ hq_tbl, x.before args s = true) (hown : s.vm.findClass own = some m.cls) (hK : va_K D hq_cl (hq_tys cI cZ cL) s) (hP : va_P D hq_cl (hx_w q cI cZ cL xq_query ha_parents hf_classCount ha_classes ha_sizes ha_fields hf_objectCount hf_roots hf_changed sa_linkedFrom sa_linkCounts sa_retainedSets sa_retainedSizes sa_dominators sa_immediateDominators sf_objectCount sf_roots sf_reachable ta_codes ta_numbers tf_count ta_brackets tf_bracketCount tf_place tf_inWhere tf_compared wa_rows wf_count wf_looks ++ z) H) (hD : va_D A (hx_w q cI cZ cL xq_query ha_parents hf_classCount ha_classes ha_sizes ha_fields hf_objectCount hf_roots hf_changed sa_linkedFrom sa_linkCounts sa_retainedSets sa_retainedSizes sa_dominators sa_immediateDominators sf_objectCount sf_roots sf_reachable ta_codes ta_numbers tf_count ta_brackets tf_bracketCount tf_place tf_inWhere tf_compared wa_rows wf_count wf_looks ++ z)) (hS : va_S A H0 H locs) (h1 : Cond.methodLink own idx yxw_begin ∈ hq_tbl) (hR : 0 + 1 ≤ R.frames ∧ 8 + (1 + 11) + 0 ≤ R.locals) (hls : ls.size = nC) (hW : (rest.map fun v => v.category).sum ≤ 8) (hdg : decode cc pc = .ok (.invokevirtual idx, 3)) (hf : cells + 0 ≤ R.cells ∧ slots + 0 ≤ R.slots) (kk : ∀ (H1 : Heap) (locs1 : List Loc), va_P D hq_cl (hx_w q cI cZ cL xq_query ha_parents hf_classCount ha_classes ha_sizes ha_fields hf_objectCount hf_roots hf_changed sa_linkedFrom sa_linkCounts sa_retainedSets sa_retainedSizes sa_dominators sa_immediateDominators sf_objectCount sf_roots sf_reachable ta_codes ta_numbers tf_count ta_brackets tf_bracketCount tf_place tf_inWhere tf_compared wa_rows ur.1 ur.2 ++ z) H1 → va_D A (hx_w q cI cZ cL xq_query ha_parents hf_classCount ha_classes ha_sizes ha_fields hf_objectCount hf_roots hf_changed sa_linkedFrom sa_linkCounts sa_retainedSets sa_retainedSizes sa_dominators sa_immediateDominators sf_objectCount sf_roots sf_reachable ta_codes ta_numbers tf_count ta_brackets tf_bracketCount tf_place tf_inWhere tf_compared wa_rows ur.1 ur.2 ++ z) → va_S A H0 H1 locs1 → W p l e R s m args below meth c H1 locs1 cells slots Q (F0 m (pc + 3) ls (rest))) : W p l e R s m args below meth c H locs cells slots Q (F0 m pc ls (.ref (q 4) :: rest)) :=
  hq_callV (q0 := 4) hx hb hml hown hts hK hP hD hS (cxw_begin  ur hu) rfl rfl h1 wi_561 wi_562 wi_311 wi_563 0 rfl (by decide +kernel) ⟨rfl, rfl⟩ hR hls rfl hW hdg hf kk
end
theorem dxw_dropRows_0 : decode bxw_dropRows 0 = .ok (.aload_n 0, 1) := by decide +kernel
theorem dxw_dropRows_1 : decode bxw_dropRows 1 = .ok (.iconst 0, 1) := by decide +kernel
theorem dxw_dropRows_2 : decode bxw_dropRows 2 = .ok (.putfield 15, 3) := by decide +kernel
theorem dxw_dropRows_5 : decode bxw_dropRows 5 = .ok (.return_, 1) := by decide +kernel
section
variable {l : Launch} {D : va_G} {A : Nat → Prop} {z w : va_W} {q : Nat → Nat} {cI cZ cL : ClassId}
variable {hf_classCount hf_objectCount hf_roots hf_changed sf_objectCount sf_roots sf_reachable tf_count tf_bracketCount tf_place tf_inWhere tf_compared wf_count wf_looks n_code n_number s_isDistinct s_isRetained s_sourceClass s_withDescendants : Int32}
variable {ha_parents ha_classes ha_sizes sa_linkedFrom sa_linkCounts sa_retainedSets sa_retainedSizes sa_dominators sa_immediateDominators ta_codes ta_numbers ta_brackets : Nat → Int32}
variable {ha_fields wa_rows : Nat → Int64}
variable {xq_query n_left n_right s_row s_nested s_condition s_next : Option Nat}
variable {pa_n pk_n pa_s pk_s : Nat}
set_option maxHeartbeats 4000000 in
set_option maxRecDepth 100000 in
theorem cxw_dropRows  (ur : Int32) (h : sxw_dropRows wf_count = ur) : hq_Ct l yxw_dropRows bxw_dropRows 1 none { frames := 0, cells := 0, slots := 0, locals := 0 } D (hq_tys cI cZ cL) A [.ref (q 4)] (hx_w q cI cZ cL xq_query ha_parents hf_classCount ha_classes ha_sizes ha_fields hf_objectCount hf_roots hf_changed sa_linkedFrom sa_linkCounts sa_retainedSets sa_retainedSizes sa_dominators sa_immediateDominators sf_objectCount sf_roots sf_reachable ta_codes ta_numbers tf_count ta_brackets tf_bracketCount tf_place tf_inWhere tf_compared wa_rows wf_count wf_looks ++ z) (hx_w q cI cZ cL xq_query ha_parents hf_classCount ha_classes ha_sizes ha_fields hf_objectCount hf_roots hf_changed sa_linkedFrom sa_linkCounts sa_retainedSets sa_retainedSizes sa_dominators sa_immediateDominators sf_objectCount sf_roots sf_reachable ta_codes ta_numbers tf_count ta_brackets tf_bracketCount tf_place tf_inWhere tf_compared wa_rows ur wf_looks ++ z) none 0 0 := by
  refine hq_of (by decide) ?_ (Nat.le_of_ble_eq_true rfl)
  intro p e s m below meth c R args Q hRm hQ hx hb hr hml hts hown hlocks hnm hP hK hD ls hl hS
  have hl : lv_has ls 1 [(0, .ref (q 4))] := hl
  have hown : s.vm.findClass "HeapQueries$Worker" = some m.cls := hown
  unfold sxw_dropRows at h
  refine lv_aload_n hx hb dxw_dropRows_0 rfl (lv_at hl 0 rfl) ?_
  refine lv_iconst (v := 0) hx hb dxw_dropRows_1 (by decide) ?_
  refine px_4_count hx hb hts hown hK hP hD hS wi_56 dxw_dropRows_2 (fun H locs hP hD hS => ?_)
  exact hq_vret hx hb hr hlocks hQ hK hP hD hS rfl (by rw [← h]) dxw_dropRows_5
end
section
variable {p : Program} {l : Launch} {e : Env} {R : Room} {s : State} {m : MethodId} {args : Array Value} {below : List Frame} {meth : Method} {c : Code} {H H0 : Heap} {locs : List Loc} {cells slots : Nat} {Q : State → Prop}
variable {cc : ByteArray} {pc idx nC : Nat} {ls : Array Slot} {rest : List Value} {D : va_G} {A : Nat → Prop} {own : String} {q : Nat → Nat} {cI cZ cL : ClassId} {z w : va_W}
variable {hf_classCount hf_objectCount hf_roots hf_changed sf_objectCount sf_roots sf_reachable tf_count tf_bracketCount tf_place tf_inWhere tf_compared wf_count wf_looks n_code n_number s_isDistinct s_isRetained s_sourceClass s_withDescendants : Int32}
variable {ha_parents ha_classes ha_sizes sa_linkedFrom sa_linkCounts sa_retainedSets sa_retainedSizes sa_dominators sa_immediateDominators ta_codes ta_numbers ta_brackets : Nat → Int32}
variable {ha_fields wa_rows : Nat → Int64}
variable {xq_query n_left n_right s_row s_nested s_condition s_next : Option Nat}
variable {pa_n pk_n pa_s pk_s : Nat}
theorem kxw_dropRows  (ur : Int32) (hu : sxw_dropRows wf_count = ur) (hx : p.tables.exec = Jvm.exec) (hb : c.code = cc) (hml : c.maxLocals = nC) (hts : ∀ x ∈ hq_tbl, x.before args s = true) (hown : s.vm.findClass own = some m.cls) (hK : va_K D hq_cl (hq_tys cI cZ cL) s) (hP : va_P D hq_cl (hx_w q cI cZ cL xq_query ha_parents hf_classCount ha_classes ha_sizes ha_fields hf_objectCount hf_roots hf_changed sa_linkedFrom sa_linkCounts sa_retainedSets sa_retainedSizes sa_dominators sa_immediateDominators sf_objectCount sf_roots sf_reachable ta_codes ta_numbers tf_count ta_brackets tf_bracketCount tf_place tf_inWhere tf_compared wa_rows wf_count wf_looks ++ z) H) (hD : va_D A (hx_w q cI cZ cL xq_query ha_parents hf_classCount ha_classes ha_sizes ha_fields hf_objectCount hf_roots hf_changed sa_linkedFrom sa_linkCounts sa_retainedSets sa_retainedSizes sa_dominators sa_immediateDominators sf_objectCount sf_roots sf_reachable ta_codes ta_numbers tf_count ta_brackets tf_bracketCount tf_place tf_inWhere tf_compared wa_rows wf_count wf_looks ++ z)) (hS : va_S A H0 H locs) (h1 : Cond.methodLink own idx yxw_dropRows ∈ hq_tbl) (hR : 0 + 1 ≤ R.frames ∧ 8 + (1 + 11) + 0 ≤ R.locals) (hls : ls.size = nC) (hW : (rest.map fun v => v.category).sum ≤ 8) (hdg : decode cc pc = .ok (.invokevirtual idx, 3)) (hf : cells + 0 ≤ R.cells ∧ slots + 0 ≤ R.slots) (kk : ∀ (H1 : Heap) (locs1 : List Loc), va_P D hq_cl (hx_w q cI cZ cL xq_query ha_parents hf_classCount ha_classes ha_sizes ha_fields hf_objectCount hf_roots hf_changed sa_linkedFrom sa_linkCounts sa_retainedSets sa_retainedSizes sa_dominators sa_immediateDominators sf_objectCount sf_roots sf_reachable ta_codes ta_numbers tf_count ta_brackets tf_bracketCount tf_place tf_inWhere tf_compared wa_rows ur wf_looks ++ z) H1 → va_D A (hx_w q cI cZ cL xq_query ha_parents hf_classCount ha_classes ha_sizes ha_fields hf_objectCount hf_roots hf_changed sa_linkedFrom sa_linkCounts sa_retainedSets sa_retainedSizes sa_dominators sa_immediateDominators sf_objectCount sf_roots sf_reachable ta_codes ta_numbers tf_count ta_brackets tf_bracketCount tf_place tf_inWhere tf_compared wa_rows ur wf_looks ++ z) → va_S A H0 H1 locs1 → W p l e R s m args below meth c H1 locs1 cells slots Q (F0 m (pc + 3) ls (rest))) : W p l e R s m args below meth c H locs cells slots Q (F0 m pc ls (.ref (q 4) :: rest)) :=
  hq_callV (q0 := 4) hx hb hml hown hts hK hP hD hS (cxw_dropRows  ur hu) rfl rfl h1 wi_564 wi_565 wi_311 wi_566 0 rfl (by decide +kernel) ⟨rfl, rfl⟩ hR hls rfl hW hdg hf kk
end
theorem dxw_add_0 : decode bxw_add 0 = .ok (.aload_n 0, 1) := by decide +kernel
theorem dxw_add_1 : decode bxw_add 1 = .ok (.getfield 15, 3) := by decide +kernel
theorem dxw_add_4 : decode bxw_add 4 = .ok (.sipush 192, 3) := by decide +kernel
theorem dxw_add_7 : decode bxw_add 7 = .ok (.if_icmp .ge 23, 3) := by decide +kernel
theorem dxw_add_10 : decode bxw_add 10 = .ok (.aload_n 0, 1) := by decide +kernel
theorem dxw_add_11 : decode bxw_add 11 = .ok (.getfield 9, 3) := by decide +kernel
theorem dxw_add_14 : decode bxw_add 14 = .ok (.aload_n 0, 1) := by decide +kernel
theorem dxw_add_15 : decode bxw_add 15 = .ok (.getfield 15, 3) := by decide +kernel
theorem dxw_add_18 : decode bxw_add 18 = .ok (.lload_n 1, 1) := by decide +kernel
theorem dxw_add_19 : decode bxw_add 19 = .ok (.lastore, 1) := by decide +kernel
theorem dxw_add_20 : decode bxw_add 20 = .ok (.aload_n 0, 1) := by decide +kernel
theorem dxw_add_21 : decode bxw_add 21 = .ok (.dup, 1) := by decide +kernel
theorem dxw_add_22 : decode bxw_add 22 = .ok (.getfield 15, 3) := by decide +kernel
theorem dxw_add_25 : decode bxw_add 25 = .ok (.iconst 1, 1) := by decide +kernel
theorem dxw_add_26 : decode bxw_add 26 = .ok (.iadd, 1) := by decide +kernel
theorem dxw_add_27 : decode bxw_add 27 = .ok (.putfield 15, 3) := by decide +kernel
theorem dxw_add_30 : decode bxw_add 30 = .ok (.return_, 1) := by decide +kernel
section
variable {l : Launch} {D : va_G} {A : Nat → Prop} {z w : va_W} {q : Nat → Nat} {cI cZ cL : ClassId}
variable {hf_classCount hf_objectCount hf_roots hf_changed sf_objectCount sf_roots sf_reachable tf_count tf_bracketCount tf_place tf_inWhere tf_compared wf_count wf_looks n_code n_number s_isDistinct s_isRetained s_sourceClass s_withDescendants : Int32}
variable {ha_parents ha_classes ha_sizes sa_linkedFrom sa_linkCounts sa_retainedSets sa_retainedSizes sa_dominators sa_immediateDominators ta_codes ta_numbers ta_brackets : Nat → Int32}
variable {ha_fields wa_rows : Nat → Int64}
variable {xq_query n_left n_right s_row s_nested s_condition s_next : Option Nat}
variable {pa_n pk_n pa_s pk_s : Nat}
set_option maxHeartbeats 4000000 in
set_option maxRecDepth 100000 in
theorem cxw_add (l1 : Int64) (ur : (Nat → Int64) × Int32) (h : sxw_add l1 wa_rows wf_count = some ur) : hq_Ct l yxw_add bxw_add 3 none { frames := 0, cells := 0, slots := 0, locals := 0 } D (hq_tys cI cZ cL) A [.ref (q 4), .long l1] (hx_w q cI cZ cL xq_query ha_parents hf_classCount ha_classes ha_sizes ha_fields hf_objectCount hf_roots hf_changed sa_linkedFrom sa_linkCounts sa_retainedSets sa_retainedSizes sa_dominators sa_immediateDominators sf_objectCount sf_roots sf_reachable ta_codes ta_numbers tf_count ta_brackets tf_bracketCount tf_place tf_inWhere tf_compared wa_rows wf_count wf_looks ++ z) (hx_w q cI cZ cL xq_query ha_parents hf_classCount ha_classes ha_sizes ha_fields hf_objectCount hf_roots hf_changed sa_linkedFrom sa_linkCounts sa_retainedSets sa_retainedSizes sa_dominators sa_immediateDominators sf_objectCount sf_roots sf_reachable ta_codes ta_numbers tf_count ta_brackets tf_bracketCount tf_place tf_inWhere tf_compared ur.1 ur.2 wf_looks ++ z) none 0 0 := by
  refine hq_of (by decide) ?_ (Nat.le_of_ble_eq_true rfl)
  intro p e s m below meth c R args Q hRm hQ hx hb hr hml hts hown hlocks hnm hP hK hD ls hl hS
  have hl : lv_has ls 3 [(0, .ref (q 4)), (1, .long l1)] := hl
  have hown : s.vm.findClass "HeapQueries$Worker" = some m.cls := hown
  unfold sxw_add at h
  refine lv_aload_n hx hb dxw_add_0 rfl (lv_at hl 0 rfl) ?_
  refine gx_4_count hx hb hts hown hK hP wi_56 dxw_add_1 ?_
  refine lv_sipush (v := 192) hx hb dxw_add_4 (by decide) ?_
  refine lv_icmp_ge (tgt := 30) hx hb dxw_add_7 (by decide) (fun hc => ?_) (fun hc => ?_)
  · have h := (if_pos hc).symm.trans h
    have h := Option.some.inj h
    exact hq_vret hx hb hr hlocks hQ hK hP hD hS rfl (by rw [← h]) dxw_add_30
  · have h := (if_neg hc).symm.trans h
    refine lv_aload_n hx hb dxw_add_10 rfl (lv_at hl 0 rfl) ?_
    refine gx_4_rows hx hb hts hown hK hP wi_59 dxw_add_11 ?_
    refine lv_aload_n hx hb dxw_add_14 rfl (lv_at hl 0 rfl) ?_
    refine gx_4_count hx hb hts hown hK hP wi_56 dxw_add_15 ?_
    refine lv_lload_n hx hb dxw_add_18 rfl (lv_at hl 1 rfl) ?_
    obtain ⟨hin, h⟩ := hq_idx h
    refine tx_18 hx hb hK hP hD hS hin dxw_add_19 (fun H locs hP hD hS => ?_)
    refine lv_aload_n hx hb dxw_add_20 rfl (lv_at hl 0 rfl) ?_
    refine lv_dup hx hb dxw_add_21 rfl ?_
    refine gx_4_count hx hb hts hown hK hP wi_56 dxw_add_22 ?_
    refine lv_iconst (v := 1) hx hb dxw_add_25 (by decide) ?_
    refine lv_iadd hx hb dxw_add_26 ?_
    refine px_4_count hx hb hts hown hK hP hD hS wi_56 dxw_add_27 (fun H locs hP hD hS => ?_)
    have h := Option.some.inj h
    exact hq_vret hx hb hr hlocks hQ hK hP hD hS rfl (by rw [← h]) dxw_add_30
end
section
variable {p : Program} {l : Launch} {e : Env} {R : Room} {s : State} {m : MethodId} {args : Array Value} {below : List Frame} {meth : Method} {c : Code} {H H0 : Heap} {locs : List Loc} {cells slots : Nat} {Q : State → Prop}
variable {cc : ByteArray} {pc idx nC : Nat} {ls : Array Slot} {rest : List Value} {D : va_G} {A : Nat → Prop} {own : String} {q : Nat → Nat} {cI cZ cL : ClassId} {z w : va_W}
variable {hf_classCount hf_objectCount hf_roots hf_changed sf_objectCount sf_roots sf_reachable tf_count tf_bracketCount tf_place tf_inWhere tf_compared wf_count wf_looks n_code n_number s_isDistinct s_isRetained s_sourceClass s_withDescendants : Int32}
variable {ha_parents ha_classes ha_sizes sa_linkedFrom sa_linkCounts sa_retainedSets sa_retainedSizes sa_dominators sa_immediateDominators ta_codes ta_numbers ta_brackets : Nat → Int32}
variable {ha_fields wa_rows : Nat → Int64}
variable {xq_query n_left n_right s_row s_nested s_condition s_next : Option Nat}
variable {pa_n pk_n pa_s pk_s : Nat}
theorem kxw_add (l1 : Int64) (ur : (Nat → Int64) × Int32) (hu : sxw_add l1 wa_rows wf_count = some ur) (hx : p.tables.exec = Jvm.exec) (hb : c.code = cc) (hml : c.maxLocals = nC) (hts : ∀ x ∈ hq_tbl, x.before args s = true) (hown : s.vm.findClass own = some m.cls) (hK : va_K D hq_cl (hq_tys cI cZ cL) s) (hP : va_P D hq_cl (hx_w q cI cZ cL xq_query ha_parents hf_classCount ha_classes ha_sizes ha_fields hf_objectCount hf_roots hf_changed sa_linkedFrom sa_linkCounts sa_retainedSets sa_retainedSizes sa_dominators sa_immediateDominators sf_objectCount sf_roots sf_reachable ta_codes ta_numbers tf_count ta_brackets tf_bracketCount tf_place tf_inWhere tf_compared wa_rows wf_count wf_looks ++ z) H) (hD : va_D A (hx_w q cI cZ cL xq_query ha_parents hf_classCount ha_classes ha_sizes ha_fields hf_objectCount hf_roots hf_changed sa_linkedFrom sa_linkCounts sa_retainedSets sa_retainedSizes sa_dominators sa_immediateDominators sf_objectCount sf_roots sf_reachable ta_codes ta_numbers tf_count ta_brackets tf_bracketCount tf_place tf_inWhere tf_compared wa_rows wf_count wf_looks ++ z)) (hS : va_S A H0 H locs) (h1 : Cond.methodLink own idx yxw_add ∈ hq_tbl) (hR : 0 + 1 ≤ R.frames ∧ 8 + (3 + 11) + 0 ≤ R.locals) (hls : ls.size = nC) (hW : (rest.map fun v => v.category).sum ≤ 8) (hdg : decode cc pc = .ok (.invokevirtual idx, 3)) (hf : cells + 0 ≤ R.cells ∧ slots + 0 ≤ R.slots) (kk : ∀ (H1 : Heap) (locs1 : List Loc), va_P D hq_cl (hx_w q cI cZ cL xq_query ha_parents hf_classCount ha_classes ha_sizes ha_fields hf_objectCount hf_roots hf_changed sa_linkedFrom sa_linkCounts sa_retainedSets sa_retainedSizes sa_dominators sa_immediateDominators sf_objectCount sf_roots sf_reachable ta_codes ta_numbers tf_count ta_brackets tf_bracketCount tf_place tf_inWhere tf_compared ur.1 ur.2 wf_looks ++ z) H1 → va_D A (hx_w q cI cZ cL xq_query ha_parents hf_classCount ha_classes ha_sizes ha_fields hf_objectCount hf_roots hf_changed sa_linkedFrom sa_linkCounts sa_retainedSets sa_retainedSizes sa_dominators sa_immediateDominators sf_objectCount sf_roots sf_reachable ta_codes ta_numbers tf_count ta_brackets tf_bracketCount tf_place tf_inWhere tf_compared ur.1 ur.2 wf_looks ++ z) → va_S A H0 H1 locs1 → W p l e R s m args below meth c H1 locs1 cells slots Q (F0 m (pc + 3) ls (rest))) : W p l e R s m args below meth c H locs cells slots Q (F0 m pc ls (.long l1 :: .ref (q 4) :: rest)) :=
  hq_callV (q0 := 4) hx hb hml hown hts hK hP hD hS (cxw_add l1 ur hu) rfl rfl h1 wi_567 wi_568 wi_311 wi_569 1 rfl (by decide +kernel) ⟨rfl, rfl⟩ hR hls rfl hW hdg hf kk
end
theorem dxw_addObjectsOfClass_0 : decode bxw_addObjectsOfClass 0 = .ok (.aload_n 2, 1) := by decide +kernel
theorem dxw_addObjectsOfClass_1 : decode bxw_addObjectsOfClass 1 = .ok (.getfield 70, 3) := by decide +kernel
theorem dxw_addObjectsOfClass_4 : decode bxw_addObjectsOfClass 4 = .ok (.istore_n 3, 1) := by decide +kernel
theorem dxw_addObjectsOfClass_5 : decode bxw_addObjectsOfClass 5 = .ok (.iconst 0, 1) := by decide +kernel
theorem dxw_addObjectsOfClass_6 : decode bxw_addObjectsOfClass 6 = .ok (.istore 4, 2) := by decide +kernel
theorem dxw_addObjectsOfClass_8 : decode bxw_addObjectsOfClass 8 = .ok (.iload 4, 2) := by decide +kernel
theorem dxw_addObjectsOfClass_10 : decode bxw_addObjectsOfClass 10 = .ok (.aload_n 1, 1) := by decide +kernel
theorem dxw_addObjectsOfClass_11 : decode bxw_addObjectsOfClass 11 = .ok (.invokevirtual 73, 3) := by decide +kernel
theorem dxw_addObjectsOfClass_14 : decode bxw_addObjectsOfClass 14 = .ok (.if_icmp .ge 48, 3) := by decide +kernel
theorem dxw_addObjectsOfClass_17 : decode bxw_addObjectsOfClass 17 = .ok (.aload_n 2, 1) := by decide +kernel
theorem dxw_addObjectsOfClass_18 : decode bxw_addObjectsOfClass 18 = .ok (.getfield 79, 3) := by decide +kernel
theorem dxw_addObjectsOfClass_21 : decode bxw_addObjectsOfClass 21 = .ok (.ifCond .eq 16, 3) := by decide +kernel
theorem dxw_addObjectsOfClass_24 : decode bxw_addObjectsOfClass 24 = .ok (.aload_n 1, 1) := by decide +kernel
theorem dxw_addObjectsOfClass_25 : decode bxw_addObjectsOfClass 25 = .ok (.iload 4, 2) := by decide +kernel
theorem dxw_addObjectsOfClass_27 : decode bxw_addObjectsOfClass 27 = .ok (.iload_n 3, 1) := by decide +kernel
theorem dxw_addObjectsOfClass_28 : decode bxw_addObjectsOfClass 28 = .ok (.invokevirtual 82, 3) := by decide +kernel
theorem dxw_addObjectsOfClass_31 : decode bxw_addObjectsOfClass 31 = .ok (.ifCond .eq 25, 3) := by decide +kernel
theorem dxw_addObjectsOfClass_34 : decode bxw_addObjectsOfClass 34 = .ok (.goto 13, 3) := by decide +kernel
theorem dxw_addObjectsOfClass_37 : decode bxw_addObjectsOfClass 37 = .ok (.aload_n 1, 1) := by decide +kernel
theorem dxw_addObjectsOfClass_38 : decode bxw_addObjectsOfClass 38 = .ok (.iload 4, 2) := by decide +kernel
theorem dxw_addObjectsOfClass_40 : decode bxw_addObjectsOfClass 40 = .ok (.invokevirtual 86, 3) := by decide +kernel
theorem dxw_addObjectsOfClass_43 : decode bxw_addObjectsOfClass 43 = .ok (.iload_n 3, 1) := by decide +kernel
theorem dxw_addObjectsOfClass_44 : decode bxw_addObjectsOfClass 44 = .ok (.if_icmp .ne 12, 3) := by decide +kernel
theorem dxw_addObjectsOfClass_47 : decode bxw_addObjectsOfClass 47 = .ok (.aload_n 0, 1) := by decide +kernel
theorem dxw_addObjectsOfClass_48 : decode bxw_addObjectsOfClass 48 = .ok (.iload 4, 2) := by decide +kernel
theorem dxw_addObjectsOfClass_50 : decode bxw_addObjectsOfClass 50 = .ok (.invokestatic 90, 3) := by decide +kernel
theorem dxw_addObjectsOfClass_53 : decode bxw_addObjectsOfClass 53 = .ok (.invokevirtual 96, 3) := by decide +kernel
theorem dxw_addObjectsOfClass_56 : decode bxw_addObjectsOfClass 56 = .ok (.iinc 4 1, 3) := by decide +kernel
theorem dxw_addObjectsOfClass_59 : decode bxw_addObjectsOfClass 59 = .ok (.goto (-51), 3) := by decide +kernel
theorem dxw_addObjectsOfClass_62 : decode bxw_addObjectsOfClass 62 = .ok (.return_, 1) := by decide +kernel
section
variable {l : Launch} {D : va_G} {A : Nat → Prop} {z w : va_W} {q : Nat → Nat} {cI cZ cL : ClassId}
variable {hf_classCount hf_objectCount hf_roots hf_changed sf_objectCount sf_roots sf_reachable tf_count tf_bracketCount tf_place tf_inWhere tf_compared wf_count wf_looks n_code n_number s_isDistinct s_isRetained s_sourceClass s_withDescendants : Int32}
variable {ha_parents ha_classes ha_sizes sa_linkedFrom sa_linkCounts sa_retainedSets sa_retainedSizes sa_dominators sa_immediateDominators ta_codes ta_numbers ta_brackets : Nat → Int32}
variable {ha_fields wa_rows : Nat → Int64}
variable {xq_query n_left n_right s_row s_nested s_condition s_next : Option Nat}
variable {pa_n pk_n pa_s pk_s : Nat}
set_option maxHeartbeats 4000000 in
set_option maxRecDepth 100000 in
theorem cxw_addObjectsOfClass  (ur : (Nat → Int64) × Int32) (h : sxw_addObjectsOfClass ha_parents ha_classes hf_objectCount wa_rows wf_count s_sourceClass s_withDescendants = some ur) (ph_s : z[pk_s]? = some (pa_s, .inr (6, [.int s_isDistinct, .int s_isRetained, va_rf s_row, va_rf s_nested, .int s_sourceClass, .int s_withDescendants, va_rf s_condition, va_rf s_next]))) : hq_Ct l yxw_addObjectsOfClass bxw_addObjectsOfClass 5 none { frames := 1, cells := 0, slots := 0, locals := 24 } D (hq_tys cI cZ cL) A [.ref (q 4), .ref (q 1), .ref pa_s] (hx_w q cI cZ cL xq_query ha_parents hf_classCount ha_classes ha_sizes ha_fields hf_objectCount hf_roots hf_changed sa_linkedFrom sa_linkCounts sa_retainedSets sa_retainedSizes sa_dominators sa_immediateDominators sf_objectCount sf_roots sf_reachable ta_codes ta_numbers tf_count ta_brackets tf_bracketCount tf_place tf_inWhere tf_compared wa_rows wf_count wf_looks ++ z) (hx_w q cI cZ cL xq_query ha_parents hf_classCount ha_classes ha_sizes ha_fields hf_objectCount hf_roots hf_changed sa_linkedFrom sa_linkCounts sa_retainedSets sa_retainedSizes sa_dominators sa_immediateDominators sf_objectCount sf_roots sf_reachable ta_codes ta_numbers tf_count ta_brackets tf_bracketCount tf_place tf_inWhere tf_compared ur.1 ur.2 wf_looks ++ z) none 0 0 := by
  refine hq_of (by decide) ?_ (Nat.le_of_ble_eq_true rfl)
  intro p e s m below meth c R args Q hRm hQ hx hb hr hml hts hown hlocks hnm hP hK hD ls hl hS
  have hl : lv_has ls 5 [(0, .ref (q 4)), (1, .ref (q 1)), (2, .ref pa_s)] := hl
  have hown : s.vm.findClass "HeapQueries$Worker" = some m.cls := hown
  unfold sxw_addObjectsOfClass at h
  have L8 : ∀ (n : Nat) (l3 : Int32) (l4 : Int32) {wa_rows : Nat → Int64} {wf_count : Int32} {ls : Array Slot} {H : Heap} {locs : List Loc}, lv_has ls 5 [(0, .ref (q 4)), (1, .ref (q 1)), (2, .ref pa_s), (3, .int l3), (4, .int l4)] → va_P D hq_cl (hx_w q cI cZ cL xq_query ha_parents hf_classCount ha_classes ha_sizes ha_fields hf_objectCount hf_roots hf_changed sa_linkedFrom sa_linkCounts sa_retainedSets sa_retainedSizes sa_dominators sa_immediateDominators sf_objectCount sf_roots sf_reachable ta_codes ta_numbers tf_count ta_brackets tf_bracketCount tf_place tf_inWhere tf_compared wa_rows wf_count wf_looks ++ z) H → va_D A (hx_w q cI cZ cL xq_query ha_parents hf_classCount ha_classes ha_sizes ha_fields hf_objectCount hf_roots hf_changed sa_linkedFrom sa_linkCounts sa_retainedSets sa_retainedSizes sa_dominators sa_immediateDominators sf_objectCount sf_roots sf_reachable ta_codes ta_numbers tf_count ta_brackets tf_bracketCount tf_place tf_inWhere tf_compared wa_rows wf_count wf_looks ++ z) → va_S A s.heap H locs → ∀ u8, sxw_addObjectsOfClass_L8 n l3 l4 ha_parents ha_classes hf_objectCount wa_rows wf_count s_withDescendants = some u8 → (∀ (ls : Array Slot) (H : Heap) (locs : List Loc), lv_has ls 5 [] → va_P D hq_cl (hx_w q cI cZ cL xq_query ha_parents hf_classCount ha_classes ha_sizes ha_fields hf_objectCount hf_roots hf_changed sa_linkedFrom sa_linkCounts sa_retainedSets sa_retainedSizes sa_dominators sa_immediateDominators sf_objectCount sf_roots sf_reachable ta_codes ta_numbers tf_count ta_brackets tf_bracketCount tf_place tf_inWhere tf_compared u8.1 u8.2 wf_looks ++ z) H → va_D A (hx_w q cI cZ cL xq_query ha_parents hf_classCount ha_classes ha_sizes ha_fields hf_objectCount hf_roots hf_changed sa_linkedFrom sa_linkCounts sa_retainedSets sa_retainedSizes sa_dominators sa_immediateDominators sf_objectCount sf_roots sf_reachable ta_codes ta_numbers tf_count ta_brackets tf_bracketCount tf_place tf_inWhere tf_compared u8.1 u8.2 wf_looks ++ z) → va_S A s.heap H locs → W p l e R s m args below meth c H locs 0 0 Q (F0 m 62 ls [])) → W p l e R s m args below meth c H locs 0 0 Q (F0 m 8 ls []) := by
    intro n
    induction n with
    | zero =>
      intro l3 l4 wa_rows wf_count ls H locs hl hP hD hS u8 h kx
      have h : (none : Option ((Nat → Int64) × Int32)) = some u8 := h
      cases h
    | succ n ih =>
      intro l3 l4 wa_rows wf_count ls H locs hl hP hD hS u8 h kx
      have h : sxw_addObjectsOfClass_L8_B (sxw_addObjectsOfClass_L8 n) l3 l4 ha_parents ha_classes hf_objectCount wa_rows wf_count s_withDescendants = some u8 := h
      unfold sxw_addObjectsOfClass_L8_B at h
      have J47 : ∀ (l4 : Int32) {wa_rows : Nat → Int64} {wf_count : Int32} {ls : Array Slot} {H : Heap} {locs : List Loc}, lv_has ls 5 [(0, .ref (q 4)), (1, .ref (q 1)), (2, .ref pa_s), (3, .int l3), (4, .int l4)] → va_P D hq_cl (hx_w q cI cZ cL xq_query ha_parents hf_classCount ha_classes ha_sizes ha_fields hf_objectCount hf_roots hf_changed sa_linkedFrom sa_linkCounts sa_retainedSets sa_retainedSizes sa_dominators sa_immediateDominators sf_objectCount sf_roots sf_reachable ta_codes ta_numbers tf_count ta_brackets tf_bracketCount tf_place tf_inWhere tf_compared wa_rows wf_count wf_looks ++ z) H → va_D A (hx_w q cI cZ cL xq_query ha_parents hf_classCount ha_classes ha_sizes ha_fields hf_objectCount hf_roots hf_changed sa_linkedFrom sa_linkCounts sa_retainedSets sa_retainedSizes sa_dominators sa_immediateDominators sf_objectCount sf_roots sf_reachable ta_codes ta_numbers tf_count ta_brackets tf_bracketCount tf_place tf_inWhere tf_compared wa_rows wf_count wf_looks ++ z) → va_S A s.heap H locs → sxw_addObjectsOfClass_J47 (sxw_addObjectsOfClass_L8 n) l3 l4 ha_parents ha_classes hf_objectCount wa_rows wf_count s_withDescendants = some u8 → W p l e R s m args below meth c H locs 0 0 Q (F0 m 47 ls []) := by
        intro l4 wa_rows wf_count ls H locs hl hP hD hS h
        unfold sxw_addObjectsOfClass_J47 at h
        refine lv_aload_n hx hb dxw_addObjectsOfClass_47 rfl (lv_at hl 0 rfl) ?_
        refine lv_iload hx hb dxw_addObjectsOfClass_48 (lv_at hl 4 rfl) ?_
        refine kxv_link l4 (sxv_link l4) rfl hx hb hml hts hown hK hP hD hS wi_185 (by rw [hRm]; exact ⟨Nat.le_of_ble_eq_true rfl, Nat.le_of_ble_eq_true rfl⟩) hl.1 (Nat.le_of_ble_eq_true rfl) dxw_addObjectsOfClass_50 ⟨Nat.zero_le _, Nat.zero_le _⟩ (fun H locs hP hD hS => ?_)
        obtain ⟨v53, h53, h⟩ := hq_bind h
        refine kxw_add (sxv_link l4) v53 h53 hx hb hml hts hown hK hP hD hS wi_186 (by rw [hRm]; exact ⟨Nat.le_of_ble_eq_true rfl, Nat.le_of_ble_eq_true rfl⟩) hl.1 (Nat.le_of_ble_eq_true rfl) dxw_addObjectsOfClass_53 ⟨Nat.zero_le _, Nat.zero_le _⟩ (fun H locs hP hD hS => ?_)
        refine lv_iinc (k := 4) (v := l4 + 1) (lv' := [(4, .int (l4 + 1)), (0, .ref (q 4)), (1, .ref (q 1)), (2, .ref pa_s), (3, .int l3)]) hx hb dxw_addObjectsOfClass_56 hl rfl (congrArg (fun j => l4 + j) (by decide)) (by decide) rfl (fun ls hl => ?_)
        refine lv_goto (tgt := 8) hx hb dxw_addObjectsOfClass_59 (by decide) ?_
        exact ih l3 (l4 + 1) (lv_sub hl [1, 2, 3, 4, 0] rfl) hP hD hS u8 h kx
      refine lv_iload hx hb dxw_addObjectsOfClass_8 (lv_at hl 4 rfl) ?_
      refine lv_aload_n hx hb dxw_addObjectsOfClass_10 rfl (lv_at hl 1 rfl) ?_
      refine kxh_size  (sxh_size hf_objectCount) rfl hx hb hml hts hown hK hP hD hS wi_187 (by rw [hRm]; exact ⟨Nat.le_of_ble_eq_true rfl, Nat.le_of_ble_eq_true rfl⟩) hl.1 (Nat.le_of_ble_eq_true rfl) dxw_addObjectsOfClass_11 ⟨Nat.zero_le _, Nat.zero_le _⟩ (fun H locs hP hD hS => ?_)
      refine lv_icmp_ge (tgt := 62) hx hb dxw_addObjectsOfClass_14 (by decide) (fun hc => ?_) (fun hc => ?_)
      · have h := (if_pos hc).symm.trans h
        have h := Option.some.inj h
        subst h
        exact kx ls H locs (lv_sub hl [] rfl) hP hD hS
      · have h := (if_neg hc).symm.trans h
        refine lv_aload_n hx hb dxw_addObjectsOfClass_17 rfl (lv_at hl 2 rfl) ?_
        refine gx_s_withDescendants hx hb hts hown hK hP ph_s wi_188 dxw_addObjectsOfClass_18 ?_
        refine lv_if_eq (tgt := 37) hx hb dxw_addObjectsOfClass_21 (by decide) (fun hc => ?_) (fun hc => ?_)
        · have h := (if_pos hc).symm.trans h
          refine lv_aload_n hx hb dxw_addObjectsOfClass_37 rfl (lv_at hl 1 rfl) ?_
          refine lv_iload hx hb dxw_addObjectsOfClass_38 (lv_at hl 4 rfl) ?_
          obtain ⟨v40, h40, h⟩ := hq_bind h
          refine kxh_classOf l4 v40 h40 hx hb hml hts hown hK hP hD hS wi_189 (by rw [hRm]; exact ⟨Nat.le_of_ble_eq_true rfl, Nat.le_of_ble_eq_true rfl⟩) hl.1 (Nat.le_of_ble_eq_true rfl) dxw_addObjectsOfClass_40 ⟨Nat.zero_le _, Nat.zero_le _⟩ (fun H locs hP hD hS => ?_)
          refine lv_iload_n hx hb dxw_addObjectsOfClass_43 rfl (lv_at hl 3 rfl) ?_
          refine lv_icmp_ne (tgt := 56) hx hb dxw_addObjectsOfClass_44 (by decide) (fun hc => ?_) (fun hc => ?_)
          · have h := (if_neg hc).symm.trans h
            refine lv_iinc (k := 4) (v := l4 + 1) (lv' := [(4, .int (l4 + 1)), (0, .ref (q 4)), (1, .ref (q 1)), (2, .ref pa_s), (3, .int l3)]) hx hb dxw_addObjectsOfClass_56 hl rfl (congrArg (fun j => l4 + j) (by decide)) (by decide) rfl (fun ls hl => ?_)
            refine lv_goto (tgt := 8) hx hb dxw_addObjectsOfClass_59 (by decide) ?_
            exact ih l3 (l4 + 1) (lv_sub hl [1, 2, 3, 4, 0] rfl) hP hD hS u8 h kx
          · have h := (if_pos hc).symm.trans h
            exact J47 l4 hl hP hD hS h
        · have h := (if_neg hc).symm.trans h
          refine lv_aload_n hx hb dxw_addObjectsOfClass_24 rfl (lv_at hl 1 rfl) ?_
          refine lv_iload hx hb dxw_addObjectsOfClass_25 (lv_at hl 4 rfl) ?_
          refine lv_iload_n hx hb dxw_addObjectsOfClass_27 rfl (lv_at hl 3 rfl) ?_
          obtain ⟨v28, h28, h⟩ := hq_bind h
          refine kxh_isInstance l4 l3 v28 h28 hx hb hml hts hown hK hP hD hS wi_190 (by rw [hRm]; exact ⟨Nat.le_of_ble_eq_true rfl, Nat.le_of_ble_eq_true rfl⟩) hl.1 (Nat.le_of_ble_eq_true rfl) dxw_addObjectsOfClass_28 ⟨Nat.zero_le _, Nat.zero_le _⟩ (fun H locs hP hD hS => ?_)
          refine lv_if_eq (tgt := 56) hx hb dxw_addObjectsOfClass_31 (by decide) (fun hc => ?_) (fun hc => ?_)
          · have h := (if_pos hc).symm.trans h
            refine lv_iinc (k := 4) (v := l4 + 1) (lv' := [(4, .int (l4 + 1)), (0, .ref (q 4)), (1, .ref (q 1)), (2, .ref pa_s), (3, .int l3)]) hx hb dxw_addObjectsOfClass_56 hl rfl (congrArg (fun j => l4 + j) (by decide)) (by decide) rfl (fun ls hl => ?_)
            refine lv_goto (tgt := 8) hx hb dxw_addObjectsOfClass_59 (by decide) ?_
            exact ih l3 (l4 + 1) (lv_sub hl [1, 2, 3, 4, 0] rfl) hP hD hS u8 h kx
          · have h := (if_neg hc).symm.trans h
            refine lv_goto (tgt := 47) hx hb dxw_addObjectsOfClass_34 (by decide) ?_
            exact J47 l4 hl hP hD hS h
  refine lv_aload_n hx hb dxw_addObjectsOfClass_0 rfl (lv_at hl 2 rfl) ?_
  refine gx_s_sourceClass hx hb hts hown hK hP ph_s wi_191 dxw_addObjectsOfClass_1 ?_
  refine lv_istore_n (lv' := [(3, .int s_sourceClass), (0, .ref (q 4)), (1, .ref (q 1)), (2, .ref pa_s)]) hx hb dxw_addObjectsOfClass_4 rfl hl (by decide) rfl (fun ls hl => ?_)
  refine lv_iconst (v := 0) hx hb dxw_addObjectsOfClass_5 (by decide) ?_
  refine lv_istore (lv' := [(4, .int 0), (3, .int s_sourceClass), (0, .ref (q 4)), (1, .ref (q 1)), (2, .ref pa_s)]) hx hb dxw_addObjectsOfClass_6 hl (by decide) rfl (fun ls hl => ?_)
  obtain ⟨u8, h8, h⟩ := hq_bind h
  refine L8 kF s_sourceClass 0 (lv_sub hl [2, 3, 4, 1, 0] rfl) hP hD hS u8 h8 (fun ls H locs hl hP hD hS => ?_)
  have h := Option.some.inj h
  exact hq_vret hx hb hr hlocks hQ hK hP hD hS rfl (by rw [← h]) dxw_addObjectsOfClass_62
end
section
variable {p : Program} {l : Launch} {e : Env} {R : Room} {s : State} {m : MethodId} {args : Array Value} {below : List Frame} {meth : Method} {c : Code} {H H0 : Heap} {locs : List Loc} {cells slots : Nat} {Q : State → Prop}
variable {cc : ByteArray} {pc idx nC : Nat} {ls : Array Slot} {rest : List Value} {D : va_G} {A : Nat → Prop} {own : String} {q : Nat → Nat} {cI cZ cL : ClassId} {z w : va_W}
variable {hf_classCount hf_objectCount hf_roots hf_changed sf_objectCount sf_roots sf_reachable tf_count tf_bracketCount tf_place tf_inWhere tf_compared wf_count wf_looks n_code n_number s_isDistinct s_isRetained s_sourceClass s_withDescendants : Int32}
variable {ha_parents ha_classes ha_sizes sa_linkedFrom sa_linkCounts sa_retainedSets sa_retainedSizes sa_dominators sa_immediateDominators ta_codes ta_numbers ta_brackets : Nat → Int32}
variable {ha_fields wa_rows : Nat → Int64}
variable {xq_query n_left n_right s_row s_nested s_condition s_next : Option Nat}
variable {pa_n pk_n pa_s pk_s : Nat}
theorem kxw_addObjectsOfClass  (ur : (Nat → Int64) × Int32) (hu : sxw_addObjectsOfClass ha_parents ha_classes hf_objectCount wa_rows wf_count s_sourceClass s_withDescendants = some ur) (ph_s : z[pk_s]? = some (pa_s, .inr (6, [.int s_isDistinct, .int s_isRetained, va_rf s_row, va_rf s_nested, .int s_sourceClass, .int s_withDescendants, va_rf s_condition, va_rf s_next]))) (hx : p.tables.exec = Jvm.exec) (hb : c.code = cc) (hml : c.maxLocals = nC) (hts : ∀ x ∈ hq_tbl, x.before args s = true) (hown : s.vm.findClass own = some m.cls) (hK : va_K D hq_cl (hq_tys cI cZ cL) s) (hP : va_P D hq_cl (hx_w q cI cZ cL xq_query ha_parents hf_classCount ha_classes ha_sizes ha_fields hf_objectCount hf_roots hf_changed sa_linkedFrom sa_linkCounts sa_retainedSets sa_retainedSizes sa_dominators sa_immediateDominators sf_objectCount sf_roots sf_reachable ta_codes ta_numbers tf_count ta_brackets tf_bracketCount tf_place tf_inWhere tf_compared wa_rows wf_count wf_looks ++ z) H) (hD : va_D A (hx_w q cI cZ cL xq_query ha_parents hf_classCount ha_classes ha_sizes ha_fields hf_objectCount hf_roots hf_changed sa_linkedFrom sa_linkCounts sa_retainedSets sa_retainedSizes sa_dominators sa_immediateDominators sf_objectCount sf_roots sf_reachable ta_codes ta_numbers tf_count ta_brackets tf_bracketCount tf_place tf_inWhere tf_compared wa_rows wf_count wf_looks ++ z)) (hS : va_S A H0 H locs) (h1 : Cond.methodLink own idx yxw_addObjectsOfClass ∈ hq_tbl) (hR : 1 + 1 ≤ R.frames ∧ 8 + (5 + 11) + 24 ≤ R.locals) (hls : ls.size = nC) (hW : (rest.map fun v => v.category).sum ≤ 8) (hdg : decode cc pc = .ok (.invokevirtual idx, 3)) (hf : cells + 0 ≤ R.cells ∧ slots + 0 ≤ R.slots) (kk : ∀ (H1 : Heap) (locs1 : List Loc), va_P D hq_cl (hx_w q cI cZ cL xq_query ha_parents hf_classCount ha_classes ha_sizes ha_fields hf_objectCount hf_roots hf_changed sa_linkedFrom sa_linkCounts sa_retainedSets sa_retainedSizes sa_dominators sa_immediateDominators sf_objectCount sf_roots sf_reachable ta_codes ta_numbers tf_count ta_brackets tf_bracketCount tf_place tf_inWhere tf_compared ur.1 ur.2 wf_looks ++ z) H1 → va_D A (hx_w q cI cZ cL xq_query ha_parents hf_classCount ha_classes ha_sizes ha_fields hf_objectCount hf_roots hf_changed sa_linkedFrom sa_linkCounts sa_retainedSets sa_retainedSizes sa_dominators sa_immediateDominators sf_objectCount sf_roots sf_reachable ta_codes ta_numbers tf_count ta_brackets tf_bracketCount tf_place tf_inWhere tf_compared ur.1 ur.2 wf_looks ++ z) → va_S A H0 H1 locs1 → W p l e R s m args below meth c H1 locs1 cells slots Q (F0 m (pc + 3) ls (rest))) : W p l e R s m args below meth c H locs cells slots Q (F0 m pc ls (.ref pa_s :: .ref (q 1) :: .ref (q 4) :: rest)) :=
  hq_callV (q0 := 4) hx hb hml hown hts hK hP hD hS (cxw_addObjectsOfClass  ur hu ph_s) rfl rfl h1 wi_570 wi_571 wi_311 wi_572 2 rfl (by decide +kernel) ⟨rfl, rfl⟩ hR hls rfl hW hdg hf kk
end
theorem dxw_hasNumber_0 : decode bxw_hasNumber 0 = .ok (.iload_n 1, 1) := by decide +kernel
theorem dxw_hasNumber_1 : decode bxw_hasNumber 1 = .ok (.istore_n 2, 1) := by decide +kernel
theorem dxw_hasNumber_2 : decode bxw_hasNumber 2 = .ok (.iload_n 2, 1) := by decide +kernel
theorem dxw_hasNumber_3 : decode bxw_hasNumber 3 = .ok (.aload_n 0, 1) := by decide +kernel
theorem dxw_hasNumber_4 : decode bxw_hasNumber 4 = .ok (.getfield 15, 3) := by decide +kernel
theorem dxw_hasNumber_7 : decode bxw_hasNumber 7 = .ok (.if_icmp .ge 23, 3) := by decide +kernel
theorem dxw_hasNumber_10 : decode bxw_hasNumber 10 = .ok (.aload_n 0, 1) := by decide +kernel
theorem dxw_hasNumber_11 : decode bxw_hasNumber 11 = .ok (.getfield 9, 3) := by decide +kernel
theorem dxw_hasNumber_14 : decode bxw_hasNumber 14 = .ok (.iload_n 2, 1) := by decide +kernel
theorem dxw_hasNumber_15 : decode bxw_hasNumber 15 = .ok (.laload, 1) := by decide +kernel
theorem dxw_hasNumber_16 : decode bxw_hasNumber 16 = .ok (.invokestatic 148, 3) := by decide +kernel
theorem dxw_hasNumber_19 : decode bxw_hasNumber 19 = .ok (.ifCond .eq 5, 3) := by decide +kernel
theorem dxw_hasNumber_22 : decode bxw_hasNumber 22 = .ok (.iconst 1, 1) := by decide +kernel
theorem dxw_hasNumber_23 : decode bxw_hasNumber 23 = .ok (.ireturn, 1) := by decide +kernel
theorem dxw_hasNumber_24 : decode bxw_hasNumber 24 = .ok (.iinc 2 1, 3) := by decide +kernel
theorem dxw_hasNumber_27 : decode bxw_hasNumber 27 = .ok (.goto (-25), 3) := by decide +kernel
theorem dxw_hasNumber_30 : decode bxw_hasNumber 30 = .ok (.iconst 0, 1) := by decide +kernel
theorem dxw_hasNumber_31 : decode bxw_hasNumber 31 = .ok (.ireturn, 1) := by decide +kernel
section
variable {l : Launch} {D : va_G} {A : Nat → Prop} {z w : va_W} {q : Nat → Nat} {cI cZ cL : ClassId}
variable {hf_classCount hf_objectCount hf_roots hf_changed sf_objectCount sf_roots sf_reachable tf_count tf_bracketCount tf_place tf_inWhere tf_compared wf_count wf_looks n_code n_number s_isDistinct s_isRetained s_sourceClass s_withDescendants : Int32}
variable {ha_parents ha_classes ha_sizes sa_linkedFrom sa_linkCounts sa_retainedSets sa_retainedSizes sa_dominators sa_immediateDominators ta_codes ta_numbers ta_brackets : Nat → Int32}
variable {ha_fields wa_rows : Nat → Int64}
variable {xq_query n_left n_right s_row s_nested s_condition s_next : Option Nat}
variable {pa_n pk_n pa_s pk_s : Nat}
set_option maxHeartbeats 4000000 in
set_option maxRecDepth 100000 in
theorem cxw_hasNumber (l1 : Int32) (ur : Int32) (h : sxw_hasNumber l1 wa_rows wf_count = some ur) : hq_Ct l yxw_hasNumber bxw_hasNumber 3 (some .boolean) { frames := 1, cells := 0, slots := 0, locals := 21 } D (hq_tys cI cZ cL) A [.ref (q 4), .int l1] (hx_w q cI cZ cL xq_query ha_parents hf_classCount ha_classes ha_sizes ha_fields hf_objectCount hf_roots hf_changed sa_linkedFrom sa_linkCounts sa_retainedSets sa_retainedSizes sa_dominators sa_immediateDominators sf_objectCount sf_roots sf_reachable ta_codes ta_numbers tf_count ta_brackets tf_bracketCount tf_place tf_inWhere tf_compared wa_rows wf_count wf_looks ++ z) (hx_w q cI cZ cL xq_query ha_parents hf_classCount ha_classes ha_sizes ha_fields hf_objectCount hf_roots hf_changed sa_linkedFrom sa_linkCounts sa_retainedSets sa_retainedSizes sa_dominators sa_immediateDominators sf_objectCount sf_roots sf_reachable ta_codes ta_numbers tf_count ta_brackets tf_bracketCount tf_place tf_inWhere tf_compared wa_rows wf_count wf_looks ++ z) (some (.int ur)) 0 0 := by
  refine hq_of (by decide) ?_ (Nat.le_of_ble_eq_true rfl)
  intro p e s m below meth c R args Q hRm hQ hx hb hr hml hts hown hlocks hnm hP hK hD ls hl hS
  have hl : lv_has ls 3 [(0, .ref (q 4)), (1, .int l1)] := hl
  have hown : s.vm.findClass "HeapQueries$Worker" = some m.cls := hown
  unfold sxw_hasNumber at h
  have L2 : ∀ (n : Nat) (l2 : Int32) {ls : Array Slot} {H : Heap} {locs : List Loc}, lv_has ls 3 [(0, .ref (q 4)), (2, .int l2)] → va_P D hq_cl (hx_w q cI cZ cL xq_query ha_parents hf_classCount ha_classes ha_sizes ha_fields hf_objectCount hf_roots hf_changed sa_linkedFrom sa_linkCounts sa_retainedSets sa_retainedSizes sa_dominators sa_immediateDominators sf_objectCount sf_roots sf_reachable ta_codes ta_numbers tf_count ta_brackets tf_bracketCount tf_place tf_inWhere tf_compared wa_rows wf_count wf_looks ++ z) H → va_D A (hx_w q cI cZ cL xq_query ha_parents hf_classCount ha_classes ha_sizes ha_fields hf_objectCount hf_roots hf_changed sa_linkedFrom sa_linkCounts sa_retainedSets sa_retainedSizes sa_dominators sa_immediateDominators sf_objectCount sf_roots sf_reachable ta_codes ta_numbers tf_count ta_brackets tf_bracketCount tf_place tf_inWhere tf_compared wa_rows wf_count wf_looks ++ z) → va_S A s.heap H locs → sxw_hasNumber_L2 n l2 wa_rows wf_count = some ur → W p l e R s m args below meth c H locs 0 0 Q (F0 m 2 ls []) := by
    intro n
    induction n with
    | zero =>
      intro l2 ls H locs hl hP hD hS h
      have h : (none : Option (Int32)) = some ur := h
      cases h
    | succ n ih =>
      intro l2 ls H locs hl hP hD hS h
      have h : sxw_hasNumber_L2_B (sxw_hasNumber_L2 n) l2 wa_rows wf_count = some ur := h
      unfold sxw_hasNumber_L2_B at h
      refine lv_iload_n hx hb dxw_hasNumber_2 rfl (lv_at hl 1 rfl) ?_
      refine lv_aload_n hx hb dxw_hasNumber_3 rfl (lv_at hl 0 rfl) ?_
      refine gx_4_count hx hb hts hown hK hP wi_56 dxw_hasNumber_4 ?_
      refine lv_icmp_ge (tgt := 30) hx hb dxw_hasNumber_7 (by decide) (fun hc => ?_) (fun hc => ?_)
      · have h := (if_pos hc).symm.trans h
        refine lv_iconst (v := 0) hx hb dxw_hasNumber_30 (by decide) ?_
        have h := Option.some.inj h
        exact hq_zret hx hb hr hlocks hQ hK hP hD hS (by decide) (by rw [← h]) rfl dxw_hasNumber_31
      · have h := (if_neg hc).symm.trans h
        refine lv_aload_n hx hb dxw_hasNumber_10 rfl (lv_at hl 0 rfl) ?_
        refine gx_4_rows hx hb hts hown hK hP wi_59 dxw_hasNumber_11 ?_
        refine lv_iload_n hx hb dxw_hasNumber_14 rfl (lv_at hl 1 rfl) ?_
        obtain ⟨hin, h⟩ := hq_idx h
        refine ax_18 hx hb hK hP hin dxw_hasNumber_15 ?_
        refine kxv_isNumber (wa_rows l2.toNatClampNeg) (sxv_isNumber (wa_rows l2.toNatClampNeg)) rfl hx hb hml hts hown hK hP hD hS wi_192 (by rw [hRm]; exact ⟨Nat.le_of_ble_eq_true rfl, Nat.le_of_ble_eq_true rfl⟩) hl.1 (Nat.le_of_ble_eq_true rfl) dxw_hasNumber_16 ⟨Nat.zero_le _, Nat.zero_le _⟩ (fun H locs hP hD hS => ?_)
        refine lv_if_eq (tgt := 24) hx hb dxw_hasNumber_19 (by decide) (fun hc => ?_) (fun hc => ?_)
        · have h := (if_pos hc).symm.trans h
          refine lv_iinc (k := 1) (v := l2 + 1) (lv' := [(2, .int (l2 + 1)), (0, .ref (q 4))]) hx hb dxw_hasNumber_24 hl rfl (congrArg (fun j => l2 + j) (by decide)) (by decide) rfl (fun ls hl => ?_)
          refine lv_goto (tgt := 2) hx hb dxw_hasNumber_27 (by decide) ?_
          exact ih (l2 + 1) (lv_sub hl [1, 0] rfl) hP hD hS h
        · have h := (if_neg hc).symm.trans h
          refine lv_iconst (v := 1) hx hb dxw_hasNumber_22 (by decide) ?_
          have h := Option.some.inj h
          exact hq_zret hx hb hr hlocks hQ hK hP hD hS (by decide) (by rw [← h]) rfl dxw_hasNumber_23
  refine lv_iload_n hx hb dxw_hasNumber_0 rfl (lv_at hl 1 rfl) ?_
  refine lv_istore_n (lv' := [(2, .int l1), (0, .ref (q 4)), (1, .int l1)]) hx hb dxw_hasNumber_1 rfl hl (by decide) rfl (fun ls hl => ?_)
  exact L2 kF l1 (lv_sub hl [1, 0] rfl) hP hD hS h
end
section
variable {p : Program} {l : Launch} {e : Env} {R : Room} {s : State} {m : MethodId} {args : Array Value} {below : List Frame} {meth : Method} {c : Code} {H H0 : Heap} {locs : List Loc} {cells slots : Nat} {Q : State → Prop}
variable {cc : ByteArray} {pc idx nC : Nat} {ls : Array Slot} {rest : List Value} {D : va_G} {A : Nat → Prop} {own : String} {q : Nat → Nat} {cI cZ cL : ClassId} {z w : va_W}
variable {hf_classCount hf_objectCount hf_roots hf_changed sf_objectCount sf_roots sf_reachable tf_count tf_bracketCount tf_place tf_inWhere tf_compared wf_count wf_looks n_code n_number s_isDistinct s_isRetained s_sourceClass s_withDescendants : Int32}
variable {ha_parents ha_classes ha_sizes sa_linkedFrom sa_linkCounts sa_retainedSets sa_retainedSizes sa_dominators sa_immediateDominators ta_codes ta_numbers ta_brackets : Nat → Int32}
variable {ha_fields wa_rows : Nat → Int64}
variable {xq_query n_left n_right s_row s_nested s_condition s_next : Option Nat}
variable {pa_n pk_n pa_s pk_s : Nat}
theorem kxw_hasNumber (l1 : Int32) (ur : Int32) (hu : sxw_hasNumber l1 wa_rows wf_count = some ur) (hx : p.tables.exec = Jvm.exec) (hb : c.code = cc) (hml : c.maxLocals = nC) (hts : ∀ x ∈ hq_tbl, x.before args s = true) (hown : s.vm.findClass own = some m.cls) (hK : va_K D hq_cl (hq_tys cI cZ cL) s) (hP : va_P D hq_cl (hx_w q cI cZ cL xq_query ha_parents hf_classCount ha_classes ha_sizes ha_fields hf_objectCount hf_roots hf_changed sa_linkedFrom sa_linkCounts sa_retainedSets sa_retainedSizes sa_dominators sa_immediateDominators sf_objectCount sf_roots sf_reachable ta_codes ta_numbers tf_count ta_brackets tf_bracketCount tf_place tf_inWhere tf_compared wa_rows wf_count wf_looks ++ z) H) (hD : va_D A (hx_w q cI cZ cL xq_query ha_parents hf_classCount ha_classes ha_sizes ha_fields hf_objectCount hf_roots hf_changed sa_linkedFrom sa_linkCounts sa_retainedSets sa_retainedSizes sa_dominators sa_immediateDominators sf_objectCount sf_roots sf_reachable ta_codes ta_numbers tf_count ta_brackets tf_bracketCount tf_place tf_inWhere tf_compared wa_rows wf_count wf_looks ++ z)) (hS : va_S A H0 H locs) (h1 : Cond.methodLink own idx yxw_hasNumber ∈ hq_tbl) (hR : 1 + 1 ≤ R.frames ∧ 8 + (3 + 11) + 21 ≤ R.locals) (hls : ls.size = nC) (hW : (rest.map fun v => v.category).sum ≤ 8) (hdg : decode cc pc = .ok (.invokevirtual idx, 3)) (hf : cells + 0 ≤ R.cells ∧ slots + 0 ≤ R.slots) (kk : ∀ (H1 : Heap) (locs1 : List Loc), va_P D hq_cl (hx_w q cI cZ cL xq_query ha_parents hf_classCount ha_classes ha_sizes ha_fields hf_objectCount hf_roots hf_changed sa_linkedFrom sa_linkCounts sa_retainedSets sa_retainedSizes sa_dominators sa_immediateDominators sf_objectCount sf_roots sf_reachable ta_codes ta_numbers tf_count ta_brackets tf_bracketCount tf_place tf_inWhere tf_compared wa_rows wf_count wf_looks ++ z) H1 → va_D A (hx_w q cI cZ cL xq_query ha_parents hf_classCount ha_classes ha_sizes ha_fields hf_objectCount hf_roots hf_changed sa_linkedFrom sa_linkCounts sa_retainedSets sa_retainedSizes sa_dominators sa_immediateDominators sf_objectCount sf_roots sf_reachable ta_codes ta_numbers tf_count ta_brackets tf_bracketCount tf_place tf_inWhere tf_compared wa_rows wf_count wf_looks ++ z) → va_S A H0 H1 locs1 → W p l e R s m args below meth c H1 locs1 cells slots Q (F0 m (pc + 3) ls (.int ur :: rest))) : W p l e R s m args below meth c H locs cells slots Q (F0 m pc ls (.int l1 :: .ref (q 4) :: rest)) :=
  hq_callV (q0 := 4) hx hb hml hown hts hK hP hD hS (cxw_hasNumber l1 ur hu) rfl rfl h1 wi_573 wi_574 wi_311 wi_575 1 rfl (by decide +kernel) ⟨rfl, rfl⟩ hR hls rfl hW hdg hf kk
end
theorem dxw_turnIntoRetained_0 : decode bxw_turnIntoRetained 0 = .ok (.aload_n 0, 1) := by decide +kernel
theorem dxw_turnIntoRetained_1 : decode bxw_turnIntoRetained 1 = .ok (.iload_n 2, 1) := by decide +kernel
theorem dxw_turnIntoRetained_2 : decode bxw_turnIntoRetained 2 = .ok (.invokevirtual 63, 3) := by decide +kernel
theorem dxw_turnIntoRetained_5 : decode bxw_turnIntoRetained 5 = .ok (.ifCond .eq 6, 3) := by decide +kernel
theorem dxw_turnIntoRetained_8 : decode bxw_turnIntoRetained 8 = .ok (.bipush (-4), 2) := by decide +kernel
theorem dxw_turnIntoRetained_10 : decode bxw_turnIntoRetained 10 = .ok (.ireturn, 1) := by decide +kernel
theorem dxw_turnIntoRetained_11 : decode bxw_turnIntoRetained 11 = .ok (.iconst 0, 1) := by decide +kernel
theorem dxw_turnIntoRetained_12 : decode bxw_turnIntoRetained 12 = .ok (.istore_n 3, 1) := by decide +kernel
theorem dxw_turnIntoRetained_13 : decode bxw_turnIntoRetained 13 = .ok (.iload_n 2, 1) := by decide +kernel
theorem dxw_turnIntoRetained_14 : decode bxw_turnIntoRetained 14 = .ok (.istore 4, 2) := by decide +kernel
theorem dxw_turnIntoRetained_16 : decode bxw_turnIntoRetained 16 = .ok (.iload 4, 2) := by decide +kernel
theorem dxw_turnIntoRetained_18 : decode bxw_turnIntoRetained 18 = .ok (.aload_n 0, 1) := by decide +kernel
theorem dxw_turnIntoRetained_19 : decode bxw_turnIntoRetained 19 = .ok (.getfield 15, 3) := by decide +kernel
theorem dxw_turnIntoRetained_22 : decode bxw_turnIntoRetained 22 = .ok (.if_icmp .ge 37, 3) := by decide +kernel
theorem dxw_turnIntoRetained_25 : decode bxw_turnIntoRetained 25 = .ok (.aload_n 0, 1) := by decide +kernel
theorem dxw_turnIntoRetained_26 : decode bxw_turnIntoRetained 26 = .ok (.getfield 9, 3) := by decide +kernel
theorem dxw_turnIntoRetained_29 : decode bxw_turnIntoRetained 29 = .ok (.iload 4, 2) := by decide +kernel
theorem dxw_turnIntoRetained_31 : decode bxw_turnIntoRetained 31 = .ok (.laload, 1) := by decide +kernel
theorem dxw_turnIntoRetained_32 : decode bxw_turnIntoRetained 32 = .ok (.invokestatic 129, 3) := by decide +kernel
theorem dxw_turnIntoRetained_35 : decode bxw_turnIntoRetained 35 = .ok (.ifCond .eq 18, 3) := by decide +kernel
theorem dxw_turnIntoRetained_38 : decode bxw_turnIntoRetained 38 = .ok (.iload_n 3, 1) := by decide +kernel
theorem dxw_turnIntoRetained_39 : decode bxw_turnIntoRetained 39 = .ok (.iconst 1, 1) := by decide +kernel
theorem dxw_turnIntoRetained_40 : decode bxw_turnIntoRetained 40 = .ok (.aload_n 0, 1) := by decide +kernel
theorem dxw_turnIntoRetained_41 : decode bxw_turnIntoRetained 41 = .ok (.getfield 9, 3) := by decide +kernel
theorem dxw_turnIntoRetained_44 : decode bxw_turnIntoRetained 44 = .ok (.iload 4, 2) := by decide +kernel
theorem dxw_turnIntoRetained_46 : decode bxw_turnIntoRetained 46 = .ok (.laload, 1) := by decide +kernel
theorem dxw_turnIntoRetained_47 : decode bxw_turnIntoRetained 47 = .ok (.invokestatic 100, 3) := by decide +kernel
theorem dxw_turnIntoRetained_50 : decode bxw_turnIntoRetained 50 = .ok (.ishl, 1) := by decide +kernel
theorem dxw_turnIntoRetained_51 : decode bxw_turnIntoRetained 51 = .ok (.ior, 1) := by decide +kernel
theorem dxw_turnIntoRetained_52 : decode bxw_turnIntoRetained 52 = .ok (.istore_n 3, 1) := by decide +kernel
theorem dxw_turnIntoRetained_53 : decode bxw_turnIntoRetained 53 = .ok (.iinc 4 1, 3) := by decide +kernel
theorem dxw_turnIntoRetained_56 : decode bxw_turnIntoRetained 56 = .ok (.goto (-40), 3) := by decide +kernel
theorem dxw_turnIntoRetained_59 : decode bxw_turnIntoRetained 59 = .ok (.aload_n 1, 1) := by decide +kernel
theorem dxw_turnIntoRetained_60 : decode bxw_turnIntoRetained 60 = .ok (.getfield 132, 3) := by decide +kernel
theorem dxw_turnIntoRetained_63 : decode bxw_turnIntoRetained 63 = .ok (.iload_n 3, 1) := by decide +kernel
theorem dxw_turnIntoRetained_64 : decode bxw_turnIntoRetained 64 = .ok (.invokevirtual 136, 3) := by decide +kernel
theorem dxw_turnIntoRetained_67 : decode bxw_turnIntoRetained 67 = .ok (.istore 4, 2) := by decide +kernel
theorem dxw_turnIntoRetained_69 : decode bxw_turnIntoRetained 69 = .ok (.aload_n 0, 1) := by decide +kernel
theorem dxw_turnIntoRetained_70 : decode bxw_turnIntoRetained 70 = .ok (.iload_n 2, 1) := by decide +kernel
theorem dxw_turnIntoRetained_71 : decode bxw_turnIntoRetained 71 = .ok (.putfield 15, 3) := by decide +kernel
theorem dxw_turnIntoRetained_74 : decode bxw_turnIntoRetained 74 = .ok (.iconst 0, 1) := by decide +kernel
theorem dxw_turnIntoRetained_75 : decode bxw_turnIntoRetained 75 = .ok (.istore 5, 2) := by decide +kernel
theorem dxw_turnIntoRetained_77 : decode bxw_turnIntoRetained 77 = .ok (.iload 5, 2) := by decide +kernel
theorem dxw_turnIntoRetained_79 : decode bxw_turnIntoRetained 79 = .ok (.aload_n 1, 1) := by decide +kernel
theorem dxw_turnIntoRetained_80 : decode bxw_turnIntoRetained 80 = .ok (.invokevirtual 73, 3) := by decide +kernel
theorem dxw_turnIntoRetained_83 : decode bxw_turnIntoRetained 83 = .ok (.if_icmp .ge 28, 3) := by decide +kernel
theorem dxw_turnIntoRetained_86 : decode bxw_turnIntoRetained 86 = .ok (.iload 4, 2) := by decide +kernel
theorem dxw_turnIntoRetained_88 : decode bxw_turnIntoRetained 88 = .ok (.iconst 1, 1) := by decide +kernel
theorem dxw_turnIntoRetained_89 : decode bxw_turnIntoRetained 89 = .ok (.iload 5, 2) := by decide +kernel
theorem dxw_turnIntoRetained_91 : decode bxw_turnIntoRetained 91 = .ok (.ishl, 1) := by decide +kernel
theorem dxw_turnIntoRetained_92 : decode bxw_turnIntoRetained 92 = .ok (.iand, 1) := by decide +kernel
theorem dxw_turnIntoRetained_93 : decode bxw_turnIntoRetained 93 = .ok (.ifCond .eq 12, 3) := by decide +kernel
theorem dxw_turnIntoRetained_96 : decode bxw_turnIntoRetained 96 = .ok (.aload_n 0, 1) := by decide +kernel
theorem dxw_turnIntoRetained_97 : decode bxw_turnIntoRetained 97 = .ok (.iload 5, 2) := by decide +kernel
theorem dxw_turnIntoRetained_99 : decode bxw_turnIntoRetained 99 = .ok (.invokestatic 90, 3) := by decide +kernel
theorem dxw_turnIntoRetained_102 : decode bxw_turnIntoRetained 102 = .ok (.invokevirtual 96, 3) := by decide +kernel
theorem dxw_turnIntoRetained_105 : decode bxw_turnIntoRetained 105 = .ok (.iinc 5 1, 3) := by decide +kernel
theorem dxw_turnIntoRetained_108 : decode bxw_turnIntoRetained 108 = .ok (.goto (-31), 3) := by decide +kernel
theorem dxw_turnIntoRetained_111 : decode bxw_turnIntoRetained 111 = .ok (.iconst 0, 1) := by decide +kernel
theorem dxw_turnIntoRetained_112 : decode bxw_turnIntoRetained 112 = .ok (.ireturn, 1) := by decide +kernel
section
variable {l : Launch} {D : va_G} {A : Nat → Prop} {z w : va_W} {q : Nat → Nat} {cI cZ cL : ClassId}
variable {hf_classCount hf_objectCount hf_roots hf_changed sf_objectCount sf_roots sf_reachable tf_count tf_bracketCount tf_place tf_inWhere tf_compared wf_count wf_looks n_code n_number s_isDistinct s_isRetained s_sourceClass s_withDescendants : Int32}
variable {ha_parents ha_classes ha_sizes sa_linkedFrom sa_linkCounts sa_retainedSets sa_retainedSizes sa_dominators sa_immediateDominators ta_codes ta_numbers ta_brackets : Nat → Int32}
variable {ha_fields wa_rows : Nat → Int64}
variable {xq_query n_left n_right s_row s_nested s_condition s_next : Option Nat}
variable {pa_n pk_n pa_s pk_s : Nat}
set_option maxHeartbeats 4000000 in
set_option maxRecDepth 100000 in
theorem cxw_turnIntoRetained (l2 : Int32) (ur : Int32 × (Nat → Int64) × Int32) (h : sxw_turnIntoRetained l2 hf_objectCount sa_linkedFrom sf_roots sf_reachable wa_rows wf_count = some ur) : hq_Ct l yxw_turnIntoRetained bxw_turnIntoRetained 6 (some .int) { frames := 3, cells := 0, slots := 0, locals := 68 } D (hq_tys cI cZ cL) A [.ref (q 4), .ref (q 1), .int l2] (hx_w q cI cZ cL xq_query ha_parents hf_classCount ha_classes ha_sizes ha_fields hf_objectCount hf_roots hf_changed sa_linkedFrom sa_linkCounts sa_retainedSets sa_retainedSizes sa_dominators sa_immediateDominators sf_objectCount sf_roots sf_reachable ta_codes ta_numbers tf_count ta_brackets tf_bracketCount tf_place tf_inWhere tf_compared wa_rows wf_count wf_looks ++ z) (hx_w q cI cZ cL xq_query ha_parents hf_classCount ha_classes ha_sizes ha_fields hf_objectCount hf_roots hf_changed sa_linkedFrom sa_linkCounts sa_retainedSets sa_retainedSizes sa_dominators sa_immediateDominators sf_objectCount sf_roots sf_reachable ta_codes ta_numbers tf_count ta_brackets tf_bracketCount tf_place tf_inWhere tf_compared ur.2.1 ur.2.2 wf_looks ++ z) (some (.int ur.1)) 0 0 := by
  refine hq_of (by decide) ?_ (Nat.le_of_ble_eq_true rfl)
  intro p e s m below meth c R args Q hRm hQ hx hb hr hml hts hown hlocks hnm hP hK hD ls hl hS
  have hl : lv_has ls 6 [(0, .ref (q 4)), (1, .ref (q 1)), (2, .int l2)] := hl
  have hown : s.vm.findClass "HeapQueries$Worker" = some m.cls := hown
  unfold sxw_turnIntoRetained at h
  have L77 : ∀ (n : Nat) (l4 : Int32) (l5 : Int32) {wa_rows : Nat → Int64} {wf_count : Int32} {ls : Array Slot} {H : Heap} {locs : List Loc}, lv_has ls 6 [(0, .ref (q 4)), (1, .ref (q 1)), (4, .int l4), (5, .int l5)] → va_P D hq_cl (hx_w q cI cZ cL xq_query ha_parents hf_classCount ha_classes ha_sizes ha_fields hf_objectCount hf_roots hf_changed sa_linkedFrom sa_linkCounts sa_retainedSets sa_retainedSizes sa_dominators sa_immediateDominators sf_objectCount sf_roots sf_reachable ta_codes ta_numbers tf_count ta_brackets tf_bracketCount tf_place tf_inWhere tf_compared wa_rows wf_count wf_looks ++ z) H → va_D A (hx_w q cI cZ cL xq_query ha_parents hf_classCount ha_classes ha_sizes ha_fields hf_objectCount hf_roots hf_changed sa_linkedFrom sa_linkCounts sa_retainedSets sa_retainedSizes sa_dominators sa_immediateDominators sf_objectCount sf_roots sf_reachable ta_codes ta_numbers tf_count ta_brackets tf_bracketCount tf_place tf_inWhere tf_compared wa_rows wf_count wf_looks ++ z) → va_S A s.heap H locs → ∀ u77, sxw_turnIntoRetained_L77 n l4 l5 hf_objectCount wa_rows wf_count = some u77 → (∀ (ls : Array Slot) (H : Heap) (locs : List Loc), lv_has ls 6 [] → va_P D hq_cl (hx_w q cI cZ cL xq_query ha_parents hf_classCount ha_classes ha_sizes ha_fields hf_objectCount hf_roots hf_changed sa_linkedFrom sa_linkCounts sa_retainedSets sa_retainedSizes sa_dominators sa_immediateDominators sf_objectCount sf_roots sf_reachable ta_codes ta_numbers tf_count ta_brackets tf_bracketCount tf_place tf_inWhere tf_compared u77.1 u77.2 wf_looks ++ z) H → va_D A (hx_w q cI cZ cL xq_query ha_parents hf_classCount ha_classes ha_sizes ha_fields hf_objectCount hf_roots hf_changed sa_linkedFrom sa_linkCounts sa_retainedSets sa_retainedSizes sa_dominators sa_immediateDominators sf_objectCount sf_roots sf_reachable ta_codes ta_numbers tf_count ta_brackets tf_bracketCount tf_place tf_inWhere tf_compared u77.1 u77.2 wf_looks ++ z) → va_S A s.heap H locs → W p l e R s m args below meth c H locs 0 0 Q (F0 m 111 ls [])) → W p l e R s m args below meth c H locs 0 0 Q (F0 m 77 ls []) := by
    intro n
    induction n with
    | zero =>
      intro l4 l5 wa_rows wf_count ls H locs hl hP hD hS u77 h kx
      have h : (none : Option ((Nat → Int64) × Int32)) = some u77 := h
      cases h
    | succ n ih =>
      intro l4 l5 wa_rows wf_count ls H locs hl hP hD hS u77 h kx
      have h : sxw_turnIntoRetained_L77_B (sxw_turnIntoRetained_L77 n) l4 l5 hf_objectCount wa_rows wf_count = some u77 := h
      unfold sxw_turnIntoRetained_L77_B at h
      refine lv_iload hx hb dxw_turnIntoRetained_77 (lv_at hl 3 rfl) ?_
      refine lv_aload_n hx hb dxw_turnIntoRetained_79 rfl (lv_at hl 1 rfl) ?_
      refine kxh_size  (sxh_size hf_objectCount) rfl hx hb hml hts hown hK hP hD hS wi_187 (by rw [hRm]; exact ⟨Nat.le_of_ble_eq_true rfl, Nat.le_of_ble_eq_true rfl⟩) hl.1 (Nat.le_of_ble_eq_true rfl) dxw_turnIntoRetained_80 ⟨Nat.zero_le _, Nat.zero_le _⟩ (fun H locs hP hD hS => ?_)
      refine lv_icmp_ge (tgt := 111) hx hb dxw_turnIntoRetained_83 (by decide) (fun hc => ?_) (fun hc => ?_)
      · have h := (if_pos hc).symm.trans h
        have h := Option.some.inj h
        subst h
        exact kx ls H locs (lv_sub hl [] rfl) hP hD hS
      · have h := (if_neg hc).symm.trans h
        refine lv_iload hx hb dxw_turnIntoRetained_86 (lv_at hl 2 rfl) ?_
        refine lv_iconst (v := 1) hx hb dxw_turnIntoRetained_88 (by decide) ?_
        refine lv_iload hx hb dxw_turnIntoRetained_89 (lv_at hl 3 rfl) ?_
        refine lv_ishl hx hb dxw_turnIntoRetained_91 ?_
        refine lv_iand hx hb dxw_turnIntoRetained_92 ?_
        refine lv_if_eq (tgt := 105) hx hb dxw_turnIntoRetained_93 (by decide) (fun hc => ?_) (fun hc => ?_)
        · have h := (if_pos hc).symm.trans h
          refine lv_iinc (k := 3) (v := l5 + 1) (lv' := [(5, .int (l5 + 1)), (0, .ref (q 4)), (1, .ref (q 1)), (4, .int l4)]) hx hb dxw_turnIntoRetained_105 hl rfl (congrArg (fun j => l5 + j) (by decide)) (by decide) rfl (fun ls hl => ?_)
          refine lv_goto (tgt := 77) hx hb dxw_turnIntoRetained_108 (by decide) ?_
          exact ih l4 (l5 + 1) (lv_sub hl [1, 2, 3, 0] rfl) hP hD hS u77 h kx
        · have h := (if_neg hc).symm.trans h
          refine lv_aload_n hx hb dxw_turnIntoRetained_96 rfl (lv_at hl 0 rfl) ?_
          refine lv_iload hx hb dxw_turnIntoRetained_97 (lv_at hl 3 rfl) ?_
          refine kxv_link l5 (sxv_link l5) rfl hx hb hml hts hown hK hP hD hS wi_185 (by rw [hRm]; exact ⟨Nat.le_of_ble_eq_true rfl, Nat.le_of_ble_eq_true rfl⟩) hl.1 (Nat.le_of_ble_eq_true rfl) dxw_turnIntoRetained_99 ⟨Nat.zero_le _, Nat.zero_le _⟩ (fun H locs hP hD hS => ?_)
          obtain ⟨v102, h102, h⟩ := hq_bind h
          refine kxw_add (sxv_link l5) v102 h102 hx hb hml hts hown hK hP hD hS wi_186 (by rw [hRm]; exact ⟨Nat.le_of_ble_eq_true rfl, Nat.le_of_ble_eq_true rfl⟩) hl.1 (Nat.le_of_ble_eq_true rfl) dxw_turnIntoRetained_102 ⟨Nat.zero_le _, Nat.zero_le _⟩ (fun H locs hP hD hS => ?_)
          refine lv_iinc (k := 3) (v := l5 + 1) (lv' := [(5, .int (l5 + 1)), (0, .ref (q 4)), (1, .ref (q 1)), (4, .int l4)]) hx hb dxw_turnIntoRetained_105 hl rfl (congrArg (fun j => l5 + j) (by decide)) (by decide) rfl (fun ls hl => ?_)
          refine lv_goto (tgt := 77) hx hb dxw_turnIntoRetained_108 (by decide) ?_
          exact ih l4 (l5 + 1) (lv_sub hl [1, 2, 3, 0] rfl) hP hD hS u77 h kx
  have L16 : ∀ (n : Nat) (l2 : Int32) (l3 : Int32) (l4 : Int32) {wa_rows : Nat → Int64} {wf_count : Int32} {ls : Array Slot} {H : Heap} {locs : List Loc}, lv_has ls 6 [(0, .ref (q 4)), (1, .ref (q 1)), (2, .int l2), (3, .int l3), (4, .int l4)] → va_P D hq_cl (hx_w q cI cZ cL xq_query ha_parents hf_classCount ha_classes ha_sizes ha_fields hf_objectCount hf_roots hf_changed sa_linkedFrom sa_linkCounts sa_retainedSets sa_retainedSizes sa_dominators sa_immediateDominators sf_objectCount sf_roots sf_reachable ta_codes ta_numbers tf_count ta_brackets tf_bracketCount tf_place tf_inWhere tf_compared wa_rows wf_count wf_looks ++ z) H → va_D A (hx_w q cI cZ cL xq_query ha_parents hf_classCount ha_classes ha_sizes ha_fields hf_objectCount hf_roots hf_changed sa_linkedFrom sa_linkCounts sa_retainedSets sa_retainedSizes sa_dominators sa_immediateDominators sf_objectCount sf_roots sf_reachable ta_codes ta_numbers tf_count ta_brackets tf_bracketCount tf_place tf_inWhere tf_compared wa_rows wf_count wf_looks ++ z) → va_S A s.heap H locs → ∀ u16, sxw_turnIntoRetained_L16 n l2 l3 l4 wa_rows wf_count = some u16 → (∀ (ls : Array Slot) (H : Heap) (locs : List Loc), lv_has ls 6 [(0, .ref (q 4)), (1, .ref (q 1)), (2, .int l2), (3, .int u16)] → va_P D hq_cl (hx_w q cI cZ cL xq_query ha_parents hf_classCount ha_classes ha_sizes ha_fields hf_objectCount hf_roots hf_changed sa_linkedFrom sa_linkCounts sa_retainedSets sa_retainedSizes sa_dominators sa_immediateDominators sf_objectCount sf_roots sf_reachable ta_codes ta_numbers tf_count ta_brackets tf_bracketCount tf_place tf_inWhere tf_compared wa_rows wf_count wf_looks ++ z) H → va_D A (hx_w q cI cZ cL xq_query ha_parents hf_classCount ha_classes ha_sizes ha_fields hf_objectCount hf_roots hf_changed sa_linkedFrom sa_linkCounts sa_retainedSets sa_retainedSizes sa_dominators sa_immediateDominators sf_objectCount sf_roots sf_reachable ta_codes ta_numbers tf_count ta_brackets tf_bracketCount tf_place tf_inWhere tf_compared wa_rows wf_count wf_looks ++ z) → va_S A s.heap H locs → W p l e R s m args below meth c H locs 0 0 Q (F0 m 59 ls [])) → W p l e R s m args below meth c H locs 0 0 Q (F0 m 16 ls []) := by
    intro n
    induction n with
    | zero =>
      intro l2 l3 l4 wa_rows wf_count ls H locs hl hP hD hS u16 h kx
      have h : (none : Option (Int32)) = some u16 := h
      cases h
    | succ n ih =>
      intro l2 l3 l4 wa_rows wf_count ls H locs hl hP hD hS u16 h kx
      have h : sxw_turnIntoRetained_L16_B (sxw_turnIntoRetained_L16 n) l2 l3 l4 wa_rows wf_count = some u16 := h
      unfold sxw_turnIntoRetained_L16_B at h
      refine lv_iload hx hb dxw_turnIntoRetained_16 (lv_at hl 4 rfl) ?_
      refine lv_aload_n hx hb dxw_turnIntoRetained_18 rfl (lv_at hl 0 rfl) ?_
      refine gx_4_count hx hb hts hown hK hP wi_56 dxw_turnIntoRetained_19 ?_
      refine lv_icmp_ge (tgt := 59) hx hb dxw_turnIntoRetained_22 (by decide) (fun hc => ?_) (fun hc => ?_)
      · have h := (if_pos hc).symm.trans h
        have h := Option.some.inj h
        subst h
        exact kx ls H locs (lv_sub hl [0, 1, 2, 3] rfl) hP hD hS
      · have h := (if_neg hc).symm.trans h
        refine lv_aload_n hx hb dxw_turnIntoRetained_25 rfl (lv_at hl 0 rfl) ?_
        refine gx_4_rows hx hb hts hown hK hP wi_59 dxw_turnIntoRetained_26 ?_
        refine lv_iload hx hb dxw_turnIntoRetained_29 (lv_at hl 4 rfl) ?_
        obtain ⟨hin, h⟩ := hq_idx h
        refine ax_18 hx hb hK hP hin dxw_turnIntoRetained_31 ?_
        refine kxv_isLink (wa_rows l4.toNatClampNeg) (sxv_isLink (wa_rows l4.toNatClampNeg)) rfl hx hb hml hts hown hK hP hD hS wi_193 (by rw [hRm]; exact ⟨Nat.le_of_ble_eq_true rfl, Nat.le_of_ble_eq_true rfl⟩) hl.1 (Nat.le_of_ble_eq_true rfl) dxw_turnIntoRetained_32 ⟨Nat.zero_le _, Nat.zero_le _⟩ (fun H locs hP hD hS => ?_)
        refine lv_if_eq (tgt := 53) hx hb dxw_turnIntoRetained_35 (by decide) (fun hc => ?_) (fun hc => ?_)
        · have h := (if_pos hc).symm.trans h
          refine lv_iinc (k := 4) (v := l4 + 1) (lv' := [(4, .int (l4 + 1)), (0, .ref (q 4)), (1, .ref (q 1)), (2, .int l2), (3, .int l3)]) hx hb dxw_turnIntoRetained_53 hl rfl (congrArg (fun j => l4 + j) (by decide)) (by decide) rfl (fun ls hl => ?_)
          refine lv_goto (tgt := 16) hx hb dxw_turnIntoRetained_56 (by decide) ?_
          exact ih l2 l3 (l4 + 1) (lv_sub hl [1, 2, 3, 4, 0] rfl) hP hD hS u16 h kx
        · have h := (if_neg hc).symm.trans h
          refine lv_iload_n hx hb dxw_turnIntoRetained_38 rfl (lv_at hl 3 rfl) ?_
          refine lv_iconst (v := 1) hx hb dxw_turnIntoRetained_39 (by decide) ?_
          refine lv_aload_n hx hb dxw_turnIntoRetained_40 rfl (lv_at hl 0 rfl) ?_
          refine gx_4_rows hx hb hts hown hK hP wi_59 dxw_turnIntoRetained_41 ?_
          refine lv_iload hx hb dxw_turnIntoRetained_44 (lv_at hl 4 rfl) ?_
          obtain ⟨hin, h⟩ := hq_idx h
          refine ax_18 hx hb hK hP hin dxw_turnIntoRetained_46 ?_
          refine kxv_contentOf (wa_rows l4.toNatClampNeg) (sxv_contentOf (wa_rows l4.toNatClampNeg)) rfl hx hb hml hts hown hK hP hD hS wi_194 (by rw [hRm]; exact ⟨Nat.le_of_ble_eq_true rfl, Nat.le_of_ble_eq_true rfl⟩) hl.1 (Nat.le_of_ble_eq_true rfl) dxw_turnIntoRetained_47 ⟨Nat.zero_le _, Nat.zero_le _⟩ (fun H locs hP hD hS => ?_)
          refine lv_ishl hx hb dxw_turnIntoRetained_50 ?_
          refine lv_ior hx hb dxw_turnIntoRetained_51 ?_
          refine lv_istore_n (lv' := [(3, .int (l3 ||| ((1 : Int32) <<< (((sxv_contentOf (wa_rows l4.toNatClampNeg))) &&& 31)))), (0, .ref (q 4)), (1, .ref (q 1)), (2, .int l2), (4, .int l4)]) hx hb dxw_turnIntoRetained_52 rfl hl (by decide) rfl (fun ls hl => ?_)
          refine lv_iinc (k := 4) (v := l4 + 1) (lv' := [(4, .int (l4 + 1)), (3, .int (l3 ||| ((1 : Int32) <<< (((sxv_contentOf (wa_rows l4.toNatClampNeg))) &&& 31)))), (0, .ref (q 4)), (1, .ref (q 1)), (2, .int l2)]) hx hb dxw_turnIntoRetained_53 hl rfl (congrArg (fun j => l4 + j) (by decide)) (by decide) rfl (fun ls hl => ?_)
          refine lv_goto (tgt := 16) hx hb dxw_turnIntoRetained_56 (by decide) ?_
          exact ih l2 (l3 ||| ((1 : Int32) <<< (((sxv_contentOf (wa_rows l4.toNatClampNeg))) &&& 31))) (l4 + 1) (lv_sub hl [2, 3, 4, 1, 0] rfl) hP hD hS u16 h kx
  refine lv_aload_n hx hb dxw_turnIntoRetained_0 rfl (lv_at hl 0 rfl) ?_
  refine lv_iload_n hx hb dxw_turnIntoRetained_1 rfl (lv_at hl 2 rfl) ?_
  obtain ⟨v2, h2, h⟩ := hq_bind h
  refine kxw_hasNumber l2 v2 h2 hx hb hml hts hown hK hP hD hS wi_195 (by rw [hRm]; exact ⟨Nat.le_of_ble_eq_true rfl, Nat.le_of_ble_eq_true rfl⟩) hl.1 (Nat.le_of_ble_eq_true rfl) dxw_turnIntoRetained_2 ⟨Nat.zero_le _, Nat.zero_le _⟩ (fun H locs hP hD hS => ?_)
  refine lv_if_eq (tgt := 11) hx hb dxw_turnIntoRetained_5 (by decide) (fun hc => ?_) (fun hc => ?_)
  · have h := (if_pos hc).symm.trans h
    refine lv_iconst (v := 0) hx hb dxw_turnIntoRetained_11 (by decide) ?_
    refine lv_istore_n (lv' := [(3, .int 0), (0, .ref (q 4)), (1, .ref (q 1)), (2, .int l2)]) hx hb dxw_turnIntoRetained_12 rfl hl (by decide) rfl (fun ls hl => ?_)
    refine lv_iload_n hx hb dxw_turnIntoRetained_13 rfl (lv_at hl 3 rfl) ?_
    refine lv_istore (lv' := [(4, .int l2), (3, .int 0), (0, .ref (q 4)), (1, .ref (q 1)), (2, .int l2)]) hx hb dxw_turnIntoRetained_14 hl (by decide) rfl (fun ls hl => ?_)
    obtain ⟨u16, h16, h⟩ := hq_bind h
    refine L16 kF l2 0 l2 (lv_sub hl [2, 3, 4, 1, 0] rfl) hP hD hS u16 h16 (fun ls H locs hl hP hD hS => ?_)
    refine lv_aload_n hx hb dxw_turnIntoRetained_59 rfl (lv_at hl 1 rfl) ?_
    refine gx_1_survey hx hb hts hown hK hP wi_196 dxw_turnIntoRetained_60 ?_
    refine lv_iload_n hx hb dxw_turnIntoRetained_63 rfl (lv_at hl 3 rfl) ?_
    obtain ⟨v64, h64, h⟩ := hq_bind h
    refine kxs_retainedBy u16 v64 h64 hx hb hml hts hown hK hP hD hS wi_197 (by rw [hRm]; exact ⟨Nat.le_of_ble_eq_true rfl, Nat.le_of_ble_eq_true rfl⟩) hl.1 (Nat.le_of_ble_eq_true rfl) dxw_turnIntoRetained_64 ⟨Nat.zero_le _, Nat.zero_le _⟩ (fun H locs hP hD hS => ?_)
    refine lv_istore (lv' := [(4, .int v64), (0, .ref (q 4)), (1, .ref (q 1)), (2, .int l2), (3, .int u16)]) hx hb dxw_turnIntoRetained_67 hl (by decide) rfl (fun ls hl => ?_)
    refine lv_aload_n hx hb dxw_turnIntoRetained_69 rfl (lv_at hl 1 rfl) ?_
    refine lv_iload_n hx hb dxw_turnIntoRetained_70 rfl (lv_at hl 3 rfl) ?_
    refine px_4_count hx hb hts hown hK hP hD hS wi_56 dxw_turnIntoRetained_71 (fun H locs hP hD hS => ?_)
    refine lv_iconst (v := 0) hx hb dxw_turnIntoRetained_74 (by decide) ?_
    refine lv_istore (lv' := [(5, .int 0), (4, .int v64), (0, .ref (q 4)), (1, .ref (q 1)), (2, .int l2), (3, .int u16)]) hx hb dxw_turnIntoRetained_75 hl (by decide) rfl (fun ls hl => ?_)
    obtain ⟨u77, h77, h⟩ := hq_bind h
    refine L77 kF v64 0 (lv_sub hl [2, 3, 1, 0] rfl) hP hD hS u77 h77 (fun ls H locs hl hP hD hS => ?_)
    refine lv_iconst (v := 0) hx hb dxw_turnIntoRetained_111 (by decide) ?_
    have h := Option.some.inj h
    exact hq_iret hx hb hr hlocks hQ hK hP hD hS (by rw [← h]) (by rw [← h]) dxw_turnIntoRetained_112
  · have h := (if_neg hc).symm.trans h
    refine lv_bipush (v := (-4)) hx hb dxw_turnIntoRetained_8 (by decide) ?_
    have h := Option.some.inj h
    exact hq_iret hx hb hr hlocks hQ hK hP hD hS (by rw [← h]) (by rw [← h]) dxw_turnIntoRetained_10
end
section
variable {p : Program} {l : Launch} {e : Env} {R : Room} {s : State} {m : MethodId} {args : Array Value} {below : List Frame} {meth : Method} {c : Code} {H H0 : Heap} {locs : List Loc} {cells slots : Nat} {Q : State → Prop}
variable {cc : ByteArray} {pc idx nC : Nat} {ls : Array Slot} {rest : List Value} {D : va_G} {A : Nat → Prop} {own : String} {q : Nat → Nat} {cI cZ cL : ClassId} {z w : va_W}
variable {hf_classCount hf_objectCount hf_roots hf_changed sf_objectCount sf_roots sf_reachable tf_count tf_bracketCount tf_place tf_inWhere tf_compared wf_count wf_looks n_code n_number s_isDistinct s_isRetained s_sourceClass s_withDescendants : Int32}
variable {ha_parents ha_classes ha_sizes sa_linkedFrom sa_linkCounts sa_retainedSets sa_retainedSizes sa_dominators sa_immediateDominators ta_codes ta_numbers ta_brackets : Nat → Int32}
variable {ha_fields wa_rows : Nat → Int64}
variable {xq_query n_left n_right s_row s_nested s_condition s_next : Option Nat}
variable {pa_n pk_n pa_s pk_s : Nat}
theorem kxw_turnIntoRetained (l2 : Int32) (ur : Int32 × (Nat → Int64) × Int32) (hu : sxw_turnIntoRetained l2 hf_objectCount sa_linkedFrom sf_roots sf_reachable wa_rows wf_count = some ur) (hx : p.tables.exec = Jvm.exec) (hb : c.code = cc) (hml : c.maxLocals = nC) (hts : ∀ x ∈ hq_tbl, x.before args s = true) (hown : s.vm.findClass own = some m.cls) (hK : va_K D hq_cl (hq_tys cI cZ cL) s) (hP : va_P D hq_cl (hx_w q cI cZ cL xq_query ha_parents hf_classCount ha_classes ha_sizes ha_fields hf_objectCount hf_roots hf_changed sa_linkedFrom sa_linkCounts sa_retainedSets sa_retainedSizes sa_dominators sa_immediateDominators sf_objectCount sf_roots sf_reachable ta_codes ta_numbers tf_count ta_brackets tf_bracketCount tf_place tf_inWhere tf_compared wa_rows wf_count wf_looks ++ z) H) (hD : va_D A (hx_w q cI cZ cL xq_query ha_parents hf_classCount ha_classes ha_sizes ha_fields hf_objectCount hf_roots hf_changed sa_linkedFrom sa_linkCounts sa_retainedSets sa_retainedSizes sa_dominators sa_immediateDominators sf_objectCount sf_roots sf_reachable ta_codes ta_numbers tf_count ta_brackets tf_bracketCount tf_place tf_inWhere tf_compared wa_rows wf_count wf_looks ++ z)) (hS : va_S A H0 H locs) (h1 : Cond.methodLink own idx yxw_turnIntoRetained ∈ hq_tbl) (hR : 3 + 1 ≤ R.frames ∧ 8 + (6 + 11) + 68 ≤ R.locals) (hls : ls.size = nC) (hW : (rest.map fun v => v.category).sum ≤ 8) (hdg : decode cc pc = .ok (.invokevirtual idx, 3)) (hf : cells + 0 ≤ R.cells ∧ slots + 0 ≤ R.slots) (kk : ∀ (H1 : Heap) (locs1 : List Loc), va_P D hq_cl (hx_w q cI cZ cL xq_query ha_parents hf_classCount ha_classes ha_sizes ha_fields hf_objectCount hf_roots hf_changed sa_linkedFrom sa_linkCounts sa_retainedSets sa_retainedSizes sa_dominators sa_immediateDominators sf_objectCount sf_roots sf_reachable ta_codes ta_numbers tf_count ta_brackets tf_bracketCount tf_place tf_inWhere tf_compared ur.2.1 ur.2.2 wf_looks ++ z) H1 → va_D A (hx_w q cI cZ cL xq_query ha_parents hf_classCount ha_classes ha_sizes ha_fields hf_objectCount hf_roots hf_changed sa_linkedFrom sa_linkCounts sa_retainedSets sa_retainedSizes sa_dominators sa_immediateDominators sf_objectCount sf_roots sf_reachable ta_codes ta_numbers tf_count ta_brackets tf_bracketCount tf_place tf_inWhere tf_compared ur.2.1 ur.2.2 wf_looks ++ z) → va_S A H0 H1 locs1 → W p l e R s m args below meth c H1 locs1 cells slots Q (F0 m (pc + 3) ls (.int ur.1 :: rest))) : W p l e R s m args below meth c H locs cells slots Q (F0 m pc ls (.int l2 :: .ref (q 1) :: .ref (q 4) :: rest)) :=
  hq_callV (q0 := 4) hx hb hml hown hts hK hP hD hS (cxw_turnIntoRetained l2 ur hu) rfl rfl h1 wi_576 wi_577 wi_311 wi_578 2 rfl (by decide +kernel) ⟨rfl, rfl⟩ hR hls rfl hW hdg hf kk
end
