/-! the reader: what makes nothing -/
def rd_c (q : Nat → Nat) (rf_at : Int32) : Nat × va_E := (q 19, .inr (8, [.ref (q 3), .int rf_at]))
section
variable {p : Program} {l : Launch} {e : Env} {R : Room} {s : State} {m : MethodId} {args : Array Value} {below : List Frame} {meth : Method} {c : Code} {H H0 : Heap} {locs : List Loc} {cells slots : Nat} {Q : State → Prop}
variable {cc : ByteArray} {pc idx nC : Nat} {ls : Array Slot} {rest : List Value} {D : va_G} {A : Nat → Prop} {own : String} {q : Nat → Nat} {cI cZ cL : ClassId} {z w : va_W}
variable {hf_classCount hf_objectCount hf_roots hf_changed sf_objectCount sf_roots sf_reachable tf_count tf_bracketCount tf_place tf_inWhere tf_compared wf_count wf_looks rf_at n_code n_number s_isDistinct s_isRetained s_sourceClass s_withDescendants : Int32}
variable {ha_parents ha_classes ha_sizes sa_linkedFrom sa_linkCounts sa_retainedSets sa_retainedSizes sa_dominators sa_immediateDominators ta_codes ta_numbers ta_brackets : Nat → Int32}
variable {ha_fields wa_rows : Nat → Int64}
variable {xq_query n_left n_right s_row s_nested s_condition s_next : Option Nat}
variable {pa_n pk_n pa_s pk_s : Nat}
theorem gr_19_text (hx : p.tables.exec = Jvm.exec) (hb : c.code = cc) (hts : ∀ x ∈ hq_tbl, x.before args s = true) (hown : s.vm.findClass own = some m.cls) (hK : va_K D hq_cl (hq_tys cI cZ cL) s) (hP : va_P D hq_cl (hx_w q cI cZ cL xq_query ha_parents hf_classCount ha_classes ha_sizes ha_fields hf_objectCount hf_roots hf_changed sa_linkedFrom sa_linkCounts sa_retainedSets sa_retainedSizes sa_dominators sa_immediateDominators sf_objectCount sf_roots sf_reachable ta_codes ta_numbers tf_count ta_brackets tf_bracketCount tf_place tf_inWhere tf_compared wa_rows wf_count wf_looks ++ (rd_c q rf_at :: z)) H) (hw : Cond.fieldLink own idx "HeapQueries$Reader" "text" "LHeapQueries$Text;" ∈ hq_tbl) (hdg : decode cc pc = .ok (.getfield idx, 3)) (kk : W p l e R s m args below meth c H locs cells slots Q (F0 m (pc + 3) ls (.ref (q 3) :: rest))) : W p l e R s m args below meth c H locs cells slots Q (F0 m pc ls (.ref (q 19) :: rest)) :=
  va_get hx hb hts hin_xr hown hK hP 19 rfl rfl 0 (by decide) (hts _ hw) (fun _ h9 => h9) rfl hdg kk
theorem gr_19_at (hx : p.tables.exec = Jvm.exec) (hb : c.code = cc) (hts : ∀ x ∈ hq_tbl, x.before args s = true) (hown : s.vm.findClass own = some m.cls) (hK : va_K D hq_cl (hq_tys cI cZ cL) s) (hP : va_P D hq_cl (hx_w q cI cZ cL xq_query ha_parents hf_classCount ha_classes ha_sizes ha_fields hf_objectCount hf_roots hf_changed sa_linkedFrom sa_linkCounts sa_retainedSets sa_retainedSizes sa_dominators sa_immediateDominators sf_objectCount sf_roots sf_reachable ta_codes ta_numbers tf_count ta_brackets tf_bracketCount tf_place tf_inWhere tf_compared wa_rows wf_count wf_looks ++ (rd_c q rf_at :: z)) H) (hw : Cond.fieldLink own idx "HeapQueries$Reader" "at" "I" ∈ hq_tbl) (hdg : decode cc pc = .ok (.getfield idx, 3)) (kk : W p l e R s m args below meth c H locs cells slots Q (F0 m (pc + 3) ls (.int rf_at :: rest))) : W p l e R s m args below meth c H locs cells slots Q (F0 m pc ls (.ref (q 19) :: rest)) :=
  va_get hx hb hts hin_xr hown hK hP 19 rfl rfl 1 (by decide) (hts _ hw) (fun _ h9 => h9) rfl hdg kk
theorem pr_19_at {v : Int32} (hx : p.tables.exec = Jvm.exec) (hb : c.code = cc) (hts : ∀ x ∈ hq_tbl, x.before args s = true) (hown : s.vm.findClass own = some m.cls) (hK : va_K D hq_cl (hq_tys cI cZ cL) s) (hP : va_P D hq_cl (hx_w q cI cZ cL xq_query ha_parents hf_classCount ha_classes ha_sizes ha_fields hf_objectCount hf_roots hf_changed sa_linkedFrom sa_linkCounts sa_retainedSets sa_retainedSizes sa_dominators sa_immediateDominators sf_objectCount sf_roots sf_reachable ta_codes ta_numbers tf_count ta_brackets tf_bracketCount tf_place tf_inWhere tf_compared wa_rows wf_count wf_looks ++ (rd_c q rf_at :: z)) H) (hD : va_D A (hx_w q cI cZ cL xq_query ha_parents hf_classCount ha_classes ha_sizes ha_fields hf_objectCount hf_roots hf_changed sa_linkedFrom sa_linkCounts sa_retainedSets sa_retainedSizes sa_dominators sa_immediateDominators sf_objectCount sf_roots sf_reachable ta_codes ta_numbers tf_count ta_brackets tf_bracketCount tf_place tf_inWhere tf_compared wa_rows wf_count wf_looks ++ (rd_c q rf_at :: z))) (hS : va_S A H0 H locs) (hw : Cond.fieldLink own idx "HeapQueries$Reader" "at" "I" ∈ hq_tbl) (hdg : decode cc pc = .ok (.putfield idx, 3)) (kk : ∀ (H1 : Heap) (locs1 : List Loc), va_P D hq_cl (hx_w q cI cZ cL xq_query ha_parents hf_classCount ha_classes ha_sizes ha_fields hf_objectCount hf_roots hf_changed sa_linkedFrom sa_linkCounts sa_retainedSets sa_retainedSizes sa_dominators sa_immediateDominators sf_objectCount sf_roots sf_reachable ta_codes ta_numbers tf_count ta_brackets tf_bracketCount tf_place tf_inWhere tf_compared wa_rows wf_count wf_looks ++ (rd_c q v :: z)) H1 → va_D A (hx_w q cI cZ cL xq_query ha_parents hf_classCount ha_classes ha_sizes ha_fields hf_objectCount hf_roots hf_changed sa_linkedFrom sa_linkCounts sa_retainedSets sa_retainedSizes sa_dominators sa_immediateDominators sf_objectCount sf_roots sf_reachable ta_codes ta_numbers tf_count ta_brackets tf_bracketCount tf_place tf_inWhere tf_compared wa_rows wf_count wf_looks ++ (rd_c q v :: z)) → va_S A H0 H1 locs1 → W p l e R s m args below meth c H1 locs1 cells slots Q (F0 m (pc + 3) ls rest)) : W p l e R s m args below meth c H locs cells slots Q (F0 m pc ls (.int v :: .ref (q 19) :: rest)) :=
  va_put (ty := .int) hx hb hts hin_xr hty_xr hty_xr_ok hnm_xr hown hK hP hD hS 19 rfl rfl 1 (by decide) (hts _ hw) (fun _ h9 => h9) rfl (by decide +kernel) rfl rfl (Nat.le_of_ble_eq_true rfl) hdg kk
end
def sxr_levelOf (l0 : Int32) : Int32 :=
  if l0 = 15 then
    1
  else
    if l0 = 16 then
      2
    else
      if l0 = 17 then
        0
      else
        if l0 = 18 then
          3
        else
          if l0 = 19 then
            3
          else
            if l0 = 20 then
              3
            else
              if l0 = 21 then
                4
              else
                if l0 = 22 then
                  4
                else
                  if l0 = 23 then
                    5
                  else
                    0
theorem dxr_levelOf_0 : decode bxr_levelOf 0 = .ok (.iload_n 0, 1) := by decide +kernel
theorem dxr_levelOf_1 : decode bxr_levelOf 1 = .ok (.tableswitch 61 15 23 #[51, 53, 61, 55, 55, 55, 57, 57, 59], 51) := by decide +kernel
theorem dxr_levelOf_52 : decode bxr_levelOf 52 = .ok (.iconst 1, 1) := by decide +kernel
theorem dxr_levelOf_53 : decode bxr_levelOf 53 = .ok (.ireturn, 1) := by decide +kernel
theorem dxr_levelOf_54 : decode bxr_levelOf 54 = .ok (.iconst 2, 1) := by decide +kernel
theorem dxr_levelOf_55 : decode bxr_levelOf 55 = .ok (.ireturn, 1) := by decide +kernel
theorem dxr_levelOf_56 : decode bxr_levelOf 56 = .ok (.iconst 3, 1) := by decide +kernel
theorem dxr_levelOf_57 : decode bxr_levelOf 57 = .ok (.ireturn, 1) := by decide +kernel
theorem dxr_levelOf_58 : decode bxr_levelOf 58 = .ok (.iconst 4, 1) := by decide +kernel
theorem dxr_levelOf_59 : decode bxr_levelOf 59 = .ok (.ireturn, 1) := by decide +kernel
theorem dxr_levelOf_60 : decode bxr_levelOf 60 = .ok (.iconst 5, 1) := by decide +kernel
theorem dxr_levelOf_61 : decode bxr_levelOf 61 = .ok (.ireturn, 1) := by decide +kernel
theorem dxr_levelOf_62 : decode bxr_levelOf 62 = .ok (.iconst 0, 1) := by decide +kernel
theorem dxr_levelOf_63 : decode bxr_levelOf 63 = .ok (.ireturn, 1) := by decide +kernel
section
variable {l : Launch} {D : va_G} {A : Nat → Prop} {z w : va_W} {q : Nat → Nat} {cI cZ cL : ClassId}
set_option maxHeartbeats 4000000 in
set_option maxRecDepth 100000 in
theorem cxr_levelOf (l0 : Int32) (ur : Int32) (h : sxr_levelOf l0 = ur) : hq_Ct l yxr_levelOf bxr_levelOf 1 (some .int) { frames := 0, cells := 0, slots := 0, locals := 0 } D (hq_tys cI cZ cL) A [.int l0] w w (some (.int ur)) 0 0 := by
  refine hq_of (by decide) ?_ (Nat.le_of_ble_eq_true rfl)
  intro p e s m below meth c R args Q hRm hQ hx hb hr hml hts hown hlocks hnm hP hK hD ls hl hS
  have hl : lv_has ls 1 [(0, .int l0)] := hl
  have hown : s.vm.findClass "HeapQueries$Reader" = some m.cls := hown
  unfold sxr_levelOf at h
  refine lv_iload_n hx hb dxr_levelOf_0 rfl (lv_at hl 0 rfl) ?_
  by_cases hk0 : l0 = 15
  · have h := (if_pos hk0).symm.trans h
    refine lv_tableIn (off := 51) (tgt := 52) hx hb dxr_levelOf_1 (by rw [hk0]; decide) (by rw [hk0]; decide) (by rw [hk0]; rfl) (by decide) ?_
    refine lv_iconst (v := 1) hx hb dxr_levelOf_52 (by decide) ?_
    exact hq_iret hx hb hr hlocks hQ hK hP hD hS (by rw [← h]) rfl dxr_levelOf_53
  · have h := (if_neg hk0).symm.trans h
    by_cases hk1 : l0 = 16
    · have h := (if_pos hk1).symm.trans h
      refine lv_tableIn (off := 53) (tgt := 54) hx hb dxr_levelOf_1 (by rw [hk1]; decide) (by rw [hk1]; decide) (by rw [hk1]; rfl) (by decide) ?_
      refine lv_iconst (v := 2) hx hb dxr_levelOf_54 (by decide) ?_
      exact hq_iret hx hb hr hlocks hQ hK hP hD hS (by rw [← h]) rfl dxr_levelOf_55
    · have h := (if_neg hk1).symm.trans h
      by_cases hk2 : l0 = 17
      · have h := (if_pos hk2).symm.trans h
        refine lv_tableIn (off := 61) (tgt := 62) hx hb dxr_levelOf_1 (by rw [hk2]; decide) (by rw [hk2]; decide) (by rw [hk2]; rfl) (by decide) ?_
        refine lv_iconst (v := 0) hx hb dxr_levelOf_62 (by decide) ?_
        exact hq_iret hx hb hr hlocks hQ hK hP hD hS (by rw [← h]) rfl dxr_levelOf_63
      · have h := (if_neg hk2).symm.trans h
        by_cases hk3 : l0 = 18
        · have h := (if_pos hk3).symm.trans h
          refine lv_tableIn (off := 55) (tgt := 56) hx hb dxr_levelOf_1 (by rw [hk3]; decide) (by rw [hk3]; decide) (by rw [hk3]; rfl) (by decide) ?_
          refine lv_iconst (v := 3) hx hb dxr_levelOf_56 (by decide) ?_
          exact hq_iret hx hb hr hlocks hQ hK hP hD hS (by rw [← h]) rfl dxr_levelOf_57
        · have h := (if_neg hk3).symm.trans h
          by_cases hk4 : l0 = 19
          · have h := (if_pos hk4).symm.trans h
            refine lv_tableIn (off := 55) (tgt := 56) hx hb dxr_levelOf_1 (by rw [hk4]; decide) (by rw [hk4]; decide) (by rw [hk4]; rfl) (by decide) ?_
            refine lv_iconst (v := 3) hx hb dxr_levelOf_56 (by decide) ?_
            exact hq_iret hx hb hr hlocks hQ hK hP hD hS (by rw [← h]) rfl dxr_levelOf_57
          · have h := (if_neg hk4).symm.trans h
            by_cases hk5 : l0 = 20
            · have h := (if_pos hk5).symm.trans h
              refine lv_tableIn (off := 55) (tgt := 56) hx hb dxr_levelOf_1 (by rw [hk5]; decide) (by rw [hk5]; decide) (by rw [hk5]; rfl) (by decide) ?_
              refine lv_iconst (v := 3) hx hb dxr_levelOf_56 (by decide) ?_
              exact hq_iret hx hb hr hlocks hQ hK hP hD hS (by rw [← h]) rfl dxr_levelOf_57
            · have h := (if_neg hk5).symm.trans h
              by_cases hk6 : l0 = 21
              · have h := (if_pos hk6).symm.trans h
                refine lv_tableIn (off := 57) (tgt := 58) hx hb dxr_levelOf_1 (by rw [hk6]; decide) (by rw [hk6]; decide) (by rw [hk6]; rfl) (by decide) ?_
                refine lv_iconst (v := 4) hx hb dxr_levelOf_58 (by decide) ?_
                exact hq_iret hx hb hr hlocks hQ hK hP hD hS (by rw [← h]) rfl dxr_levelOf_59
              · have h := (if_neg hk6).symm.trans h
                by_cases hk7 : l0 = 22
                · have h := (if_pos hk7).symm.trans h
                  refine lv_tableIn (off := 57) (tgt := 58) hx hb dxr_levelOf_1 (by rw [hk7]; decide) (by rw [hk7]; decide) (by rw [hk7]; rfl) (by decide) ?_
                  refine lv_iconst (v := 4) hx hb dxr_levelOf_58 (by decide) ?_
                  exact hq_iret hx hb hr hlocks hQ hK hP hD hS (by rw [← h]) rfl dxr_levelOf_59
                · have h := (if_neg hk7).symm.trans h
                  by_cases hk8 : l0 = 23
                  · have h := (if_pos hk8).symm.trans h
                    refine lv_tableIn (off := 59) (tgt := 60) hx hb dxr_levelOf_1 (by rw [hk8]; decide) (by rw [hk8]; decide) (by rw [hk8]; rfl) (by decide) ?_
                    refine lv_iconst (v := 5) hx hb dxr_levelOf_60 (by decide) ?_
                    exact hq_iret hx hb hr hlocks hQ hK hP hD hS (by rw [← h]) rfl dxr_levelOf_61
                  · have h := (if_neg hk8).symm.trans h
                    refine lv_tableOut (tgt := 62) hx hb dxr_levelOf_1 (by have a0 := lv_neT (a := 15) hk0 (by decide); have a1 := lv_neT (a := 16) hk1 (by decide); have a2 := lv_neT (a := 17) hk2 (by decide); have a3 := lv_neT (a := 18) hk3 (by decide); have a4 := lv_neT (a := 19) hk4 (by decide); have a5 := lv_neT (a := 20) hk5 (by decide); have a6 := lv_neT (a := 21) hk6 (by decide); have a7 := lv_neT (a := 22) hk7 (by decide); have a8 := lv_neT (a := 23) hk8 (by decide); omega) (by decide) ?_
                    refine lv_iconst (v := 0) hx hb dxr_levelOf_62 (by decide) ?_
                    exact hq_iret hx hb hr hlocks hQ hK hP hD hS (by rw [← h]) rfl dxr_levelOf_63
end
section
variable {p : Program} {l : Launch} {e : Env} {R : Room} {s : State} {m : MethodId} {args : Array Value} {below : List Frame} {meth : Method} {c : Code} {H H0 : Heap} {locs : List Loc} {cells slots : Nat} {Q : State → Prop}
variable {cc : ByteArray} {pc idx nC : Nat} {ls : Array Slot} {rest : List Value} {D : va_G} {A : Nat → Prop} {own : String} {q : Nat → Nat} {cI cZ cL : ClassId} {z w : va_W}
theorem kxr_levelOf (l0 : Int32) (ur : Int32) (hu : sxr_levelOf l0 = ur) (hx : p.tables.exec = Jvm.exec) (hb : c.code = cc) (hml : c.maxLocals = nC) (hts : ∀ x ∈ hq_tbl, x.before args s = true) (hown : s.vm.findClass own = some m.cls) (hK : va_K D hq_cl (hq_tys cI cZ cL) s) (hP : va_P D hq_cl w H) (hD : va_D A w) (hS : va_S A H0 H locs) (h1 : Cond.methodLink own idx yxr_levelOf ∈ hq_tbl) (hR : 0 + 1 ≤ R.frames ∧ 8 + (1 + 11) + 0 ≤ R.locals) (hls : ls.size = nC) (hW : (rest.map fun v => v.category).sum ≤ 8) (hdg : decode cc pc = .ok (.invokestatic idx, 3)) (hf : cells + 0 ≤ R.cells ∧ slots + 0 ≤ R.slots) (kk : ∀ (H1 : Heap) (locs1 : List Loc), va_P D hq_cl w H1 → va_D A w → va_S A H0 H1 locs1 → W p l e R s m args below meth c H1 locs1 cells slots Q (F0 m (pc + 3) ls (.int ur :: rest))) : W p l e R s m args below meth c H locs cells slots Q (F0 m pc ls (.int l0 :: rest)) :=
  hq_callS hx hb hml hown hts hK hP hD hS (cxr_levelOf l0 ur hu) h1 wi_597 wi_598 wi_599 1 rfl (by decide +kernel) ⟨rfl, rfl⟩ hR hls rfl hW hdg hf kk
end
def sxr_code (ta_codes : Nat → Int32) (tf_count : Int32) (rf_at : Int32) : Option (Int32) :=
  (sxt_codeAt rf_at ta_codes tf_count).bind fun v8 =>
    some v8
theorem dxr_code_0 : decode bxr_code 0 = .ok (.aload_n 0, 1) := by decide +kernel
theorem dxr_code_1 : decode bxr_code 1 = .ok (.getfield 9, 3) := by decide +kernel
theorem dxr_code_4 : decode bxr_code 4 = .ok (.aload_n 0, 1) := by decide +kernel
theorem dxr_code_5 : decode bxr_code 5 = .ok (.getfield 58, 3) := by decide +kernel
theorem dxr_code_8 : decode bxr_code 8 = .ok (.invokevirtual 90, 3) := by decide +kernel
theorem dxr_code_11 : decode bxr_code 11 = .ok (.ireturn, 1) := by decide +kernel
section
variable {l : Launch} {D : va_G} {A : Nat → Prop} {z w : va_W} {q : Nat → Nat} {cI cZ cL : ClassId}
variable {hf_classCount hf_objectCount hf_roots hf_changed sf_objectCount sf_roots sf_reachable tf_count tf_bracketCount tf_place tf_inWhere tf_compared wf_count wf_looks rf_at n_code n_number s_isDistinct s_isRetained s_sourceClass s_withDescendants : Int32}
variable {ha_parents ha_classes ha_sizes sa_linkedFrom sa_linkCounts sa_retainedSets sa_retainedSizes sa_dominators sa_immediateDominators ta_codes ta_numbers ta_brackets : Nat → Int32}
variable {ha_fields wa_rows : Nat → Int64}
variable {xq_query n_left n_right s_row s_nested s_condition s_next : Option Nat}
variable {pa_n pk_n pa_s pk_s : Nat}
set_option maxHeartbeats 4000000 in
set_option maxRecDepth 100000 in
theorem cxr_code  (ur : Int32) (h : sxr_code ta_codes tf_count rf_at = some ur) : hq_Ct l yxr_code bxr_code 1 (some .int) { frames := 1, cells := 0, slots := 0, locals := 21 } D (hq_tys cI cZ cL) A [.ref (q 19)] (hx_w q cI cZ cL xq_query ha_parents hf_classCount ha_classes ha_sizes ha_fields hf_objectCount hf_roots hf_changed sa_linkedFrom sa_linkCounts sa_retainedSets sa_retainedSizes sa_dominators sa_immediateDominators sf_objectCount sf_roots sf_reachable ta_codes ta_numbers tf_count ta_brackets tf_bracketCount tf_place tf_inWhere tf_compared wa_rows wf_count wf_looks ++ (rd_c q rf_at :: z)) (hx_w q cI cZ cL xq_query ha_parents hf_classCount ha_classes ha_sizes ha_fields hf_objectCount hf_roots hf_changed sa_linkedFrom sa_linkCounts sa_retainedSets sa_retainedSizes sa_dominators sa_immediateDominators sf_objectCount sf_roots sf_reachable ta_codes ta_numbers tf_count ta_brackets tf_bracketCount tf_place tf_inWhere tf_compared wa_rows wf_count wf_looks ++ (rd_c q rf_at :: z)) (some (.int ur)) 0 0 := by
  refine hq_of (by decide) ?_ (Nat.le_of_ble_eq_true rfl)
  intro p e s m below meth c R args Q hRm hQ hx hb hr hml hts hown hlocks hnm hP hK hD ls hl hS
  have hl : lv_has ls 1 [(0, .ref (q 19))] := hl
  have hown : s.vm.findClass "HeapQueries$Reader" = some m.cls := hown
  unfold sxr_code at h
  refine lv_aload_n hx hb dxr_code_0 rfl (lv_at hl 0 rfl) ?_
  refine gr_19_text hx hb hts hown hK hP wi_600 dxr_code_1 ?_
  refine lv_aload_n hx hb dxr_code_4 rfl (lv_at hl 0 rfl) ?_
  refine gr_19_at hx hb hts hown hK hP wi_601 dxr_code_5 ?_
  obtain ⟨v8, h8, h⟩ := hq_bind h
  refine kxt_codeAt rf_at v8 h8 hx hb hml hts hown hK hP hD hS wi_602 (by rw [hRm]; exact ⟨Nat.le_of_ble_eq_true rfl, Nat.le_of_ble_eq_true rfl⟩) hl.1 (Nat.le_of_ble_eq_true rfl) dxr_code_8 ⟨Nat.zero_le _, Nat.zero_le _⟩ (fun H locs hP hD hS => ?_)
  have h := Option.some.inj h
  exact hq_iret hx hb hr hlocks hQ hK hP hD hS (by rw [← h]) rfl dxr_code_11
end
section
variable {p : Program} {l : Launch} {e : Env} {R : Room} {s : State} {m : MethodId} {args : Array Value} {below : List Frame} {meth : Method} {c : Code} {H H0 : Heap} {locs : List Loc} {cells slots : Nat} {Q : State → Prop}
variable {cc : ByteArray} {pc idx nC : Nat} {ls : Array Slot} {rest : List Value} {D : va_G} {A : Nat → Prop} {own : String} {q : Nat → Nat} {cI cZ cL : ClassId} {z w : va_W}
variable {hf_classCount hf_objectCount hf_roots hf_changed sf_objectCount sf_roots sf_reachable tf_count tf_bracketCount tf_place tf_inWhere tf_compared wf_count wf_looks rf_at n_code n_number s_isDistinct s_isRetained s_sourceClass s_withDescendants : Int32}
variable {ha_parents ha_classes ha_sizes sa_linkedFrom sa_linkCounts sa_retainedSets sa_retainedSizes sa_dominators sa_immediateDominators ta_codes ta_numbers ta_brackets : Nat → Int32}
variable {ha_fields wa_rows : Nat → Int64}
variable {xq_query n_left n_right s_row s_nested s_condition s_next : Option Nat}
variable {pa_n pk_n pa_s pk_s : Nat}
theorem kxr_code  (ur : Int32) (hu : sxr_code ta_codes tf_count rf_at = some ur) (hx : p.tables.exec = Jvm.exec) (hb : c.code = cc) (hml : c.maxLocals = nC) (hts : ∀ x ∈ hq_tbl, x.before args s = true) (hown : s.vm.findClass own = some m.cls) (hK : va_K D hq_cl (hq_tys cI cZ cL) s) (hP : va_P D hq_cl (hx_w q cI cZ cL xq_query ha_parents hf_classCount ha_classes ha_sizes ha_fields hf_objectCount hf_roots hf_changed sa_linkedFrom sa_linkCounts sa_retainedSets sa_retainedSizes sa_dominators sa_immediateDominators sf_objectCount sf_roots sf_reachable ta_codes ta_numbers tf_count ta_brackets tf_bracketCount tf_place tf_inWhere tf_compared wa_rows wf_count wf_looks ++ (rd_c q rf_at :: z)) H) (hD : va_D A (hx_w q cI cZ cL xq_query ha_parents hf_classCount ha_classes ha_sizes ha_fields hf_objectCount hf_roots hf_changed sa_linkedFrom sa_linkCounts sa_retainedSets sa_retainedSizes sa_dominators sa_immediateDominators sf_objectCount sf_roots sf_reachable ta_codes ta_numbers tf_count ta_brackets tf_bracketCount tf_place tf_inWhere tf_compared wa_rows wf_count wf_looks ++ (rd_c q rf_at :: z))) (hS : va_S A H0 H locs) (h1 : Cond.methodLink own idx yxr_code ∈ hq_tbl) (hR : 1 + 1 ≤ R.frames ∧ 8 + (1 + 11) + 21 ≤ R.locals) (hls : ls.size = nC) (hW : (rest.map fun v => v.category).sum ≤ 8) (hdg : decode cc pc = .ok (.invokevirtual idx, 3)) (hf : cells + 0 ≤ R.cells ∧ slots + 0 ≤ R.slots) (kk : ∀ (H1 : Heap) (locs1 : List Loc), va_P D hq_cl (hx_w q cI cZ cL xq_query ha_parents hf_classCount ha_classes ha_sizes ha_fields hf_objectCount hf_roots hf_changed sa_linkedFrom sa_linkCounts sa_retainedSets sa_retainedSizes sa_dominators sa_immediateDominators sf_objectCount sf_roots sf_reachable ta_codes ta_numbers tf_count ta_brackets tf_bracketCount tf_place tf_inWhere tf_compared wa_rows wf_count wf_looks ++ (rd_c q rf_at :: z)) H1 → va_D A (hx_w q cI cZ cL xq_query ha_parents hf_classCount ha_classes ha_sizes ha_fields hf_objectCount hf_roots hf_changed sa_linkedFrom sa_linkCounts sa_retainedSets sa_retainedSizes sa_dominators sa_immediateDominators sf_objectCount sf_roots sf_reachable ta_codes ta_numbers tf_count ta_brackets tf_bracketCount tf_place tf_inWhere tf_compared wa_rows wf_count wf_looks ++ (rd_c q rf_at :: z)) → va_S A H0 H1 locs1 → W p l e R s m args below meth c H1 locs1 cells slots Q (F0 m (pc + 3) ls (.int ur :: rest))) : W p l e R s m args below meth c H locs cells slots Q (F0 m pc ls (.ref (q 19) :: rest)) :=
  hq_callV (q0 := 19) hx hb hml hown hts hK hP hD hS (cxr_code  ur hu) rfl rfl h1 wi_603 wi_604 wi_598 wi_605 0 rfl (by decide +kernel) ⟨rfl, rfl⟩ hR hls rfl hW hdg hf kk
end
def sxr_skip_J13 (s0 : Int32) (ta_codes : Nat → Int32) (tf_count : Int32) (rf_at : Int32) : Option (Int32 × Int32) :=
  if s0 = 0 then
    if s0 = 0 ∨ s0 = 1 then
      some (s0, rf_at)
    else none
  else
    if s0 = 0 ∨ s0 = 1 then
      some (s0, rf_at + 1)
    else none
def sxr_skip (l1 : Int32) (ta_codes : Nat → Int32) (tf_count : Int32) (rf_at : Int32) : Option (Int32 × Int32) :=
  (sxr_code ta_codes tf_count rf_at).bind fun v1 =>
    if v1 = l1 then
      sxr_skip_J13 1 ta_codes tf_count rf_at
    else
      sxr_skip_J13 0 ta_codes tf_count rf_at
theorem dxr_skip_0 : decode bxr_skip 0 = .ok (.aload_n 0, 1) := by decide +kernel
theorem dxr_skip_1 : decode bxr_skip 1 = .ok (.invokevirtual 51, 3) := by decide +kernel
theorem dxr_skip_4 : decode bxr_skip 4 = .ok (.iload_n 1, 1) := by decide +kernel
theorem dxr_skip_5 : decode bxr_skip 5 = .ok (.if_icmp .ne 7, 3) := by decide +kernel
theorem dxr_skip_8 : decode bxr_skip 8 = .ok (.iconst 1, 1) := by decide +kernel
theorem dxr_skip_9 : decode bxr_skip 9 = .ok (.goto 4, 3) := by decide +kernel
theorem dxr_skip_12 : decode bxr_skip 12 = .ok (.iconst 0, 1) := by decide +kernel
theorem dxr_skip_13 : decode bxr_skip 13 = .ok (.istore_n 2, 1) := by decide +kernel
theorem dxr_skip_14 : decode bxr_skip 14 = .ok (.iload_n 2, 1) := by decide +kernel
theorem dxr_skip_15 : decode bxr_skip 15 = .ok (.ifCond .eq 13, 3) := by decide +kernel
theorem dxr_skip_18 : decode bxr_skip 18 = .ok (.aload_n 0, 1) := by decide +kernel
theorem dxr_skip_19 : decode bxr_skip 19 = .ok (.dup, 1) := by decide +kernel
theorem dxr_skip_20 : decode bxr_skip 20 = .ok (.getfield 58, 3) := by decide +kernel
theorem dxr_skip_23 : decode bxr_skip 23 = .ok (.iconst 1, 1) := by decide +kernel
theorem dxr_skip_24 : decode bxr_skip 24 = .ok (.iadd, 1) := by decide +kernel
theorem dxr_skip_25 : decode bxr_skip 25 = .ok (.putfield 58, 3) := by decide +kernel
theorem dxr_skip_28 : decode bxr_skip 28 = .ok (.iload_n 2, 1) := by decide +kernel
theorem dxr_skip_29 : decode bxr_skip 29 = .ok (.ireturn, 1) := by decide +kernel
section
variable {l : Launch} {D : va_G} {A : Nat → Prop} {z w : va_W} {q : Nat → Nat} {cI cZ cL : ClassId}
variable {hf_classCount hf_objectCount hf_roots hf_changed sf_objectCount sf_roots sf_reachable tf_count tf_bracketCount tf_place tf_inWhere tf_compared wf_count wf_looks rf_at n_code n_number s_isDistinct s_isRetained s_sourceClass s_withDescendants : Int32}
variable {ha_parents ha_classes ha_sizes sa_linkedFrom sa_linkCounts sa_retainedSets sa_retainedSizes sa_dominators sa_immediateDominators ta_codes ta_numbers ta_brackets : Nat → Int32}
variable {ha_fields wa_rows : Nat → Int64}
variable {xq_query n_left n_right s_row s_nested s_condition s_next : Option Nat}
variable {pa_n pk_n pa_s pk_s : Nat}
set_option maxHeartbeats 4000000 in
set_option maxRecDepth 100000 in
theorem cxr_skip (l1 : Int32) (ur : Int32 × Int32) (h : sxr_skip l1 ta_codes tf_count rf_at = some ur) : hq_Ct l yxr_skip bxr_skip 3 (some .boolean) { frames := 2, cells := 0, slots := 0, locals := 41 } D (hq_tys cI cZ cL) A [.ref (q 19), .int l1] (hx_w q cI cZ cL xq_query ha_parents hf_classCount ha_classes ha_sizes ha_fields hf_objectCount hf_roots hf_changed sa_linkedFrom sa_linkCounts sa_retainedSets sa_retainedSizes sa_dominators sa_immediateDominators sf_objectCount sf_roots sf_reachable ta_codes ta_numbers tf_count ta_brackets tf_bracketCount tf_place tf_inWhere tf_compared wa_rows wf_count wf_looks ++ (rd_c q rf_at :: z)) (hx_w q cI cZ cL xq_query ha_parents hf_classCount ha_classes ha_sizes ha_fields hf_objectCount hf_roots hf_changed sa_linkedFrom sa_linkCounts sa_retainedSets sa_retainedSizes sa_dominators sa_immediateDominators sf_objectCount sf_roots sf_reachable ta_codes ta_numbers tf_count ta_brackets tf_bracketCount tf_place tf_inWhere tf_compared wa_rows wf_count wf_looks ++ (rd_c q ur.2 :: z)) (some (.int ur.1)) 0 0 := by
  refine hq_of (by decide) ?_ (Nat.le_of_ble_eq_true rfl)
  intro p e s m below meth c R args Q hRm hQ hx hb hr hml hts hown hlocks hnm hP hK hD ls hl hS
  have hl : lv_has ls 3 [(0, .ref (q 19)), (1, .int l1)] := hl
  have hown : s.vm.findClass "HeapQueries$Reader" = some m.cls := hown
  unfold sxr_skip at h
  have J13 : ∀ (s0 : Int32) {rf_at : Int32} {ls : Array Slot} {H : Heap} {locs : List Loc}, lv_has ls 3 [(0, .ref (q 19))] → va_P D hq_cl (hx_w q cI cZ cL xq_query ha_parents hf_classCount ha_classes ha_sizes ha_fields hf_objectCount hf_roots hf_changed sa_linkedFrom sa_linkCounts sa_retainedSets sa_retainedSizes sa_dominators sa_immediateDominators sf_objectCount sf_roots sf_reachable ta_codes ta_numbers tf_count ta_brackets tf_bracketCount tf_place tf_inWhere tf_compared wa_rows wf_count wf_looks ++ (rd_c q rf_at :: z)) H → va_D A (hx_w q cI cZ cL xq_query ha_parents hf_classCount ha_classes ha_sizes ha_fields hf_objectCount hf_roots hf_changed sa_linkedFrom sa_linkCounts sa_retainedSets sa_retainedSizes sa_dominators sa_immediateDominators sf_objectCount sf_roots sf_reachable ta_codes ta_numbers tf_count ta_brackets tf_bracketCount tf_place tf_inWhere tf_compared wa_rows wf_count wf_looks ++ (rd_c q rf_at :: z)) → va_S A s.heap H locs → sxr_skip_J13 s0 ta_codes tf_count rf_at = some ur → W p l e R s m args below meth c H locs 0 0 Q (F0 m 13 ls [.int s0]) := by
    intro s0 rf_at ls H locs hl hP hD hS h
    unfold sxr_skip_J13 at h
    refine lv_istore_n (lv' := [(2, .int s0), (0, .ref (q 19))]) hx hb dxr_skip_13 rfl hl (by decide) rfl (fun ls hl => ?_)
    refine lv_iload_n hx hb dxr_skip_14 rfl (lv_at hl 0 rfl) ?_
    refine lv_if_eq (tgt := 28) hx hb dxr_skip_15 (by decide) (fun hc => ?_) (fun hc => ?_)
    · have h := (if_pos hc).symm.trans h
      refine lv_iload_n hx hb dxr_skip_28 rfl (lv_at hl 0 rfl) ?_
      obtain ⟨hz, h⟩ := hq_ok h
      have h := Option.some.inj h
      exact hq_zret hx hb hr hlocks hQ hK hP hD hS hz (by rw [← h]) (by rw [← h]) dxr_skip_29
    · have h := (if_neg hc).symm.trans h
      refine lv_aload_n hx hb dxr_skip_18 rfl (lv_at hl 1 rfl) ?_
      refine lv_dup hx hb dxr_skip_19 rfl ?_
      refine gr_19_at hx hb hts hown hK hP wi_601 dxr_skip_20 ?_
      refine lv_iconst (v := 1) hx hb dxr_skip_23 (by decide) ?_
      refine lv_iadd hx hb dxr_skip_24 ?_
      refine pr_19_at hx hb hts hown hK hP hD hS wi_601 dxr_skip_25 (fun H locs hP hD hS => ?_)
      refine lv_iload_n hx hb dxr_skip_28 rfl (lv_at hl 0 rfl) ?_
      obtain ⟨hz, h⟩ := hq_ok h
      have h := Option.some.inj h
      exact hq_zret hx hb hr hlocks hQ hK hP hD hS hz (by rw [← h]) (by rw [← h]) dxr_skip_29
  refine lv_aload_n hx hb dxr_skip_0 rfl (lv_at hl 0 rfl) ?_
  obtain ⟨v1, h1, h⟩ := hq_bind h
  refine kxr_code  v1 h1 hx hb hml hts hown hK hP hD hS wi_606 (by rw [hRm]; exact ⟨Nat.le_of_ble_eq_true rfl, Nat.le_of_ble_eq_true rfl⟩) hl.1 (Nat.le_of_ble_eq_true rfl) dxr_skip_1 ⟨Nat.zero_le _, Nat.zero_le _⟩ (fun H locs hP hD hS => ?_)
  refine lv_iload_n hx hb dxr_skip_4 rfl (lv_at hl 1 rfl) ?_
  refine lv_icmp_ne (tgt := 12) hx hb dxr_skip_5 (by decide) (fun hc => ?_) (fun hc => ?_)
  · have h := (if_neg hc).symm.trans h
    refine lv_iconst (v := 0) hx hb dxr_skip_12 (by decide) ?_
    exact J13 0 (lv_sub hl [0] rfl) hP hD hS h
  · have h := (if_pos hc).symm.trans h
    refine lv_iconst (v := 1) hx hb dxr_skip_8 (by decide) ?_
    refine lv_goto (tgt := 13) hx hb dxr_skip_9 (by decide) ?_
    exact J13 1 (lv_sub hl [0] rfl) hP hD hS h
end
section
variable {p : Program} {l : Launch} {e : Env} {R : Room} {s : State} {m : MethodId} {args : Array Value} {below : List Frame} {meth : Method} {c : Code} {H H0 : Heap} {locs : List Loc} {cells slots : Nat} {Q : State → Prop}
variable {cc : ByteArray} {pc idx nC : Nat} {ls : Array Slot} {rest : List Value} {D : va_G} {A : Nat → Prop} {own : String} {q : Nat → Nat} {cI cZ cL : ClassId} {z w : va_W}
variable {hf_classCount hf_objectCount hf_roots hf_changed sf_objectCount sf_roots sf_reachable tf_count tf_bracketCount tf_place tf_inWhere tf_compared wf_count wf_looks rf_at n_code n_number s_isDistinct s_isRetained s_sourceClass s_withDescendants : Int32}
variable {ha_parents ha_classes ha_sizes sa_linkedFrom sa_linkCounts sa_retainedSets sa_retainedSizes sa_dominators sa_immediateDominators ta_codes ta_numbers ta_brackets : Nat → Int32}
variable {ha_fields wa_rows : Nat → Int64}
variable {xq_query n_left n_right s_row s_nested s_condition s_next : Option Nat}
variable {pa_n pk_n pa_s pk_s : Nat}
theorem kxr_skip (l1 : Int32) (ur : Int32 × Int32) (hu : sxr_skip l1 ta_codes tf_count rf_at = some ur) (hx : p.tables.exec = Jvm.exec) (hb : c.code = cc) (hml : c.maxLocals = nC) (hts : ∀ x ∈ hq_tbl, x.before args s = true) (hown : s.vm.findClass own = some m.cls) (hK : va_K D hq_cl (hq_tys cI cZ cL) s) (hP : va_P D hq_cl (hx_w q cI cZ cL xq_query ha_parents hf_classCount ha_classes ha_sizes ha_fields hf_objectCount hf_roots hf_changed sa_linkedFrom sa_linkCounts sa_retainedSets sa_retainedSizes sa_dominators sa_immediateDominators sf_objectCount sf_roots sf_reachable ta_codes ta_numbers tf_count ta_brackets tf_bracketCount tf_place tf_inWhere tf_compared wa_rows wf_count wf_looks ++ (rd_c q rf_at :: z)) H) (hD : va_D A (hx_w q cI cZ cL xq_query ha_parents hf_classCount ha_classes ha_sizes ha_fields hf_objectCount hf_roots hf_changed sa_linkedFrom sa_linkCounts sa_retainedSets sa_retainedSizes sa_dominators sa_immediateDominators sf_objectCount sf_roots sf_reachable ta_codes ta_numbers tf_count ta_brackets tf_bracketCount tf_place tf_inWhere tf_compared wa_rows wf_count wf_looks ++ (rd_c q rf_at :: z))) (hS : va_S A H0 H locs) (h1 : Cond.methodLink own idx yxr_skip ∈ hq_tbl) (hR : 2 + 1 ≤ R.frames ∧ 8 + (3 + 11) + 41 ≤ R.locals) (hls : ls.size = nC) (hW : (rest.map fun v => v.category).sum ≤ 8) (hdg : decode cc pc = .ok (.invokevirtual idx, 3)) (hf : cells + 0 ≤ R.cells ∧ slots + 0 ≤ R.slots) (kk : ∀ (H1 : Heap) (locs1 : List Loc), va_P D hq_cl (hx_w q cI cZ cL xq_query ha_parents hf_classCount ha_classes ha_sizes ha_fields hf_objectCount hf_roots hf_changed sa_linkedFrom sa_linkCounts sa_retainedSets sa_retainedSizes sa_dominators sa_immediateDominators sf_objectCount sf_roots sf_reachable ta_codes ta_numbers tf_count ta_brackets tf_bracketCount tf_place tf_inWhere tf_compared wa_rows wf_count wf_looks ++ (rd_c q ur.2 :: z)) H1 → va_D A (hx_w q cI cZ cL xq_query ha_parents hf_classCount ha_classes ha_sizes ha_fields hf_objectCount hf_roots hf_changed sa_linkedFrom sa_linkCounts sa_retainedSets sa_retainedSizes sa_dominators sa_immediateDominators sf_objectCount sf_roots sf_reachable ta_codes ta_numbers tf_count ta_brackets tf_bracketCount tf_place tf_inWhere tf_compared wa_rows wf_count wf_looks ++ (rd_c q ur.2 :: z)) → va_S A H0 H1 locs1 → W p l e R s m args below meth c H1 locs1 cells slots Q (F0 m (pc + 3) ls (.int ur.1 :: rest))) : W p l e R s m args below meth c H locs cells slots Q (F0 m pc ls (.int l1 :: .ref (q 19) :: rest)) :=
  hq_callV (q0 := 19) hx hb hml hown hts hK hP hD hS (cxr_skip l1 ur hu) rfl rfl h1 wi_607 wi_608 wi_598 wi_609 1 rfl (by decide +kernel) ⟨rfl, rfl⟩ hR hls rfl hW hdg hf kk
end
