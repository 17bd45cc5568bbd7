theorem dm_addClass_0 : decode bm_addClass 0 = .ok (.iload_n 1, 1) := by decide +kernel
theorem dm_addClass_1 : decode bm_addClass 1 = .ok (.iconst (-1), 1) := by decide +kernel
theorem dm_addClass_2 : decode bm_addClass 2 = .ok (.if_icmp .lt 20, 3) := by decide +kernel
theorem dm_addClass_5 : decode bm_addClass 5 = .ok (.iload_n 1, 1) := by decide +kernel
theorem dm_addClass_6 : decode bm_addClass 6 = .ok (.aload_n 0, 1) := by decide +kernel
theorem dm_addClass_7 : decode bm_addClass 7 = .ok (.getfield 77, 3) := by decide +kernel
theorem dm_addClass_10 : decode bm_addClass 10 = .ok (.if_icmp .ge 12, 3) := by decide +kernel
theorem dm_addClass_13 : decode bm_addClass 13 = .ok (.aload_n 0, 1) := by decide +kernel
theorem dm_addClass_14 : decode bm_addClass 14 = .ok (.getfield 77, 3) := by decide +kernel
theorem dm_addClass_17 : decode bm_addClass 17 = .ok (.bipush 8, 2) := by decide +kernel
theorem dm_addClass_19 : decode bm_addClass 19 = .ok (.if_icmp .lt 5, 3) := by decide +kernel
theorem dm_addClass_22 : decode bm_addClass 22 = .ok (.iconst (-1), 1) := by decide +kernel
theorem dm_addClass_23 : decode bm_addClass 23 = .ok (.ireturn, 1) := by decide +kernel
theorem dm_addClass_24 : decode bm_addClass 24 = .ok (.aload_n 0, 1) := by decide +kernel
theorem dm_addClass_25 : decode bm_addClass 25 = .ok (.getfield 7, 3) := by decide +kernel
theorem dm_addClass_28 : decode bm_addClass 28 = .ok (.aload_n 0, 1) := by decide +kernel
theorem dm_addClass_29 : decode bm_addClass 29 = .ok (.getfield 77, 3) := by decide +kernel
theorem dm_addClass_32 : decode bm_addClass 32 = .ok (.iload_n 1, 1) := by decide +kernel
theorem dm_addClass_33 : decode bm_addClass 33 = .ok (.iastore, 1) := by decide +kernel
theorem dm_addClass_34 : decode bm_addClass 34 = .ok (.aload_n 0, 1) := by decide +kernel
theorem dm_addClass_35 : decode bm_addClass 35 = .ok (.dup, 1) := by decide +kernel
theorem dm_addClass_36 : decode bm_addClass 36 = .ok (.getfield 77, 3) := by decide +kernel
theorem dm_addClass_39 : decode bm_addClass 39 = .ok (.iconst 1, 1) := by decide +kernel
theorem dm_addClass_40 : decode bm_addClass 40 = .ok (.iadd, 1) := by decide +kernel
theorem dm_addClass_41 : decode bm_addClass 41 = .ok (.putfield 77, 3) := by decide +kernel
theorem dm_addClass_44 : decode bm_addClass 44 = .ok (.aload_n 0, 1) := by decide +kernel
theorem dm_addClass_45 : decode bm_addClass 45 = .ok (.getfield 77, 3) := by decide +kernel
theorem dm_addClass_48 : decode bm_addClass 48 = .ok (.iconst 1, 1) := by decide +kernel
theorem dm_addClass_49 : decode bm_addClass 49 = .ok (.isub, 1) := by decide +kernel
theorem dm_addClass_50 : decode bm_addClass 50 = .ok (.ireturn, 1) := by decide +kernel
section
variable {l : Launch} {D : va_G} {A : Nat → Prop} {z w : va_W} {q : Nat → Nat} {cI cZ cL : ClassId}
variable {f_classes f_objects f_count f_want f_compared f_open f_rowCount f_many f_seen f_fail f_level f_at f_self f_brackets f_values f_waiting : Int32}
variable {a_parent a_kindOf a_size a_root a_slotKind a_slot a_kept a_code a_number a_opened a_rowKind a_rowValue a_list a_from a_eAt a_whereAt a_source a_distinct a_keeps a_vKind a_v a_waits : Nat → Int32}
set_option maxHeartbeats 4000000 in
set_option maxRecDepth 100000 in
theorem cm_addClass (l1 : Int32) (ur : Int32 × Int32 × (Nat → Int32)) (h : sm_addClass l1 f_classes a_parent = some ur) : hq_Ct l ym_addClass bm_addClass 2 (some .int) { frames := 0, cells := 0, slots := 0, locals := 0 } D (hq_tys cI cZ cL) A [.ref (q 0), .int l1] (hm_w q cI cZ cL f_classes a_parent f_objects a_kindOf a_size a_root a_slotKind a_slot a_kept f_count a_code a_number f_want f_compared f_open a_opened f_rowCount a_rowKind a_rowValue f_many a_list f_seen f_fail f_level a_from a_eAt a_whereAt a_source a_distinct a_keeps f_at f_self f_brackets f_values a_vKind a_v f_waiting a_waits ++ z) (hm_w q cI cZ cL ur.2.1 ur.2.2 f_objects a_kindOf a_size a_root a_slotKind a_slot a_kept f_count a_code a_number f_want f_compared f_open a_opened f_rowCount a_rowKind a_rowValue f_many a_list f_seen f_fail f_level a_from a_eAt a_whereAt a_source a_distinct a_keeps f_at f_self f_brackets f_values a_vKind a_v f_waiting a_waits ++ z) (some (.int ur.1)) 0 0 := by
  refine hq_of (by decide) ?_ (Nat.le_of_ble_eq_true rfl)
  intro p e s m below meth c R args Q hRm hQ hx hb hr hml hts hown hlocks hnm hP hK hD ls hl hS
  have hl : lv_has ls 2 [(0, .ref (q 0)), (1, .int l1)] := hl
  have hown : s.vm.findClass "HeapQueriesModel" = some m.cls := hown
  unfold sm_addClass at h
  refine lv_iload_n hx hb dm_addClass_0 rfl (lv_at hl 1 rfl) ?_
  refine lv_iconst (v := (-1)) hx hb dm_addClass_1 (by decide) ?_
  refine lv_icmp_lt (tgt := 22) hx hb dm_addClass_2 (by decide) (fun hc => ?_) (fun hc => ?_)
  · have h := (if_pos hc).symm.trans h
    refine lv_iconst (v := (-1)) hx hb dm_addClass_22 (by decide) ?_
    have h := Option.some.inj h
    exact hq_iret hx hb hr hlocks hQ hK hP hD hS (by rw [← h]) (by rw [← h]) dm_addClass_23
  · have h := (if_neg hc).symm.trans h
    refine lv_iload_n hx hb dm_addClass_5 rfl (lv_at hl 1 rfl) ?_
    refine lv_aload_n hx hb dm_addClass_6 rfl (lv_at hl 0 rfl) ?_
    refine gm_0_classes hx hb hts hown hK hP wi_66 dm_addClass_7 ?_
    refine lv_icmp_ge (tgt := 22) hx hb dm_addClass_10 (by decide) (fun hc => ?_) (fun hc => ?_)
    · have h := (if_pos hc).symm.trans h
      refine lv_iconst (v := (-1)) hx hb dm_addClass_22 (by decide) ?_
      have h := Option.some.inj h
      exact hq_iret hx hb hr hlocks hQ hK hP hD hS (by rw [← h]) (by rw [← h]) dm_addClass_23
    · have h := (if_neg hc).symm.trans h
      refine lv_aload_n hx hb dm_addClass_13 rfl (lv_at hl 0 rfl) ?_
      refine gm_0_classes hx hb hts hown hK hP wi_66 dm_addClass_14 ?_
      refine lv_bipush (v := 8) hx hb dm_addClass_17 (by decide) ?_
      refine lv_icmp_lt (tgt := 24) hx hb dm_addClass_19 (by decide) (fun hc => ?_) (fun hc => ?_)
      · have h := (if_pos hc).symm.trans h
        refine lv_aload_n hx hb dm_addClass_24 rfl (lv_at hl 0 rfl) ?_
        refine gm_0_parent hx hb hts hown hK hP wi_67 dm_addClass_25 ?_
        refine lv_aload_n hx hb dm_addClass_28 rfl (lv_at hl 0 rfl) ?_
        refine gm_0_classes hx hb hts hown hK hP wi_66 dm_addClass_29 ?_
        refine lv_iload_n hx hb dm_addClass_32 rfl (lv_at hl 1 rfl) ?_
        obtain ⟨hin, h⟩ := hq_idx h
        refine tm_1 hx hb hK hP hD hS hin dm_addClass_33 (fun H locs hP hD hS => ?_)
        refine lv_aload_n hx hb dm_addClass_34 rfl (lv_at hl 0 rfl) ?_
        refine lv_dup hx hb dm_addClass_35 rfl ?_
        refine gm_0_classes hx hb hts hown hK hP wi_66 dm_addClass_36 ?_
        refine lv_iconst (v := 1) hx hb dm_addClass_39 (by decide) ?_
        refine lv_iadd hx hb dm_addClass_40 ?_
        refine pm_0_classes hx hb hts hown hK hP hD hS wi_66 dm_addClass_41 (fun H locs hP hD hS => ?_)
        refine lv_aload_n hx hb dm_addClass_44 rfl (lv_at hl 0 rfl) ?_
        refine gm_0_classes hx hb hts hown hK hP wi_66 dm_addClass_45 ?_
        refine lv_iconst (v := 1) hx hb dm_addClass_48 (by decide) ?_
        refine lv_isub hx hb dm_addClass_49 ?_
        have h := Option.some.inj h
        exact hq_iret hx hb hr hlocks hQ hK hP hD hS (by rw [← h]) (by rw [← h]) dm_addClass_50
      · have h := (if_neg hc).symm.trans h
        refine lv_iconst (v := (-1)) hx hb dm_addClass_22 (by decide) ?_
        have h := Option.some.inj h
        exact hq_iret hx hb hr hlocks hQ hK hP hD hS (by rw [← h]) (by rw [← h]) dm_addClass_23
end
section
variable {p : Program} {l : Launch} {e : Env} {R : Room} {s : State} {m : MethodId} {args : Array Value} {below : List Frame} {meth : Method} {c : Code} {H H0 : Heap} {locs : List Loc} {cells slots : Nat} {Q : State → Prop}
variable {cc : ByteArray} {pc idx nC : Nat} {ls : Array Slot} {rest : List Value} {D : va_G} {A : Nat → Prop} {own : String} {q : Nat → Nat} {cI cZ cL : ClassId} {z w : va_W}
variable {f_classes f_objects f_count f_want f_compared f_open f_rowCount f_many f_seen f_fail f_level f_at f_self f_brackets f_values f_waiting : Int32}
variable {a_parent a_kindOf a_size a_root a_slotKind a_slot a_kept a_code a_number a_opened a_rowKind a_rowValue a_list a_from a_eAt a_whereAt a_source a_distinct a_keeps a_vKind a_v a_waits : Nat → Int32}
theorem km_addClass (l1 : Int32) (ur : Int32 × Int32 × (Nat → Int32)) (hu : sm_addClass l1 f_classes a_parent = some ur) (hx : p.tables.exec = Jvm.exec) (hb : c.code = cc) (hml : c.maxLocals = nC) (hts : ∀ x ∈ hq_tbl, x.before args s = true) (hown : s.vm.findClass own = some m.cls) (hK : va_K D hq_cl (hq_tys cI cZ cL) s) (hP : va_P D hq_cl (hm_w q cI cZ cL f_classes a_parent f_objects a_kindOf a_size a_root a_slotKind a_slot a_kept f_count a_code a_number f_want f_compared f_open a_opened f_rowCount a_rowKind a_rowValue f_many a_list f_seen f_fail f_level a_from a_eAt a_whereAt a_source a_distinct a_keeps f_at f_self f_brackets f_values a_vKind a_v f_waiting a_waits ++ z) H) (hD : va_D A (hm_w q cI cZ cL f_classes a_parent f_objects a_kindOf a_size a_root a_slotKind a_slot a_kept f_count a_code a_number f_want f_compared f_open a_opened f_rowCount a_rowKind a_rowValue f_many a_list f_seen f_fail f_level a_from a_eAt a_whereAt a_source a_distinct a_keeps f_at f_self f_brackets f_values a_vKind a_v f_waiting a_waits ++ z)) (hS : va_S A H0 H locs) (h1 : Cond.methodLink own idx ym_addClass ∈ hq_tbl) (hR : 0 + 1 ≤ R.frames ∧ 8 + (2 + 11) + 0 ≤ R.locals) (hls : ls.size = nC) (hW : (rest.map fun v => v.category).sum ≤ 8) (hdg : decode cc pc = .ok (.invokevirtual idx, 3)) (hf : cells + 0 ≤ R.cells ∧ slots + 0 ≤ R.slots) (kk : ∀ (H1 : Heap) (locs1 : List Loc), va_P D hq_cl (hm_w q cI cZ cL ur.2.1 ur.2.2 f_objects a_kindOf a_size a_root a_slotKind a_slot a_kept f_count a_code a_number f_want f_compared f_open a_opened f_rowCount a_rowKind a_rowValue f_many a_list f_seen f_fail f_level a_from a_eAt a_whereAt a_source a_distinct a_keeps f_at f_self f_brackets f_values a_vKind a_v f_waiting a_waits ++ z) H1 → va_D A (hm_w q cI cZ cL ur.2.1 ur.2.2 f_objects a_kindOf a_size a_root a_slotKind a_slot a_kept f_count a_code a_number f_want f_compared f_open a_opened f_rowCount a_rowKind a_rowValue f_many a_list f_seen f_fail f_level a_from a_eAt a_whereAt a_source a_distinct a_keeps f_at f_self f_brackets f_values a_vKind a_v f_waiting a_waits ++ z) → va_S A H0 H1 locs1 → W p l e R s m args below meth c H1 locs1 cells slots Q (F0 m (pc + 3) ls (.int ur.1 :: rest))) : W p l e R s m args below meth c H locs cells slots Q (F0 m pc ls (.int l1 :: .ref (q 0) :: rest)) :=
  hq_callV (q0 := 0) hx hb hml hown hts hK hP hD hS (cm_addClass l1 ur hu) rfl rfl h1 wi_336 wi_337 wi_338 wi_339 1 rfl (by decide +kernel) ⟨rfl, rfl⟩ hR hls rfl hW hdg hf kk
end
theorem dm_addObject_0 : decode bm_addObject 0 = .ok (.iload_n 1, 1) := by decide +kernel
theorem dm_addObject_1 : decode bm_addObject 1 = .ok (.ifCond .lt 32, 3) := by decide +kernel
theorem dm_addObject_4 : decode bm_addObject 4 = .ok (.iload_n 1, 1) := by decide +kernel
theorem dm_addObject_5 : decode bm_addObject 5 = .ok (.aload_n 0, 1) := by decide +kernel
theorem dm_addObject_6 : decode bm_addObject 6 = .ok (.getfield 77, 3) := by decide +kernel
theorem dm_addObject_9 : decode bm_addObject 9 = .ok (.if_icmp .ge 24, 3) := by decide +kernel
theorem dm_addObject_12 : decode bm_addObject 12 = .ok (.iload_n 2, 1) := by decide +kernel
theorem dm_addObject_13 : decode bm_addObject 13 = .ok (.iconst 1, 1) := by decide +kernel
theorem dm_addObject_14 : decode bm_addObject 14 = .ok (.if_icmp .lt 19, 3) := by decide +kernel
theorem dm_addObject_17 : decode bm_addObject 17 = .ok (.iload_n 2, 1) := by decide +kernel
theorem dm_addObject_18 : decode bm_addObject 18 = .ok (.sipush 1000, 3) := by decide +kernel
theorem dm_addObject_21 : decode bm_addObject 21 = .ok (.if_icmp .gt 12, 3) := by decide +kernel
theorem dm_addObject_24 : decode bm_addObject 24 = .ok (.aload_n 0, 1) := by decide +kernel
theorem dm_addObject_25 : decode bm_addObject 25 = .ok (.getfield 81, 3) := by decide +kernel
theorem dm_addObject_28 : decode bm_addObject 28 = .ok (.bipush 24, 2) := by decide +kernel
theorem dm_addObject_30 : decode bm_addObject 30 = .ok (.if_icmp .lt 5, 3) := by decide +kernel
theorem dm_addObject_33 : decode bm_addObject 33 = .ok (.iconst (-1), 1) := by decide +kernel
theorem dm_addObject_34 : decode bm_addObject 34 = .ok (.ireturn, 1) := by decide +kernel
theorem dm_addObject_35 : decode bm_addObject 35 = .ok (.aload_n 0, 1) := by decide +kernel
theorem dm_addObject_36 : decode bm_addObject 36 = .ok (.getfield 13, 3) := by decide +kernel
theorem dm_addObject_39 : decode bm_addObject 39 = .ok (.aload_n 0, 1) := by decide +kernel
theorem dm_addObject_40 : decode bm_addObject 40 = .ok (.getfield 81, 3) := by decide +kernel
theorem dm_addObject_43 : decode bm_addObject 43 = .ok (.iload_n 1, 1) := by decide +kernel
theorem dm_addObject_44 : decode bm_addObject 44 = .ok (.iastore, 1) := by decide +kernel
theorem dm_addObject_45 : decode bm_addObject 45 = .ok (.aload_n 0, 1) := by decide +kernel
theorem dm_addObject_46 : decode bm_addObject 46 = .ok (.getfield 16, 3) := by decide +kernel
theorem dm_addObject_49 : decode bm_addObject 49 = .ok (.aload_n 0, 1) := by decide +kernel
theorem dm_addObject_50 : decode bm_addObject 50 = .ok (.getfield 81, 3) := by decide +kernel
theorem dm_addObject_53 : decode bm_addObject 53 = .ok (.iload_n 2, 1) := by decide +kernel
theorem dm_addObject_54 : decode bm_addObject 54 = .ok (.iastore, 1) := by decide +kernel
theorem dm_addObject_55 : decode bm_addObject 55 = .ok (.aload_n 0, 1) := by decide +kernel
theorem dm_addObject_56 : decode bm_addObject 56 = .ok (.dup, 1) := by decide +kernel
theorem dm_addObject_57 : decode bm_addObject 57 = .ok (.getfield 81, 3) := by decide +kernel
theorem dm_addObject_60 : decode bm_addObject 60 = .ok (.iconst 1, 1) := by decide +kernel
theorem dm_addObject_61 : decode bm_addObject 61 = .ok (.iadd, 1) := by decide +kernel
theorem dm_addObject_62 : decode bm_addObject 62 = .ok (.putfield 81, 3) := by decide +kernel
theorem dm_addObject_65 : decode bm_addObject 65 = .ok (.aload_n 0, 1) := by decide +kernel
theorem dm_addObject_66 : decode bm_addObject 66 = .ok (.getfield 81, 3) := by decide +kernel
theorem dm_addObject_69 : decode bm_addObject 69 = .ok (.iconst 1, 1) := by decide +kernel
theorem dm_addObject_70 : decode bm_addObject 70 = .ok (.isub, 1) := by decide +kernel
theorem dm_addObject_71 : decode bm_addObject 71 = .ok (.ireturn, 1) := by decide +kernel
section
variable {l : Launch} {D : va_G} {A : Nat → Prop} {z w : va_W} {q : Nat → Nat} {cI cZ cL : ClassId}
variable {f_classes f_objects f_count f_want f_compared f_open f_rowCount f_many f_seen f_fail f_level f_at f_self f_brackets f_values f_waiting : Int32}
variable {a_parent a_kindOf a_size a_root a_slotKind a_slot a_kept a_code a_number a_opened a_rowKind a_rowValue a_list a_from a_eAt a_whereAt a_source a_distinct a_keeps a_vKind a_v a_waits : Nat → Int32}
set_option maxHeartbeats 4000000 in
set_option maxRecDepth 100000 in
theorem cm_addObject (l1 : Int32) (l2 : Int32) (ur : Int32 × Int32 × (Nat → Int32) × (Nat → Int32)) (h : sm_addObject l1 l2 f_classes f_objects a_kindOf a_size = some ur) : hq_Ct l ym_addObject bm_addObject 3 (some .int) { frames := 0, cells := 0, slots := 0, locals := 0 } D (hq_tys cI cZ cL) A [.ref (q 0), .int l1, .int l2] (hm_w q cI cZ cL f_classes a_parent f_objects a_kindOf a_size a_root a_slotKind a_slot a_kept f_count a_code a_number f_want f_compared f_open a_opened f_rowCount a_rowKind a_rowValue f_many a_list f_seen f_fail f_level a_from a_eAt a_whereAt a_source a_distinct a_keeps f_at f_self f_brackets f_values a_vKind a_v f_waiting a_waits ++ z) (hm_w q cI cZ cL f_classes a_parent ur.2.1 ur.2.2.1 ur.2.2.2 a_root a_slotKind a_slot a_kept f_count a_code a_number f_want f_compared f_open a_opened f_rowCount a_rowKind a_rowValue f_many a_list f_seen f_fail f_level a_from a_eAt a_whereAt a_source a_distinct a_keeps f_at f_self f_brackets f_values a_vKind a_v f_waiting a_waits ++ z) (some (.int ur.1)) 0 0 := by
  refine hq_of (by decide) ?_ (Nat.le_of_ble_eq_true rfl)
  intro p e s m below meth c R args Q hRm hQ hx hb hr hml hts hown hlocks hnm hP hK hD ls hl hS
  have hl : lv_has ls 3 [(0, .ref (q 0)), (1, .int l1), (2, .int l2)] := hl
  have hown : s.vm.findClass "HeapQueriesModel" = some m.cls := hown
  unfold sm_addObject at h
  refine lv_iload_n hx hb dm_addObject_0 rfl (lv_at hl 1 rfl) ?_
  refine lv_if_lt (tgt := 33) hx hb dm_addObject_1 (by decide) (fun hc => ?_) (fun hc => ?_)
  · have h := (if_pos hc).symm.trans h
    refine lv_iconst (v := (-1)) hx hb dm_addObject_33 (by decide) ?_
    have h := Option.some.inj h
    exact hq_iret hx hb hr hlocks hQ hK hP hD hS (by rw [← h]) (by rw [← h]) dm_addObject_34
  · have h := (if_neg hc).symm.trans h
    refine lv_iload_n hx hb dm_addObject_4 rfl (lv_at hl 1 rfl) ?_
    refine lv_aload_n hx hb dm_addObject_5 rfl (lv_at hl 0 rfl) ?_
    refine gm_0_classes hx hb hts hown hK hP wi_66 dm_addObject_6 ?_
    refine lv_icmp_ge (tgt := 33) hx hb dm_addObject_9 (by decide) (fun hc => ?_) (fun hc => ?_)
    · have h := (if_pos hc).symm.trans h
      refine lv_iconst (v := (-1)) hx hb dm_addObject_33 (by decide) ?_
      have h := Option.some.inj h
      exact hq_iret hx hb hr hlocks hQ hK hP hD hS (by rw [← h]) (by rw [← h]) dm_addObject_34
    · have h := (if_neg hc).symm.trans h
      refine lv_iload_n hx hb dm_addObject_12 rfl (lv_at hl 2 rfl) ?_
      refine lv_iconst (v := 1) hx hb dm_addObject_13 (by decide) ?_
      refine lv_icmp_lt (tgt := 33) hx hb dm_addObject_14 (by decide) (fun hc => ?_) (fun hc => ?_)
      · have h := (if_pos hc).symm.trans h
        refine lv_iconst (v := (-1)) hx hb dm_addObject_33 (by decide) ?_
        have h := Option.some.inj h
        exact hq_iret hx hb hr hlocks hQ hK hP hD hS (by rw [← h]) (by rw [← h]) dm_addObject_34
      · have h := (if_neg hc).symm.trans h
        refine lv_iload_n hx hb dm_addObject_17 rfl (lv_at hl 2 rfl) ?_
        refine lv_sipush (v := 1000) hx hb dm_addObject_18 (by decide) ?_
        refine lv_icmp_gt (tgt := 33) hx hb dm_addObject_21 (by decide) (fun hc => ?_) (fun hc => ?_)
        · have h := (if_pos hc).symm.trans h
          refine lv_iconst (v := (-1)) hx hb dm_addObject_33 (by decide) ?_
          have h := Option.some.inj h
          exact hq_iret hx hb hr hlocks hQ hK hP hD hS (by rw [← h]) (by rw [← h]) dm_addObject_34
        · have h := (if_neg hc).symm.trans h
          refine lv_aload_n hx hb dm_addObject_24 rfl (lv_at hl 0 rfl) ?_
          refine gm_0_objects hx hb hts hown hK hP wi_68 dm_addObject_25 ?_
          refine lv_bipush (v := 24) hx hb dm_addObject_28 (by decide) ?_
          refine lv_icmp_lt (tgt := 35) hx hb dm_addObject_30 (by decide) (fun hc => ?_) (fun hc => ?_)
          · have h := (if_pos hc).symm.trans h
            refine lv_aload_n hx hb dm_addObject_35 rfl (lv_at hl 0 rfl) ?_
            refine gm_0_kindOf hx hb hts hown hK hP wi_69 dm_addObject_36 ?_
            refine lv_aload_n hx hb dm_addObject_39 rfl (lv_at hl 0 rfl) ?_
            refine gm_0_objects hx hb hts hown hK hP wi_68 dm_addObject_40 ?_
            refine lv_iload_n hx hb dm_addObject_43 rfl (lv_at hl 1 rfl) ?_
            obtain ⟨hin, h⟩ := hq_idx h
            refine tm_2 hx hb hK hP hD hS hin dm_addObject_44 (fun H locs hP hD hS => ?_)
            refine lv_aload_n hx hb dm_addObject_45 rfl (lv_at hl 0 rfl) ?_
            refine gm_0_size hx hb hts hown hK hP wi_70 dm_addObject_46 ?_
            refine lv_aload_n hx hb dm_addObject_49 rfl (lv_at hl 0 rfl) ?_
            refine gm_0_objects hx hb hts hown hK hP wi_68 dm_addObject_50 ?_
            refine lv_iload_n hx hb dm_addObject_53 rfl (lv_at hl 2 rfl) ?_
            obtain ⟨hin, h⟩ := hq_idx h
            refine tm_3 hx hb hK hP hD hS hin dm_addObject_54 (fun H locs hP hD hS => ?_)
            refine lv_aload_n hx hb dm_addObject_55 rfl (lv_at hl 0 rfl) ?_
            refine lv_dup hx hb dm_addObject_56 rfl ?_
            refine gm_0_objects hx hb hts hown hK hP wi_68 dm_addObject_57 ?_
            refine lv_iconst (v := 1) hx hb dm_addObject_60 (by decide) ?_
            refine lv_iadd hx hb dm_addObject_61 ?_
            refine pm_0_objects hx hb hts hown hK hP hD hS wi_68 dm_addObject_62 (fun H locs hP hD hS => ?_)
            refine lv_aload_n hx hb dm_addObject_65 rfl (lv_at hl 0 rfl) ?_
            refine gm_0_objects hx hb hts hown hK hP wi_68 dm_addObject_66 ?_
            refine lv_iconst (v := 1) hx hb dm_addObject_69 (by decide) ?_
            refine lv_isub hx hb dm_addObject_70 ?_
            have h := Option.some.inj h
            exact hq_iret hx hb hr hlocks hQ hK hP hD hS (by rw [← h]) (by rw [← h]) dm_addObject_71
          · have h := (if_neg hc).symm.trans h
            refine lv_iconst (v := (-1)) hx hb dm_addObject_33 (by decide) ?_
            have h := Option.some.inj h
            exact hq_iret hx hb hr hlocks hQ hK hP hD hS (by rw [← h]) (by rw [← h]) dm_addObject_34
end
section
variable {p : Program} {l : Launch} {e : Env} {R : Room} {s : State} {m : MethodId} {args : Array Value} {below : List Frame} {meth : Method} {c : Code} {H H0 : Heap} {locs : List Loc} {cells slots : Nat} {Q : State → Prop}
variable {cc : ByteArray} {pc idx nC : Nat} {ls : Array Slot} {rest : List Value} {D : va_G} {A : Nat → Prop} {own : String} {q : Nat → Nat} {cI cZ cL : ClassId} {z w : va_W}
variable {f_classes f_objects f_count f_want f_compared f_open f_rowCount f_many f_seen f_fail f_level f_at f_self f_brackets f_values f_waiting : Int32}
variable {a_parent a_kindOf a_size a_root a_slotKind a_slot a_kept a_code a_number a_opened a_rowKind a_rowValue a_list a_from a_eAt a_whereAt a_source a_distinct a_keeps a_vKind a_v a_waits : Nat → Int32}
theorem km_addObject (l1 : Int32) (l2 : Int32) (ur : Int32 × Int32 × (Nat → Int32) × (Nat → Int32)) (hu : sm_addObject l1 l2 f_classes f_objects a_kindOf a_size = some ur) (hx : p.tables.exec = Jvm.exec) (hb : c.code = cc) (hml : c.maxLocals = nC) (hts : ∀ x ∈ hq_tbl, x.before args s = true) (hown : s.vm.findClass own = some m.cls) (hK : va_K D hq_cl (hq_tys cI cZ cL) s) (hP : va_P D hq_cl (hm_w q cI cZ cL f_classes a_parent f_objects a_kindOf a_size a_root a_slotKind a_slot a_kept f_count a_code a_number f_want f_compared f_open a_opened f_rowCount a_rowKind a_rowValue f_many a_list f_seen f_fail f_level a_from a_eAt a_whereAt a_source a_distinct a_keeps f_at f_self f_brackets f_values a_vKind a_v f_waiting a_waits ++ z) H) (hD : va_D A (hm_w q cI cZ cL f_classes a_parent f_objects a_kindOf a_size a_root a_slotKind a_slot a_kept f_count a_code a_number f_want f_compared f_open a_opened f_rowCount a_rowKind a_rowValue f_many a_list f_seen f_fail f_level a_from a_eAt a_whereAt a_source a_distinct a_keeps f_at f_self f_brackets f_values a_vKind a_v f_waiting a_waits ++ z)) (hS : va_S A H0 H locs) (h1 : Cond.methodLink own idx ym_addObject ∈ hq_tbl) (hR : 0 + 1 ≤ R.frames ∧ 8 + (3 + 11) + 0 ≤ R.locals) (hls : ls.size = nC) (hW : (rest.map fun v => v.category).sum ≤ 8) (hdg : decode cc pc = .ok (.invokevirtual idx, 3)) (hf : cells + 0 ≤ R.cells ∧ slots + 0 ≤ R.slots) (kk : ∀ (H1 : Heap) (locs1 : List Loc), va_P D hq_cl (hm_w q cI cZ cL f_classes a_parent ur.2.1 ur.2.2.1 ur.2.2.2 a_root a_slotKind a_slot a_kept f_count a_code a_number f_want f_compared f_open a_opened f_rowCount a_rowKind a_rowValue f_many a_list f_seen f_fail f_level a_from a_eAt a_whereAt a_source a_distinct a_keeps f_at f_self f_brackets f_values a_vKind a_v f_waiting a_waits ++ z) H1 → va_D A (hm_w q cI cZ cL f_classes a_parent ur.2.1 ur.2.2.1 ur.2.2.2 a_root a_slotKind a_slot a_kept f_count a_code a_number f_want f_compared f_open a_opened f_rowCount a_rowKind a_rowValue f_many a_list f_seen f_fail f_level a_from a_eAt a_whereAt a_source a_distinct a_keeps f_at f_self f_brackets f_values a_vKind a_v f_waiting a_waits ++ z) → va_S A H0 H1 locs1 → W p l e R s m args below meth c H1 locs1 cells slots Q (F0 m (pc + 3) ls (.int ur.1 :: rest))) : W p l e R s m args below meth c H locs cells slots Q (F0 m pc ls (.int l2 :: .int l1 :: .ref (q 0) :: rest)) :=
  hq_callV (q0 := 0) hx hb hml hown hts hK hP hD hS (cm_addObject l1 l2 ur hu) rfl rfl h1 wi_340 wi_341 wi_338 wi_342 2 rfl (by decide +kernel) ⟨rfl, rfl⟩ hR hls rfl hW hdg hf kk
end
theorem dm_there_0 : decode bm_there 0 = .ok (.iload_n 1, 1) := by decide +kernel
theorem dm_there_1 : decode bm_there 1 = .ok (.ifCond .lt 15, 3) := by decide +kernel
theorem dm_there_4 : decode bm_there 4 = .ok (.iload_n 1, 1) := by decide +kernel
theorem dm_there_5 : decode bm_there 5 = .ok (.aload_n 0, 1) := by decide +kernel
theorem dm_there_6 : decode bm_there 6 = .ok (.getfield 81, 3) := by decide +kernel
theorem dm_there_9 : decode bm_there 9 = .ok (.if_icmp .ge 7, 3) := by decide +kernel
theorem dm_there_12 : decode bm_there 12 = .ok (.iconst 1, 1) := by decide +kernel
theorem dm_there_13 : decode bm_there 13 = .ok (.goto 4, 3) := by decide +kernel
theorem dm_there_16 : decode bm_there 16 = .ok (.iconst 0, 1) := by decide +kernel
theorem dm_there_17 : decode bm_there 17 = .ok (.ireturn, 1) := by decide +kernel
section
variable {l : Launch} {D : va_G} {A : Nat → Prop} {z w : va_W} {q : Nat → Nat} {cI cZ cL : ClassId}
variable {f_classes f_objects f_count f_want f_compared f_open f_rowCount f_many f_seen f_fail f_level f_at f_self f_brackets f_values f_waiting : Int32}
variable {a_parent a_kindOf a_size a_root a_slotKind a_slot a_kept a_code a_number a_opened a_rowKind a_rowValue a_list a_from a_eAt a_whereAt a_source a_distinct a_keeps a_vKind a_v a_waits : Nat → Int32}
set_option maxHeartbeats 4000000 in
set_option maxRecDepth 100000 in
theorem cm_there (l1 : Int32) (ur : Int32) (h : sm_there l1 f_objects = ur) : hq_Ct l ym_there bm_there 2 (some .boolean) { frames := 0, cells := 0, slots := 0, locals := 0 } D (hq_tys cI cZ cL) A [.ref (q 0), .int l1] (hm_w q cI cZ cL f_classes a_parent f_objects a_kindOf a_size a_root a_slotKind a_slot a_kept f_count a_code a_number f_want f_compared f_open a_opened f_rowCount a_rowKind a_rowValue f_many a_list f_seen f_fail f_level a_from a_eAt a_whereAt a_source a_distinct a_keeps f_at f_self f_brackets f_values a_vKind a_v f_waiting a_waits ++ z) (hm_w q cI cZ cL f_classes a_parent f_objects a_kindOf a_size a_root a_slotKind a_slot a_kept f_count a_code a_number f_want f_compared f_open a_opened f_rowCount a_rowKind a_rowValue f_many a_list f_seen f_fail f_level a_from a_eAt a_whereAt a_source a_distinct a_keeps f_at f_self f_brackets f_values a_vKind a_v f_waiting a_waits ++ z) (some (.int ur)) 0 0 := by
  refine hq_of (by decide) ?_ (Nat.le_of_ble_eq_true rfl)
  intro p e s m below meth c R args Q hRm hQ hx hb hr hml hts hown hlocks hnm hP hK hD ls hl hS
  have hl : lv_has ls 2 [(0, .ref (q 0)), (1, .int l1)] := hl
  have hown : s.vm.findClass "HeapQueriesModel" = some m.cls := hown
  unfold sm_there at h
  refine lv_iload_n hx hb dm_there_0 rfl (lv_at hl 1 rfl) ?_
  refine lv_if_lt (tgt := 16) hx hb dm_there_1 (by decide) (fun hc => ?_) (fun hc => ?_)
  · have h := (if_pos hc).symm.trans h
    refine lv_iconst (v := 0) hx hb dm_there_16 (by decide) ?_
    exact hq_zret hx hb hr hlocks hQ hK hP hD hS (by decide) (by rw [← h]) rfl dm_there_17
  · have h := (if_neg hc).symm.trans h
    refine lv_iload_n hx hb dm_there_4 rfl (lv_at hl 1 rfl) ?_
    refine lv_aload_n hx hb dm_there_5 rfl (lv_at hl 0 rfl) ?_
    refine gm_0_objects hx hb hts hown hK hP wi_68 dm_there_6 ?_
    refine lv_icmp_ge (tgt := 16) hx hb dm_there_9 (by decide) (fun hc => ?_) (fun hc => ?_)
    · have h := (if_pos hc).symm.trans h
      refine lv_iconst (v := 0) hx hb dm_there_16 (by decide) ?_
      exact hq_zret hx hb hr hlocks hQ hK hP hD hS (by decide) (by rw [← h]) rfl dm_there_17
    · have h := (if_neg hc).symm.trans h
      refine lv_iconst (v := 1) hx hb dm_there_12 (by decide) ?_
      refine lv_goto (tgt := 17) hx hb dm_there_13 (by decide) ?_
      exact hq_zret hx hb hr hlocks hQ hK hP hD hS (by decide) (by rw [← h]) rfl dm_there_17
end
section
variable {p : Program} {l : Launch} {e : Env} {R : Room} {s : State} {m : MethodId} {args : Array Value} {below : List Frame} {meth : Method} {c : Code} {H H0 : Heap} {locs : List Loc} {cells slots : Nat} {Q : State → Prop}
variable {cc : ByteArray} {pc idx nC : Nat} {ls : Array Slot} {rest : List Value} {D : va_G} {A : Nat → Prop} {own : String} {q : Nat → Nat} {cI cZ cL : ClassId} {z w : va_W}
variable {f_classes f_objects f_count f_want f_compared f_open f_rowCount f_many f_seen f_fail f_level f_at f_self f_brackets f_values f_waiting : Int32}
variable {a_parent a_kindOf a_size a_root a_slotKind a_slot a_kept a_code a_number a_opened a_rowKind a_rowValue a_list a_from a_eAt a_whereAt a_source a_distinct a_keeps a_vKind a_v a_waits : Nat → Int32}
theorem km_there (l1 : Int32) (ur : Int32) (hu : sm_there l1 f_objects = ur) (hx : p.tables.exec = Jvm.exec) (hb : c.code = cc) (hml : c.maxLocals = nC) (hts : ∀ x ∈ hq_tbl, x.before args s = true) (hown : s.vm.findClass own = some m.cls) (hK : va_K D hq_cl (hq_tys cI cZ cL) s) (hP : va_P D hq_cl (hm_w q cI cZ cL f_classes a_parent f_objects a_kindOf a_size a_root a_slotKind a_slot a_kept f_count a_code a_number f_want f_compared f_open a_opened f_rowCount a_rowKind a_rowValue f_many a_list f_seen f_fail f_level a_from a_eAt a_whereAt a_source a_distinct a_keeps f_at f_self f_brackets f_values a_vKind a_v f_waiting a_waits ++ z) H) (hD : va_D A (hm_w q cI cZ cL f_classes a_parent f_objects a_kindOf a_size a_root a_slotKind a_slot a_kept f_count a_code a_number f_want f_compared f_open a_opened f_rowCount a_rowKind a_rowValue f_many a_list f_seen f_fail f_level a_from a_eAt a_whereAt a_source a_distinct a_keeps f_at f_self f_brackets f_values a_vKind a_v f_waiting a_waits ++ z)) (hS : va_S A H0 H locs) (h1 : Cond.methodLink own idx ym_there ∈ hq_tbl) (hR : 0 + 1 ≤ R.frames ∧ 8 + (2 + 11) + 0 ≤ R.locals) (hls : ls.size = nC) (hW : (rest.map fun v => v.category).sum ≤ 8) (hdg : decode cc pc = .ok (.invokevirtual idx, 3)) (hf : cells + 0 ≤ R.cells ∧ slots + 0 ≤ R.slots) (kk : ∀ (H1 : Heap) (locs1 : List Loc), va_P D hq_cl (hm_w q cI cZ cL f_classes a_parent f_objects a_kindOf a_size a_root a_slotKind a_slot a_kept f_count a_code a_number f_want f_compared f_open a_opened f_rowCount a_rowKind a_rowValue f_many a_list f_seen f_fail f_level a_from a_eAt a_whereAt a_source a_distinct a_keeps f_at f_self f_brackets f_values a_vKind a_v f_waiting a_waits ++ z) H1 → va_D A (hm_w q cI cZ cL f_classes a_parent f_objects a_kindOf a_size a_root a_slotKind a_slot a_kept f_count a_code a_number f_want f_compared f_open a_opened f_rowCount a_rowKind a_rowValue f_many a_list f_seen f_fail f_level a_from a_eAt a_whereAt a_source a_distinct a_keeps f_at f_self f_brackets f_values a_vKind a_v f_waiting a_waits ++ z) → va_S A H0 H1 locs1 → W p l e R s m args below meth c H1 locs1 cells slots Q (F0 m (pc + 3) ls (.int ur :: rest))) : W p l e R s m args below meth c H locs cells slots Q (F0 m pc ls (.int l1 :: .ref (q 0) :: rest)) :=
  hq_callV (q0 := 0) hx hb hml hown hts hK hP hD hS (cm_there l1 ur hu) rfl rfl h1 wi_343 wi_344 wi_338 wi_345 1 rfl (by decide +kernel) ⟨rfl, rfl⟩ hR hls rfl hW hdg hf kk
end
theorem dm_set_0 : decode bm_set 0 = .ok (.aload_n 0, 1) := by decide +kernel
theorem dm_set_1 : decode bm_set 1 = .ok (.iload_n 1, 1) := by decide +kernel
theorem dm_set_2 : decode bm_set 2 = .ok (.invokevirtual 84, 3) := by decide +kernel
theorem dm_set_5 : decode bm_set 5 = .ok (.ifCond .eq 35, 3) := by decide +kernel
theorem dm_set_8 : decode bm_set 8 = .ok (.iload_n 2, 1) := by decide +kernel
theorem dm_set_9 : decode bm_set 9 = .ok (.ifCond .lt 31, 3) := by decide +kernel
theorem dm_set_12 : decode bm_set 12 = .ok (.iload_n 2, 1) := by decide +kernel
theorem dm_set_13 : decode bm_set 13 = .ok (.iconst 3, 1) := by decide +kernel
theorem dm_set_14 : decode bm_set 14 = .ok (.if_icmp .gt 26, 3) := by decide +kernel
theorem dm_set_17 : decode bm_set 17 = .ok (.iload_n 3, 1) := by decide +kernel
theorem dm_set_18 : decode bm_set 18 = .ok (.ifCond .lt 22, 3) := by decide +kernel
theorem dm_set_21 : decode bm_set 21 = .ok (.iload_n 3, 1) := by decide +kernel
theorem dm_set_22 : decode bm_set 22 = .ok (.iconst 2, 1) := by decide +kernel
theorem dm_set_23 : decode bm_set 23 = .ok (.if_icmp .gt 17, 3) := by decide +kernel
theorem dm_set_26 : decode bm_set 26 = .ok (.iload_n 3, 1) := by decide +kernel
theorem dm_set_27 : decode bm_set 27 = .ok (.iconst 2, 1) := by decide +kernel
theorem dm_set_28 : decode bm_set 28 = .ok (.if_icmp .ne 14, 3) := by decide +kernel
theorem dm_set_31 : decode bm_set 31 = .ok (.aload_n 0, 1) := by decide +kernel
theorem dm_set_32 : decode bm_set 32 = .ok (.iload 4, 2) := by decide +kernel
theorem dm_set_34 : decode bm_set 34 = .ok (.invokevirtual 84, 3) := by decide +kernel
theorem dm_set_37 : decode bm_set 37 = .ok (.ifCond .ne 5, 3) := by decide +kernel
theorem dm_set_40 : decode bm_set 40 = .ok (.iconst 0, 1) := by decide +kernel
theorem dm_set_41 : decode bm_set 41 = .ok (.ireturn, 1) := by decide +kernel
theorem dm_set_42 : decode bm_set 42 = .ok (.aload_n 0, 1) := by decide +kernel
theorem dm_set_43 : decode bm_set 43 = .ok (.getfield 23, 3) := by decide +kernel
theorem dm_set_46 : decode bm_set 46 = .ok (.iconst 4, 1) := by decide +kernel
theorem dm_set_47 : decode bm_set 47 = .ok (.iload_n 1, 1) := by decide +kernel
theorem dm_set_48 : decode bm_set 48 = .ok (.imul, 1) := by decide +kernel
theorem dm_set_49 : decode bm_set 49 = .ok (.iload_n 2, 1) := by decide +kernel
theorem dm_set_50 : decode bm_set 50 = .ok (.iadd, 1) := by decide +kernel
theorem dm_set_51 : decode bm_set 51 = .ok (.iload_n 3, 1) := by decide +kernel
theorem dm_set_52 : decode bm_set 52 = .ok (.iastore, 1) := by decide +kernel
theorem dm_set_53 : decode bm_set 53 = .ok (.aload_n 0, 1) := by decide +kernel
theorem dm_set_54 : decode bm_set 54 = .ok (.getfield 26, 3) := by decide +kernel
theorem dm_set_57 : decode bm_set 57 = .ok (.iconst 4, 1) := by decide +kernel
theorem dm_set_58 : decode bm_set 58 = .ok (.iload_n 1, 1) := by decide +kernel
theorem dm_set_59 : decode bm_set 59 = .ok (.imul, 1) := by decide +kernel
theorem dm_set_60 : decode bm_set 60 = .ok (.iload_n 2, 1) := by decide +kernel
theorem dm_set_61 : decode bm_set 61 = .ok (.iadd, 1) := by decide +kernel
theorem dm_set_62 : decode bm_set 62 = .ok (.iload_n 3, 1) := by decide +kernel
theorem dm_set_63 : decode bm_set 63 = .ok (.ifCond .ne 7, 3) := by decide +kernel
theorem dm_set_66 : decode bm_set 66 = .ok (.iconst 0, 1) := by decide +kernel
theorem dm_set_67 : decode bm_set 67 = .ok (.goto 5, 3) := by decide +kernel
theorem dm_set_70 : decode bm_set 70 = .ok (.iload 4, 2) := by decide +kernel
theorem dm_set_72 : decode bm_set 72 = .ok (.iastore, 1) := by decide +kernel
theorem dm_set_73 : decode bm_set 73 = .ok (.iconst 1, 1) := by decide +kernel
theorem dm_set_74 : decode bm_set 74 = .ok (.ireturn, 1) := by decide +kernel
section
variable {l : Launch} {D : va_G} {A : Nat → Prop} {z w : va_W} {q : Nat → Nat} {cI cZ cL : ClassId}
variable {f_classes f_objects f_count f_want f_compared f_open f_rowCount f_many f_seen f_fail f_level f_at f_self f_brackets f_values f_waiting : Int32}
variable {a_parent a_kindOf a_size a_root a_slotKind a_slot a_kept a_code a_number a_opened a_rowKind a_rowValue a_list a_from a_eAt a_whereAt a_source a_distinct a_keeps a_vKind a_v a_waits : Nat → Int32}
set_option maxHeartbeats 4000000 in
set_option maxRecDepth 100000 in
theorem cm_set (l1 : Int32) (l2 : Int32) (l3 : Int32) (l4 : Int32) (ur : Int32 × (Nat → Int32) × (Nat → Int32)) (h : sm_set l1 l2 l3 l4 f_objects a_slotKind a_slot = some ur) : hq_Ct l ym_set bm_set 5 (some .boolean) { frames := 1, cells := 0, slots := 0, locals := 21 } D (hq_tys cI cZ cL) A [.ref (q 0), .int l1, .int l2, .int l3, .int l4] (hm_w q cI cZ cL f_classes a_parent f_objects a_kindOf a_size a_root a_slotKind a_slot a_kept f_count a_code a_number f_want f_compared f_open a_opened f_rowCount a_rowKind a_rowValue f_many a_list f_seen f_fail f_level a_from a_eAt a_whereAt a_source a_distinct a_keeps f_at f_self f_brackets f_values a_vKind a_v f_waiting a_waits ++ z) (hm_w q cI cZ cL f_classes a_parent f_objects a_kindOf a_size a_root ur.2.1 ur.2.2 a_kept f_count a_code a_number f_want f_compared f_open a_opened f_rowCount a_rowKind a_rowValue f_many a_list f_seen f_fail f_level a_from a_eAt a_whereAt a_source a_distinct a_keeps f_at f_self f_brackets f_values a_vKind a_v f_waiting a_waits ++ z) (some (.int ur.1)) 0 0 := by
  refine hq_of (by decide) ?_ (Nat.le_of_ble_eq_true rfl)
  intro p e s m below meth c R args Q hRm hQ hx hb hr hml hts hown hlocks hnm hP hK hD ls hl hS
  have hl : lv_has ls 5 [(0, .ref (q 0)), (1, .int l1), (2, .int l2), (3, .int l3), (4, .int l4)] := hl
  have hown : s.vm.findClass "HeapQueriesModel" = some m.cls := hown
  unfold sm_set at h
  have J42 : ∀ (l1 : Int32) (l2 : Int32) (l3 : Int32) (l4 : Int32) {a_slotKind : Nat → Int32} {a_slot : Nat → Int32} {ls : Array Slot} {H : Heap} {locs : List Loc}, lv_has ls 5 [(0, .ref (q 0)), (1, .int l1), (2, .int l2), (3, .int l3), (4, .int l4)] → va_P D hq_cl (hm_w q cI cZ cL f_classes a_parent f_objects a_kindOf a_size a_root a_slotKind a_slot a_kept f_count a_code a_number f_want f_compared f_open a_opened f_rowCount a_rowKind a_rowValue f_many a_list f_seen f_fail f_level a_from a_eAt a_whereAt a_source a_distinct a_keeps f_at f_self f_brackets f_values a_vKind a_v f_waiting a_waits ++ z) H → va_D A (hm_w q cI cZ cL f_classes a_parent f_objects a_kindOf a_size a_root a_slotKind a_slot a_kept f_count a_code a_number f_want f_compared f_open a_opened f_rowCount a_rowKind a_rowValue f_many a_list f_seen f_fail f_level a_from a_eAt a_whereAt a_source a_distinct a_keeps f_at f_self f_brackets f_values a_vKind a_v f_waiting a_waits ++ z) → va_S A s.heap H locs → sm_set_J42 l1 l2 l3 l4 f_objects a_slotKind a_slot = some ur → W p l e R s m args below meth c H locs 0 0 Q (F0 m 42 ls []) := by
    intro l1 l2 l3 l4 a_slotKind a_slot ls H locs hl hP hD hS h
    unfold sm_set_J42 at h
    refine lv_aload_n hx hb dm_set_42 rfl (lv_at hl 0 rfl) ?_
    refine gm_0_slotKind hx hb hts hown hK hP wi_71 dm_set_43 ?_
    refine lv_iconst (v := 4) hx hb dm_set_46 (by decide) ?_
    refine lv_iload_n hx hb dm_set_47 rfl (lv_at hl 1 rfl) ?_
    refine lv_imul hx hb dm_set_48 ?_
    refine lv_iload_n hx hb dm_set_49 rfl (lv_at hl 2 rfl) ?_
    refine lv_iadd hx hb dm_set_50 ?_
    refine lv_iload_n hx hb dm_set_51 rfl (lv_at hl 3 rfl) ?_
    obtain ⟨hin, h⟩ := hq_idx h
    refine tm_5 hx hb hK hP hD hS hin dm_set_52 (fun H locs hP hD hS => ?_)
    refine lv_aload_n hx hb dm_set_53 rfl (lv_at hl 0 rfl) ?_
    refine gm_0_slot hx hb hts hown hK hP wi_72 dm_set_54 ?_
    refine lv_iconst (v := 4) hx hb dm_set_57 (by decide) ?_
    refine lv_iload_n hx hb dm_set_58 rfl (lv_at hl 1 rfl) ?_
    refine lv_imul hx hb dm_set_59 ?_
    refine lv_iload_n hx hb dm_set_60 rfl (lv_at hl 2 rfl) ?_
    refine lv_iadd hx hb dm_set_61 ?_
    refine lv_iload_n hx hb dm_set_62 rfl (lv_at hl 3 rfl) ?_
    refine lv_if_ne (tgt := 70) hx hb dm_set_63 (by decide) (fun hc => ?_) (fun hc => ?_)
    · have h := (if_neg hc).symm.trans h
      refine lv_iload hx hb dm_set_70 (lv_at hl 4 rfl) ?_
      obtain ⟨hin, h⟩ := hq_idx h
      refine tm_6 hx hb hK hP hD hS hin dm_set_72 (fun H locs hP hD hS => ?_)
      refine lv_iconst (v := 1) hx hb dm_set_73 (by decide) ?_
      have h := Option.some.inj h
      exact hq_zret hx hb hr hlocks hQ hK hP hD hS (by decide) (by rw [← h]) (by rw [← h]) dm_set_74
    · have h := (if_pos hc).symm.trans h
      refine lv_iconst (v := 0) hx hb dm_set_66 (by decide) ?_
      refine lv_goto (tgt := 72) hx hb dm_set_67 (by decide) ?_
      obtain ⟨hin, h⟩ := hq_idx h
      refine tm_6 hx hb hK hP hD hS hin dm_set_72 (fun H locs hP hD hS => ?_)
      refine lv_iconst (v := 1) hx hb dm_set_73 (by decide) ?_
      have h := Option.some.inj h
      exact hq_zret hx hb hr hlocks hQ hK hP hD hS (by decide) (by rw [← h]) (by rw [← h]) dm_set_74
  refine lv_aload_n hx hb dm_set_0 rfl (lv_at hl 0 rfl) ?_
  refine lv_iload_n hx hb dm_set_1 rfl (lv_at hl 1 rfl) ?_
  refine km_there l1 (sm_there l1 f_objects) rfl hx hb hml hts hown hK hP hD hS wi_73 (by rw [hRm]; exact ⟨Nat.le_of_ble_eq_true rfl, Nat.le_of_ble_eq_true rfl⟩) hl.1 (Nat.le_of_ble_eq_true rfl) dm_set_2 ⟨Nat.zero_le _, Nat.zero_le _⟩ (fun H locs hP hD hS => ?_)
  refine lv_if_eq (tgt := 40) hx hb dm_set_5 (by decide) (fun hc => ?_) (fun hc => ?_)
  · have h := (if_pos hc).symm.trans h
    refine lv_iconst (v := 0) hx hb dm_set_40 (by decide) ?_
    have h := Option.some.inj h
    exact hq_zret hx hb hr hlocks hQ hK hP hD hS (by decide) (by rw [← h]) (by rw [← h]) dm_set_41
  · have h := (if_neg hc).symm.trans h
    refine lv_iload_n hx hb dm_set_8 rfl (lv_at hl 2 rfl) ?_
    refine lv_if_lt (tgt := 40) hx hb dm_set_9 (by decide) (fun hc => ?_) (fun hc => ?_)
    · have h := (if_pos hc).symm.trans h
      refine lv_iconst (v := 0) hx hb dm_set_40 (by decide) ?_
      have h := Option.some.inj h
      exact hq_zret hx hb hr hlocks hQ hK hP hD hS (by decide) (by rw [← h]) (by rw [← h]) dm_set_41
    · have h := (if_neg hc).symm.trans h
      refine lv_iload_n hx hb dm_set_12 rfl (lv_at hl 2 rfl) ?_
      refine lv_iconst (v := 3) hx hb dm_set_13 (by decide) ?_
      refine lv_icmp_gt (tgt := 40) hx hb dm_set_14 (by decide) (fun hc => ?_) (fun hc => ?_)
      · have h := (if_pos hc).symm.trans h
        refine lv_iconst (v := 0) hx hb dm_set_40 (by decide) ?_
        have h := Option.some.inj h
        exact hq_zret hx hb hr hlocks hQ hK hP hD hS (by decide) (by rw [← h]) (by rw [← h]) dm_set_41
      · have h := (if_neg hc).symm.trans h
        refine lv_iload_n hx hb dm_set_17 rfl (lv_at hl 3 rfl) ?_
        refine lv_if_lt (tgt := 40) hx hb dm_set_18 (by decide) (fun hc => ?_) (fun hc => ?_)
        · have h := (if_pos hc).symm.trans h
          refine lv_iconst (v := 0) hx hb dm_set_40 (by decide) ?_
          have h := Option.some.inj h
          exact hq_zret hx hb hr hlocks hQ hK hP hD hS (by decide) (by rw [← h]) (by rw [← h]) dm_set_41
        · have h := (if_neg hc).symm.trans h
          refine lv_iload_n hx hb dm_set_21 rfl (lv_at hl 3 rfl) ?_
          refine lv_iconst (v := 2) hx hb dm_set_22 (by decide) ?_
          refine lv_icmp_gt (tgt := 40) hx hb dm_set_23 (by decide) (fun hc => ?_) (fun hc => ?_)
          · have h := (if_pos hc).symm.trans h
            refine lv_iconst (v := 0) hx hb dm_set_40 (by decide) ?_
            have h := Option.some.inj h
            exact hq_zret hx hb hr hlocks hQ hK hP hD hS (by decide) (by rw [← h]) (by rw [← h]) dm_set_41
          · have h := (if_neg hc).symm.trans h
            refine lv_iload_n hx hb dm_set_26 rfl (lv_at hl 3 rfl) ?_
            refine lv_iconst (v := 2) hx hb dm_set_27 (by decide) ?_
            refine lv_icmp_ne (tgt := 42) hx hb dm_set_28 (by decide) (fun hc => ?_) (fun hc => ?_)
            · have h := (if_neg hc).symm.trans h
              exact J42 l1 l2 l3 l4 hl hP hD hS h
            · have h := (if_pos hc).symm.trans h
              refine lv_aload_n hx hb dm_set_31 rfl (lv_at hl 0 rfl) ?_
              refine lv_iload hx hb dm_set_32 (lv_at hl 4 rfl) ?_
              refine km_there l4 (sm_there l4 f_objects) rfl hx hb hml hts hown hK hP hD hS wi_73 (by rw [hRm]; exact ⟨Nat.le_of_ble_eq_true rfl, Nat.le_of_ble_eq_true rfl⟩) hl.1 (Nat.le_of_ble_eq_true rfl) dm_set_34 ⟨Nat.zero_le _, Nat.zero_le _⟩ (fun H locs hP hD hS => ?_)
              refine lv_if_ne (tgt := 42) hx hb dm_set_37 (by decide) (fun hc => ?_) (fun hc => ?_)
              · have h := (if_neg hc).symm.trans h
                exact J42 l1 l2 l3 l4 hl hP hD hS h
              · have h := (if_pos hc).symm.trans h
                refine lv_iconst (v := 0) hx hb dm_set_40 (by decide) ?_
                have h := Option.some.inj h
                exact hq_zret hx hb hr hlocks hQ hK hP hD hS (by decide) (by rw [← h]) (by rw [← h]) dm_set_41
end
section
variable {p : Program} {l : Launch} {e : Env} {R : Room} {s : State} {m : MethodId} {args : Array Value} {below : List Frame} {meth : Method} {c : Code} {H H0 : Heap} {locs : List Loc} {cells slots : Nat} {Q : State → Prop}
variable {cc : ByteArray} {pc idx nC : Nat} {ls : Array Slot} {rest : List Value} {D : va_G} {A : Nat → Prop} {own : String} {q : Nat → Nat} {cI cZ cL : ClassId} {z w : va_W}
variable {f_classes f_objects f_count f_want f_compared f_open f_rowCount f_many f_seen f_fail f_level f_at f_self f_brackets f_values f_waiting : Int32}
variable {a_parent a_kindOf a_size a_root a_slotKind a_slot a_kept a_code a_number a_opened a_rowKind a_rowValue a_list a_from a_eAt a_whereAt a_source a_distinct a_keeps a_vKind a_v a_waits : Nat → Int32}
theorem km_set (l1 : Int32) (l2 : Int32) (l3 : Int32) (l4 : Int32) (ur : Int32 × (Nat → Int32) × (Nat → Int32)) (hu : sm_set l1 l2 l3 l4 f_objects a_slotKind a_slot = some ur) (hx : p.tables.exec = Jvm.exec) (hb : c.code = cc) (hml : c.maxLocals = nC) (hts : ∀ x ∈ hq_tbl, x.before args s = true) (hown : s.vm.findClass own = some m.cls) (hK : va_K D hq_cl (hq_tys cI cZ cL) s) (hP : va_P D hq_cl (hm_w q cI cZ cL f_classes a_parent f_objects a_kindOf a_size a_root a_slotKind a_slot a_kept f_count a_code a_number f_want f_compared f_open a_opened f_rowCount a_rowKind a_rowValue f_many a_list f_seen f_fail f_level a_from a_eAt a_whereAt a_source a_distinct a_keeps f_at f_self f_brackets f_values a_vKind a_v f_waiting a_waits ++ z) H) (hD : va_D A (hm_w q cI cZ cL f_classes a_parent f_objects a_kindOf a_size a_root a_slotKind a_slot a_kept f_count a_code a_number f_want f_compared f_open a_opened f_rowCount a_rowKind a_rowValue f_many a_list f_seen f_fail f_level a_from a_eAt a_whereAt a_source a_distinct a_keeps f_at f_self f_brackets f_values a_vKind a_v f_waiting a_waits ++ z)) (hS : va_S A H0 H locs) (h1 : Cond.methodLink own idx ym_set ∈ hq_tbl) (hR : 1 + 1 ≤ R.frames ∧ 8 + (5 + 11) + 21 ≤ R.locals) (hls : ls.size = nC) (hW : (rest.map fun v => v.category).sum ≤ 8) (hdg : decode cc pc = .ok (.invokevirtual idx, 3)) (hf : cells + 0 ≤ R.cells ∧ slots + 0 ≤ R.slots) (kk : ∀ (H1 : Heap) (locs1 : List Loc), va_P D hq_cl (hm_w q cI cZ cL f_classes a_parent f_objects a_kindOf a_size a_root ur.2.1 ur.2.2 a_kept f_count a_code a_number f_want f_compared f_open a_opened f_rowCount a_rowKind a_rowValue f_many a_list f_seen f_fail f_level a_from a_eAt a_whereAt a_source a_distinct a_keeps f_at f_self f_brackets f_values a_vKind a_v f_waiting a_waits ++ z) H1 → va_D A (hm_w q cI cZ cL f_classes a_parent f_objects a_kindOf a_size a_root ur.2.1 ur.2.2 a_kept f_count a_code a_number f_want f_compared f_open a_opened f_rowCount a_rowKind a_rowValue f_many a_list f_seen f_fail f_level a_from a_eAt a_whereAt a_source a_distinct a_keeps f_at f_self f_brackets f_values a_vKind a_v f_waiting a_waits ++ z) → va_S A H0 H1 locs1 → W p l e R s m args below meth c H1 locs1 cells slots Q (F0 m (pc + 3) ls (.int ur.1 :: rest))) : W p l e R s m args below meth c H locs cells slots Q (F0 m pc ls (.int l4 :: .int l3 :: .int l2 :: .int l1 :: .ref (q 0) :: rest)) :=
  hq_callV (q0 := 0) hx hb hml hown hts hK hP hD hS (cm_set l1 l2 l3 l4 ur hu) rfl rfl h1 wi_346 wi_347 wi_338 wi_348 4 rfl (by decide +kernel) ⟨rfl, rfl⟩ hR hls rfl hW hdg hf kk
end
theorem dm_setRoot_0 : decode bm_setRoot 0 = .ok (.aload_n 0, 1) := by decide +kernel
theorem dm_setRoot_1 : decode bm_setRoot 1 = .ok (.iload_n 1, 1) := by decide +kernel
theorem dm_setRoot_2 : decode bm_setRoot 2 = .ok (.invokevirtual 84, 3) := by decide +kernel
theorem dm_setRoot_5 : decode bm_setRoot 5 = .ok (.ifCond .ne 5, 3) := by decide +kernel
theorem dm_setRoot_8 : decode bm_setRoot 8 = .ok (.iconst 0, 1) := by decide +kernel
theorem dm_setRoot_9 : decode bm_setRoot 9 = .ok (.ireturn, 1) := by decide +kernel
theorem dm_setRoot_10 : decode bm_setRoot 10 = .ok (.aload_n 0, 1) := by decide +kernel
theorem dm_setRoot_11 : decode bm_setRoot 11 = .ok (.getfield 19, 3) := by decide +kernel
theorem dm_setRoot_14 : decode bm_setRoot 14 = .ok (.iload_n 1, 1) := by decide +kernel
theorem dm_setRoot_15 : decode bm_setRoot 15 = .ok (.iload_n 2, 1) := by decide +kernel
theorem dm_setRoot_16 : decode bm_setRoot 16 = .ok (.bastore, 1) := by decide +kernel
theorem dm_setRoot_17 : decode bm_setRoot 17 = .ok (.iconst 1, 1) := by decide +kernel
theorem dm_setRoot_18 : decode bm_setRoot 18 = .ok (.ireturn, 1) := by decide +kernel
section
variable {l : Launch} {D : va_G} {A : Nat → Prop} {z w : va_W} {q : Nat → Nat} {cI cZ cL : ClassId}
variable {f_classes f_objects f_count f_want f_compared f_open f_rowCount f_many f_seen f_fail f_level f_at f_self f_brackets f_values f_waiting : Int32}
variable {a_parent a_kindOf a_size a_root a_slotKind a_slot a_kept a_code a_number a_opened a_rowKind a_rowValue a_list a_from a_eAt a_whereAt a_source a_distinct a_keeps a_vKind a_v a_waits : Nat → Int32}
set_option maxHeartbeats 4000000 in
set_option maxRecDepth 100000 in
theorem cm_setRoot (l1 : Int32) (l2 : Int32) (ur : Int32 × (Nat → Int32)) (h : sm_setRoot l1 l2 f_objects a_root = some ur) : hq_Ct l ym_setRoot bm_setRoot 3 (some .boolean) { frames := 1, cells := 0, slots := 0, locals := 21 } D (hq_tys cI cZ cL) A [.ref (q 0), .int l1, .int l2] (hm_w q cI cZ cL f_classes a_parent f_objects a_kindOf a_size a_root a_slotKind a_slot a_kept f_count a_code a_number f_want f_compared f_open a_opened f_rowCount a_rowKind a_rowValue f_many a_list f_seen f_fail f_level a_from a_eAt a_whereAt a_source a_distinct a_keeps f_at f_self f_brackets f_values a_vKind a_v f_waiting a_waits ++ z) (hm_w q cI cZ cL f_classes a_parent f_objects a_kindOf a_size ur.2 a_slotKind a_slot a_kept f_count a_code a_number f_want f_compared f_open a_opened f_rowCount a_rowKind a_rowValue f_many a_list f_seen f_fail f_level a_from a_eAt a_whereAt a_source a_distinct a_keeps f_at f_self f_brackets f_values a_vKind a_v f_waiting a_waits ++ z) (some (.int ur.1)) 0 0 := by
  refine hq_of (by decide) ?_ (Nat.le_of_ble_eq_true rfl)
  intro p e s m below meth c R args Q hRm hQ hx hb hr hml hts hown hlocks hnm hP hK hD ls hl hS
  have hl : lv_has ls 3 [(0, .ref (q 0)), (1, .int l1), (2, .int l2)] := hl
  have hown : s.vm.findClass "HeapQueriesModel" = some m.cls := hown
  unfold sm_setRoot at h
  refine lv_aload_n hx hb dm_setRoot_0 rfl (lv_at hl 0 rfl) ?_
  refine lv_iload_n hx hb dm_setRoot_1 rfl (lv_at hl 1 rfl) ?_
  refine km_there l1 (sm_there l1 f_objects) rfl hx hb hml hts hown hK hP hD hS wi_73 (by rw [hRm]; exact ⟨Nat.le_of_ble_eq_true rfl, Nat.le_of_ble_eq_true rfl⟩) hl.1 (Nat.le_of_ble_eq_true rfl) dm_setRoot_2 ⟨Nat.zero_le _, Nat.zero_le _⟩ (fun H locs hP hD hS => ?_)
  refine lv_if_ne (tgt := 10) hx hb dm_setRoot_5 (by decide) (fun hc => ?_) (fun hc => ?_)
  · have h := (if_neg hc).symm.trans h
    refine lv_aload_n hx hb dm_setRoot_10 rfl (lv_at hl 0 rfl) ?_
    refine gm_0_root hx hb hts hown hK hP wi_74 dm_setRoot_11 ?_
    refine lv_iload_n hx hb dm_setRoot_14 rfl (lv_at hl 1 rfl) ?_
    refine lv_iload_n hx hb dm_setRoot_15 rfl (lv_at hl 2 rfl) ?_
    obtain ⟨hin, h⟩ := hq_idx h
    obtain ⟨hz, h⟩ := hq_ok h
    refine tm_4 hx hb hK hP hD hS hin hz dm_setRoot_16 (fun H locs hP hD hS => ?_)
    refine lv_iconst (v := 1) hx hb dm_setRoot_17 (by decide) ?_
    have h := Option.some.inj h
    exact hq_zret hx hb hr hlocks hQ hK hP hD hS (by decide) (by rw [← h]) (by rw [← h]) dm_setRoot_18
  · have h := (if_pos hc).symm.trans h
    refine lv_iconst (v := 0) hx hb dm_setRoot_8 (by decide) ?_
    have h := Option.some.inj h
    exact hq_zret hx hb hr hlocks hQ hK hP hD hS (by decide) (by rw [← h]) (by rw [← h]) dm_setRoot_9
end
section
variable {p : Program} {l : Launch} {e : Env} {R : Room} {s : State} {m : MethodId} {args : Array Value} {below : List Frame} {meth : Method} {c : Code} {H H0 : Heap} {locs : List Loc} {cells slots : Nat} {Q : State → Prop}
variable {cc : ByteArray} {pc idx nC : Nat} {ls : Array Slot} {rest : List Value} {D : va_G} {A : Nat → Prop} {own : String} {q : Nat → Nat} {cI cZ cL : ClassId} {z w : va_W}
variable {f_classes f_objects f_count f_want f_compared f_open f_rowCount f_many f_seen f_fail f_level f_at f_self f_brackets f_values f_waiting : Int32}
variable {a_parent a_kindOf a_size a_root a_slotKind a_slot a_kept a_code a_number a_opened a_rowKind a_rowValue a_list a_from a_eAt a_whereAt a_source a_distinct a_keeps a_vKind a_v a_waits : Nat → Int32}
theorem km_setRoot (l1 : Int32) (l2 : Int32) (ur : Int32 × (Nat → Int32)) (hu : sm_setRoot l1 l2 f_objects a_root = some ur) (hx : p.tables.exec = Jvm.exec) (hb : c.code = cc) (hml : c.maxLocals = nC) (hts : ∀ x ∈ hq_tbl, x.before args s = true) (hown : s.vm.findClass own = some m.cls) (hK : va_K D hq_cl (hq_tys cI cZ cL) s) (hP : va_P D hq_cl (hm_w q cI cZ cL f_classes a_parent f_objects a_kindOf a_size a_root a_slotKind a_slot a_kept f_count a_code a_number f_want f_compared f_open a_opened f_rowCount a_rowKind a_rowValue f_many a_list f_seen f_fail f_level a_from a_eAt a_whereAt a_source a_distinct a_keeps f_at f_self f_brackets f_values a_vKind a_v f_waiting a_waits ++ z) H) (hD : va_D A (hm_w q cI cZ cL f_classes a_parent f_objects a_kindOf a_size a_root a_slotKind a_slot a_kept f_count a_code a_number f_want f_compared f_open a_opened f_rowCount a_rowKind a_rowValue f_many a_list f_seen f_fail f_level a_from a_eAt a_whereAt a_source a_distinct a_keeps f_at f_self f_brackets f_values a_vKind a_v f_waiting a_waits ++ z)) (hS : va_S A H0 H locs) (h1 : Cond.methodLink own idx ym_setRoot ∈ hq_tbl) (hR : 1 + 1 ≤ R.frames ∧ 8 + (3 + 11) + 21 ≤ R.locals) (hls : ls.size = nC) (hW : (rest.map fun v => v.category).sum ≤ 8) (hdg : decode cc pc = .ok (.invokevirtual idx, 3)) (hf : cells + 0 ≤ R.cells ∧ slots + 0 ≤ R.slots) (kk : ∀ (H1 : Heap) (locs1 : List Loc), va_P D hq_cl (hm_w q cI cZ cL f_classes a_parent f_objects a_kindOf a_size ur.2 a_slotKind a_slot a_kept f_count a_code a_number f_want f_compared f_open a_opened f_rowCount a_rowKind a_rowValue f_many a_list f_seen f_fail f_level a_from a_eAt a_whereAt a_source a_distinct a_keeps f_at f_self f_brackets f_values a_vKind a_v f_waiting a_waits ++ z) H1 → va_D A (hm_w q cI cZ cL f_classes a_parent f_objects a_kindOf a_size ur.2 a_slotKind a_slot a_kept f_count a_code a_number f_want f_compared f_open a_opened f_rowCount a_rowKind a_rowValue f_many a_list f_seen f_fail f_level a_from a_eAt a_whereAt a_source a_distinct a_keeps f_at f_self f_brackets f_values a_vKind a_v f_waiting a_waits ++ z) → va_S A H0 H1 locs1 → W p l e R s m args below meth c H1 locs1 cells slots Q (F0 m (pc + 3) ls (.int ur.1 :: rest))) : W p l e R s m args below meth c H locs cells slots Q (F0 m pc ls (.int l2 :: .int l1 :: .ref (q 0) :: rest)) :=
  hq_callV (q0 := 0) hx hb hml hown hts hK hP hD hS (cm_setRoot l1 l2 ur hu) rfl rfl h1 wi_349 wi_350 wi_338 wi_351 2 rfl (by decide +kernel) ⟨rfl, rfl⟩ hR hls rfl hW hdg hf kk
end
theorem dm_reach_0 : decode bm_reach 0 = .ok (.iconst 0, 1) := by decide +kernel
theorem dm_reach_1 : decode bm_reach 1 = .ok (.istore_n 2, 1) := by decide +kernel
theorem dm_reach_2 : decode bm_reach 2 = .ok (.iconst 1, 1) := by decide +kernel
theorem dm_reach_3 : decode bm_reach 3 = .ok (.istore_n 3, 1) := by decide +kernel
theorem dm_reach_4 : decode bm_reach 4 = .ok (.iconst 0, 1) := by decide +kernel
theorem dm_reach_5 : decode bm_reach 5 = .ok (.istore 4, 2) := by decide +kernel
theorem dm_reach_7 : decode bm_reach 7 = .ok (.iload 4, 2) := by decide +kernel
theorem dm_reach_9 : decode bm_reach 9 = .ok (.bipush 24, 2) := by decide +kernel
theorem dm_reach_11 : decode bm_reach 11 = .ok (.if_icmp .gt 158, 3) := by decide +kernel
theorem dm_reach_14 : decode bm_reach 14 = .ok (.iload_n 3, 1) := by decide +kernel
theorem dm_reach_15 : decode bm_reach 15 = .ok (.ifCond .eq 154, 3) := by decide +kernel
theorem dm_reach_18 : decode bm_reach 18 = .ok (.iload_n 2, 1) := by decide +kernel
theorem dm_reach_19 : decode bm_reach 19 = .ok (.istore 5, 2) := by decide +kernel
theorem dm_reach_21 : decode bm_reach 21 = .ok (.iconst 0, 1) := by decide +kernel
theorem dm_reach_22 : decode bm_reach 22 = .ok (.istore 6, 2) := by decide +kernel
theorem dm_reach_24 : decode bm_reach 24 = .ok (.iload 6, 2) := by decide +kernel
theorem dm_reach_26 : decode bm_reach 26 = .ok (.aload_n 0, 1) := by decide +kernel
theorem dm_reach_27 : decode bm_reach 27 = .ok (.getfield 81, 3) := by decide +kernel
theorem dm_reach_30 : decode bm_reach 30 = .ok (.if_icmp .ge 121, 3) := by decide +kernel
theorem dm_reach_33 : decode bm_reach 33 = .ok (.aload_n 0, 1) := by decide +kernel
theorem dm_reach_34 : decode bm_reach 34 = .ok (.getfield 19, 3) := by decide +kernel
theorem dm_reach_37 : decode bm_reach 37 = .ok (.iload 6, 2) := by decide +kernel
theorem dm_reach_39 : decode bm_reach 39 = .ok (.baload, 1) := by decide +kernel
theorem dm_reach_40 : decode bm_reach 40 = .ok (.ifCond .ne 13, 3) := by decide +kernel
theorem dm_reach_43 : decode bm_reach 43 = .ok (.iload_n 2, 1) := by decide +kernel
theorem dm_reach_44 : decode bm_reach 44 = .ok (.iload 6, 2) := by decide +kernel
theorem dm_reach_46 : decode bm_reach 46 = .ok (.ishr, 1) := by decide +kernel
theorem dm_reach_47 : decode bm_reach 47 = .ok (.iconst 1, 1) := by decide +kernel
theorem dm_reach_48 : decode bm_reach 48 = .ok (.iand, 1) := by decide +kernel
theorem dm_reach_49 : decode bm_reach 49 = .ok (.iconst 1, 1) := by decide +kernel
theorem dm_reach_50 : decode bm_reach 50 = .ok (.if_icmp .ne 7, 3) := by decide +kernel
theorem dm_reach_53 : decode bm_reach 53 = .ok (.iconst 1, 1) := by decide +kernel
theorem dm_reach_54 : decode bm_reach 54 = .ok (.goto 4, 3) := by decide +kernel
theorem dm_reach_57 : decode bm_reach 57 = .ok (.iconst 0, 1) := by decide +kernel
theorem dm_reach_58 : decode bm_reach 58 = .ok (.istore 7, 2) := by decide +kernel
theorem dm_reach_60 : decode bm_reach 60 = .ok (.iload 7, 2) := by decide +kernel
theorem dm_reach_62 : decode bm_reach 62 = .ok (.ifCond .eq 83, 3) := by decide +kernel
theorem dm_reach_65 : decode bm_reach 65 = .ok (.iload_n 1, 1) := by decide +kernel
theorem dm_reach_66 : decode bm_reach 66 = .ok (.iload 6, 2) := by decide +kernel
theorem dm_reach_68 : decode bm_reach 68 = .ok (.ishr, 1) := by decide +kernel
theorem dm_reach_69 : decode bm_reach 69 = .ok (.iconst 1, 1) := by decide +kernel
theorem dm_reach_70 : decode bm_reach 70 = .ok (.iand, 1) := by decide +kernel
theorem dm_reach_71 : decode bm_reach 71 = .ok (.ifCond .ne 74, 3) := by decide +kernel
theorem dm_reach_74 : decode bm_reach 74 = .ok (.iload_n 2, 1) := by decide +kernel
theorem dm_reach_75 : decode bm_reach 75 = .ok (.iconst 1, 1) := by decide +kernel
theorem dm_reach_76 : decode bm_reach 76 = .ok (.iload 6, 2) := by decide +kernel
theorem dm_reach_78 : decode bm_reach 78 = .ok (.ishl, 1) := by decide +kernel
theorem dm_reach_79 : decode bm_reach 79 = .ok (.ior, 1) := by decide +kernel
theorem dm_reach_80 : decode bm_reach 80 = .ok (.istore_n 2, 1) := by decide +kernel
theorem dm_reach_81 : decode bm_reach 81 = .ok (.iconst 4, 1) := by decide +kernel
theorem dm_reach_82 : decode bm_reach 82 = .ok (.iload 6, 2) := by decide +kernel
theorem dm_reach_84 : decode bm_reach 84 = .ok (.imul, 1) := by decide +kernel
theorem dm_reach_85 : decode bm_reach 85 = .ok (.istore 8, 2) := by decide +kernel
theorem dm_reach_87 : decode bm_reach 87 = .ok (.iload 8, 2) := by decide +kernel
theorem dm_reach_89 : decode bm_reach 89 = .ok (.iconst 4, 1) := by decide +kernel
theorem dm_reach_90 : decode bm_reach 90 = .ok (.iload 6, 2) := by decide +kernel
theorem dm_reach_92 : decode bm_reach 92 = .ok (.imul, 1) := by decide +kernel
theorem dm_reach_93 : decode bm_reach 93 = .ok (.iconst 4, 1) := by decide +kernel
theorem dm_reach_94 : decode bm_reach 94 = .ok (.iadd, 1) := by decide +kernel
theorem dm_reach_95 : decode bm_reach 95 = .ok (.if_icmp .ge 50, 3) := by decide +kernel
theorem dm_reach_98 : decode bm_reach 98 = .ok (.aload_n 0, 1) := by decide +kernel
theorem dm_reach_99 : decode bm_reach 99 = .ok (.getfield 23, 3) := by decide +kernel
theorem dm_reach_102 : decode bm_reach 102 = .ok (.iload 8, 2) := by decide +kernel
theorem dm_reach_104 : decode bm_reach 104 = .ok (.iaload, 1) := by decide +kernel
theorem dm_reach_105 : decode bm_reach 105 = .ok (.iconst 2, 1) := by decide +kernel
theorem dm_reach_106 : decode bm_reach 106 = .ok (.if_icmp .ne 31, 3) := by decide +kernel
theorem dm_reach_109 : decode bm_reach 109 = .ok (.iload_n 1, 1) := by decide +kernel
theorem dm_reach_110 : decode bm_reach 110 = .ok (.aload_n 0, 1) := by decide +kernel
theorem dm_reach_111 : decode bm_reach 111 = .ok (.getfield 26, 3) := by decide +kernel
theorem dm_reach_114 : decode bm_reach 114 = .ok (.iload 8, 2) := by decide +kernel
theorem dm_reach_116 : decode bm_reach 116 = .ok (.iaload, 1) := by decide +kernel
theorem dm_reach_117 : decode bm_reach 117 = .ok (.ishr, 1) := by decide +kernel
theorem dm_reach_118 : decode bm_reach 118 = .ok (.iconst 1, 1) := by decide +kernel
theorem dm_reach_119 : decode bm_reach 119 = .ok (.iand, 1) := by decide +kernel
theorem dm_reach_120 : decode bm_reach 120 = .ok (.ifCond .ne 17, 3) := by decide +kernel
theorem dm_reach_123 : decode bm_reach 123 = .ok (.iload_n 2, 1) := by decide +kernel
theorem dm_reach_124 : decode bm_reach 124 = .ok (.iconst 1, 1) := by decide +kernel
theorem dm_reach_125 : decode bm_reach 125 = .ok (.aload_n 0, 1) := by decide +kernel
theorem dm_reach_126 : decode bm_reach 126 = .ok (.getfield 26, 3) := by decide +kernel
theorem dm_reach_129 : decode bm_reach 129 = .ok (.iload 8, 2) := by decide +kernel
theorem dm_reach_131 : decode bm_reach 131 = .ok (.iaload, 1) := by decide +kernel
theorem dm_reach_132 : decode bm_reach 132 = .ok (.ishl, 1) := by decide +kernel
theorem dm_reach_133 : decode bm_reach 133 = .ok (.ior, 1) := by decide +kernel
theorem dm_reach_134 : decode bm_reach 134 = .ok (.goto 4, 3) := by decide +kernel
theorem dm_reach_137 : decode bm_reach 137 = .ok (.iload_n 2, 1) := by decide +kernel
theorem dm_reach_138 : decode bm_reach 138 = .ok (.istore_n 2, 1) := by decide +kernel
theorem dm_reach_139 : decode bm_reach 139 = .ok (.iinc 8 1, 3) := by decide +kernel
theorem dm_reach_142 : decode bm_reach 142 = .ok (.goto (-55), 3) := by decide +kernel
theorem dm_reach_145 : decode bm_reach 145 = .ok (.iinc 6 1, 3) := by decide +kernel
theorem dm_reach_148 : decode bm_reach 148 = .ok (.goto (-124), 3) := by decide +kernel
theorem dm_reach_151 : decode bm_reach 151 = .ok (.iload_n 2, 1) := by decide +kernel
theorem dm_reach_152 : decode bm_reach 152 = .ok (.iload 5, 2) := by decide +kernel
theorem dm_reach_154 : decode bm_reach 154 = .ok (.if_icmp .eq 7, 3) := by decide +kernel
theorem dm_reach_157 : decode bm_reach 157 = .ok (.iconst 1, 1) := by decide +kernel
theorem dm_reach_158 : decode bm_reach 158 = .ok (.goto 4, 3) := by decide +kernel
theorem dm_reach_161 : decode bm_reach 161 = .ok (.iconst 0, 1) := by decide +kernel
theorem dm_reach_162 : decode bm_reach 162 = .ok (.istore_n 3, 1) := by decide +kernel
theorem dm_reach_163 : decode bm_reach 163 = .ok (.iinc 4 1, 3) := by decide +kernel
theorem dm_reach_166 : decode bm_reach 166 = .ok (.goto (-159), 3) := by decide +kernel
theorem dm_reach_169 : decode bm_reach 169 = .ok (.iload_n 2, 1) := by decide +kernel
theorem dm_reach_170 : decode bm_reach 170 = .ok (.ireturn, 1) := by decide +kernel
section
variable {l : Launch} {D : va_G} {A : Nat → Prop} {z w : va_W} {q : Nat → Nat} {cI cZ cL : ClassId}
variable {f_classes f_objects f_count f_want f_compared f_open f_rowCount f_many f_seen f_fail f_level f_at f_self f_brackets f_values f_waiting : Int32}
variable {a_parent a_kindOf a_size a_root a_slotKind a_slot a_kept a_code a_number a_opened a_rowKind a_rowValue a_list a_from a_eAt a_whereAt a_source a_distinct a_keeps a_vKind a_v a_waits : Nat → Int32}
set_option maxHeartbeats 4000000 in
set_option maxRecDepth 100000 in
theorem cm_reach (l1 : Int32) (ur : Int32) (h : sm_reach l1 f_objects a_root a_slotKind a_slot = some ur) : hq_Ct l ym_reach bm_reach 9 (some .int) { frames := 0, cells := 0, slots := 0, locals := 0 } D (hq_tys cI cZ cL) A [.ref (q 0), .int l1] (hm_w q cI cZ cL f_classes a_parent f_objects a_kindOf a_size a_root a_slotKind a_slot a_kept f_count a_code a_number f_want f_compared f_open a_opened f_rowCount a_rowKind a_rowValue f_many a_list f_seen f_fail f_level a_from a_eAt a_whereAt a_source a_distinct a_keeps f_at f_self f_brackets f_values a_vKind a_v f_waiting a_waits ++ z) (hm_w q cI cZ cL f_classes a_parent f_objects a_kindOf a_size a_root a_slotKind a_slot a_kept f_count a_code a_number f_want f_compared f_open a_opened f_rowCount a_rowKind a_rowValue f_many a_list f_seen f_fail f_level a_from a_eAt a_whereAt a_source a_distinct a_keeps f_at f_self f_brackets f_values a_vKind a_v f_waiting a_waits ++ z) (some (.int ur)) 0 0 := by
  refine hq_of (by decide) ?_ (Nat.le_of_ble_eq_true rfl)
  intro p e s m below meth c R args Q hRm hQ hx hb hr hml hts hown hlocks hnm hP hK hD ls hl hS
  have hl : lv_has ls 9 [(0, .ref (q 0)), (1, .int l1)] := hl
  have hown : s.vm.findClass "HeapQueriesModel" = some m.cls := hown
  unfold sm_reach at h
  have L87 : ∀ (n : Nat) (l1 : Int32) (l2 : Int32) (l4 : Int32) (l5 : Int32) (l6 : Int32) (l8 : Int32) {ls : Array Slot} {H : Heap} {locs : List Loc}, lv_has ls 9 [(0, .ref (q 0)), (1, .int l1), (2, .int l2), (4, .int l4), (5, .int l5), (6, .int l6), (8, .int l8)] → va_P D hq_cl (hm_w q cI cZ cL f_classes a_parent f_objects a_kindOf a_size a_root a_slotKind a_slot a_kept f_count a_code a_number f_want f_compared f_open a_opened f_rowCount a_rowKind a_rowValue f_many a_list f_seen f_fail f_level a_from a_eAt a_whereAt a_source a_distinct a_keeps f_at f_self f_brackets f_values a_vKind a_v f_waiting a_waits ++ z) H → va_D A (hm_w q cI cZ cL f_classes a_parent f_objects a_kindOf a_size a_root a_slotKind a_slot a_kept f_count a_code a_number f_want f_compared f_open a_opened f_rowCount a_rowKind a_rowValue f_many a_list f_seen f_fail f_level a_from a_eAt a_whereAt a_source a_distinct a_keeps f_at f_self f_brackets f_values a_vKind a_v f_waiting a_waits ++ z) → va_S A s.heap H locs → ∀ u87, sm_reach_L87 n l1 l2 l4 l5 l6 l8 a_slotKind a_slot = some u87 → (∀ (ls : Array Slot) (H : Heap) (locs : List Loc), lv_has ls 9 [(0, .ref (q 0)), (1, .int l1), (2, .int u87), (4, .int l4), (5, .int l5), (6, .int l6)] → va_P D hq_cl (hm_w q cI cZ cL f_classes a_parent f_objects a_kindOf a_size a_root a_slotKind a_slot a_kept f_count a_code a_number f_want f_compared f_open a_opened f_rowCount a_rowKind a_rowValue f_many a_list f_seen f_fail f_level a_from a_eAt a_whereAt a_source a_distinct a_keeps f_at f_self f_brackets f_values a_vKind a_v f_waiting a_waits ++ z) H → va_D A (hm_w q cI cZ cL f_classes a_parent f_objects a_kindOf a_size a_root a_slotKind a_slot a_kept f_count a_code a_number f_want f_compared f_open a_opened f_rowCount a_rowKind a_rowValue f_many a_list f_seen f_fail f_level a_from a_eAt a_whereAt a_source a_distinct a_keeps f_at f_self f_brackets f_values a_vKind a_v f_waiting a_waits ++ z) → va_S A s.heap H locs → W p l e R s m args below meth c H locs 0 0 Q (F0 m 145 ls [])) → W p l e R s m args below meth c H locs 0 0 Q (F0 m 87 ls []) := by
    intro n
    induction n with
    | zero =>
      intro l1 l2 l4 l5 l6 l8 ls H locs hl hP hD hS u87 h kx
      have h : (none : Option (Int32)) = some u87 := h
      cases h
    | succ n ih =>
      intro l1 l2 l4 l5 l6 l8 ls H locs hl hP hD hS u87 h kx
      have h : sm_reach_L87_B (sm_reach_L87 n) l1 l2 l4 l5 l6 l8 a_slotKind a_slot = some u87 := h
      unfold sm_reach_L87_B at h
      refine lv_iload hx hb dm_reach_87 (lv_at hl 6 rfl) ?_
      refine lv_iconst (v := 4) hx hb dm_reach_89 (by decide) ?_
      refine lv_iload hx hb dm_reach_90 (lv_at hl 5 rfl) ?_
      refine lv_imul hx hb dm_reach_92 ?_
      refine lv_iconst (v := 4) hx hb dm_reach_93 (by decide) ?_
      refine lv_iadd hx hb dm_reach_94 ?_
      refine lv_icmp_ge (tgt := 145) hx hb dm_reach_95 (by decide) (fun hc => ?_) (fun hc => ?_)
      · have h := (if_pos hc).symm.trans h
        have h := Option.some.inj h
        subst h
        exact kx ls H locs (lv_sub hl [0, 1, 2, 3, 4, 5] rfl) hP hD hS
      · have h := (if_neg hc).symm.trans h
        refine lv_aload_n hx hb dm_reach_98 rfl (lv_at hl 0 rfl) ?_
        refine gm_0_slotKind hx hb hts hown hK hP wi_71 dm_reach_99 ?_
        refine lv_iload hx hb dm_reach_102 (lv_at hl 6 rfl) ?_
        obtain ⟨hin, h⟩ := hq_idx h
        refine am_5 hx hb hK hP hin dm_reach_104 ?_
        refine lv_iconst (v := 2) hx hb dm_reach_105 (by decide) ?_
        refine lv_icmp_ne (tgt := 137) hx hb dm_reach_106 (by decide) (fun hc => ?_) (fun hc => ?_)
        · have h := (if_neg hc).symm.trans h
          refine lv_iload_n hx hb dm_reach_137 rfl (lv_at hl 2 rfl) ?_
          refine lv_istore_n (lv' := [(2, .int l2), (0, .ref (q 0)), (1, .int l1), (4, .int l4), (5, .int l5), (6, .int l6), (8, .int l8)]) hx hb dm_reach_138 rfl hl (by decide) rfl (fun ls hl => ?_)
          refine lv_iinc (k := 6) (v := l8 + 1) (lv' := [(8, .int (l8 + 1)), (2, .int l2), (0, .ref (q 0)), (1, .int l1), (4, .int l4), (5, .int l5), (6, .int l6)]) hx hb dm_reach_139 hl rfl (congrArg (fun j => l8 + j) (by decide)) (by decide) rfl (fun ls hl => ?_)
          refine lv_goto (tgt := 87) hx hb dm_reach_142 (by decide) ?_
          exact ih l1 l2 l4 l5 l6 (l8 + 1) (lv_sub hl [2, 3, 1, 4, 5, 6, 0] rfl) hP hD hS u87 h kx
        · have h := (if_pos hc).symm.trans h
          refine lv_iload_n hx hb dm_reach_109 rfl (lv_at hl 1 rfl) ?_
          refine lv_aload_n hx hb dm_reach_110 rfl (lv_at hl 0 rfl) ?_
          refine gm_0_slot hx hb hts hown hK hP wi_72 dm_reach_111 ?_
          refine lv_iload hx hb dm_reach_114 (lv_at hl 6 rfl) ?_
          obtain ⟨hin, h⟩ := hq_idx h
          refine am_6 hx hb hK hP hin dm_reach_116 ?_
          refine lv_ishr hx hb dm_reach_117 ?_
          refine lv_iconst (v := 1) hx hb dm_reach_118 (by decide) ?_
          refine lv_iand hx hb dm_reach_119 ?_
          refine lv_if_ne (tgt := 137) hx hb dm_reach_120 (by decide) (fun hc => ?_) (fun hc => ?_)
          · have h := (if_neg hc).symm.trans h
            refine lv_iload_n hx hb dm_reach_137 rfl (lv_at hl 2 rfl) ?_
            refine lv_istore_n (lv' := [(2, .int l2), (0, .ref (q 0)), (1, .int l1), (4, .int l4), (5, .int l5), (6, .int l6), (8, .int l8)]) hx hb dm_reach_138 rfl hl (by decide) rfl (fun ls hl => ?_)
            refine lv_iinc (k := 6) (v := l8 + 1) (lv' := [(8, .int (l8 + 1)), (2, .int l2), (0, .ref (q 0)), (1, .int l1), (4, .int l4), (5, .int l5), (6, .int l6)]) hx hb dm_reach_139 hl rfl (congrArg (fun j => l8 + j) (by decide)) (by decide) rfl (fun ls hl => ?_)
            refine lv_goto (tgt := 87) hx hb dm_reach_142 (by decide) ?_
            exact ih l1 l2 l4 l5 l6 (l8 + 1) (lv_sub hl [2, 3, 1, 4, 5, 6, 0] rfl) hP hD hS u87 h kx
          · have h := (if_pos hc).symm.trans h
            refine lv_iload_n hx hb dm_reach_123 rfl (lv_at hl 2 rfl) ?_
            refine lv_iconst (v := 1) hx hb dm_reach_124 (by decide) ?_
            refine lv_aload_n hx hb dm_reach_125 rfl (lv_at hl 0 rfl) ?_
            refine gm_0_slot hx hb hts hown hK hP wi_72 dm_reach_126 ?_
            refine lv_iload hx hb dm_reach_129 (lv_at hl 6 rfl) ?_
            obtain ⟨hin, h⟩ := hq_idx h
            refine am_6 hx hb hK hP hin dm_reach_131 ?_
            refine lv_ishl hx hb dm_reach_132 ?_
            refine lv_ior hx hb dm_reach_133 ?_
            refine lv_goto (tgt := 138) hx hb dm_reach_134 (by decide) ?_
            refine lv_istore_n (lv' := [(2, .int (l2 ||| ((1 : Int32) <<< ((a_slot l8.toNatClampNeg) &&& 31)))), (0, .ref (q 0)), (1, .int l1), (4, .int l4), (5, .int l5), (6, .int l6), (8, .int l8)]) hx hb dm_reach_138 rfl hl (by decide) rfl (fun ls hl => ?_)
            refine lv_iinc (k := 6) (v := l8 + 1) (lv' := [(8, .int (l8 + 1)), (2, .int (l2 ||| ((1 : Int32) <<< ((a_slot l8.toNatClampNeg) &&& 31)))), (0, .ref (q 0)), (1, .int l1), (4, .int l4), (5, .int l5), (6, .int l6)]) hx hb dm_reach_139 hl rfl (congrArg (fun j => l8 + j) (by decide)) (by decide) rfl (fun ls hl => ?_)
            refine lv_goto (tgt := 87) hx hb dm_reach_142 (by decide) ?_
            exact ih l1 (l2 ||| ((1 : Int32) <<< ((a_slot l8.toNatClampNeg) &&& 31))) l4 l5 l6 (l8 + 1) (lv_sub hl [2, 3, 1, 4, 5, 6, 0] rfl) hP hD hS u87 h kx
  have L24 : ∀ (n : Nat) (l1 : Int32) (l2 : Int32) (l4 : Int32) (l5 : Int32) (l6 : Int32) {ls : Array Slot} {H : Heap} {locs : List Loc}, lv_has ls 9 [(0, .ref (q 0)), (1, .int l1), (2, .int l2), (4, .int l4), (5, .int l5), (6, .int l6)] → va_P D hq_cl (hm_w q cI cZ cL f_classes a_parent f_objects a_kindOf a_size a_root a_slotKind a_slot a_kept f_count a_code a_number f_want f_compared f_open a_opened f_rowCount a_rowKind a_rowValue f_many a_list f_seen f_fail f_level a_from a_eAt a_whereAt a_source a_distinct a_keeps f_at f_self f_brackets f_values a_vKind a_v f_waiting a_waits ++ z) H → va_D A (hm_w q cI cZ cL f_classes a_parent f_objects a_kindOf a_size a_root a_slotKind a_slot a_kept f_count a_code a_number f_want f_compared f_open a_opened f_rowCount a_rowKind a_rowValue f_many a_list f_seen f_fail f_level a_from a_eAt a_whereAt a_source a_distinct a_keeps f_at f_self f_brackets f_values a_vKind a_v f_waiting a_waits ++ z) → va_S A s.heap H locs → ∀ u24, sm_reach_L24 n l1 l2 l4 l5 l6 f_objects a_root a_slotKind a_slot = some u24 → (∀ (ls : Array Slot) (H : Heap) (locs : List Loc), lv_has ls 9 [(0, .ref (q 0)), (1, .int l1), (2, .int u24), (4, .int l4), (5, .int l5)] → va_P D hq_cl (hm_w q cI cZ cL f_classes a_parent f_objects a_kindOf a_size a_root a_slotKind a_slot a_kept f_count a_code a_number f_want f_compared f_open a_opened f_rowCount a_rowKind a_rowValue f_many a_list f_seen f_fail f_level a_from a_eAt a_whereAt a_source a_distinct a_keeps f_at f_self f_brackets f_values a_vKind a_v f_waiting a_waits ++ z) H → va_D A (hm_w q cI cZ cL f_classes a_parent f_objects a_kindOf a_size a_root a_slotKind a_slot a_kept f_count a_code a_number f_want f_compared f_open a_opened f_rowCount a_rowKind a_rowValue f_many a_list f_seen f_fail f_level a_from a_eAt a_whereAt a_source a_distinct a_keeps f_at f_self f_brackets f_values a_vKind a_v f_waiting a_waits ++ z) → va_S A s.heap H locs → W p l e R s m args below meth c H locs 0 0 Q (F0 m 151 ls [])) → W p l e R s m args below meth c H locs 0 0 Q (F0 m 24 ls []) := by
    intro n
    induction n with
    | zero =>
      intro l1 l2 l4 l5 l6 ls H locs hl hP hD hS u24 h kx
      have h : (none : Option (Int32)) = some u24 := h
      cases h
    | succ n ih =>
      intro l1 l2 l4 l5 l6 ls H locs hl hP hD hS u24 h kx
      have h : sm_reach_L24_B (sm_reach_L24 n) l1 l2 l4 l5 l6 f_objects a_root a_slotKind a_slot = some u24 := h
      unfold sm_reach_L24_B at h
      have J58 : ∀ (l2 : Int32) (l6 : Int32) (s0 : Int32) {ls : Array Slot} {H : Heap} {locs : List Loc}, lv_has ls 9 [(0, .ref (q 0)), (1, .int l1), (2, .int l2), (4, .int l4), (5, .int l5), (6, .int l6)] → va_P D hq_cl (hm_w q cI cZ cL f_classes a_parent f_objects a_kindOf a_size a_root a_slotKind a_slot a_kept f_count a_code a_number f_want f_compared f_open a_opened f_rowCount a_rowKind a_rowValue f_many a_list f_seen f_fail f_level a_from a_eAt a_whereAt a_source a_distinct a_keeps f_at f_self f_brackets f_values a_vKind a_v f_waiting a_waits ++ z) H → va_D A (hm_w q cI cZ cL f_classes a_parent f_objects a_kindOf a_size a_root a_slotKind a_slot a_kept f_count a_code a_number f_want f_compared f_open a_opened f_rowCount a_rowKind a_rowValue f_many a_list f_seen f_fail f_level a_from a_eAt a_whereAt a_source a_distinct a_keeps f_at f_self f_brackets f_values a_vKind a_v f_waiting a_waits ++ z) → va_S A s.heap H locs → sm_reach_J58 (sm_reach_L24 n) l1 l2 l4 l5 l6 s0 f_objects a_root a_slotKind a_slot = some u24 → W p l e R s m args below meth c H locs 0 0 Q (F0 m 58 ls [.int s0]) := by
        intro l2 l6 s0 ls H locs hl hP hD hS h
        unfold sm_reach_J58 at h
        refine lv_istore (lv' := [(7, .int s0), (0, .ref (q 0)), (1, .int l1), (2, .int l2), (4, .int l4), (5, .int l5), (6, .int l6)]) hx hb dm_reach_58 hl (by decide) rfl (fun ls hl => ?_)
        refine lv_iload hx hb dm_reach_60 (lv_at hl 0 rfl) ?_
        refine lv_if_eq (tgt := 145) hx hb dm_reach_62 (by decide) (fun hc => ?_) (fun hc => ?_)
        · have h := (if_pos hc).symm.trans h
          refine lv_iinc (k := 6) (v := l6 + 1) (lv' := [(6, .int (l6 + 1)), (7, .int s0), (0, .ref (q 0)), (1, .int l1), (2, .int l2), (4, .int l4), (5, .int l5)]) hx hb dm_reach_145 hl rfl (congrArg (fun j => l6 + j) (by decide)) (by decide) rfl (fun ls hl => ?_)
          refine lv_goto (tgt := 24) hx hb dm_reach_148 (by decide) ?_
          exact ih l1 l2 l4 l5 (l6 + 1) (lv_sub hl [2, 3, 4, 5, 6, 0] rfl) hP hD hS u24 h kx
        · have h := (if_neg hc).symm.trans h
          refine lv_iload_n hx hb dm_reach_65 rfl (lv_at hl 2 rfl) ?_
          refine lv_iload hx hb dm_reach_66 (lv_at hl 6 rfl) ?_
          refine lv_ishr hx hb dm_reach_68 ?_
          refine lv_iconst (v := 1) hx hb dm_reach_69 (by decide) ?_
          refine lv_iand hx hb dm_reach_70 ?_
          refine lv_if_ne (tgt := 145) hx hb dm_reach_71 (by decide) (fun hc => ?_) (fun hc => ?_)
          · have h := (if_neg hc).symm.trans h
            refine lv_iinc (k := 6) (v := l6 + 1) (lv' := [(6, .int (l6 + 1)), (7, .int s0), (0, .ref (q 0)), (1, .int l1), (2, .int l2), (4, .int l4), (5, .int l5)]) hx hb dm_reach_145 hl rfl (congrArg (fun j => l6 + j) (by decide)) (by decide) rfl (fun ls hl => ?_)
            refine lv_goto (tgt := 24) hx hb dm_reach_148 (by decide) ?_
            exact ih l1 l2 l4 l5 (l6 + 1) (lv_sub hl [2, 3, 4, 5, 6, 0] rfl) hP hD hS u24 h kx
          · have h := (if_pos hc).symm.trans h
            refine lv_iload_n hx hb dm_reach_74 rfl (lv_at hl 3 rfl) ?_
            refine lv_iconst (v := 1) hx hb dm_reach_75 (by decide) ?_
            refine lv_iload hx hb dm_reach_76 (lv_at hl 6 rfl) ?_
            refine lv_ishl hx hb dm_reach_78 ?_
            refine lv_ior hx hb dm_reach_79 ?_
            refine lv_istore_n (lv' := [(2, .int (l2 ||| ((1 : Int32) <<< (l6 &&& 31)))), (7, .int s0), (0, .ref (q 0)), (1, .int l1), (4, .int l4), (5, .int l5), (6, .int l6)]) hx hb dm_reach_80 rfl hl (by decide) rfl (fun ls hl => ?_)
            refine lv_iconst (v := 4) hx hb dm_reach_81 (by decide) ?_
            refine lv_iload hx hb dm_reach_82 (lv_at hl 6 rfl) ?_
            refine lv_imul hx hb dm_reach_84 ?_
            refine lv_istore (lv' := [(8, .int (4 * l6)), (2, .int (l2 ||| ((1 : Int32) <<< (l6 &&& 31)))), (7, .int s0), (0, .ref (q 0)), (1, .int l1), (4, .int l4), (5, .int l5), (6, .int l6)]) hx hb dm_reach_85 hl (by decide) rfl (fun ls hl => ?_)
            obtain ⟨u87, h87, h⟩ := hq_bind h
            refine L87 kF l1 (l2 ||| ((1 : Int32) <<< (l6 &&& 31))) l4 l5 l6 (4 * l6) (lv_sub hl [3, 4, 1, 5, 6, 7, 0] rfl) hP hD hS u87 h87 (fun ls H locs hl hP hD hS => ?_)
            refine lv_iinc (k := 5) (v := l6 + 1) (lv' := [(6, .int (l6 + 1)), (0, .ref (q 0)), (1, .int l1), (2, .int u87), (4, .int l4), (5, .int l5)]) hx hb dm_reach_145 hl rfl (congrArg (fun j => l6 + j) (by decide)) (by decide) rfl (fun ls hl => ?_)
            refine lv_goto (tgt := 24) hx hb dm_reach_148 (by decide) ?_
            exact ih l1 u87 l4 l5 (l6 + 1) (lv_sub hl [1, 2, 3, 4, 5, 0] rfl) hP hD hS u24 h kx
      have J53 : ∀ (l2 : Int32) (l6 : Int32) {ls : Array Slot} {H : Heap} {locs : List Loc}, lv_has ls 9 [(0, .ref (q 0)), (1, .int l1), (2, .int l2), (4, .int l4), (5, .int l5), (6, .int l6)] → va_P D hq_cl (hm_w q cI cZ cL f_classes a_parent f_objects a_kindOf a_size a_root a_slotKind a_slot a_kept f_count a_code a_number f_want f_compared f_open a_opened f_rowCount a_rowKind a_rowValue f_many a_list f_seen f_fail f_level a_from a_eAt a_whereAt a_source a_distinct a_keeps f_at f_self f_brackets f_values a_vKind a_v f_waiting a_waits ++ z) H → va_D A (hm_w q cI cZ cL f_classes a_parent f_objects a_kindOf a_size a_root a_slotKind a_slot a_kept f_count a_code a_number f_want f_compared f_open a_opened f_rowCount a_rowKind a_rowValue f_many a_list f_seen f_fail f_level a_from a_eAt a_whereAt a_source a_distinct a_keeps f_at f_self f_brackets f_values a_vKind a_v f_waiting a_waits ++ z) → va_S A s.heap H locs → sm_reach_J53 (sm_reach_L24 n) l1 l2 l4 l5 l6 f_objects a_root a_slotKind a_slot = some u24 → W p l e R s m args below meth c H locs 0 0 Q (F0 m 53 ls []) := by
        intro l2 l6 ls H locs hl hP hD hS h
        unfold sm_reach_J53 at h
        refine lv_iconst (v := 1) hx hb dm_reach_53 (by decide) ?_
        refine lv_goto (tgt := 58) hx hb dm_reach_54 (by decide) ?_
        exact J58 l2 l6 1 hl hP hD hS h
      refine lv_iload hx hb dm_reach_24 (lv_at hl 5 rfl) ?_
      refine lv_aload_n hx hb dm_reach_26 rfl (lv_at hl 0 rfl) ?_
      refine gm_0_objects hx hb hts hown hK hP wi_68 dm_reach_27 ?_
      refine lv_icmp_ge (tgt := 151) hx hb dm_reach_30 (by decide) (fun hc => ?_) (fun hc => ?_)
      · have h := (if_pos hc).symm.trans h
        have h := Option.some.inj h
        subst h
        exact kx ls H locs (lv_sub hl [0, 1, 2, 3, 4] rfl) hP hD hS
      · have h := (if_neg hc).symm.trans h
        refine lv_aload_n hx hb dm_reach_33 rfl (lv_at hl 0 rfl) ?_
        refine gm_0_root hx hb hts hown hK hP wi_74 dm_reach_34 ?_
        refine lv_iload hx hb dm_reach_37 (lv_at hl 5 rfl) ?_
        obtain ⟨hin, h⟩ := hq_idx h
        refine am_4 hx hb hK hP hin dm_reach_39 ?_
        refine lv_if_ne (tgt := 53) hx hb dm_reach_40 (by decide) (fun hc => ?_) (fun hc => ?_)
        · have h := (if_neg hc).symm.trans h
          exact J53 l2 l6 hl hP hD hS h
        · have h := (if_pos hc).symm.trans h
          refine lv_iload_n hx hb dm_reach_43 rfl (lv_at hl 2 rfl) ?_
          refine lv_iload hx hb dm_reach_44 (lv_at hl 5 rfl) ?_
          refine lv_ishr hx hb dm_reach_46 ?_
          refine lv_iconst (v := 1) hx hb dm_reach_47 (by decide) ?_
          refine lv_iand hx hb dm_reach_48 ?_
          refine lv_iconst (v := 1) hx hb dm_reach_49 (by decide) ?_
          refine lv_icmp_ne (tgt := 57) hx hb dm_reach_50 (by decide) (fun hc => ?_) (fun hc => ?_)
          · have h := (if_neg hc).symm.trans h
            refine lv_iconst (v := 0) hx hb dm_reach_57 (by decide) ?_
            exact J58 l2 l6 0 hl hP hD hS h
          · have h := (if_pos hc).symm.trans h
            exact J53 l2 l6 hl hP hD hS h
  have L7 : ∀ (n : Nat) (l1 : Int32) (l2 : Int32) (l3 : Int32) (l4 : Int32) {ls : Array Slot} {H : Heap} {locs : List Loc}, lv_has ls 9 [(0, .ref (q 0)), (1, .int l1), (2, .int l2), (3, .int l3), (4, .int l4)] → va_P D hq_cl (hm_w q cI cZ cL f_classes a_parent f_objects a_kindOf a_size a_root a_slotKind a_slot a_kept f_count a_code a_number f_want f_compared f_open a_opened f_rowCount a_rowKind a_rowValue f_many a_list f_seen f_fail f_level a_from a_eAt a_whereAt a_source a_distinct a_keeps f_at f_self f_brackets f_values a_vKind a_v f_waiting a_waits ++ z) H → va_D A (hm_w q cI cZ cL f_classes a_parent f_objects a_kindOf a_size a_root a_slotKind a_slot a_kept f_count a_code a_number f_want f_compared f_open a_opened f_rowCount a_rowKind a_rowValue f_many a_list f_seen f_fail f_level a_from a_eAt a_whereAt a_source a_distinct a_keeps f_at f_self f_brackets f_values a_vKind a_v f_waiting a_waits ++ z) → va_S A s.heap H locs → ∀ u7, sm_reach_L7 n l1 l2 l3 l4 f_objects a_root a_slotKind a_slot = some u7 → (∀ (ls : Array Slot) (H : Heap) (locs : List Loc), lv_has ls 9 [(2, .int u7)] → va_P D hq_cl (hm_w q cI cZ cL f_classes a_parent f_objects a_kindOf a_size a_root a_slotKind a_slot a_kept f_count a_code a_number f_want f_compared f_open a_opened f_rowCount a_rowKind a_rowValue f_many a_list f_seen f_fail f_level a_from a_eAt a_whereAt a_source a_distinct a_keeps f_at f_self f_brackets f_values a_vKind a_v f_waiting a_waits ++ z) H → va_D A (hm_w q cI cZ cL f_classes a_parent f_objects a_kindOf a_size a_root a_slotKind a_slot a_kept f_count a_code a_number f_want f_compared f_open a_opened f_rowCount a_rowKind a_rowValue f_many a_list f_seen f_fail f_level a_from a_eAt a_whereAt a_source a_distinct a_keeps f_at f_self f_brackets f_values a_vKind a_v f_waiting a_waits ++ z) → va_S A s.heap H locs → W p l e R s m args below meth c H locs 0 0 Q (F0 m 169 ls [])) → W p l e R s m args below meth c H locs 0 0 Q (F0 m 7 ls []) := by
    intro n
    induction n with
    | zero =>
      intro l1 l2 l3 l4 ls H locs hl hP hD hS u7 h kx
      have h : (none : Option (Int32)) = some u7 := h
      cases h
    | succ n ih =>
      intro l1 l2 l3 l4 ls H locs hl hP hD hS u7 h kx
      have h : sm_reach_L7_B (sm_reach_L7 n) l1 l2 l3 l4 f_objects a_root a_slotKind a_slot = some u7 := h
      unfold sm_reach_L7_B at h
      refine lv_iload hx hb dm_reach_7 (lv_at hl 4 rfl) ?_
      refine lv_bipush (v := 24) hx hb dm_reach_9 (by decide) ?_
      refine lv_icmp_gt (tgt := 169) hx hb dm_reach_11 (by decide) (fun hc => ?_) (fun hc => ?_)
      · have h := (if_pos hc).symm.trans h
        have h := Option.some.inj h
        subst h
        exact kx ls H locs (lv_sub hl [2] rfl) hP hD hS
      · have h := (if_neg hc).symm.trans h
        refine lv_iload_n hx hb dm_reach_14 rfl (lv_at hl 3 rfl) ?_
        refine lv_if_eq (tgt := 169) hx hb dm_reach_15 (by decide) (fun hc => ?_) (fun hc => ?_)
        · have h := (if_pos hc).symm.trans h
          have h := Option.some.inj h
          subst h
          exact kx ls H locs (lv_sub hl [2] rfl) hP hD hS
        · have h := (if_neg hc).symm.trans h
          refine lv_iload_n hx hb dm_reach_18 rfl (lv_at hl 2 rfl) ?_
          refine lv_istore (lv' := [(5, .int l2), (0, .ref (q 0)), (1, .int l1), (2, .int l2), (3, .int l3), (4, .int l4)]) hx hb dm_reach_19 hl (by decide) rfl (fun ls hl => ?_)
          refine lv_iconst (v := 0) hx hb dm_reach_21 (by decide) ?_
          refine lv_istore (lv' := [(6, .int 0), (5, .int l2), (0, .ref (q 0)), (1, .int l1), (2, .int l2), (3, .int l3), (4, .int l4)]) hx hb dm_reach_22 hl (by decide) rfl (fun ls hl => ?_)
          obtain ⟨u24, h24, h⟩ := hq_bind h
          refine L24 kF l1 l2 l4 l2 0 (lv_sub hl [2, 3, 4, 6, 1, 0] rfl) hP hD hS u24 h24 (fun ls H locs hl hP hD hS => ?_)
          refine lv_iload_n hx hb dm_reach_151 rfl (lv_at hl 2 rfl) ?_
          refine lv_iload hx hb dm_reach_152 (lv_at hl 4 rfl) ?_
          refine lv_icmp_eq (tgt := 161) hx hb dm_reach_154 (by decide) (fun hc => ?_) (fun hc => ?_)
          · have h := (if_pos hc).symm.trans h
            refine lv_iconst (v := 0) hx hb dm_reach_161 (by decide) ?_
            refine lv_istore_n (lv' := [(3, .int 0), (0, .ref (q 0)), (1, .int l1), (2, .int u24), (4, .int l4), (5, .int l2)]) hx hb dm_reach_162 rfl hl (by decide) rfl (fun ls hl => ?_)
            refine lv_iinc (k := 4) (v := l4 + 1) (lv' := [(4, .int (l4 + 1)), (3, .int 0), (0, .ref (q 0)), (1, .int l1), (2, .int u24), (5, .int l2)]) hx hb dm_reach_163 hl rfl (congrArg (fun j => l4 + j) (by decide)) (by decide) rfl (fun ls hl => ?_)
            refine lv_goto (tgt := 7) hx hb dm_reach_166 (by decide) ?_
            exact ih l1 u24 0 (l4 + 1) (lv_sub hl [2, 3, 4, 1, 0] rfl) hP hD hS u7 h kx
          · have h := (if_neg hc).symm.trans h
            refine lv_iconst (v := 1) hx hb dm_reach_157 (by decide) ?_
            refine lv_goto (tgt := 162) hx hb dm_reach_158 (by decide) ?_
            refine lv_istore_n (lv' := [(3, .int 1), (0, .ref (q 0)), (1, .int l1), (2, .int u24), (4, .int l4), (5, .int l2)]) hx hb dm_reach_162 rfl hl (by decide) rfl (fun ls hl => ?_)
            refine lv_iinc (k := 4) (v := l4 + 1) (lv' := [(4, .int (l4 + 1)), (3, .int 1), (0, .ref (q 0)), (1, .int l1), (2, .int u24), (5, .int l2)]) hx hb dm_reach_163 hl rfl (congrArg (fun j => l4 + j) (by decide)) (by decide) rfl (fun ls hl => ?_)
            refine lv_goto (tgt := 7) hx hb dm_reach_166 (by decide) ?_
            exact ih l1 u24 1 (l4 + 1) (lv_sub hl [2, 3, 4, 1, 0] rfl) hP hD hS u7 h kx
  refine lv_iconst (v := 0) hx hb dm_reach_0 (by decide) ?_
  refine lv_istore_n (lv' := [(2, .int 0), (0, .ref (q 0)), (1, .int l1)]) hx hb dm_reach_1 rfl hl (by decide) rfl (fun ls hl => ?_)
  refine lv_iconst (v := 1) hx hb dm_reach_2 (by decide) ?_
  refine lv_istore_n (lv' := [(3, .int 1), (2, .int 0), (0, .ref (q 0)), (1, .int l1)]) hx hb dm_reach_3 rfl hl (by decide) rfl (fun ls hl => ?_)
  refine lv_iconst (v := 0) hx hb dm_reach_4 (by decide) ?_
  refine lv_istore (lv' := [(4, .int 0), (3, .int 1), (2, .int 0), (0, .ref (q 0)), (1, .int l1)]) hx hb dm_reach_5 hl (by decide) rfl (fun ls hl => ?_)
  obtain ⟨u7, h7, h⟩ := hq_bind h
  refine L7 kF l1 0 1 0 (lv_sub hl [3, 4, 2, 1, 0] rfl) hP hD hS u7 h7 (fun ls H locs hl hP hD hS => ?_)
  refine lv_iload_n hx hb dm_reach_169 rfl (lv_at hl 0 rfl) ?_
  have h := Option.some.inj h
  exact hq_iret hx hb hr hlocks hQ hK hP hD hS (by rw [← h]) rfl dm_reach_170
end
section
variable {p : Program} {l : Launch} {e : Env} {R : Room} {s : State} {m : MethodId} {args : Array Value} {below : List Frame} {meth : Method} {c : Code} {H H0 : Heap} {locs : List Loc} {cells slots : Nat} {Q : State → Prop}
variable {cc : ByteArray} {pc idx nC : Nat} {ls : Array Slot} {rest : List Value} {D : va_G} {A : Nat → Prop} {own : String} {q : Nat → Nat} {cI cZ cL : ClassId} {z w : va_W}
variable {f_classes f_objects f_count f_want f_compared f_open f_rowCount f_many f_seen f_fail f_level f_at f_self f_brackets f_values f_waiting : Int32}
variable {a_parent a_kindOf a_size a_root a_slotKind a_slot a_kept a_code a_number a_opened a_rowKind a_rowValue a_list a_from a_eAt a_whereAt a_source a_distinct a_keeps a_vKind a_v a_waits : Nat → Int32}
theorem km_reach (l1 : Int32) (ur : Int32) (hu : sm_reach l1 f_objects a_root a_slotKind a_slot = some ur) (hx : p.tables.exec = Jvm.exec) (hb : c.code = cc) (hml : c.maxLocals = nC) (hts : ∀ x ∈ hq_tbl, x.before args s = true) (hown : s.vm.findClass own = some m.cls) (hK : va_K D hq_cl (hq_tys cI cZ cL) s) (hP : va_P D hq_cl (hm_w q cI cZ cL f_classes a_parent f_objects a_kindOf a_size a_root a_slotKind a_slot a_kept f_count a_code a_number f_want f_compared f_open a_opened f_rowCount a_rowKind a_rowValue f_many a_list f_seen f_fail f_level a_from a_eAt a_whereAt a_source a_distinct a_keeps f_at f_self f_brackets f_values a_vKind a_v f_waiting a_waits ++ z) H) (hD : va_D A (hm_w q cI cZ cL f_classes a_parent f_objects a_kindOf a_size a_root a_slotKind a_slot a_kept f_count a_code a_number f_want f_compared f_open a_opened f_rowCount a_rowKind a_rowValue f_many a_list f_seen f_fail f_level a_from a_eAt a_whereAt a_source a_distinct a_keeps f_at f_self f_brackets f_values a_vKind a_v f_waiting a_waits ++ z)) (hS : va_S A H0 H locs) (h1 : Cond.methodLink own idx ym_reach ∈ hq_tbl) (hR : 0 + 1 ≤ R.frames ∧ 8 + (9 + 11) + 0 ≤ R.locals) (hls : ls.size = nC) (hW : (rest.map fun v => v.category).sum ≤ 8) (hdg : decode cc pc = .ok (.invokevirtual idx, 3)) (hf : cells + 0 ≤ R.cells ∧ slots + 0 ≤ R.slots) (kk : ∀ (H1 : Heap) (locs1 : List Loc), va_P D hq_cl (hm_w q cI cZ cL f_classes a_parent f_objects a_kindOf a_size a_root a_slotKind a_slot a_kept f_count a_code a_number f_want f_compared f_open a_opened f_rowCount a_rowKind a_rowValue f_many a_list f_seen f_fail f_level a_from a_eAt a_whereAt a_source a_distinct a_keeps f_at f_self f_brackets f_values a_vKind a_v f_waiting a_waits ++ z) H1 → va_D A (hm_w q cI cZ cL f_classes a_parent f_objects a_kindOf a_size a_root a_slotKind a_slot a_kept f_count a_code a_number f_want f_compared f_open a_opened f_rowCount a_rowKind a_rowValue f_many a_list f_seen f_fail f_level a_from a_eAt a_whereAt a_source a_distinct a_keeps f_at f_self f_brackets f_values a_vKind a_v f_waiting a_waits ++ z) → va_S A H0 H1 locs1 → W p l e R s m args below meth c H1 locs1 cells slots Q (F0 m (pc + 3) ls (.int ur :: rest))) : W p l e R s m args below meth c H locs cells slots Q (F0 m pc ls (.int l1 :: .ref (q 0) :: rest)) :=
  hq_callV (q0 := 0) hx hb hml hown hts hK hP hD hS (cm_reach l1 ur hu) rfl rfl h1 wi_352 wi_353 wi_338 wi_354 1 rfl (by decide +kernel) ⟨rfl, rfl⟩ hR hls rfl hW hdg hf kk
end
theorem dm_keepSets_0 : decode bm_keepSets 0 = .ok (.aload_n 0, 1) := by decide +kernel
theorem dm_keepSets_1 : decode bm_keepSets 1 = .ok (.iconst 0, 1) := by decide +kernel
theorem dm_keepSets_2 : decode bm_keepSets 2 = .ok (.invokevirtual 88, 3) := by decide +kernel
theorem dm_keepSets_5 : decode bm_keepSets 5 = .ok (.istore_n 1, 1) := by decide +kernel
theorem dm_keepSets_6 : decode bm_keepSets 6 = .ok (.iconst 0, 1) := by decide +kernel
theorem dm_keepSets_7 : decode bm_keepSets 7 = .ok (.istore_n 2, 1) := by decide +kernel
theorem dm_keepSets_8 : decode bm_keepSets 8 = .ok (.iload_n 2, 1) := by decide +kernel
theorem dm_keepSets_9 : decode bm_keepSets 9 = .ok (.aload_n 0, 1) := by decide +kernel
theorem dm_keepSets_10 : decode bm_keepSets 10 = .ok (.getfield 81, 3) := by decide +kernel
theorem dm_keepSets_13 : decode bm_keepSets 13 = .ok (.if_icmp .ge 26, 3) := by decide +kernel
theorem dm_keepSets_16 : decode bm_keepSets 16 = .ok (.aload_n 0, 1) := by decide +kernel
theorem dm_keepSets_17 : decode bm_keepSets 17 = .ok (.getfield 29, 3) := by decide +kernel
theorem dm_keepSets_20 : decode bm_keepSets 20 = .ok (.iload_n 2, 1) := by decide +kernel
theorem dm_keepSets_21 : decode bm_keepSets 21 = .ok (.iload_n 1, 1) := by decide +kernel
theorem dm_keepSets_22 : decode bm_keepSets 22 = .ok (.aload_n 0, 1) := by decide +kernel
theorem dm_keepSets_23 : decode bm_keepSets 23 = .ok (.iconst 1, 1) := by decide +kernel
theorem dm_keepSets_24 : decode bm_keepSets 24 = .ok (.iload_n 2, 1) := by decide +kernel
theorem dm_keepSets_25 : decode bm_keepSets 25 = .ok (.ishl, 1) := by decide +kernel
theorem dm_keepSets_26 : decode bm_keepSets 26 = .ok (.invokevirtual 88, 3) := by decide +kernel
theorem dm_keepSets_29 : decode bm_keepSets 29 = .ok (.iconst (-1), 1) := by decide +kernel
theorem dm_keepSets_30 : decode bm_keepSets 30 = .ok (.ixor, 1) := by decide +kernel
theorem dm_keepSets_31 : decode bm_keepSets 31 = .ok (.iand, 1) := by decide +kernel
theorem dm_keepSets_32 : decode bm_keepSets 32 = .ok (.iastore, 1) := by decide +kernel
theorem dm_keepSets_33 : decode bm_keepSets 33 = .ok (.iinc 2 1, 3) := by decide +kernel
theorem dm_keepSets_36 : decode bm_keepSets 36 = .ok (.goto (-28), 3) := by decide +kernel
theorem dm_keepSets_39 : decode bm_keepSets 39 = .ok (.return_, 1) := by decide +kernel
section
variable {l : Launch} {D : va_G} {A : Nat → Prop} {z w : va_W} {q : Nat → Nat} {cI cZ cL : ClassId}
variable {f_classes f_objects f_count f_want f_compared f_open f_rowCount f_many f_seen f_fail f_level f_at f_self f_brackets f_values f_waiting : Int32}
variable {a_parent a_kindOf a_size a_root a_slotKind a_slot a_kept a_code a_number a_opened a_rowKind a_rowValue a_list a_from a_eAt a_whereAt a_source a_distinct a_keeps a_vKind a_v a_waits : Nat → Int32}
set_option maxHeartbeats 4000000 in
set_option maxRecDepth 100000 in
theorem cm_keepSets  (ur : Nat → Int32) (h : sm_keepSets f_objects a_root a_slotKind a_slot a_kept = some ur) : hq_Ct l ym_keepSets bm_keepSets 3 none { frames := 1, cells := 0, slots := 0, locals := 28 } D (hq_tys cI cZ cL) A [.ref (q 0)] (hm_w q cI cZ cL f_classes a_parent f_objects a_kindOf a_size a_root a_slotKind a_slot a_kept f_count a_code a_number f_want f_compared f_open a_opened f_rowCount a_rowKind a_rowValue f_many a_list f_seen f_fail f_level a_from a_eAt a_whereAt a_source a_distinct a_keeps f_at f_self f_brackets f_values a_vKind a_v f_waiting a_waits ++ z) (hm_w q cI cZ cL f_classes a_parent f_objects a_kindOf a_size a_root a_slotKind a_slot ur f_count a_code a_number f_want f_compared f_open a_opened f_rowCount a_rowKind a_rowValue f_many a_list f_seen f_fail f_level a_from a_eAt a_whereAt a_source a_distinct a_keeps f_at f_self f_brackets f_values a_vKind a_v f_waiting a_waits ++ z) none 0 0 := by
  refine hq_of (by decide) ?_ (Nat.le_of_ble_eq_true rfl)
  intro p e s m below meth c R args Q hRm hQ hx hb hr hml hts hown hlocks hnm hP hK hD ls hl hS
  have hl : lv_has ls 3 [(0, .ref (q 0))] := hl
  have hown : s.vm.findClass "HeapQueriesModel" = some m.cls := hown
  unfold sm_keepSets at h
  have L8 : ∀ (n : Nat) (l1 : Int32) (l2 : Int32) {a_kept : Nat → Int32} {ls : Array Slot} {H : Heap} {locs : List Loc}, lv_has ls 3 [(0, .ref (q 0)), (1, .int l1), (2, .int l2)] → va_P D hq_cl (hm_w q cI cZ cL f_classes a_parent f_objects a_kindOf a_size a_root a_slotKind a_slot a_kept f_count a_code a_number f_want f_compared f_open a_opened f_rowCount a_rowKind a_rowValue f_many a_list f_seen f_fail f_level a_from a_eAt a_whereAt a_source a_distinct a_keeps f_at f_self f_brackets f_values a_vKind a_v f_waiting a_waits ++ z) H → va_D A (hm_w q cI cZ cL f_classes a_parent f_objects a_kindOf a_size a_root a_slotKind a_slot a_kept f_count a_code a_number f_want f_compared f_open a_opened f_rowCount a_rowKind a_rowValue f_many a_list f_seen f_fail f_level a_from a_eAt a_whereAt a_source a_distinct a_keeps f_at f_self f_brackets f_values a_vKind a_v f_waiting a_waits ++ z) → va_S A s.heap H locs → ∀ u8, sm_keepSets_L8 n l1 l2 f_objects a_root a_slotKind a_slot a_kept = some u8 → (∀ (ls : Array Slot) (H : Heap) (locs : List Loc), lv_has ls 3 [] → va_P D hq_cl (hm_w q cI cZ cL f_classes a_parent f_objects a_kindOf a_size a_root a_slotKind a_slot u8 f_count a_code a_number f_want f_compared f_open a_opened f_rowCount a_rowKind a_rowValue f_many a_list f_seen f_fail f_level a_from a_eAt a_whereAt a_source a_distinct a_keeps f_at f_self f_brackets f_values a_vKind a_v f_waiting a_waits ++ z) H → va_D A (hm_w q cI cZ cL f_classes a_parent f_objects a_kindOf a_size a_root a_slotKind a_slot u8 f_count a_code a_number f_want f_compared f_open a_opened f_rowCount a_rowKind a_rowValue f_many a_list f_seen f_fail f_level a_from a_eAt a_whereAt a_source a_distinct a_keeps f_at f_self f_brackets f_values a_vKind a_v f_waiting a_waits ++ z) → va_S A s.heap H locs → W p l e R s m args below meth c H locs 0 0 Q (F0 m 39 ls [])) → W p l e R s m args below meth c H locs 0 0 Q (F0 m 8 ls []) := by
    intro n
    induction n with
    | zero =>
      intro l1 l2 a_kept ls H locs hl hP hD hS u8 h kx
      have h : (none : Option (Nat → Int32)) = some u8 := h
      cases h
    | succ n ih =>
      intro l1 l2 a_kept ls H locs hl hP hD hS u8 h kx
      have h : sm_keepSets_L8_B (sm_keepSets_L8 n) l1 l2 f_objects a_root a_slotKind a_slot a_kept = some u8 := h
      unfold sm_keepSets_L8_B at h
      refine lv_iload_n hx hb dm_keepSets_8 rfl (lv_at hl 2 rfl) ?_
      refine lv_aload_n hx hb dm_keepSets_9 rfl (lv_at hl 0 rfl) ?_
      refine gm_0_objects hx hb hts hown hK hP wi_68 dm_keepSets_10 ?_
      refine lv_icmp_ge (tgt := 39) hx hb dm_keepSets_13 (by decide) (fun hc => ?_) (fun hc => ?_)
      · have h := (if_pos hc).symm.trans h
        have h := Option.some.inj h
        subst h
        exact kx ls H locs (lv_sub hl [] rfl) hP hD hS
      · have h := (if_neg hc).symm.trans h
        refine lv_aload_n hx hb dm_keepSets_16 rfl (lv_at hl 0 rfl) ?_
        refine gm_0_kept hx hb hts hown hK hP wi_75 dm_keepSets_17 ?_
        refine lv_iload_n hx hb dm_keepSets_20 rfl (lv_at hl 2 rfl) ?_
        refine lv_iload_n hx hb dm_keepSets_21 rfl (lv_at hl 1 rfl) ?_
        refine lv_aload_n hx hb dm_keepSets_22 rfl (lv_at hl 0 rfl) ?_
        refine lv_iconst (v := 1) hx hb dm_keepSets_23 (by decide) ?_
        refine lv_iload_n hx hb dm_keepSets_24 rfl (lv_at hl 2 rfl) ?_
        refine lv_ishl hx hb dm_keepSets_25 ?_
        obtain ⟨v26, h26, h⟩ := hq_bind h
        refine km_reach ((1 : Int32) <<< (l2 &&& 31)) v26 h26 hx hb hml hts hown hK hP hD hS wi_76 (by rw [hRm]; exact ⟨Nat.le_of_ble_eq_true rfl, Nat.le_of_ble_eq_true rfl⟩) hl.1 (Nat.le_of_ble_eq_true rfl) dm_keepSets_26 ⟨Nat.zero_le _, Nat.zero_le _⟩ (fun H locs hP hD hS => ?_)
        refine lv_iconst (v := (-1)) hx hb dm_keepSets_29 (by decide) ?_
        refine lv_ixor hx hb dm_keepSets_30 ?_
        refine lv_iand hx hb dm_keepSets_31 ?_
        obtain ⟨hin, h⟩ := hq_idx h
        refine tm_7 hx hb hK hP hD hS hin dm_keepSets_32 (fun H locs hP hD hS => ?_)
        refine lv_iinc (k := 2) (v := l2 + 1) (lv' := [(2, .int (l2 + 1)), (0, .ref (q 0)), (1, .int l1)]) hx hb dm_keepSets_33 hl rfl (congrArg (fun j => l2 + j) (by decide)) (by decide) rfl (fun ls hl => ?_)
        refine lv_goto (tgt := 8) hx hb dm_keepSets_36 (by decide) ?_
        exact ih l1 (l2 + 1) (lv_sub hl [1, 2, 0] rfl) hP hD hS u8 h kx
  refine lv_aload_n hx hb dm_keepSets_0 rfl (lv_at hl 0 rfl) ?_
  refine lv_iconst (v := 0) hx hb dm_keepSets_1 (by decide) ?_
  obtain ⟨v2, h2, h⟩ := hq_bind h
  refine km_reach 0 v2 h2 hx hb hml hts hown hK hP hD hS wi_76 (by rw [hRm]; exact ⟨Nat.le_of_ble_eq_true rfl, Nat.le_of_ble_eq_true rfl⟩) hl.1 (Nat.le_of_ble_eq_true rfl) dm_keepSets_2 ⟨Nat.zero_le _, Nat.zero_le _⟩ (fun H locs hP hD hS => ?_)
  refine lv_istore_n (lv' := [(1, .int v2), (0, .ref (q 0))]) hx hb dm_keepSets_5 rfl hl (by decide) rfl (fun ls hl => ?_)
  refine lv_iconst (v := 0) hx hb dm_keepSets_6 (by decide) ?_
  refine lv_istore_n (lv' := [(2, .int 0), (1, .int v2), (0, .ref (q 0))]) hx hb dm_keepSets_7 rfl hl (by decide) rfl (fun ls hl => ?_)
  obtain ⟨u8, h8, h⟩ := hq_bind h
  refine L8 kF v2 0 (lv_sub hl [2, 1, 0] rfl) hP hD hS u8 h8 (fun ls H locs hl hP hD hS => ?_)
  have h := Option.some.inj h
  exact hq_vret hx hb hr hlocks hQ hK hP hD hS rfl (by rw [← h]) dm_keepSets_39
end
section
variable {p : Program} {l : Launch} {e : Env} {R : Room} {s : State} {m : MethodId} {args : Array Value} {below : List Frame} {meth : Method} {c : Code} {H H0 : Heap} {locs : List Loc} {cells slots : Nat} {Q : State → Prop}
variable {cc : ByteArray} {pc idx nC : Nat} {ls : Array Slot} {rest : List Value} {D : va_G} {A : Nat → Prop} {own : String} {q : Nat → Nat} {cI cZ cL : ClassId} {z w : va_W}
variable {f_classes f_objects f_count f_want f_compared f_open f_rowCount f_many f_seen f_fail f_level f_at f_self f_brackets f_values f_waiting : Int32}
variable {a_parent a_kindOf a_size a_root a_slotKind a_slot a_kept a_code a_number a_opened a_rowKind a_rowValue a_list a_from a_eAt a_whereAt a_source a_distinct a_keeps a_vKind a_v a_waits : Nat → Int32}
theorem km_keepSets  (ur : Nat → Int32) (hu : sm_keepSets f_objects a_root a_slotKind a_slot a_kept = some ur) (hx : p.tables.exec = Jvm.exec) (hb : c.code = cc) (hml : c.maxLocals = nC) (hts : ∀ x ∈ hq_tbl, x.before args s = true) (hown : s.vm.findClass own = some m.cls) (hK : va_K D hq_cl (hq_tys cI cZ cL) s) (hP : va_P D hq_cl (hm_w q cI cZ cL f_classes a_parent f_objects a_kindOf a_size a_root a_slotKind a_slot a_kept f_count a_code a_number f_want f_compared f_open a_opened f_rowCount a_rowKind a_rowValue f_many a_list f_seen f_fail f_level a_from a_eAt a_whereAt a_source a_distinct a_keeps f_at f_self f_brackets f_values a_vKind a_v f_waiting a_waits ++ z) H) (hD : va_D A (hm_w q cI cZ cL f_classes a_parent f_objects a_kindOf a_size a_root a_slotKind a_slot a_kept f_count a_code a_number f_want f_compared f_open a_opened f_rowCount a_rowKind a_rowValue f_many a_list f_seen f_fail f_level a_from a_eAt a_whereAt a_source a_distinct a_keeps f_at f_self f_brackets f_values a_vKind a_v f_waiting a_waits ++ z)) (hS : va_S A H0 H locs) (h1 : Cond.methodLink own idx ym_keepSets ∈ hq_tbl) (hR : 1 + 1 ≤ R.frames ∧ 8 + (3 + 11) + 28 ≤ R.locals) (hls : ls.size = nC) (hW : (rest.map fun v => v.category).sum ≤ 8) (hdg : decode cc pc = .ok (.invokevirtual idx, 3)) (hf : cells + 0 ≤ R.cells ∧ slots + 0 ≤ R.slots) (kk : ∀ (H1 : Heap) (locs1 : List Loc), va_P D hq_cl (hm_w q cI cZ cL f_classes a_parent f_objects a_kindOf a_size a_root a_slotKind a_slot ur f_count a_code a_number f_want f_compared f_open a_opened f_rowCount a_rowKind a_rowValue f_many a_list f_seen f_fail f_level a_from a_eAt a_whereAt a_source a_distinct a_keeps f_at f_self f_brackets f_values a_vKind a_v f_waiting a_waits ++ z) H1 → va_D A (hm_w q cI cZ cL f_classes a_parent f_objects a_kindOf a_size a_root a_slotKind a_slot ur f_count a_code a_number f_want f_compared f_open a_opened f_rowCount a_rowKind a_rowValue f_many a_list f_seen f_fail f_level a_from a_eAt a_whereAt a_source a_distinct a_keeps f_at f_self f_brackets f_values a_vKind a_v f_waiting a_waits ++ z) → va_S A H0 H1 locs1 → W p l e R s m args below meth c H1 locs1 cells slots Q (F0 m (pc + 3) ls (rest))) : W p l e R s m args below meth c H locs cells slots Q (F0 m pc ls (.ref (q 0) :: rest)) :=
  hq_callV (q0 := 0) hx hb hml hown hts hK hP hD hS (cm_keepSets  ur hu) rfl rfl h1 wi_355 wi_356 wi_338 wi_357 0 rfl (by decide +kernel) ⟨rfl, rfl⟩ hR hls rfl hW hdg hf kk
end
theorem dm_sum_0 : decode bm_sum 0 = .ok (.iconst 0, 1) := by decide +kernel
theorem dm_sum_1 : decode bm_sum 1 = .ok (.istore_n 2, 1) := by decide +kernel
theorem dm_sum_2 : decode bm_sum 2 = .ok (.iconst 0, 1) := by decide +kernel
theorem dm_sum_3 : decode bm_sum 3 = .ok (.istore_n 3, 1) := by decide +kernel
theorem dm_sum_4 : decode bm_sum 4 = .ok (.iload_n 3, 1) := by decide +kernel
theorem dm_sum_5 : decode bm_sum 5 = .ok (.aload_n 0, 1) := by decide +kernel
theorem dm_sum_6 : decode bm_sum 6 = .ok (.getfield 81, 3) := by decide +kernel
theorem dm_sum_9 : decode bm_sum 9 = .ok (.if_icmp .ge 31, 3) := by decide +kernel
theorem dm_sum_12 : decode bm_sum 12 = .ok (.iload_n 1, 1) := by decide +kernel
theorem dm_sum_13 : decode bm_sum 13 = .ok (.iload_n 3, 1) := by decide +kernel
theorem dm_sum_14 : decode bm_sum 14 = .ok (.ishr, 1) := by decide +kernel
theorem dm_sum_15 : decode bm_sum 15 = .ok (.iconst 1, 1) := by decide +kernel
theorem dm_sum_16 : decode bm_sum 16 = .ok (.iand, 1) := by decide +kernel
theorem dm_sum_17 : decode bm_sum 17 = .ok (.iconst 1, 1) := by decide +kernel
theorem dm_sum_18 : decode bm_sum 18 = .ok (.if_icmp .ne 14, 3) := by decide +kernel
theorem dm_sum_21 : decode bm_sum 21 = .ok (.iload_n 2, 1) := by decide +kernel
theorem dm_sum_22 : decode bm_sum 22 = .ok (.aload_n 0, 1) := by decide +kernel
theorem dm_sum_23 : decode bm_sum 23 = .ok (.getfield 16, 3) := by decide +kernel
theorem dm_sum_26 : decode bm_sum 26 = .ok (.iload_n 3, 1) := by decide +kernel
theorem dm_sum_27 : decode bm_sum 27 = .ok (.iaload, 1) := by decide +kernel
theorem dm_sum_28 : decode bm_sum 28 = .ok (.iadd, 1) := by decide +kernel
theorem dm_sum_29 : decode bm_sum 29 = .ok (.goto 4, 3) := by decide +kernel
theorem dm_sum_32 : decode bm_sum 32 = .ok (.iload_n 2, 1) := by decide +kernel
theorem dm_sum_33 : decode bm_sum 33 = .ok (.istore_n 2, 1) := by decide +kernel
theorem dm_sum_34 : decode bm_sum 34 = .ok (.iinc 3 1, 3) := by decide +kernel
theorem dm_sum_37 : decode bm_sum 37 = .ok (.goto (-33), 3) := by decide +kernel
theorem dm_sum_40 : decode bm_sum 40 = .ok (.iload_n 2, 1) := by decide +kernel
theorem dm_sum_41 : decode bm_sum 41 = .ok (.ireturn, 1) := by decide +kernel
section
variable {l : Launch} {D : va_G} {A : Nat → Prop} {z w : va_W} {q : Nat → Nat} {cI cZ cL : ClassId}
variable {f_classes f_objects f_count f_want f_compared f_open f_rowCount f_many f_seen f_fail f_level f_at f_self f_brackets f_values f_waiting : Int32}
variable {a_parent a_kindOf a_size a_root a_slotKind a_slot a_kept a_code a_number a_opened a_rowKind a_rowValue a_list a_from a_eAt a_whereAt a_source a_distinct a_keeps a_vKind a_v a_waits : Nat → Int32}
set_option maxHeartbeats 4000000 in
set_option maxRecDepth 100000 in
theorem cm_sum (l1 : Int32) (ur : Int32) (h : sm_sum l1 f_objects a_size = some ur) : hq_Ct l ym_sum bm_sum 4 (some .int) { frames := 0, cells := 0, slots := 0, locals := 0 } D (hq_tys cI cZ cL) A [.ref (q 0), .int l1] (hm_w q cI cZ cL f_classes a_parent f_objects a_kindOf a_size a_root a_slotKind a_slot a_kept f_count a_code a_number f_want f_compared f_open a_opened f_rowCount a_rowKind a_rowValue f_many a_list f_seen f_fail f_level a_from a_eAt a_whereAt a_source a_distinct a_keeps f_at f_self f_brackets f_values a_vKind a_v f_waiting a_waits ++ z) (hm_w q cI cZ cL f_classes a_parent f_objects a_kindOf a_size a_root a_slotKind a_slot a_kept f_count a_code a_number f_want f_compared f_open a_opened f_rowCount a_rowKind a_rowValue f_many a_list f_seen f_fail f_level a_from a_eAt a_whereAt a_source a_distinct a_keeps f_at f_self f_brackets f_values a_vKind a_v f_waiting a_waits ++ z) (some (.int ur)) 0 0 := by
  refine hq_of (by decide) ?_ (Nat.le_of_ble_eq_true rfl)
  intro p e s m below meth c R args Q hRm hQ hx hb hr hml hts hown hlocks hnm hP hK hD ls hl hS
  have hl : lv_has ls 4 [(0, .ref (q 0)), (1, .int l1)] := hl
  have hown : s.vm.findClass "HeapQueriesModel" = some m.cls := hown
  unfold sm_sum at h
  have L4 : ∀ (n : Nat) (l1 : Int32) (l2 : Int32) (l3 : Int32) {ls : Array Slot} {H : Heap} {locs : List Loc}, lv_has ls 4 [(0, .ref (q 0)), (1, .int l1), (2, .int l2), (3, .int l3)] → va_P D hq_cl (hm_w q cI cZ cL f_classes a_parent f_objects a_kindOf a_size a_root a_slotKind a_slot a_kept f_count a_code a_number f_want f_compared f_open a_opened f_rowCount a_rowKind a_rowValue f_many a_list f_seen f_fail f_level a_from a_eAt a_whereAt a_source a_distinct a_keeps f_at f_self f_brackets f_values a_vKind a_v f_waiting a_waits ++ z) H → va_D A (hm_w q cI cZ cL f_classes a_parent f_objects a_kindOf a_size a_root a_slotKind a_slot a_kept f_count a_code a_number f_want f_compared f_open a_opened f_rowCount a_rowKind a_rowValue f_many a_list f_seen f_fail f_level a_from a_eAt a_whereAt a_source a_distinct a_keeps f_at f_self f_brackets f_values a_vKind a_v f_waiting a_waits ++ z) → va_S A s.heap H locs → ∀ u4, sm_sum_L4 n l1 l2 l3 f_objects a_size = some u4 → (∀ (ls : Array Slot) (H : Heap) (locs : List Loc), lv_has ls 4 [(2, .int u4)] → va_P D hq_cl (hm_w q cI cZ cL f_classes a_parent f_objects a_kindOf a_size a_root a_slotKind a_slot a_kept f_count a_code a_number f_want f_compared f_open a_opened f_rowCount a_rowKind a_rowValue f_many a_list f_seen f_fail f_level a_from a_eAt a_whereAt a_source a_distinct a_keeps f_at f_self f_brackets f_values a_vKind a_v f_waiting a_waits ++ z) H → va_D A (hm_w q cI cZ cL f_classes a_parent f_objects a_kindOf a_size a_root a_slotKind a_slot a_kept f_count a_code a_number f_want f_compared f_open a_opened f_rowCount a_rowKind a_rowValue f_many a_list f_seen f_fail f_level a_from a_eAt a_whereAt a_source a_distinct a_keeps f_at f_self f_brackets f_values a_vKind a_v f_waiting a_waits ++ z) → va_S A s.heap H locs → W p l e R s m args below meth c H locs 0 0 Q (F0 m 40 ls [])) → W p l e R s m args below meth c H locs 0 0 Q (F0 m 4 ls []) := by
    intro n
    induction n with
    | zero =>
      intro l1 l2 l3 ls H locs hl hP hD hS u4 h kx
      have h : (none : Option (Int32)) = some u4 := h
      cases h
    | succ n ih =>
      intro l1 l2 l3 ls H locs hl hP hD hS u4 h kx
      have h : sm_sum_L4_B (sm_sum_L4 n) l1 l2 l3 f_objects a_size = some u4 := h
      unfold sm_sum_L4_B at h
      refine lv_iload_n hx hb dm_sum_4 rfl (lv_at hl 3 rfl) ?_
      refine lv_aload_n hx hb dm_sum_5 rfl (lv_at hl 0 rfl) ?_
      refine gm_0_objects hx hb hts hown hK hP wi_68 dm_sum_6 ?_
      refine lv_icmp_ge (tgt := 40) hx hb dm_sum_9 (by decide) (fun hc => ?_) (fun hc => ?_)
      · have h := (if_pos hc).symm.trans h
        have h := Option.some.inj h
        subst h
        exact kx ls H locs (lv_sub hl [2] rfl) hP hD hS
      · have h := (if_neg hc).symm.trans h
        refine lv_iload_n hx hb dm_sum_12 rfl (lv_at hl 1 rfl) ?_
        refine lv_iload_n hx hb dm_sum_13 rfl (lv_at hl 3 rfl) ?_
        refine lv_ishr hx hb dm_sum_14 ?_
        refine lv_iconst (v := 1) hx hb dm_sum_15 (by decide) ?_
        refine lv_iand hx hb dm_sum_16 ?_
        refine lv_iconst (v := 1) hx hb dm_sum_17 (by decide) ?_
        refine lv_icmp_ne (tgt := 32) hx hb dm_sum_18 (by decide) (fun hc => ?_) (fun hc => ?_)
        · have h := (if_neg hc).symm.trans h
          refine lv_iload_n hx hb dm_sum_32 rfl (lv_at hl 2 rfl) ?_
          refine lv_istore_n (lv' := [(2, .int l2), (0, .ref (q 0)), (1, .int l1), (3, .int l3)]) hx hb dm_sum_33 rfl hl (by decide) rfl (fun ls hl => ?_)
          refine lv_iinc (k := 3) (v := l3 + 1) (lv' := [(3, .int (l3 + 1)), (2, .int l2), (0, .ref (q 0)), (1, .int l1)]) hx hb dm_sum_34 hl rfl (congrArg (fun j => l3 + j) (by decide)) (by decide) rfl (fun ls hl => ?_)
          refine lv_goto (tgt := 4) hx hb dm_sum_37 (by decide) ?_
          exact ih l1 l2 (l3 + 1) (lv_sub hl [2, 3, 1, 0] rfl) hP hD hS u4 h kx
        · have h := (if_pos hc).symm.trans h
          refine lv_iload_n hx hb dm_sum_21 rfl (lv_at hl 2 rfl) ?_
          refine lv_aload_n hx hb dm_sum_22 rfl (lv_at hl 0 rfl) ?_
          refine gm_0_size hx hb hts hown hK hP wi_70 dm_sum_23 ?_
          refine lv_iload_n hx hb dm_sum_26 rfl (lv_at hl 3 rfl) ?_
          obtain ⟨hin, h⟩ := hq_idx h
          refine am_3 hx hb hK hP hin dm_sum_27 ?_
          refine lv_iadd hx hb dm_sum_28 ?_
          refine lv_goto (tgt := 33) hx hb dm_sum_29 (by decide) ?_
          refine lv_istore_n (lv' := [(2, .int (l2 + (a_size l3.toNatClampNeg))), (0, .ref (q 0)), (1, .int l1), (3, .int l3)]) hx hb dm_sum_33 rfl hl (by decide) rfl (fun ls hl => ?_)
          refine lv_iinc (k := 3) (v := l3 + 1) (lv' := [(3, .int (l3 + 1)), (2, .int (l2 + (a_size l3.toNatClampNeg))), (0, .ref (q 0)), (1, .int l1)]) hx hb dm_sum_34 hl rfl (congrArg (fun j => l3 + j) (by decide)) (by decide) rfl (fun ls hl => ?_)
          refine lv_goto (tgt := 4) hx hb dm_sum_37 (by decide) ?_
          exact ih l1 (l2 + (a_size l3.toNatClampNeg)) (l3 + 1) (lv_sub hl [2, 3, 1, 0] rfl) hP hD hS u4 h kx
  refine lv_iconst (v := 0) hx hb dm_sum_0 (by decide) ?_
  refine lv_istore_n (lv' := [(2, .int 0), (0, .ref (q 0)), (1, .int l1)]) hx hb dm_sum_1 rfl hl (by decide) rfl (fun ls hl => ?_)
  refine lv_iconst (v := 0) hx hb dm_sum_2 (by decide) ?_
  refine lv_istore_n (lv' := [(3, .int 0), (2, .int 0), (0, .ref (q 0)), (1, .int l1)]) hx hb dm_sum_3 rfl hl (by decide) rfl (fun ls hl => ?_)
  obtain ⟨u4, h4, h⟩ := hq_bind h
  refine L4 kF l1 0 0 (lv_sub hl [2, 3, 1, 0] rfl) hP hD hS u4 h4 (fun ls H locs hl hP hD hS => ?_)
  refine lv_iload_n hx hb dm_sum_40 rfl (lv_at hl 0 rfl) ?_
  have h := Option.some.inj h
  exact hq_iret hx hb hr hlocks hQ hK hP hD hS (by rw [← h]) rfl dm_sum_41
end
section
variable {p : Program} {l : Launch} {e : Env} {R : Room} {s : State} {m : MethodId} {args : Array Value} {below : List Frame} {meth : Method} {c : Code} {H H0 : Heap} {locs : List Loc} {cells slots : Nat} {Q : State → Prop}
variable {cc : ByteArray} {pc idx nC : Nat} {ls : Array Slot} {rest : List Value} {D : va_G} {A : Nat → Prop} {own : String} {q : Nat → Nat} {cI cZ cL : ClassId} {z w : va_W}
variable {f_classes f_objects f_count f_want f_compared f_open f_rowCount f_many f_seen f_fail f_level f_at f_self f_brackets f_values f_waiting : Int32}
variable {a_parent a_kindOf a_size a_root a_slotKind a_slot a_kept a_code a_number a_opened a_rowKind a_rowValue a_list a_from a_eAt a_whereAt a_source a_distinct a_keeps a_vKind a_v a_waits : Nat → Int32}
theorem km_sum (l1 : Int32) (ur : Int32) (hu : sm_sum l1 f_objects a_size = some ur) (hx : p.tables.exec = Jvm.exec) (hb : c.code = cc) (hml : c.maxLocals = nC) (hts : ∀ x ∈ hq_tbl, x.before args s = true) (hown : s.vm.findClass own = some m.cls) (hK : va_K D hq_cl (hq_tys cI cZ cL) s) (hP : va_P D hq_cl (hm_w q cI cZ cL f_classes a_parent f_objects a_kindOf a_size a_root a_slotKind a_slot a_kept f_count a_code a_number f_want f_compared f_open a_opened f_rowCount a_rowKind a_rowValue f_many a_list f_seen f_fail f_level a_from a_eAt a_whereAt a_source a_distinct a_keeps f_at f_self f_brackets f_values a_vKind a_v f_waiting a_waits ++ z) H) (hD : va_D A (hm_w q cI cZ cL f_classes a_parent f_objects a_kindOf a_size a_root a_slotKind a_slot a_kept f_count a_code a_number f_want f_compared f_open a_opened f_rowCount a_rowKind a_rowValue f_many a_list f_seen f_fail f_level a_from a_eAt a_whereAt a_source a_distinct a_keeps f_at f_self f_brackets f_values a_vKind a_v f_waiting a_waits ++ z)) (hS : va_S A H0 H locs) (h1 : Cond.methodLink own idx ym_sum ∈ hq_tbl) (hR : 0 + 1 ≤ R.frames ∧ 8 + (4 + 11) + 0 ≤ R.locals) (hls : ls.size = nC) (hW : (rest.map fun v => v.category).sum ≤ 8) (hdg : decode cc pc = .ok (.invokevirtual idx, 3)) (hf : cells + 0 ≤ R.cells ∧ slots + 0 ≤ R.slots) (kk : ∀ (H1 : Heap) (locs1 : List Loc), va_P D hq_cl (hm_w q cI cZ cL f_classes a_parent f_objects a_kindOf a_size a_root a_slotKind a_slot a_kept f_count a_code a_number f_want f_compared f_open a_opened f_rowCount a_rowKind a_rowValue f_many a_list f_seen f_fail f_level a_from a_eAt a_whereAt a_source a_distinct a_keeps f_at f_self f_brackets f_values a_vKind a_v f_waiting a_waits ++ z) H1 → va_D A (hm_w q cI cZ cL f_classes a_parent f_objects a_kindOf a_size a_root a_slotKind a_slot a_kept f_count a_code a_number f_want f_compared f_open a_opened f_rowCount a_rowKind a_rowValue f_many a_list f_seen f_fail f_level a_from a_eAt a_whereAt a_source a_distinct a_keeps f_at f_self f_brackets f_values a_vKind a_v f_waiting a_waits ++ z) → va_S A H0 H1 locs1 → W p l e R s m args below meth c H1 locs1 cells slots Q (F0 m (pc + 3) ls (.int ur :: rest))) : W p l e R s m args below meth c H locs cells slots Q (F0 m pc ls (.int l1 :: .ref (q 0) :: rest)) :=
  hq_callV (q0 := 0) hx hb hml hown hts hK hP hD hS (cm_sum l1 ur hu) rfl rfl h1 wi_358 wi_359 wi_338 wi_360 1 rfl (by decide +kernel) ⟨rfl, rfl⟩ hR hls rfl hW hdg hf kk
end
theorem dm_dominates_0 : decode bm_dominates 0 = .ok (.iload_n 1, 1) := by decide +kernel
theorem dm_dominates_1 : decode bm_dominates 1 = .ok (.iload_n 2, 1) := by decide +kernel
theorem dm_dominates_2 : decode bm_dominates 2 = .ok (.if_icmp .eq 21, 3) := by decide +kernel
theorem dm_dominates_5 : decode bm_dominates 5 = .ok (.aload_n 0, 1) := by decide +kernel
theorem dm_dominates_6 : decode bm_dominates 6 = .ok (.getfield 29, 3) := by decide +kernel
theorem dm_dominates_9 : decode bm_dominates 9 = .ok (.iload_n 1, 1) := by decide +kernel
theorem dm_dominates_10 : decode bm_dominates 10 = .ok (.iaload, 1) := by decide +kernel
theorem dm_dominates_11 : decode bm_dominates 11 = .ok (.iload_n 2, 1) := by decide +kernel
theorem dm_dominates_12 : decode bm_dominates 12 = .ok (.ishr, 1) := by decide +kernel
theorem dm_dominates_13 : decode bm_dominates 13 = .ok (.iconst 1, 1) := by decide +kernel
theorem dm_dominates_14 : decode bm_dominates 14 = .ok (.iand, 1) := by decide +kernel
theorem dm_dominates_15 : decode bm_dominates 15 = .ok (.iconst 1, 1) := by decide +kernel
theorem dm_dominates_16 : decode bm_dominates 16 = .ok (.if_icmp .ne 7, 3) := by decide +kernel
theorem dm_dominates_19 : decode bm_dominates 19 = .ok (.iconst 1, 1) := by decide +kernel
theorem dm_dominates_20 : decode bm_dominates 20 = .ok (.goto 4, 3) := by decide +kernel
theorem dm_dominates_23 : decode bm_dominates 23 = .ok (.iconst 0, 1) := by decide +kernel
theorem dm_dominates_24 : decode bm_dominates 24 = .ok (.ireturn, 1) := by decide +kernel
section
variable {l : Launch} {D : va_G} {A : Nat → Prop} {z w : va_W} {q : Nat → Nat} {cI cZ cL : ClassId}
variable {f_classes f_objects f_count f_want f_compared f_open f_rowCount f_many f_seen f_fail f_level f_at f_self f_brackets f_values f_waiting : Int32}
variable {a_parent a_kindOf a_size a_root a_slotKind a_slot a_kept a_code a_number a_opened a_rowKind a_rowValue a_list a_from a_eAt a_whereAt a_source a_distinct a_keeps a_vKind a_v a_waits : Nat → Int32}
set_option maxHeartbeats 4000000 in
set_option maxRecDepth 100000 in
theorem cm_dominates (l1 : Int32) (l2 : Int32) (ur : Int32) (h : sm_dominates l1 l2 a_kept = some ur) : hq_Ct l ym_dominates bm_dominates 3 (some .boolean) { frames := 0, cells := 0, slots := 0, locals := 0 } D (hq_tys cI cZ cL) A [.ref (q 0), .int l1, .int l2] (hm_w q cI cZ cL f_classes a_parent f_objects a_kindOf a_size a_root a_slotKind a_slot a_kept f_count a_code a_number f_want f_compared f_open a_opened f_rowCount a_rowKind a_rowValue f_many a_list f_seen f_fail f_level a_from a_eAt a_whereAt a_source a_distinct a_keeps f_at f_self f_brackets f_values a_vKind a_v f_waiting a_waits ++ z) (hm_w q cI cZ cL f_classes a_parent f_objects a_kindOf a_size a_root a_slotKind a_slot a_kept f_count a_code a_number f_want f_compared f_open a_opened f_rowCount a_rowKind a_rowValue f_many a_list f_seen f_fail f_level a_from a_eAt a_whereAt a_source a_distinct a_keeps f_at f_self f_brackets f_values a_vKind a_v f_waiting a_waits ++ z) (some (.int ur)) 0 0 := by
  refine hq_of (by decide) ?_ (Nat.le_of_ble_eq_true rfl)
  intro p e s m below meth c R args Q hRm hQ hx hb hr hml hts hown hlocks hnm hP hK hD ls hl hS
  have hl : lv_has ls 3 [(0, .ref (q 0)), (1, .int l1), (2, .int l2)] := hl
  have hown : s.vm.findClass "HeapQueriesModel" = some m.cls := hown
  unfold sm_dominates at h
  refine lv_iload_n hx hb dm_dominates_0 rfl (lv_at hl 1 rfl) ?_
  refine lv_iload_n hx hb dm_dominates_1 rfl (lv_at hl 2 rfl) ?_
  refine lv_icmp_eq (tgt := 23) hx hb dm_dominates_2 (by decide) (fun hc => ?_) (fun hc => ?_)
  · have h := (if_pos hc).symm.trans h
    refine lv_iconst (v := 0) hx hb dm_dominates_23 (by decide) ?_
    have h := Option.some.inj h
    exact hq_zret hx hb hr hlocks hQ hK hP hD hS (by decide) (by rw [← h]) rfl dm_dominates_24
  · have h := (if_neg hc).symm.trans h
    refine lv_aload_n hx hb dm_dominates_5 rfl (lv_at hl 0 rfl) ?_
    refine gm_0_kept hx hb hts hown hK hP wi_75 dm_dominates_6 ?_
    refine lv_iload_n hx hb dm_dominates_9 rfl (lv_at hl 1 rfl) ?_
    obtain ⟨hin, h⟩ := hq_idx h
    refine am_7 hx hb hK hP hin dm_dominates_10 ?_
    refine lv_iload_n hx hb dm_dominates_11 rfl (lv_at hl 2 rfl) ?_
    refine lv_ishr hx hb dm_dominates_12 ?_
    refine lv_iconst (v := 1) hx hb dm_dominates_13 (by decide) ?_
    refine lv_iand hx hb dm_dominates_14 ?_
    refine lv_iconst (v := 1) hx hb dm_dominates_15 (by decide) ?_
    refine lv_icmp_ne (tgt := 23) hx hb dm_dominates_16 (by decide) (fun hc => ?_) (fun hc => ?_)
    · have h := (if_neg hc).symm.trans h
      refine lv_iconst (v := 0) hx hb dm_dominates_23 (by decide) ?_
      have h := Option.some.inj h
      exact hq_zret hx hb hr hlocks hQ hK hP hD hS (by decide) (by rw [← h]) rfl dm_dominates_24
    · have h := (if_pos hc).symm.trans h
      refine lv_iconst (v := 1) hx hb dm_dominates_19 (by decide) ?_
      refine lv_goto (tgt := 24) hx hb dm_dominates_20 (by decide) ?_
      have h := Option.some.inj h
      exact hq_zret hx hb hr hlocks hQ hK hP hD hS (by decide) (by rw [← h]) rfl dm_dominates_24
end
section
variable {p : Program} {l : Launch} {e : Env} {R : Room} {s : State} {m : MethodId} {args : Array Value} {below : List Frame} {meth : Method} {c : Code} {H H0 : Heap} {locs : List Loc} {cells slots : Nat} {Q : State → Prop}
variable {cc : ByteArray} {pc idx nC : Nat} {ls : Array Slot} {rest : List Value} {D : va_G} {A : Nat → Prop} {own : String} {q : Nat → Nat} {cI cZ cL : ClassId} {z w : va_W}
variable {f_classes f_objects f_count f_want f_compared f_open f_rowCount f_many f_seen f_fail f_level f_at f_self f_brackets f_values f_waiting : Int32}
variable {a_parent a_kindOf a_size a_root a_slotKind a_slot a_kept a_code a_number a_opened a_rowKind a_rowValue a_list a_from a_eAt a_whereAt a_source a_distinct a_keeps a_vKind a_v a_waits : Nat → Int32}
theorem km_dominates (l1 : Int32) (l2 : Int32) (ur : Int32) (hu : sm_dominates l1 l2 a_kept = some ur) (hx : p.tables.exec = Jvm.exec) (hb : c.code = cc) (hml : c.maxLocals = nC) (hts : ∀ x ∈ hq_tbl, x.before args s = true) (hown : s.vm.findClass own = some m.cls) (hK : va_K D hq_cl (hq_tys cI cZ cL) s) (hP : va_P D hq_cl (hm_w q cI cZ cL f_classes a_parent f_objects a_kindOf a_size a_root a_slotKind a_slot a_kept f_count a_code a_number f_want f_compared f_open a_opened f_rowCount a_rowKind a_rowValue f_many a_list f_seen f_fail f_level a_from a_eAt a_whereAt a_source a_distinct a_keeps f_at f_self f_brackets f_values a_vKind a_v f_waiting a_waits ++ z) H) (hD : va_D A (hm_w q cI cZ cL f_classes a_parent f_objects a_kindOf a_size a_root a_slotKind a_slot a_kept f_count a_code a_number f_want f_compared f_open a_opened f_rowCount a_rowKind a_rowValue f_many a_list f_seen f_fail f_level a_from a_eAt a_whereAt a_source a_distinct a_keeps f_at f_self f_brackets f_values a_vKind a_v f_waiting a_waits ++ z)) (hS : va_S A H0 H locs) (h1 : Cond.methodLink own idx ym_dominates ∈ hq_tbl) (hR : 0 + 1 ≤ R.frames ∧ 8 + (3 + 11) + 0 ≤ R.locals) (hls : ls.size = nC) (hW : (rest.map fun v => v.category).sum ≤ 8) (hdg : decode cc pc = .ok (.invokevirtual idx, 3)) (hf : cells + 0 ≤ R.cells ∧ slots + 0 ≤ R.slots) (kk : ∀ (H1 : Heap) (locs1 : List Loc), va_P D hq_cl (hm_w q cI cZ cL f_classes a_parent f_objects a_kindOf a_size a_root a_slotKind a_slot a_kept f_count a_code a_number f_want f_compared f_open a_opened f_rowCount a_rowKind a_rowValue f_many a_list f_seen f_fail f_level a_from a_eAt a_whereAt a_source a_distinct a_keeps f_at f_self f_brackets f_values a_vKind a_v f_waiting a_waits ++ z) H1 → va_D A (hm_w q cI cZ cL f_classes a_parent f_objects a_kindOf a_size a_root a_slotKind a_slot a_kept f_count a_code a_number f_want f_compared f_open a_opened f_rowCount a_rowKind a_rowValue f_many a_list f_seen f_fail f_level a_from a_eAt a_whereAt a_source a_distinct a_keeps f_at f_self f_brackets f_values a_vKind a_v f_waiting a_waits ++ z) → va_S A H0 H1 locs1 → W p l e R s m args below meth c H1 locs1 cells slots Q (F0 m (pc + 3) ls (.int ur :: rest))) : W p l e R s m args below meth c H locs cells slots Q (F0 m pc ls (.int l2 :: .int l1 :: .ref (q 0) :: rest)) :=
  hq_callV (q0 := 0) hx hb hml hown hts hK hP hD hS (cm_dominates l1 l2 ur hu) rfl rfl h1 wi_361 wi_362 wi_338 wi_363 2 rfl (by decide +kernel) ⟨rfl, rfl⟩ hR hls rfl hW hdg hf kk
end
theorem dm_immediate_0 : decode bm_immediate 0 = .ok (.iconst 0, 1) := by decide +kernel
theorem dm_immediate_1 : decode bm_immediate 1 = .ok (.istore_n 2, 1) := by decide +kernel
theorem dm_immediate_2 : decode bm_immediate 2 = .ok (.iload_n 2, 1) := by decide +kernel
theorem dm_immediate_3 : decode bm_immediate 3 = .ok (.aload_n 0, 1) := by decide +kernel
theorem dm_immediate_4 : decode bm_immediate 4 = .ok (.getfield 81, 3) := by decide +kernel
theorem dm_immediate_7 : decode bm_immediate 7 = .ok (.if_icmp .ge 76, 3) := by decide +kernel
theorem dm_immediate_10 : decode bm_immediate 10 = .ok (.aload_n 0, 1) := by decide +kernel
theorem dm_immediate_11 : decode bm_immediate 11 = .ok (.iload_n 2, 1) := by decide +kernel
theorem dm_immediate_12 : decode bm_immediate 12 = .ok (.iload_n 1, 1) := by decide +kernel
theorem dm_immediate_13 : decode bm_immediate 13 = .ok (.invokevirtual 92, 3) := by decide +kernel
theorem dm_immediate_16 : decode bm_immediate 16 = .ok (.istore_n 3, 1) := by decide +kernel
theorem dm_immediate_17 : decode bm_immediate 17 = .ok (.iconst 0, 1) := by decide +kernel
theorem dm_immediate_18 : decode bm_immediate 18 = .ok (.istore 4, 2) := by decide +kernel
theorem dm_immediate_20 : decode bm_immediate 20 = .ok (.iload 4, 2) := by decide +kernel
theorem dm_immediate_22 : decode bm_immediate 22 = .ok (.aload_n 0, 1) := by decide +kernel
theorem dm_immediate_23 : decode bm_immediate 23 = .ok (.getfield 81, 3) := by decide +kernel
theorem dm_immediate_26 : decode bm_immediate 26 = .ok (.if_icmp .ge 45, 3) := by decide +kernel
theorem dm_immediate_29 : decode bm_immediate 29 = .ok (.iload_n 3, 1) := by decide +kernel
theorem dm_immediate_30 : decode bm_immediate 30 = .ok (.ifCond .eq 41, 3) := by decide +kernel
theorem dm_immediate_33 : decode bm_immediate 33 = .ok (.iload 4, 2) := by decide +kernel
theorem dm_immediate_35 : decode bm_immediate 35 = .ok (.iload_n 2, 1) := by decide +kernel
theorem dm_immediate_36 : decode bm_immediate 36 = .ok (.if_icmp .eq 23, 3) := by decide +kernel
theorem dm_immediate_39 : decode bm_immediate 39 = .ok (.aload_n 0, 1) := by decide +kernel
theorem dm_immediate_40 : decode bm_immediate 40 = .ok (.iload 4, 2) := by decide +kernel
theorem dm_immediate_42 : decode bm_immediate 42 = .ok (.iload_n 1, 1) := by decide +kernel
theorem dm_immediate_43 : decode bm_immediate 43 = .ok (.invokevirtual 92, 3) := by decide +kernel
theorem dm_immediate_46 : decode bm_immediate 46 = .ok (.ifCond .eq 13, 3) := by decide +kernel
theorem dm_immediate_49 : decode bm_immediate 49 = .ok (.aload_n 0, 1) := by decide +kernel
theorem dm_immediate_50 : decode bm_immediate 50 = .ok (.iload 4, 2) := by decide +kernel
theorem dm_immediate_52 : decode bm_immediate 52 = .ok (.iload_n 2, 1) := by decide +kernel
theorem dm_immediate_53 : decode bm_immediate 53 = .ok (.invokevirtual 92, 3) := by decide +kernel
theorem dm_immediate_56 : decode bm_immediate 56 = .ok (.ifCond .eq 7, 3) := by decide +kernel
theorem dm_immediate_59 : decode bm_immediate 59 = .ok (.iconst 1, 1) := by decide +kernel
theorem dm_immediate_60 : decode bm_immediate 60 = .ok (.goto 4, 3) := by decide +kernel
theorem dm_immediate_63 : decode bm_immediate 63 = .ok (.iconst 0, 1) := by decide +kernel
theorem dm_immediate_64 : decode bm_immediate 64 = .ok (.istore_n 3, 1) := by decide +kernel
theorem dm_immediate_65 : decode bm_immediate 65 = .ok (.iinc 4 1, 3) := by decide +kernel
theorem dm_immediate_68 : decode bm_immediate 68 = .ok (.goto (-48), 3) := by decide +kernel
theorem dm_immediate_71 : decode bm_immediate 71 = .ok (.iload_n 3, 1) := by decide +kernel
theorem dm_immediate_72 : decode bm_immediate 72 = .ok (.ifCond .eq 5, 3) := by decide +kernel
theorem dm_immediate_75 : decode bm_immediate 75 = .ok (.iload_n 2, 1) := by decide +kernel
theorem dm_immediate_76 : decode bm_immediate 76 = .ok (.ireturn, 1) := by decide +kernel
theorem dm_immediate_77 : decode bm_immediate 77 = .ok (.iinc 2 1, 3) := by decide +kernel
theorem dm_immediate_80 : decode bm_immediate 80 = .ok (.goto (-78), 3) := by decide +kernel
theorem dm_immediate_83 : decode bm_immediate 83 = .ok (.iconst (-1), 1) := by decide +kernel
theorem dm_immediate_84 : decode bm_immediate 84 = .ok (.ireturn, 1) := by decide +kernel
section
variable {l : Launch} {D : va_G} {A : Nat → Prop} {z w : va_W} {q : Nat → Nat} {cI cZ cL : ClassId}
variable {f_classes f_objects f_count f_want f_compared f_open f_rowCount f_many f_seen f_fail f_level f_at f_self f_brackets f_values f_waiting : Int32}
variable {a_parent a_kindOf a_size a_root a_slotKind a_slot a_kept a_code a_number a_opened a_rowKind a_rowValue a_list a_from a_eAt a_whereAt a_source a_distinct a_keeps a_vKind a_v a_waits : Nat → Int32}
set_option maxHeartbeats 4000000 in
set_option maxRecDepth 100000 in
theorem cm_immediate (l1 : Int32) (ur : Int32) (h : sm_immediate l1 f_objects a_kept = some ur) : hq_Ct l ym_immediate bm_immediate 5 (some .int) { frames := 1, cells := 0, slots := 0, locals := 22 } D (hq_tys cI cZ cL) A [.ref (q 0), .int l1] (hm_w q cI cZ cL f_classes a_parent f_objects a_kindOf a_size a_root a_slotKind a_slot a_kept f_count a_code a_number f_want f_compared f_open a_opened f_rowCount a_rowKind a_rowValue f_many a_list f_seen f_fail f_level a_from a_eAt a_whereAt a_source a_distinct a_keeps f_at f_self f_brackets f_values a_vKind a_v f_waiting a_waits ++ z) (hm_w q cI cZ cL f_classes a_parent f_objects a_kindOf a_size a_root a_slotKind a_slot a_kept f_count a_code a_number f_want f_compared f_open a_opened f_rowCount a_rowKind a_rowValue f_many a_list f_seen f_fail f_level a_from a_eAt a_whereAt a_source a_distinct a_keeps f_at f_self f_brackets f_values a_vKind a_v f_waiting a_waits ++ z) (some (.int ur)) 0 0 := by
  refine hq_of (by decide) ?_ (Nat.le_of_ble_eq_true rfl)
  intro p e s m below meth c R args Q hRm hQ hx hb hr hml hts hown hlocks hnm hP hK hD ls hl hS
  have hl : lv_has ls 5 [(0, .ref (q 0)), (1, .int l1)] := hl
  have hown : s.vm.findClass "HeapQueriesModel" = some m.cls := hown
  unfold sm_immediate at h
  have L20 : ∀ (n : Nat) (l1 : Int32) (l2 : Int32) (l3 : Int32) (l4 : Int32) {ls : Array Slot} {H : Heap} {locs : List Loc}, lv_has ls 5 [(0, .ref (q 0)), (1, .int l1), (2, .int l2), (3, .int l3), (4, .int l4)] → va_P D hq_cl (hm_w q cI cZ cL f_classes a_parent f_objects a_kindOf a_size a_root a_slotKind a_slot a_kept f_count a_code a_number f_want f_compared f_open a_opened f_rowCount a_rowKind a_rowValue f_many a_list f_seen f_fail f_level a_from a_eAt a_whereAt a_source a_distinct a_keeps f_at f_self f_brackets f_values a_vKind a_v f_waiting a_waits ++ z) H → va_D A (hm_w q cI cZ cL f_classes a_parent f_objects a_kindOf a_size a_root a_slotKind a_slot a_kept f_count a_code a_number f_want f_compared f_open a_opened f_rowCount a_rowKind a_rowValue f_many a_list f_seen f_fail f_level a_from a_eAt a_whereAt a_source a_distinct a_keeps f_at f_self f_brackets f_values a_vKind a_v f_waiting a_waits ++ z) → va_S A s.heap H locs → ∀ u20, sm_immediate_L20 n l1 l2 l3 l4 f_objects a_kept = some u20 → (∀ (ls : Array Slot) (H : Heap) (locs : List Loc), lv_has ls 5 [(0, .ref (q 0)), (1, .int l1), (2, .int l2), (3, .int u20)] → va_P D hq_cl (hm_w q cI cZ cL f_classes a_parent f_objects a_kindOf a_size a_root a_slotKind a_slot a_kept f_count a_code a_number f_want f_compared f_open a_opened f_rowCount a_rowKind a_rowValue f_many a_list f_seen f_fail f_level a_from a_eAt a_whereAt a_source a_distinct a_keeps f_at f_self f_brackets f_values a_vKind a_v f_waiting a_waits ++ z) H → va_D A (hm_w q cI cZ cL f_classes a_parent f_objects a_kindOf a_size a_root a_slotKind a_slot a_kept f_count a_code a_number f_want f_compared f_open a_opened f_rowCount a_rowKind a_rowValue f_many a_list f_seen f_fail f_level a_from a_eAt a_whereAt a_source a_distinct a_keeps f_at f_self f_brackets f_values a_vKind a_v f_waiting a_waits ++ z) → va_S A s.heap H locs → W p l e R s m args below meth c H locs 0 0 Q (F0 m 71 ls [])) → W p l e R s m args below meth c H locs 0 0 Q (F0 m 20 ls []) := by
    intro n
    induction n with
    | zero =>
      intro l1 l2 l3 l4 ls H locs hl hP hD hS u20 h kx
      have h : (none : Option (Int32)) = some u20 := h
      cases h
    | succ n ih =>
      intro l1 l2 l3 l4 ls H locs hl hP hD hS u20 h kx
      have h : sm_immediate_L20_B (sm_immediate_L20 n) l1 l2 l3 l4 f_objects a_kept = some u20 := h
      unfold sm_immediate_L20_B at h
      refine lv_iload hx hb dm_immediate_20 (lv_at hl 4 rfl) ?_
      refine lv_aload_n hx hb dm_immediate_22 rfl (lv_at hl 0 rfl) ?_
      refine gm_0_objects hx hb hts hown hK hP wi_68 dm_immediate_23 ?_
      refine lv_icmp_ge (tgt := 71) hx hb dm_immediate_26 (by decide) (fun hc => ?_) (fun hc => ?_)
      · have h := (if_pos hc).symm.trans h
        have h := Option.some.inj h
        subst h
        exact kx ls H locs (lv_sub hl [0, 1, 2, 3] rfl) hP hD hS
      · have h := (if_neg hc).symm.trans h
        refine lv_iload_n hx hb dm_immediate_29 rfl (lv_at hl 3 rfl) ?_
        refine lv_if_eq (tgt := 71) hx hb dm_immediate_30 (by decide) (fun hc => ?_) (fun hc => ?_)
        · have h := (if_pos hc).symm.trans h
          have h := Option.some.inj h
          subst h
          exact kx ls H locs (lv_sub hl [0, 1, 2, 3] rfl) hP hD hS
        · have h := (if_neg hc).symm.trans h
          refine lv_iload hx hb dm_immediate_33 (lv_at hl 4 rfl) ?_
          refine lv_iload_n hx hb dm_immediate_35 rfl (lv_at hl 2 rfl) ?_
          refine lv_icmp_eq (tgt := 59) hx hb dm_immediate_36 (by decide) (fun hc => ?_) (fun hc => ?_)
          · have h := (if_pos hc).symm.trans h
            refine lv_iconst (v := 1) hx hb dm_immediate_59 (by decide) ?_
            refine lv_goto (tgt := 64) hx hb dm_immediate_60 (by decide) ?_
            refine lv_istore_n (lv' := [(3, .int 1), (0, .ref (q 0)), (1, .int l1), (2, .int l2), (4, .int l4)]) hx hb dm_immediate_64 rfl hl (by decide) rfl (fun ls hl => ?_)
            refine lv_iinc (k := 4) (v := l4 + 1) (lv' := [(4, .int (l4 + 1)), (3, .int 1), (0, .ref (q 0)), (1, .int l1), (2, .int l2)]) hx hb dm_immediate_65 hl rfl (congrArg (fun j => l4 + j) (by decide)) (by decide) rfl (fun ls hl => ?_)
            refine lv_goto (tgt := 20) hx hb dm_immediate_68 (by decide) ?_
            exact ih l1 l2 1 (l4 + 1) (lv_sub hl [2, 3, 4, 1, 0] rfl) hP hD hS u20 h kx
          · have h := (if_neg hc).symm.trans h
            refine lv_aload_n hx hb dm_immediate_39 rfl (lv_at hl 0 rfl) ?_
            refine lv_iload hx hb dm_immediate_40 (lv_at hl 4 rfl) ?_
            refine lv_iload_n hx hb dm_immediate_42 rfl (lv_at hl 1 rfl) ?_
            obtain ⟨v43, h43, h⟩ := hq_bind h
            refine km_dominates l4 l1 v43 h43 hx hb hml hts hown hK hP hD hS wi_77 (by rw [hRm]; exact ⟨Nat.le_of_ble_eq_true rfl, Nat.le_of_ble_eq_true rfl⟩) hl.1 (Nat.le_of_ble_eq_true rfl) dm_immediate_43 ⟨Nat.zero_le _, Nat.zero_le _⟩ (fun H locs hP hD hS => ?_)
            refine lv_if_eq (tgt := 59) hx hb dm_immediate_46 (by decide) (fun hc => ?_) (fun hc => ?_)
            · have h := (if_pos hc).symm.trans h
              refine lv_iconst (v := 1) hx hb dm_immediate_59 (by decide) ?_
              refine lv_goto (tgt := 64) hx hb dm_immediate_60 (by decide) ?_
              refine lv_istore_n (lv' := [(3, .int 1), (0, .ref (q 0)), (1, .int l1), (2, .int l2), (4, .int l4)]) hx hb dm_immediate_64 rfl hl (by decide) rfl (fun ls hl => ?_)
              refine lv_iinc (k := 4) (v := l4 + 1) (lv' := [(4, .int (l4 + 1)), (3, .int 1), (0, .ref (q 0)), (1, .int l1), (2, .int l2)]) hx hb dm_immediate_65 hl rfl (congrArg (fun j => l4 + j) (by decide)) (by decide) rfl (fun ls hl => ?_)
              refine lv_goto (tgt := 20) hx hb dm_immediate_68 (by decide) ?_
              exact ih l1 l2 1 (l4 + 1) (lv_sub hl [2, 3, 4, 1, 0] rfl) hP hD hS u20 h kx
            · have h := (if_neg hc).symm.trans h
              refine lv_aload_n hx hb dm_immediate_49 rfl (lv_at hl 0 rfl) ?_
              refine lv_iload hx hb dm_immediate_50 (lv_at hl 4 rfl) ?_
              refine lv_iload_n hx hb dm_immediate_52 rfl (lv_at hl 2 rfl) ?_
              obtain ⟨v53, h53, h⟩ := hq_bind h
              refine km_dominates l4 l2 v53 h53 hx hb hml hts hown hK hP hD hS wi_77 (by rw [hRm]; exact ⟨Nat.le_of_ble_eq_true rfl, Nat.le_of_ble_eq_true rfl⟩) hl.1 (Nat.le_of_ble_eq_true rfl) dm_immediate_53 ⟨Nat.zero_le _, Nat.zero_le _⟩ (fun H locs hP hD hS => ?_)
              refine lv_if_eq (tgt := 63) hx hb dm_immediate_56 (by decide) (fun hc => ?_) (fun hc => ?_)
              · have h := (if_pos hc).symm.trans h
                refine lv_iconst (v := 0) hx hb dm_immediate_63 (by decide) ?_
                refine lv_istore_n (lv' := [(3, .int 0), (0, .ref (q 0)), (1, .int l1), (2, .int l2), (4, .int l4)]) hx hb dm_immediate_64 rfl hl (by decide) rfl (fun ls hl => ?_)
                refine lv_iinc (k := 4) (v := l4 + 1) (lv' := [(4, .int (l4 + 1)), (3, .int 0), (0, .ref (q 0)), (1, .int l1), (2, .int l2)]) hx hb dm_immediate_65 hl rfl (congrArg (fun j => l4 + j) (by decide)) (by decide) rfl (fun ls hl => ?_)
                refine lv_goto (tgt := 20) hx hb dm_immediate_68 (by decide) ?_
                exact ih l1 l2 0 (l4 + 1) (lv_sub hl [2, 3, 4, 1, 0] rfl) hP hD hS u20 h kx
              · have h := (if_neg hc).symm.trans h
                refine lv_iconst (v := 1) hx hb dm_immediate_59 (by decide) ?_
                refine lv_goto (tgt := 64) hx hb dm_immediate_60 (by decide) ?_
                refine lv_istore_n (lv' := [(3, .int 1), (0, .ref (q 0)), (1, .int l1), (2, .int l2), (4, .int l4)]) hx hb dm_immediate_64 rfl hl (by decide) rfl (fun ls hl => ?_)
                refine lv_iinc (k := 4) (v := l4 + 1) (lv' := [(4, .int (l4 + 1)), (3, .int 1), (0, .ref (q 0)), (1, .int l1), (2, .int l2)]) hx hb dm_immediate_65 hl rfl (congrArg (fun j => l4 + j) (by decide)) (by decide) rfl (fun ls hl => ?_)
                refine lv_goto (tgt := 20) hx hb dm_immediate_68 (by decide) ?_
                exact ih l1 l2 1 (l4 + 1) (lv_sub hl [2, 3, 4, 1, 0] rfl) hP hD hS u20 h kx
  have L2 : ∀ (n : Nat) (l1 : Int32) (l2 : Int32) {ls : Array Slot} {H : Heap} {locs : List Loc}, lv_has ls 5 [(0, .ref (q 0)), (1, .int l1), (2, .int l2)] → va_P D hq_cl (hm_w q cI cZ cL f_classes a_parent f_objects a_kindOf a_size a_root a_slotKind a_slot a_kept f_count a_code a_number f_want f_compared f_open a_opened f_rowCount a_rowKind a_rowValue f_many a_list f_seen f_fail f_level a_from a_eAt a_whereAt a_source a_distinct a_keeps f_at f_self f_brackets f_values a_vKind a_v f_waiting a_waits ++ z) H → va_D A (hm_w q cI cZ cL f_classes a_parent f_objects a_kindOf a_size a_root a_slotKind a_slot a_kept f_count a_code a_number f_want f_compared f_open a_opened f_rowCount a_rowKind a_rowValue f_many a_list f_seen f_fail f_level a_from a_eAt a_whereAt a_source a_distinct a_keeps f_at f_self f_brackets f_values a_vKind a_v f_waiting a_waits ++ z) → va_S A s.heap H locs → sm_immediate_L2 n l1 l2 f_objects a_kept = some ur → W p l e R s m args below meth c H locs 0 0 Q (F0 m 2 ls []) := by
    intro n
    induction n with
    | zero =>
      intro l1 l2 ls H locs hl hP hD hS h
      have h : (none : Option (Int32)) = some ur := h
      cases h
    | succ n ih =>
      intro l1 l2 ls H locs hl hP hD hS h
      have h : sm_immediate_L2_B (sm_immediate_L2 n) l1 l2 f_objects a_kept = some ur := h
      unfold sm_immediate_L2_B at h
      have J71 : ∀ (l1 : Int32) (l2 : Int32) (l3 : Int32) {ls : Array Slot} {H : Heap} {locs : List Loc}, lv_has ls 5 [(0, .ref (q 0)), (1, .int l1), (2, .int l2), (3, .int l3)] → va_P D hq_cl (hm_w q cI cZ cL f_classes a_parent f_objects a_kindOf a_size a_root a_slotKind a_slot a_kept f_count a_code a_number f_want f_compared f_open a_opened f_rowCount a_rowKind a_rowValue f_many a_list f_seen f_fail f_level a_from a_eAt a_whereAt a_source a_distinct a_keeps f_at f_self f_brackets f_values a_vKind a_v f_waiting a_waits ++ z) H → va_D A (hm_w q cI cZ cL f_classes a_parent f_objects a_kindOf a_size a_root a_slotKind a_slot a_kept f_count a_code a_number f_want f_compared f_open a_opened f_rowCount a_rowKind a_rowValue f_many a_list f_seen f_fail f_level a_from a_eAt a_whereAt a_source a_distinct a_keeps f_at f_self f_brackets f_values a_vKind a_v f_waiting a_waits ++ z) → va_S A s.heap H locs → sm_immediate_J71 (sm_immediate_L2 n) l1 l2 l3 f_objects a_kept = some ur → W p l e R s m args below meth c H locs 0 0 Q (F0 m 71 ls []) := by
        intro l1 l2 l3 ls H locs hl hP hD hS h
        unfold sm_immediate_J71 at h
        refine lv_iload_n hx hb dm_immediate_71 rfl (lv_at hl 3 rfl) ?_
        refine lv_if_eq (tgt := 77) hx hb dm_immediate_72 (by decide) (fun hc => ?_) (fun hc => ?_)
        · have h := (if_pos hc).symm.trans h
          refine lv_iinc (k := 2) (v := l2 + 1) (lv' := [(2, .int (l2 + 1)), (0, .ref (q 0)), (1, .int l1), (3, .int l3)]) hx hb dm_immediate_77 hl rfl (congrArg (fun j => l2 + j) (by decide)) (by decide) rfl (fun ls hl => ?_)
          refine lv_goto (tgt := 2) hx hb dm_immediate_80 (by decide) ?_
          exact ih l1 (l2 + 1) (lv_sub hl [1, 2, 0] rfl) hP hD hS h
        · have h := (if_neg hc).symm.trans h
          refine lv_iload_n hx hb dm_immediate_75 rfl (lv_at hl 2 rfl) ?_
          have h := Option.some.inj h
          exact hq_iret hx hb hr hlocks hQ hK hP hD hS (by rw [← h]) rfl dm_immediate_76
      refine lv_iload_n hx hb dm_immediate_2 rfl (lv_at hl 2 rfl) ?_
      refine lv_aload_n hx hb dm_immediate_3 rfl (lv_at hl 0 rfl) ?_
      refine gm_0_objects hx hb hts hown hK hP wi_68 dm_immediate_4 ?_
      refine lv_icmp_ge (tgt := 83) hx hb dm_immediate_7 (by decide) (fun hc => ?_) (fun hc => ?_)
      · have h := (if_pos hc).symm.trans h
        refine lv_iconst (v := (-1)) hx hb dm_immediate_83 (by decide) ?_
        have h := Option.some.inj h
        exact hq_iret hx hb hr hlocks hQ hK hP hD hS (by rw [← h]) rfl dm_immediate_84
      · have h := (if_neg hc).symm.trans h
        refine lv_aload_n hx hb dm_immediate_10 rfl (lv_at hl 0 rfl) ?_
        refine lv_iload_n hx hb dm_immediate_11 rfl (lv_at hl 2 rfl) ?_
        refine lv_iload_n hx hb dm_immediate_12 rfl (lv_at hl 1 rfl) ?_
        obtain ⟨v13, h13, h⟩ := hq_bind h
        refine km_dominates l2 l1 v13 h13 hx hb hml hts hown hK hP hD hS wi_77 (by rw [hRm]; exact ⟨Nat.le_of_ble_eq_true rfl, Nat.le_of_ble_eq_true rfl⟩) hl.1 (Nat.le_of_ble_eq_true rfl) dm_immediate_13 ⟨Nat.zero_le _, Nat.zero_le _⟩ (fun H locs hP hD hS => ?_)
        refine lv_istore_n (lv' := [(3, .int v13), (0, .ref (q 0)), (1, .int l1), (2, .int l2)]) hx hb dm_immediate_16 rfl hl (by decide) rfl (fun ls hl => ?_)
        refine lv_iconst (v := 0) hx hb dm_immediate_17 (by decide) ?_
        refine lv_istore (lv' := [(4, .int 0), (3, .int v13), (0, .ref (q 0)), (1, .int l1), (2, .int l2)]) hx hb dm_immediate_18 hl (by decide) rfl (fun ls hl => ?_)
        obtain ⟨u20, h20, h⟩ := hq_bind h
        refine L20 kF l1 l2 v13 0 (lv_sub hl [2, 3, 4, 1, 0] rfl) hP hD hS u20 h20 (fun ls H locs hl hP hD hS => ?_)
        exact J71 l1 l2 u20 hl hP hD hS h
  refine lv_iconst (v := 0) hx hb dm_immediate_0 (by decide) ?_
  refine lv_istore_n (lv' := [(2, .int 0), (0, .ref (q 0)), (1, .int l1)]) hx hb dm_immediate_1 rfl hl (by decide) rfl (fun ls hl => ?_)
  exact L2 kF l1 0 (lv_sub hl [1, 2, 0] rfl) hP hD hS h
end
section
variable {p : Program} {l : Launch} {e : Env} {R : Room} {s : State} {m : MethodId} {args : Array Value} {below : List Frame} {meth : Method} {c : Code} {H H0 : Heap} {locs : List Loc} {cells slots : Nat} {Q : State → Prop}
variable {cc : ByteArray} {pc idx nC : Nat} {ls : Array Slot} {rest : List Value} {D : va_G} {A : Nat → Prop} {own : String} {q : Nat → Nat} {cI cZ cL : ClassId} {z w : va_W}
variable {f_classes f_objects f_count f_want f_compared f_open f_rowCount f_many f_seen f_fail f_level f_at f_self f_brackets f_values f_waiting : Int32}
variable {a_parent a_kindOf a_size a_root a_slotKind a_slot a_kept a_code a_number a_opened a_rowKind a_rowValue a_list a_from a_eAt a_whereAt a_source a_distinct a_keeps a_vKind a_v a_waits : Nat → Int32}
theorem km_immediate (l1 : Int32) (ur : Int32) (hu : sm_immediate l1 f_objects a_kept = some ur) (hx : p.tables.exec = Jvm.exec) (hb : c.code = cc) (hml : c.maxLocals = nC) (hts : ∀ x ∈ hq_tbl, x.before args s = true) (hown : s.vm.findClass own = some m.cls) (hK : va_K D hq_cl (hq_tys cI cZ cL) s) (hP : va_P D hq_cl (hm_w q cI cZ cL f_classes a_parent f_objects a_kindOf a_size a_root a_slotKind a_slot a_kept f_count a_code a_number f_want f_compared f_open a_opened f_rowCount a_rowKind a_rowValue f_many a_list f_seen f_fail f_level a_from a_eAt a_whereAt a_source a_distinct a_keeps f_at f_self f_brackets f_values a_vKind a_v f_waiting a_waits ++ z) H) (hD : va_D A (hm_w q cI cZ cL f_classes a_parent f_objects a_kindOf a_size a_root a_slotKind a_slot a_kept f_count a_code a_number f_want f_compared f_open a_opened f_rowCount a_rowKind a_rowValue f_many a_list f_seen f_fail f_level a_from a_eAt a_whereAt a_source a_distinct a_keeps f_at f_self f_brackets f_values a_vKind a_v f_waiting a_waits ++ z)) (hS : va_S A H0 H locs) (h1 : Cond.methodLink own idx ym_immediate ∈ hq_tbl) (hR : 1 + 1 ≤ R.frames ∧ 8 + (5 + 11) + 22 ≤ R.locals) (hls : ls.size = nC) (hW : (rest.map fun v => v.category).sum ≤ 8) (hdg : decode cc pc = .ok (.invokevirtual idx, 3)) (hf : cells + 0 ≤ R.cells ∧ slots + 0 ≤ R.slots) (kk : ∀ (H1 : Heap) (locs1 : List Loc), va_P D hq_cl (hm_w q cI cZ cL f_classes a_parent f_objects a_kindOf a_size a_root a_slotKind a_slot a_kept f_count a_code a_number f_want f_compared f_open a_opened f_rowCount a_rowKind a_rowValue f_many a_list f_seen f_fail f_level a_from a_eAt a_whereAt a_source a_distinct a_keeps f_at f_self f_brackets f_values a_vKind a_v f_waiting a_waits ++ z) H1 → va_D A (hm_w q cI cZ cL f_classes a_parent f_objects a_kindOf a_size a_root a_slotKind a_slot a_kept f_count a_code a_number f_want f_compared f_open a_opened f_rowCount a_rowKind a_rowValue f_many a_list f_seen f_fail f_level a_from a_eAt a_whereAt a_source a_distinct a_keeps f_at f_self f_brackets f_values a_vKind a_v f_waiting a_waits ++ z) → va_S A H0 H1 locs1 → W p l e R s m args below meth c H1 locs1 cells slots Q (F0 m (pc + 3) ls (.int ur :: rest))) : W p l e R s m args below meth c H locs cells slots Q (F0 m pc ls (.int l1 :: .ref (q 0) :: rest)) :=
  hq_callV (q0 := 0) hx hb hml hown hts hK hP hD hS (cm_immediate l1 ur hu) rfl rfl h1 wi_364 wi_365 wi_338 wi_366 1 rfl (by decide +kernel) ⟨rfl, rfl⟩ hR hls rfl hW hdg hf kk
end
theorem dm_dominator_0 : decode bm_dominator 0 = .ok (.aload_n 0, 1) := by decide +kernel
theorem dm_dominator_1 : decode bm_dominator 1 = .ok (.iload_n 1, 1) := by decide +kernel
theorem dm_dominator_2 : decode bm_dominator 2 = .ok (.invokevirtual 84, 3) := by decide +kernel
theorem dm_dominator_5 : decode bm_dominator 5 = .ok (.ifCond .ne 6, 3) := by decide +kernel
theorem dm_dominator_8 : decode bm_dominator 8 = .ok (.bipush (-2), 2) := by decide +kernel
theorem dm_dominator_10 : decode bm_dominator 10 = .ok (.ireturn, 1) := by decide +kernel
theorem dm_dominator_11 : decode bm_dominator 11 = .ok (.aload_n 0, 1) := by decide +kernel
theorem dm_dominator_12 : decode bm_dominator 12 = .ok (.invokevirtual 96, 3) := by decide +kernel
theorem dm_dominator_15 : decode bm_dominator 15 = .ok (.aload_n 0, 1) := by decide +kernel
theorem dm_dominator_16 : decode bm_dominator 16 = .ok (.iload_n 1, 1) := by decide +kernel
theorem dm_dominator_17 : decode bm_dominator 17 = .ok (.invokevirtual 99, 3) := by decide +kernel
theorem dm_dominator_20 : decode bm_dominator 20 = .ok (.ireturn, 1) := by decide +kernel
section
variable {l : Launch} {D : va_G} {A : Nat → Prop} {z w : va_W} {q : Nat → Nat} {cI cZ cL : ClassId}
variable {f_classes f_objects f_count f_want f_compared f_open f_rowCount f_many f_seen f_fail f_level f_at f_self f_brackets f_values f_waiting : Int32}
variable {a_parent a_kindOf a_size a_root a_slotKind a_slot a_kept a_code a_number a_opened a_rowKind a_rowValue a_list a_from a_eAt a_whereAt a_source a_distinct a_keeps a_vKind a_v a_waits : Nat → Int32}
set_option maxHeartbeats 4000000 in
set_option maxRecDepth 100000 in
theorem cm_dominator (l1 : Int32) (ur : Int32 × (Nat → Int32)) (h : sm_dominator l1 f_objects a_root a_slotKind a_slot a_kept = some ur) : hq_Ct l ym_dominator bm_dominator 2 (some .int) { frames := 2, cells := 0, slots := 0, locals := 50 } D (hq_tys cI cZ cL) A [.ref (q 0), .int l1] (hm_w q cI cZ cL f_classes a_parent f_objects a_kindOf a_size a_root a_slotKind a_slot a_kept f_count a_code a_number f_want f_compared f_open a_opened f_rowCount a_rowKind a_rowValue f_many a_list f_seen f_fail f_level a_from a_eAt a_whereAt a_source a_distinct a_keeps f_at f_self f_brackets f_values a_vKind a_v f_waiting a_waits ++ z) (hm_w q cI cZ cL f_classes a_parent f_objects a_kindOf a_size a_root a_slotKind a_slot ur.2 f_count a_code a_number f_want f_compared f_open a_opened f_rowCount a_rowKind a_rowValue f_many a_list f_seen f_fail f_level a_from a_eAt a_whereAt a_source a_distinct a_keeps f_at f_self f_brackets f_values a_vKind a_v f_waiting a_waits ++ z) (some (.int ur.1)) 0 0 := by
  refine hq_of (by decide) ?_ (Nat.le_of_ble_eq_true rfl)
  intro p e s m below meth c R args Q hRm hQ hx hb hr hml hts hown hlocks hnm hP hK hD ls hl hS
  have hl : lv_has ls 2 [(0, .ref (q 0)), (1, .int l1)] := hl
  have hown : s.vm.findClass "HeapQueriesModel" = some m.cls := hown
  unfold sm_dominator at h
  refine lv_aload_n hx hb dm_dominator_0 rfl (lv_at hl 0 rfl) ?_
  refine lv_iload_n hx hb dm_dominator_1 rfl (lv_at hl 1 rfl) ?_
  refine km_there l1 (sm_there l1 f_objects) rfl hx hb hml hts hown hK hP hD hS wi_73 (by rw [hRm]; exact ⟨Nat.le_of_ble_eq_true rfl, Nat.le_of_ble_eq_true rfl⟩) hl.1 (Nat.le_of_ble_eq_true rfl) dm_dominator_2 ⟨Nat.zero_le _, Nat.zero_le _⟩ (fun H locs hP hD hS => ?_)
  refine lv_if_ne (tgt := 11) hx hb dm_dominator_5 (by decide) (fun hc => ?_) (fun hc => ?_)
  · have h := (if_neg hc).symm.trans h
    refine lv_aload_n hx hb dm_dominator_11 rfl (lv_at hl 0 rfl) ?_
    obtain ⟨v12, h12, h⟩ := hq_bind h
    refine km_keepSets  v12 h12 hx hb hml hts hown hK hP hD hS wi_78 (by rw [hRm]; exact ⟨Nat.le_of_ble_eq_true rfl, Nat.le_of_ble_eq_true rfl⟩) hl.1 (Nat.le_of_ble_eq_true rfl) dm_dominator_12 ⟨Nat.zero_le _, Nat.zero_le _⟩ (fun H locs hP hD hS => ?_)
    refine lv_aload_n hx hb dm_dominator_15 rfl (lv_at hl 0 rfl) ?_
    refine lv_iload_n hx hb dm_dominator_16 rfl (lv_at hl 1 rfl) ?_
    obtain ⟨v17, h17, h⟩ := hq_bind h
    refine km_immediate l1 v17 h17 hx hb hml hts hown hK hP hD hS wi_79 (by rw [hRm]; exact ⟨Nat.le_of_ble_eq_true rfl, Nat.le_of_ble_eq_true rfl⟩) hl.1 (Nat.le_of_ble_eq_true rfl) dm_dominator_17 ⟨Nat.zero_le _, Nat.zero_le _⟩ (fun H locs hP hD hS => ?_)
    have h := Option.some.inj h
    exact hq_iret hx hb hr hlocks hQ hK hP hD hS (by rw [← h]) (by rw [← h]) dm_dominator_20
  · have h := (if_pos hc).symm.trans h
    refine lv_bipush (v := (-2)) hx hb dm_dominator_8 (by decide) ?_
    have h := Option.some.inj h
    exact hq_iret hx hb hr hlocks hQ hK hP hD hS (by rw [← h]) (by rw [← h]) dm_dominator_10
end
section
variable {p : Program} {l : Launch} {e : Env} {R : Room} {s : State} {m : MethodId} {args : Array Value} {below : List Frame} {meth : Method} {c : Code} {H H0 : Heap} {locs : List Loc} {cells slots : Nat} {Q : State → Prop}
variable {cc : ByteArray} {pc idx nC : Nat} {ls : Array Slot} {rest : List Value} {D : va_G} {A : Nat → Prop} {own : String} {q : Nat → Nat} {cI cZ cL : ClassId} {z w : va_W}
variable {f_classes f_objects f_count f_want f_compared f_open f_rowCount f_many f_seen f_fail f_level f_at f_self f_brackets f_values f_waiting : Int32}
variable {a_parent a_kindOf a_size a_root a_slotKind a_slot a_kept a_code a_number a_opened a_rowKind a_rowValue a_list a_from a_eAt a_whereAt a_source a_distinct a_keeps a_vKind a_v a_waits : Nat → Int32}
theorem km_dominator (l1 : Int32) (ur : Int32 × (Nat → Int32)) (hu : sm_dominator l1 f_objects a_root a_slotKind a_slot a_kept = some ur) (hx : p.tables.exec = Jvm.exec) (hb : c.code = cc) (hml : c.maxLocals = nC) (hts : ∀ x ∈ hq_tbl, x.before args s = true) (hown : s.vm.findClass own = some m.cls) (hK : va_K D hq_cl (hq_tys cI cZ cL) s) (hP : va_P D hq_cl (hm_w q cI cZ cL f_classes a_parent f_objects a_kindOf a_size a_root a_slotKind a_slot a_kept f_count a_code a_number f_want f_compared f_open a_opened f_rowCount a_rowKind a_rowValue f_many a_list f_seen f_fail f_level a_from a_eAt a_whereAt a_source a_distinct a_keeps f_at f_self f_brackets f_values a_vKind a_v f_waiting a_waits ++ z) H) (hD : va_D A (hm_w q cI cZ cL f_classes a_parent f_objects a_kindOf a_size a_root a_slotKind a_slot a_kept f_count a_code a_number f_want f_compared f_open a_opened f_rowCount a_rowKind a_rowValue f_many a_list f_seen f_fail f_level a_from a_eAt a_whereAt a_source a_distinct a_keeps f_at f_self f_brackets f_values a_vKind a_v f_waiting a_waits ++ z)) (hS : va_S A H0 H locs) (h1 : Cond.methodLink own idx ym_dominator ∈ hq_tbl) (hR : 2 + 1 ≤ R.frames ∧ 8 + (2 + 11) + 50 ≤ R.locals) (hls : ls.size = nC) (hW : (rest.map fun v => v.category).sum ≤ 8) (hdg : decode cc pc = .ok (.invokevirtual idx, 3)) (hf : cells + 0 ≤ R.cells ∧ slots + 0 ≤ R.slots) (kk : ∀ (H1 : Heap) (locs1 : List Loc), va_P D hq_cl (hm_w q cI cZ cL f_classes a_parent f_objects a_kindOf a_size a_root a_slotKind a_slot ur.2 f_count a_code a_number f_want f_compared f_open a_opened f_rowCount a_rowKind a_rowValue f_many a_list f_seen f_fail f_level a_from a_eAt a_whereAt a_source a_distinct a_keeps f_at f_self f_brackets f_values a_vKind a_v f_waiting a_waits ++ z) H1 → va_D A (hm_w q cI cZ cL f_classes a_parent f_objects a_kindOf a_size a_root a_slotKind a_slot ur.2 f_count a_code a_number f_want f_compared f_open a_opened f_rowCount a_rowKind a_rowValue f_many a_list f_seen f_fail f_level a_from a_eAt a_whereAt a_source a_distinct a_keeps f_at f_self f_brackets f_values a_vKind a_v f_waiting a_waits ++ z) → va_S A H0 H1 locs1 → W p l e R s m args below meth c H1 locs1 cells slots Q (F0 m (pc + 3) ls (.int ur.1 :: rest))) : W p l e R s m args below meth c H locs cells slots Q (F0 m pc ls (.int l1 :: .ref (q 0) :: rest)) :=
  hq_callV (q0 := 0) hx hb hml hown hts hK hP hD hS (cm_dominator l1 ur hu) rfl rfl h1 wi_367 wi_368 wi_338 wi_369 1 rfl (by decide +kernel) ⟨rfl, rfl⟩ hR hls rfl hW hdg hf kk
end
theorem dm_retained_0 : decode bm_retained 0 = .ok (.aload_n 0, 1) := by decide +kernel
theorem dm_retained_1 : decode bm_retained 1 = .ok (.iload_n 1, 1) := by decide +kernel
theorem dm_retained_2 : decode bm_retained 2 = .ok (.invokevirtual 84, 3) := by decide +kernel
theorem dm_retained_5 : decode bm_retained 5 = .ok (.ifCond .ne 5, 3) := by decide +kernel
theorem dm_retained_8 : decode bm_retained 8 = .ok (.iconst (-1), 1) := by decide +kernel
theorem dm_retained_9 : decode bm_retained 9 = .ok (.ireturn, 1) := by decide +kernel
theorem dm_retained_10 : decode bm_retained 10 = .ok (.aload_n 0, 1) := by decide +kernel
theorem dm_retained_11 : decode bm_retained 11 = .ok (.aload_n 0, 1) := by decide +kernel
theorem dm_retained_12 : decode bm_retained 12 = .ok (.iconst 0, 1) := by decide +kernel
theorem dm_retained_13 : decode bm_retained 13 = .ok (.invokevirtual 88, 3) := by decide +kernel
theorem dm_retained_16 : decode bm_retained 16 = .ok (.aload_n 0, 1) := by decide +kernel
theorem dm_retained_17 : decode bm_retained 17 = .ok (.iconst 1, 1) := by decide +kernel
theorem dm_retained_18 : decode bm_retained 18 = .ok (.iload_n 1, 1) := by decide +kernel
theorem dm_retained_19 : decode bm_retained 19 = .ok (.ishl, 1) := by decide +kernel
theorem dm_retained_20 : decode bm_retained 20 = .ok (.invokevirtual 88, 3) := by decide +kernel
theorem dm_retained_23 : decode bm_retained 23 = .ok (.iconst (-1), 1) := by decide +kernel
theorem dm_retained_24 : decode bm_retained 24 = .ok (.ixor, 1) := by decide +kernel
theorem dm_retained_25 : decode bm_retained 25 = .ok (.iand, 1) := by decide +kernel
theorem dm_retained_26 : decode bm_retained 26 = .ok (.invokevirtual 102, 3) := by decide +kernel
theorem dm_retained_29 : decode bm_retained 29 = .ok (.ireturn, 1) := by decide +kernel
section
variable {l : Launch} {D : va_G} {A : Nat → Prop} {z w : va_W} {q : Nat → Nat} {cI cZ cL : ClassId}
variable {f_classes f_objects f_count f_want f_compared f_open f_rowCount f_many f_seen f_fail f_level f_at f_self f_brackets f_values f_waiting : Int32}
variable {a_parent a_kindOf a_size a_root a_slotKind a_slot a_kept a_code a_number a_opened a_rowKind a_rowValue a_list a_from a_eAt a_whereAt a_source a_distinct a_keeps a_vKind a_v a_waits : Nat → Int32}
set_option maxHeartbeats 4000000 in
set_option maxRecDepth 100000 in
theorem cm_retained (l1 : Int32) (ur : Int32) (h : sm_retained l1 f_objects a_size a_root a_slotKind a_slot = some ur) : hq_Ct l ym_retained bm_retained 2 (some .int) { frames := 1, cells := 0, slots := 0, locals := 28 } D (hq_tys cI cZ cL) A [.ref (q 0), .int l1] (hm_w q cI cZ cL f_classes a_parent f_objects a_kindOf a_size a_root a_slotKind a_slot a_kept f_count a_code a_number f_want f_compared f_open a_opened f_rowCount a_rowKind a_rowValue f_many a_list f_seen f_fail f_level a_from a_eAt a_whereAt a_source a_distinct a_keeps f_at f_self f_brackets f_values a_vKind a_v f_waiting a_waits ++ z) (hm_w q cI cZ cL f_classes a_parent f_objects a_kindOf a_size a_root a_slotKind a_slot a_kept f_count a_code a_number f_want f_compared f_open a_opened f_rowCount a_rowKind a_rowValue f_many a_list f_seen f_fail f_level a_from a_eAt a_whereAt a_source a_distinct a_keeps f_at f_self f_brackets f_values a_vKind a_v f_waiting a_waits ++ z) (some (.int ur)) 0 0 := by
  refine hq_of (by decide) ?_ (Nat.le_of_ble_eq_true rfl)
  intro p e s m below meth c R args Q hRm hQ hx hb hr hml hts hown hlocks hnm hP hK hD ls hl hS
  have hl : lv_has ls 2 [(0, .ref (q 0)), (1, .int l1)] := hl
  have hown : s.vm.findClass "HeapQueriesModel" = some m.cls := hown
  unfold sm_retained at h
  refine lv_aload_n hx hb dm_retained_0 rfl (lv_at hl 0 rfl) ?_
  refine lv_iload_n hx hb dm_retained_1 rfl (lv_at hl 1 rfl) ?_
  refine km_there l1 (sm_there l1 f_objects) rfl hx hb hml hts hown hK hP hD hS wi_73 (by rw [hRm]; exact ⟨Nat.le_of_ble_eq_true rfl, Nat.le_of_ble_eq_true rfl⟩) hl.1 (Nat.le_of_ble_eq_true rfl) dm_retained_2 ⟨Nat.zero_le _, Nat.zero_le _⟩ (fun H locs hP hD hS => ?_)
  refine lv_if_ne (tgt := 10) hx hb dm_retained_5 (by decide) (fun hc => ?_) (fun hc => ?_)
  · have h := (if_neg hc).symm.trans h
    refine lv_aload_n hx hb dm_retained_10 rfl (lv_at hl 0 rfl) ?_
    refine lv_aload_n hx hb dm_retained_11 rfl (lv_at hl 0 rfl) ?_
    refine lv_iconst (v := 0) hx hb dm_retained_12 (by decide) ?_
    obtain ⟨v13, h13, h⟩ := hq_bind h
    refine km_reach 0 v13 h13 hx hb hml hts hown hK hP hD hS wi_76 (by rw [hRm]; exact ⟨Nat.le_of_ble_eq_true rfl, Nat.le_of_ble_eq_true rfl⟩) hl.1 (Nat.le_of_ble_eq_true rfl) dm_retained_13 ⟨Nat.zero_le _, Nat.zero_le _⟩ (fun H locs hP hD hS => ?_)
    refine lv_aload_n hx hb dm_retained_16 rfl (lv_at hl 0 rfl) ?_
    refine lv_iconst (v := 1) hx hb dm_retained_17 (by decide) ?_
    refine lv_iload_n hx hb dm_retained_18 rfl (lv_at hl 1 rfl) ?_
    refine lv_ishl hx hb dm_retained_19 ?_
    obtain ⟨v20, h20, h⟩ := hq_bind h
    refine km_reach ((1 : Int32) <<< (l1 &&& 31)) v20 h20 hx hb hml hts hown hK hP hD hS wi_76 (by rw [hRm]; exact ⟨Nat.le_of_ble_eq_true rfl, Nat.le_of_ble_eq_true rfl⟩) hl.1 (Nat.le_of_ble_eq_true rfl) dm_retained_20 ⟨Nat.zero_le _, Nat.zero_le _⟩ (fun H locs hP hD hS => ?_)
    refine lv_iconst (v := (-1)) hx hb dm_retained_23 (by decide) ?_
    refine lv_ixor hx hb dm_retained_24 ?_
    refine lv_iand hx hb dm_retained_25 ?_
    obtain ⟨v26, h26, h⟩ := hq_bind h
    refine km_sum (v13 &&& (v20 ^^^ (-1))) v26 h26 hx hb hml hts hown hK hP hD hS wi_80 (by rw [hRm]; exact ⟨Nat.le_of_ble_eq_true rfl, Nat.le_of_ble_eq_true rfl⟩) hl.1 (Nat.le_of_ble_eq_true rfl) dm_retained_26 ⟨Nat.zero_le _, Nat.zero_le _⟩ (fun H locs hP hD hS => ?_)
    have h := Option.some.inj h
    exact hq_iret hx hb hr hlocks hQ hK hP hD hS (by rw [← h]) rfl dm_retained_29
  · have h := (if_pos hc).symm.trans h
    refine lv_iconst (v := (-1)) hx hb dm_retained_8 (by decide) ?_
    have h := Option.some.inj h
    exact hq_iret hx hb hr hlocks hQ hK hP hD hS (by rw [← h]) rfl dm_retained_9
end
section
variable {p : Program} {l : Launch} {e : Env} {R : Room} {s : State} {m : MethodId} {args : Array Value} {below : List Frame} {meth : Method} {c : Code} {H H0 : Heap} {locs : List Loc} {cells slots : Nat} {Q : State → Prop}
variable {cc : ByteArray} {pc idx nC : Nat} {ls : Array Slot} {rest : List Value} {D : va_G} {A : Nat → Prop} {own : String} {q : Nat → Nat} {cI cZ cL : ClassId} {z w : va_W}
variable {f_classes f_objects f_count f_want f_compared f_open f_rowCount f_many f_seen f_fail f_level f_at f_self f_brackets f_values f_waiting : Int32}
variable {a_parent a_kindOf a_size a_root a_slotKind a_slot a_kept a_code a_number a_opened a_rowKind a_rowValue a_list a_from a_eAt a_whereAt a_source a_distinct a_keeps a_vKind a_v a_waits : Nat → Int32}
theorem km_retained (l1 : Int32) (ur : Int32) (hu : sm_retained l1 f_objects a_size a_root a_slotKind a_slot = some ur) (hx : p.tables.exec = Jvm.exec) (hb : c.code = cc) (hml : c.maxLocals = nC) (hts : ∀ x ∈ hq_tbl, x.before args s = true) (hown : s.vm.findClass own = some m.cls) (hK : va_K D hq_cl (hq_tys cI cZ cL) s) (hP : va_P D hq_cl (hm_w q cI cZ cL f_classes a_parent f_objects a_kindOf a_size a_root a_slotKind a_slot a_kept f_count a_code a_number f_want f_compared f_open a_opened f_rowCount a_rowKind a_rowValue f_many a_list f_seen f_fail f_level a_from a_eAt a_whereAt a_source a_distinct a_keeps f_at f_self f_brackets f_values a_vKind a_v f_waiting a_waits ++ z) H) (hD : va_D A (hm_w q cI cZ cL f_classes a_parent f_objects a_kindOf a_size a_root a_slotKind a_slot a_kept f_count a_code a_number f_want f_compared f_open a_opened f_rowCount a_rowKind a_rowValue f_many a_list f_seen f_fail f_level a_from a_eAt a_whereAt a_source a_distinct a_keeps f_at f_self f_brackets f_values a_vKind a_v f_waiting a_waits ++ z)) (hS : va_S A H0 H locs) (h1 : Cond.methodLink own idx ym_retained ∈ hq_tbl) (hR : 1 + 1 ≤ R.frames ∧ 8 + (2 + 11) + 28 ≤ R.locals) (hls : ls.size = nC) (hW : (rest.map fun v => v.category).sum ≤ 8) (hdg : decode cc pc = .ok (.invokevirtual idx, 3)) (hf : cells + 0 ≤ R.cells ∧ slots + 0 ≤ R.slots) (kk : ∀ (H1 : Heap) (locs1 : List Loc), va_P D hq_cl (hm_w q cI cZ cL f_classes a_parent f_objects a_kindOf a_size a_root a_slotKind a_slot a_kept f_count a_code a_number f_want f_compared f_open a_opened f_rowCount a_rowKind a_rowValue f_many a_list f_seen f_fail f_level a_from a_eAt a_whereAt a_source a_distinct a_keeps f_at f_self f_brackets f_values a_vKind a_v f_waiting a_waits ++ z) H1 → va_D A (hm_w q cI cZ cL f_classes a_parent f_objects a_kindOf a_size a_root a_slotKind a_slot a_kept f_count a_code a_number f_want f_compared f_open a_opened f_rowCount a_rowKind a_rowValue f_many a_list f_seen f_fail f_level a_from a_eAt a_whereAt a_source a_distinct a_keeps f_at f_self f_brackets f_values a_vKind a_v f_waiting a_waits ++ z) → va_S A H0 H1 locs1 → W p l e R s m args below meth c H1 locs1 cells slots Q (F0 m (pc + 3) ls (.int ur :: rest))) : W p l e R s m args below meth c H locs cells slots Q (F0 m pc ls (.int l1 :: .ref (q 0) :: rest)) :=
  hq_callV (q0 := 0) hx hb hml hown hts hK hP hD hS (cm_retained l1 ur hu) rfl rfl h1 wi_370 wi_371 wi_338 wi_372 1 rfl (by decide +kernel) ⟨rfl, rfl⟩ hR hls rfl hW hdg hf kk
end
theorem dm_start_0 : decode bm_start 0 = .ok (.aload_n 0, 1) := by decide +kernel
theorem dm_start_1 : decode bm_start 1 = .ok (.iconst 0, 1) := by decide +kernel
theorem dm_start_2 : decode bm_start 2 = .ok (.putfield 105, 3) := by decide +kernel
theorem dm_start_5 : decode bm_start 5 = .ok (.aload_n 0, 1) := by decide +kernel
theorem dm_start_6 : decode bm_start 6 = .ok (.iconst 0, 1) := by decide +kernel
theorem dm_start_7 : decode bm_start 7 = .ok (.putfield 108, 3) := by decide +kernel
theorem dm_start_10 : decode bm_start 10 = .ok (.aload_n 0, 1) := by decide +kernel
theorem dm_start_11 : decode bm_start 11 = .ok (.iconst 0, 1) := by decide +kernel
theorem dm_start_12 : decode bm_start 12 = .ok (.putfield 111, 3) := by decide +kernel
theorem dm_start_15 : decode bm_start 15 = .ok (.return_, 1) := by decide +kernel
section
variable {l : Launch} {D : va_G} {A : Nat → Prop} {z w : va_W} {q : Nat → Nat} {cI cZ cL : ClassId}
variable {f_classes f_objects f_count f_want f_compared f_open f_rowCount f_many f_seen f_fail f_level f_at f_self f_brackets f_values f_waiting : Int32}
variable {a_parent a_kindOf a_size a_root a_slotKind a_slot a_kept a_code a_number a_opened a_rowKind a_rowValue a_list a_from a_eAt a_whereAt a_source a_distinct a_keeps a_vKind a_v a_waits : Nat → Int32}
set_option maxHeartbeats 4000000 in
set_option maxRecDepth 100000 in
theorem cm_start  (ur : Int32 × Int32 × Int32) (h : sm_start f_want f_compared f_open = ur) : hq_Ct l ym_start bm_start 1 none { frames := 0, cells := 0, slots := 0, locals := 0 } D (hq_tys cI cZ cL) A [.ref (q 0)] (hm_w q cI cZ cL f_classes a_parent f_objects a_kindOf a_size a_root a_slotKind a_slot a_kept f_count a_code a_number f_want f_compared f_open a_opened f_rowCount a_rowKind a_rowValue f_many a_list f_seen f_fail f_level a_from a_eAt a_whereAt a_source a_distinct a_keeps f_at f_self f_brackets f_values a_vKind a_v f_waiting a_waits ++ z) (hm_w q cI cZ cL f_classes a_parent f_objects a_kindOf a_size a_root a_slotKind a_slot a_kept f_count a_code a_number ur.1 ur.2.1 ur.2.2 a_opened f_rowCount a_rowKind a_rowValue f_many a_list f_seen f_fail f_level a_from a_eAt a_whereAt a_source a_distinct a_keeps f_at f_self f_brackets f_values a_vKind a_v f_waiting a_waits ++ z) none 0 0 := by
  refine hq_of (by decide) ?_ (Nat.le_of_ble_eq_true rfl)
  intro p e s m below meth c R args Q hRm hQ hx hb hr hml hts hown hlocks hnm hP hK hD ls hl hS
  have hl : lv_has ls 1 [(0, .ref (q 0))] := hl
  have hown : s.vm.findClass "HeapQueriesModel" = some m.cls := hown
  unfold sm_start at h
  refine lv_aload_n hx hb dm_start_0 rfl (lv_at hl 0 rfl) ?_
  refine lv_iconst (v := 0) hx hb dm_start_1 (by decide) ?_
  refine pm_0_want hx hb hts hown hK hP hD hS wi_81 dm_start_2 (fun H locs hP hD hS => ?_)
  refine lv_aload_n hx hb dm_start_5 rfl (lv_at hl 0 rfl) ?_
  refine lv_iconst (v := 0) hx hb dm_start_6 (by decide) ?_
  refine pm_0_open hx hb hts hown hK hP hD hS wi_82 dm_start_7 (fun H locs hP hD hS => ?_)
  refine lv_aload_n hx hb dm_start_10 rfl (lv_at hl 0 rfl) ?_
  refine lv_iconst (v := 0) hx hb dm_start_11 (by decide) ?_
  refine pm_0_compared hx hb hts hown hK hP hD hS wi_83 (by decide) dm_start_12 (fun H locs hP hD hS => ?_)
  exact hq_vret hx hb hr hlocks hQ hK hP hD hS rfl (by rw [← h]) dm_start_15
end
section
variable {p : Program} {l : Launch} {e : Env} {R : Room} {s : State} {m : MethodId} {args : Array Value} {below : List Frame} {meth : Method} {c : Code} {H H0 : Heap} {locs : List Loc} {cells slots : Nat} {Q : State → Prop}
variable {cc : ByteArray} {pc idx nC : Nat} {ls : Array Slot} {rest : List Value} {D : va_G} {A : Nat → Prop} {own : String} {q : Nat → Nat} {cI cZ cL : ClassId} {z w : va_W}
variable {f_classes f_objects f_count f_want f_compared f_open f_rowCount f_many f_seen f_fail f_level f_at f_self f_brackets f_values f_waiting : Int32}
variable {a_parent a_kindOf a_size a_root a_slotKind a_slot a_kept a_code a_number a_opened a_rowKind a_rowValue a_list a_from a_eAt a_whereAt a_source a_distinct a_keeps a_vKind a_v a_waits : Nat → Int32}
theorem km_start  (ur : Int32 × Int32 × Int32) (hu : sm_start f_want f_compared f_open = ur) (hx : p.tables.exec = Jvm.exec) (hb : c.code = cc) (hml : c.maxLocals = nC) (hts : ∀ x ∈ hq_tbl, x.before args s = true) (hown : s.vm.findClass own = some m.cls) (hK : va_K D hq_cl (hq_tys cI cZ cL) s) (hP : va_P D hq_cl (hm_w q cI cZ cL f_classes a_parent f_objects a_kindOf a_size a_root a_slotKind a_slot a_kept f_count a_code a_number f_want f_compared f_open a_opened f_rowCount a_rowKind a_rowValue f_many a_list f_seen f_fail f_level a_from a_eAt a_whereAt a_source a_distinct a_keeps f_at f_self f_brackets f_values a_vKind a_v f_waiting a_waits ++ z) H) (hD : va_D A (hm_w q cI cZ cL f_classes a_parent f_objects a_kindOf a_size a_root a_slotKind a_slot a_kept f_count a_code a_number f_want f_compared f_open a_opened f_rowCount a_rowKind a_rowValue f_many a_list f_seen f_fail f_level a_from a_eAt a_whereAt a_source a_distinct a_keeps f_at f_self f_brackets f_values a_vKind a_v f_waiting a_waits ++ z)) (hS : va_S A H0 H locs) (h1 : Cond.methodLink own idx ym_start ∈ hq_tbl) (hR : 0 + 1 ≤ R.frames ∧ 8 + (1 + 11) + 0 ≤ R.locals) (hls : ls.size = nC) (hW : (rest.map fun v => v.category).sum ≤ 8) (hdg : decode cc pc = .ok (.invokevirtual idx, 3)) (hf : cells + 0 ≤ R.cells ∧ slots + 0 ≤ R.slots) (kk : ∀ (H1 : Heap) (locs1 : List Loc), va_P D hq_cl (hm_w q cI cZ cL f_classes a_parent f_objects a_kindOf a_size a_root a_slotKind a_slot a_kept f_count a_code a_number ur.1 ur.2.1 ur.2.2 a_opened f_rowCount a_rowKind a_rowValue f_many a_list f_seen f_fail f_level a_from a_eAt a_whereAt a_source a_distinct a_keeps f_at f_self f_brackets f_values a_vKind a_v f_waiting a_waits ++ z) H1 → va_D A (hm_w q cI cZ cL f_classes a_parent f_objects a_kindOf a_size a_root a_slotKind a_slot a_kept f_count a_code a_number ur.1 ur.2.1 ur.2.2 a_opened f_rowCount a_rowKind a_rowValue f_many a_list f_seen f_fail f_level a_from a_eAt a_whereAt a_source a_distinct a_keeps f_at f_self f_brackets f_values a_vKind a_v f_waiting a_waits ++ z) → va_S A H0 H1 locs1 → W p l e R s m args below meth c H1 locs1 cells slots Q (F0 m (pc + 3) ls (rest))) : W p l e R s m args below meth c H locs cells slots Q (F0 m pc ls (.ref (q 0) :: rest)) :=
  hq_callV (q0 := 0) hx hb hml hown hts hK hP hD hS (cm_start  ur hu) rfl rfl h1 wi_373 wi_374 wi_338 wi_375 0 rfl (by decide +kernel) ⟨rfl, rfl⟩ hR hls rfl hW hdg hf kk
end
theorem dm_push_0 : decode bm_push 0 = .ok (.aload_n 0, 1) := by decide +kernel
theorem dm_push_1 : decode bm_push 1 = .ok (.getfield 38, 3) := by decide +kernel
theorem dm_push_4 : decode bm_push 4 = .ok (.aload_n 0, 1) := by decide +kernel
theorem dm_push_5 : decode bm_push 5 = .ok (.getfield 108, 3) := by decide +kernel
theorem dm_push_8 : decode bm_push 8 = .ok (.iload_n 1, 1) := by decide +kernel
theorem dm_push_9 : decode bm_push 9 = .ok (.iastore, 1) := by decide +kernel
theorem dm_push_10 : decode bm_push 10 = .ok (.aload_n 0, 1) := by decide +kernel
theorem dm_push_11 : decode bm_push 11 = .ok (.dup, 1) := by decide +kernel
theorem dm_push_12 : decode bm_push 12 = .ok (.getfield 108, 3) := by decide +kernel
theorem dm_push_15 : decode bm_push 15 = .ok (.iconst 1, 1) := by decide +kernel
theorem dm_push_16 : decode bm_push 16 = .ok (.iadd, 1) := by decide +kernel
theorem dm_push_17 : decode bm_push 17 = .ok (.putfield 108, 3) := by decide +kernel
theorem dm_push_20 : decode bm_push 20 = .ok (.return_, 1) := by decide +kernel
section
variable {l : Launch} {D : va_G} {A : Nat → Prop} {z w : va_W} {q : Nat → Nat} {cI cZ cL : ClassId}
variable {f_classes f_objects f_count f_want f_compared f_open f_rowCount f_many f_seen f_fail f_level f_at f_self f_brackets f_values f_waiting : Int32}
variable {a_parent a_kindOf a_size a_root a_slotKind a_slot a_kept a_code a_number a_opened a_rowKind a_rowValue a_list a_from a_eAt a_whereAt a_source a_distinct a_keeps a_vKind a_v a_waits : Nat → Int32}
set_option maxHeartbeats 4000000 in
set_option maxRecDepth 100000 in
theorem cm_push (l1 : Int32) (ur : Int32 × (Nat → Int32)) (h : sm_push l1 f_open a_opened = some ur) : hq_Ct l ym_push bm_push 2 none { frames := 0, cells := 0, slots := 0, locals := 0 } D (hq_tys cI cZ cL) A [.ref (q 0), .int l1] (hm_w q cI cZ cL f_classes a_parent f_objects a_kindOf a_size a_root a_slotKind a_slot a_kept f_count a_code a_number f_want f_compared f_open a_opened f_rowCount a_rowKind a_rowValue f_many a_list f_seen f_fail f_level a_from a_eAt a_whereAt a_source a_distinct a_keeps f_at f_self f_brackets f_values a_vKind a_v f_waiting a_waits ++ z) (hm_w q cI cZ cL f_classes a_parent f_objects a_kindOf a_size a_root a_slotKind a_slot a_kept f_count a_code a_number f_want f_compared ur.1 ur.2 f_rowCount a_rowKind a_rowValue f_many a_list f_seen f_fail f_level a_from a_eAt a_whereAt a_source a_distinct a_keeps f_at f_self f_brackets f_values a_vKind a_v f_waiting a_waits ++ z) none 0 0 := by
  refine hq_of (by decide) ?_ (Nat.le_of_ble_eq_true rfl)
  intro p e s m below meth c R args Q hRm hQ hx hb hr hml hts hown hlocks hnm hP hK hD ls hl hS
  have hl : lv_has ls 2 [(0, .ref (q 0)), (1, .int l1)] := hl
  have hown : s.vm.findClass "HeapQueriesModel" = some m.cls := hown
  unfold sm_push at h
  refine lv_aload_n hx hb dm_push_0 rfl (lv_at hl 0 rfl) ?_
  refine gm_0_opened hx hb hts hown hK hP wi_84 dm_push_1 ?_
  refine lv_aload_n hx hb dm_push_4 rfl (lv_at hl 0 rfl) ?_
  refine gm_0_open hx hb hts hown hK hP wi_82 dm_push_5 ?_
  refine lv_iload_n hx hb dm_push_8 rfl (lv_at hl 1 rfl) ?_
  obtain ⟨hin, h⟩ := hq_idx h
  refine tm_10 hx hb hK hP hD hS hin dm_push_9 (fun H locs hP hD hS => ?_)
  refine lv_aload_n hx hb dm_push_10 rfl (lv_at hl 0 rfl) ?_
  refine lv_dup hx hb dm_push_11 rfl ?_
  refine gm_0_open hx hb hts hown hK hP wi_82 dm_push_12 ?_
  refine lv_iconst (v := 1) hx hb dm_push_15 (by decide) ?_
  refine lv_iadd hx hb dm_push_16 ?_
  refine pm_0_open hx hb hts hown hK hP hD hS wi_82 dm_push_17 (fun H locs hP hD hS => ?_)
  have h := Option.some.inj h
  exact hq_vret hx hb hr hlocks hQ hK hP hD hS rfl (by rw [← h]) dm_push_20
end
section
variable {p : Program} {l : Launch} {e : Env} {R : Room} {s : State} {m : MethodId} {args : Array Value} {below : List Frame} {meth : Method} {c : Code} {H H0 : Heap} {locs : List Loc} {cells slots : Nat} {Q : State → Prop}
variable {cc : ByteArray} {pc idx nC : Nat} {ls : Array Slot} {rest : List Value} {D : va_G} {A : Nat → Prop} {own : String} {q : Nat → Nat} {cI cZ cL : ClassId} {z w : va_W}
variable {f_classes f_objects f_count f_want f_compared f_open f_rowCount f_many f_seen f_fail f_level f_at f_self f_brackets f_values f_waiting : Int32}
variable {a_parent a_kindOf a_size a_root a_slotKind a_slot a_kept a_code a_number a_opened a_rowKind a_rowValue a_list a_from a_eAt a_whereAt a_source a_distinct a_keeps a_vKind a_v a_waits : Nat → Int32}
theorem km_push (l1 : Int32) (ur : Int32 × (Nat → Int32)) (hu : sm_push l1 f_open a_opened = some ur) (hx : p.tables.exec = Jvm.exec) (hb : c.code = cc) (hml : c.maxLocals = nC) (hts : ∀ x ∈ hq_tbl, x.before args s = true) (hown : s.vm.findClass own = some m.cls) (hK : va_K D hq_cl (hq_tys cI cZ cL) s) (hP : va_P D hq_cl (hm_w q cI cZ cL f_classes a_parent f_objects a_kindOf a_size a_root a_slotKind a_slot a_kept f_count a_code a_number f_want f_compared f_open a_opened f_rowCount a_rowKind a_rowValue f_many a_list f_seen f_fail f_level a_from a_eAt a_whereAt a_source a_distinct a_keeps f_at f_self f_brackets f_values a_vKind a_v f_waiting a_waits ++ z) H) (hD : va_D A (hm_w q cI cZ cL f_classes a_parent f_objects a_kindOf a_size a_root a_slotKind a_slot a_kept f_count a_code a_number f_want f_compared f_open a_opened f_rowCount a_rowKind a_rowValue f_many a_list f_seen f_fail f_level a_from a_eAt a_whereAt a_source a_distinct a_keeps f_at f_self f_brackets f_values a_vKind a_v f_waiting a_waits ++ z)) (hS : va_S A H0 H locs) (h1 : Cond.methodLink own idx ym_push ∈ hq_tbl) (hR : 0 + 1 ≤ R.frames ∧ 8 + (2 + 11) + 0 ≤ R.locals) (hls : ls.size = nC) (hW : (rest.map fun v => v.category).sum ≤ 8) (hdg : decode cc pc = .ok (.invokevirtual idx, 3)) (hf : cells + 0 ≤ R.cells ∧ slots + 0 ≤ R.slots) (kk : ∀ (H1 : Heap) (locs1 : List Loc), va_P D hq_cl (hm_w q cI cZ cL f_classes a_parent f_objects a_kindOf a_size a_root a_slotKind a_slot a_kept f_count a_code a_number f_want f_compared ur.1 ur.2 f_rowCount a_rowKind a_rowValue f_many a_list f_seen f_fail f_level a_from a_eAt a_whereAt a_source a_distinct a_keeps f_at f_self f_brackets f_values a_vKind a_v f_waiting a_waits ++ z) H1 → va_D A (hm_w q cI cZ cL f_classes a_parent f_objects a_kindOf a_size a_root a_slotKind a_slot a_kept f_count a_code a_number f_want f_compared ur.1 ur.2 f_rowCount a_rowKind a_rowValue f_many a_list f_seen f_fail f_level a_from a_eAt a_whereAt a_source a_distinct a_keeps f_at f_self f_brackets f_values a_vKind a_v f_waiting a_waits ++ z) → va_S A H0 H1 locs1 → W p l e R s m args below meth c H1 locs1 cells slots Q (F0 m (pc + 3) ls (rest))) : W p l e R s m args below meth c H locs cells slots Q (F0 m pc ls (.int l1 :: .ref (q 0) :: rest)) :=
  hq_callV (q0 := 0) hx hb hml hown hts hK hP hD hS (cm_push l1 ur hu) rfl rfl h1 wi_376 wi_377 wi_338 wi_378 1 rfl (by decide +kernel) ⟨rfl, rfl⟩ hR hls rfl hW hdg hf kk
end
theorem dm_becomes_0 : decode bm_becomes 0 = .ok (.aload_n 0, 1) := by decide +kernel
theorem dm_becomes_1 : decode bm_becomes 1 = .ok (.iload_n 1, 1) := by decide +kernel
theorem dm_becomes_2 : decode bm_becomes 2 = .ok (.putfield 105, 3) := by decide +kernel
theorem dm_becomes_5 : decode bm_becomes 5 = .ok (.iconst 1, 1) := by decide +kernel
theorem dm_becomes_6 : decode bm_becomes 6 = .ok (.ireturn, 1) := by decide +kernel
section
variable {l : Launch} {D : va_G} {A : Nat → Prop} {z w : va_W} {q : Nat → Nat} {cI cZ cL : ClassId}
variable {f_classes f_objects f_count f_want f_compared f_open f_rowCount f_many f_seen f_fail f_level f_at f_self f_brackets f_values f_waiting : Int32}
variable {a_parent a_kindOf a_size a_root a_slotKind a_slot a_kept a_code a_number a_opened a_rowKind a_rowValue a_list a_from a_eAt a_whereAt a_source a_distinct a_keeps a_vKind a_v a_waits : Nat → Int32}
set_option maxHeartbeats 4000000 in
set_option maxRecDepth 100000 in
theorem cm_becomes (l1 : Int32) (ur : Int32 × Int32) (h : sm_becomes l1 f_want = ur) : hq_Ct l ym_becomes bm_becomes 2 (some .boolean) { frames := 0, cells := 0, slots := 0, locals := 0 } D (hq_tys cI cZ cL) A [.ref (q 0), .int l1] (hm_w q cI cZ cL f_classes a_parent f_objects a_kindOf a_size a_root a_slotKind a_slot a_kept f_count a_code a_number f_want f_compared f_open a_opened f_rowCount a_rowKind a_rowValue f_many a_list f_seen f_fail f_level a_from a_eAt a_whereAt a_source a_distinct a_keeps f_at f_self f_brackets f_values a_vKind a_v f_waiting a_waits ++ z) (hm_w q cI cZ cL f_classes a_parent f_objects a_kindOf a_size a_root a_slotKind a_slot a_kept f_count a_code a_number ur.2 f_compared f_open a_opened f_rowCount a_rowKind a_rowValue f_many a_list f_seen f_fail f_level a_from a_eAt a_whereAt a_source a_distinct a_keeps f_at f_self f_brackets f_values a_vKind a_v f_waiting a_waits ++ z) (some (.int ur.1)) 0 0 := by
  refine hq_of (by decide) ?_ (Nat.le_of_ble_eq_true rfl)
  intro p e s m below meth c R args Q hRm hQ hx hb hr hml hts hown hlocks hnm hP hK hD ls hl hS
  have hl : lv_has ls 2 [(0, .ref (q 0)), (1, .int l1)] := hl
  have hown : s.vm.findClass "HeapQueriesModel" = some m.cls := hown
  unfold sm_becomes at h
  refine lv_aload_n hx hb dm_becomes_0 rfl (lv_at hl 0 rfl) ?_
  refine lv_iload_n hx hb dm_becomes_1 rfl (lv_at hl 1 rfl) ?_
  refine pm_0_want hx hb hts hown hK hP hD hS wi_81 dm_becomes_2 (fun H locs hP hD hS => ?_)
  refine lv_iconst (v := 1) hx hb dm_becomes_5 (by decide) ?_
  exact hq_zret hx hb hr hlocks hQ hK hP hD hS (by decide) (by rw [← h]) (by rw [← h]) dm_becomes_6
end
section
variable {p : Program} {l : Launch} {e : Env} {R : Room} {s : State} {m : MethodId} {args : Array Value} {below : List Frame} {meth : Method} {c : Code} {H H0 : Heap} {locs : List Loc} {cells slots : Nat} {Q : State → Prop}
variable {cc : ByteArray} {pc idx nC : Nat} {ls : Array Slot} {rest : List Value} {D : va_G} {A : Nat → Prop} {own : String} {q : Nat → Nat} {cI cZ cL : ClassId} {z w : va_W}
variable {f_classes f_objects f_count f_want f_compared f_open f_rowCount f_many f_seen f_fail f_level f_at f_self f_brackets f_values f_waiting : Int32}
variable {a_parent a_kindOf a_size a_root a_slotKind a_slot a_kept a_code a_number a_opened a_rowKind a_rowValue a_list a_from a_eAt a_whereAt a_source a_distinct a_keeps a_vKind a_v a_waits : Nat → Int32}
theorem km_becomes (l1 : Int32) (ur : Int32 × Int32) (hu : sm_becomes l1 f_want = ur) (hx : p.tables.exec = Jvm.exec) (hb : c.code = cc) (hml : c.maxLocals = nC) (hts : ∀ x ∈ hq_tbl, x.before args s = true) (hown : s.vm.findClass own = some m.cls) (hK : va_K D hq_cl (hq_tys cI cZ cL) s) (hP : va_P D hq_cl (hm_w q cI cZ cL f_classes a_parent f_objects a_kindOf a_size a_root a_slotKind a_slot a_kept f_count a_code a_number f_want f_compared f_open a_opened f_rowCount a_rowKind a_rowValue f_many a_list f_seen f_fail f_level a_from a_eAt a_whereAt a_source a_distinct a_keeps f_at f_self f_brackets f_values a_vKind a_v f_waiting a_waits ++ z) H) (hD : va_D A (hm_w q cI cZ cL f_classes a_parent f_objects a_kindOf a_size a_root a_slotKind a_slot a_kept f_count a_code a_number f_want f_compared f_open a_opened f_rowCount a_rowKind a_rowValue f_many a_list f_seen f_fail f_level a_from a_eAt a_whereAt a_source a_distinct a_keeps f_at f_self f_brackets f_values a_vKind a_v f_waiting a_waits ++ z)) (hS : va_S A H0 H locs) (h1 : Cond.methodLink own idx ym_becomes ∈ hq_tbl) (hR : 0 + 1 ≤ R.frames ∧ 8 + (2 + 11) + 0 ≤ R.locals) (hls : ls.size = nC) (hW : (rest.map fun v => v.category).sum ≤ 8) (hdg : decode cc pc = .ok (.invokevirtual idx, 3)) (hf : cells + 0 ≤ R.cells ∧ slots + 0 ≤ R.slots) (kk : ∀ (H1 : Heap) (locs1 : List Loc), va_P D hq_cl (hm_w q cI cZ cL f_classes a_parent f_objects a_kindOf a_size a_root a_slotKind a_slot a_kept f_count a_code a_number ur.2 f_compared f_open a_opened f_rowCount a_rowKind a_rowValue f_many a_list f_seen f_fail f_level a_from a_eAt a_whereAt a_source a_distinct a_keeps f_at f_self f_brackets f_values a_vKind a_v f_waiting a_waits ++ z) H1 → va_D A (hm_w q cI cZ cL f_classes a_parent f_objects a_kindOf a_size a_root a_slotKind a_slot a_kept f_count a_code a_number ur.2 f_compared f_open a_opened f_rowCount a_rowKind a_rowValue f_many a_list f_seen f_fail f_level a_from a_eAt a_whereAt a_source a_distinct a_keeps f_at f_self f_brackets f_values a_vKind a_v f_waiting a_waits ++ z) → va_S A H0 H1 locs1 → W p l e R s m args below meth c H1 locs1 cells slots Q (F0 m (pc + 3) ls (.int ur.1 :: rest))) : W p l e R s m args below meth c H locs cells slots Q (F0 m pc ls (.int l1 :: .ref (q 0) :: rest)) :=
  hq_callV (q0 := 0) hx hb hml hown hts hK hP hD hS (cm_becomes l1 ur hu) rfl rfl h1 wi_379 wi_380 wi_338 wi_381 1 rfl (by decide +kernel) ⟨rfl, rfl⟩ hR hls rfl hW hdg hf kk
end
theorem dm_operand_0 : decode bm_operand 0 = .ok (.iload_n 1, 1) := by decide +kernel
theorem dm_operand_1 : decode bm_operand 1 = .ok (.iconst 1, 1) := by decide +kernel
theorem dm_operand_2 : decode bm_operand 2 = .ok (.if_icmp .ne 17, 3) := by decide +kernel
theorem dm_operand_5 : decode bm_operand 5 = .ok (.aload_n 0, 1) := by decide +kernel
theorem dm_operand_6 : decode bm_operand 6 = .ok (.getfield 105, 3) := by decide +kernel
theorem dm_operand_9 : decode bm_operand 9 = .ok (.iconst 1, 1) := by decide +kernel
theorem dm_operand_10 : decode bm_operand 10 = .ok (.if_icmp .ne 9, 3) := by decide +kernel
theorem dm_operand_13 : decode bm_operand 13 = .ok (.aload_n 0, 1) := by decide +kernel
theorem dm_operand_14 : decode bm_operand 14 = .ok (.iconst 2, 1) := by decide +kernel
theorem dm_operand_15 : decode bm_operand 15 = .ok (.invokevirtual 119, 3) := by decide +kernel
theorem dm_operand_18 : decode bm_operand 18 = .ok (.ireturn, 1) := by decide +kernel
theorem dm_operand_19 : decode bm_operand 19 = .ok (.iload_n 1, 1) := by decide +kernel
theorem dm_operand_20 : decode bm_operand 20 = .ok (.iconst 2, 1) := by decide +kernel
theorem dm_operand_21 : decode bm_operand 21 = .ok (.if_icmp .ne 11, 3) := by decide +kernel
theorem dm_operand_24 : decode bm_operand 24 = .ok (.aload_n 0, 1) := by decide +kernel
theorem dm_operand_25 : decode bm_operand 25 = .ok (.getfield 105, 3) := by decide +kernel
theorem dm_operand_28 : decode bm_operand 28 = .ok (.iconst 2, 1) := by decide +kernel
theorem dm_operand_29 : decode bm_operand 29 = .ok (.if_icmp .le 17, 3) := by decide +kernel
theorem dm_operand_32 : decode bm_operand 32 = .ok (.iload_n 1, 1) := by decide +kernel
theorem dm_operand_33 : decode bm_operand 33 = .ok (.bipush 17, 2) := by decide +kernel
theorem dm_operand_35 : decode bm_operand 35 = .ok (.if_icmp .ne 17, 3) := by decide +kernel
theorem dm_operand_38 : decode bm_operand 38 = .ok (.aload_n 0, 1) := by decide +kernel
theorem dm_operand_39 : decode bm_operand 39 = .ok (.getfield 105, 3) := by decide +kernel
theorem dm_operand_42 : decode bm_operand 42 = .ok (.iconst 3, 1) := by decide +kernel
theorem dm_operand_43 : decode bm_operand 43 = .ok (.if_icmp .gt 9, 3) := by decide +kernel
theorem dm_operand_46 : decode bm_operand 46 = .ok (.aload_n 0, 1) := by decide +kernel
theorem dm_operand_47 : decode bm_operand 47 = .ok (.iconst 3, 1) := by decide +kernel
theorem dm_operand_48 : decode bm_operand 48 = .ok (.invokevirtual 119, 3) := by decide +kernel
theorem dm_operand_51 : decode bm_operand 51 = .ok (.ireturn, 1) := by decide +kernel
theorem dm_operand_52 : decode bm_operand 52 = .ok (.iload_n 1, 1) := by decide +kernel
theorem dm_operand_53 : decode bm_operand 53 = .ok (.bipush 10, 2) := by decide +kernel
theorem dm_operand_55 : decode bm_operand 55 = .ok (.if_icmp .lt 15, 3) := by decide +kernel
theorem dm_operand_58 : decode bm_operand 58 = .ok (.iload_n 1, 1) := by decide +kernel
theorem dm_operand_59 : decode bm_operand 59 = .ok (.bipush 12, 2) := by decide +kernel
theorem dm_operand_61 : decode bm_operand 61 = .ok (.if_icmp .gt 9, 3) := by decide +kernel
theorem dm_operand_64 : decode bm_operand 64 = .ok (.aload_n 0, 1) := by decide +kernel
theorem dm_operand_65 : decode bm_operand 65 = .ok (.iconst 5, 1) := by decide +kernel
theorem dm_operand_66 : decode bm_operand 66 = .ok (.invokevirtual 119, 3) := by decide +kernel
theorem dm_operand_69 : decode bm_operand 69 = .ok (.ireturn, 1) := by decide +kernel
theorem dm_operand_70 : decode bm_operand 70 = .ok (.iload_n 1, 1) := by decide +kernel
theorem dm_operand_71 : decode bm_operand 71 = .ok (.bipush 6, 2) := by decide +kernel
theorem dm_operand_73 : decode bm_operand 73 = .ok (.if_icmp .eq 5, 3) := by decide +kernel
theorem dm_operand_76 : decode bm_operand 76 = .ok (.iconst 0, 1) := by decide +kernel
theorem dm_operand_77 : decode bm_operand 77 = .ok (.ireturn, 1) := by decide +kernel
theorem dm_operand_78 : decode bm_operand 78 = .ok (.aload_n 0, 1) := by decide +kernel
theorem dm_operand_79 : decode bm_operand 79 = .ok (.aload_n 0, 1) := by decide +kernel
theorem dm_operand_80 : decode bm_operand 80 = .ok (.getfield 111, 3) := by decide +kernel
theorem dm_operand_83 : decode bm_operand 83 = .ok (.ifCond .eq 7, 3) := by decide +kernel
theorem dm_operand_86 : decode bm_operand 86 = .ok (.iconst 4, 1) := by decide +kernel
theorem dm_operand_87 : decode bm_operand 87 = .ok (.goto 4, 3) := by decide +kernel
theorem dm_operand_90 : decode bm_operand 90 = .ok (.iconst 2, 1) := by decide +kernel
theorem dm_operand_91 : decode bm_operand 91 = .ok (.invokevirtual 115, 3) := by decide +kernel
theorem dm_operand_94 : decode bm_operand 94 = .ok (.aload_n 0, 1) := by decide +kernel
theorem dm_operand_95 : decode bm_operand 95 = .ok (.iconst 0, 1) := by decide +kernel
theorem dm_operand_96 : decode bm_operand 96 = .ok (.putfield 111, 3) := by decide +kernel
theorem dm_operand_99 : decode bm_operand 99 = .ok (.aload_n 0, 1) := by decide +kernel
theorem dm_operand_100 : decode bm_operand 100 = .ok (.iconst 3, 1) := by decide +kernel
theorem dm_operand_101 : decode bm_operand 101 = .ok (.invokevirtual 119, 3) := by decide +kernel
theorem dm_operand_104 : decode bm_operand 104 = .ok (.ireturn, 1) := by decide +kernel
section
variable {l : Launch} {D : va_G} {A : Nat → Prop} {z w : va_W} {q : Nat → Nat} {cI cZ cL : ClassId}
variable {f_classes f_objects f_count f_want f_compared f_open f_rowCount f_many f_seen f_fail f_level f_at f_self f_brackets f_values f_waiting : Int32}
variable {a_parent a_kindOf a_size a_root a_slotKind a_slot a_kept a_code a_number a_opened a_rowKind a_rowValue a_list a_from a_eAt a_whereAt a_source a_distinct a_keeps a_vKind a_v a_waits : Nat → Int32}
set_option maxHeartbeats 4000000 in
set_option maxRecDepth 100000 in
theorem cm_operand (l1 : Int32) (ur : Int32 × Int32 × Int32 × Int32 × (Nat → Int32)) (h : sm_operand l1 f_want f_compared f_open a_opened = some ur) : hq_Ct l ym_operand bm_operand 2 (some .boolean) { frames := 1, cells := 0, slots := 0, locals := 21 } D (hq_tys cI cZ cL) A [.ref (q 0), .int l1] (hm_w q cI cZ cL f_classes a_parent f_objects a_kindOf a_size a_root a_slotKind a_slot a_kept f_count a_code a_number f_want f_compared f_open a_opened f_rowCount a_rowKind a_rowValue f_many a_list f_seen f_fail f_level a_from a_eAt a_whereAt a_source a_distinct a_keeps f_at f_self f_brackets f_values a_vKind a_v f_waiting a_waits ++ z) (hm_w q cI cZ cL f_classes a_parent f_objects a_kindOf a_size a_root a_slotKind a_slot a_kept f_count a_code a_number ur.2.1 ur.2.2.1 ur.2.2.2.1 ur.2.2.2.2 f_rowCount a_rowKind a_rowValue f_many a_list f_seen f_fail f_level a_from a_eAt a_whereAt a_source a_distinct a_keeps f_at f_self f_brackets f_values a_vKind a_v f_waiting a_waits ++ z) (some (.int ur.1)) 0 0 := by
  refine hq_of (by decide) ?_ (Nat.le_of_ble_eq_true rfl)
  intro p e s m below meth c R args Q hRm hQ hx hb hr hml hts hown hlocks hnm hP hK hD ls hl hS
  have hl : lv_has ls 2 [(0, .ref (q 0)), (1, .int l1)] := hl
  have hown : s.vm.findClass "HeapQueriesModel" = some m.cls := hown
  unfold sm_operand at h
  have J91 : ∀ (s1 : Int32) {f_want : Int32} {f_compared : Int32} {f_open : Int32} {a_opened : Nat → Int32} {ls : Array Slot} {H : Heap} {locs : List Loc}, lv_has ls 2 [(0, .ref (q 0))] → va_P D hq_cl (hm_w q cI cZ cL f_classes a_parent f_objects a_kindOf a_size a_root a_slotKind a_slot a_kept f_count a_code a_number f_want f_compared f_open a_opened f_rowCount a_rowKind a_rowValue f_many a_list f_seen f_fail f_level a_from a_eAt a_whereAt a_source a_distinct a_keeps f_at f_self f_brackets f_values a_vKind a_v f_waiting a_waits ++ z) H → va_D A (hm_w q cI cZ cL f_classes a_parent f_objects a_kindOf a_size a_root a_slotKind a_slot a_kept f_count a_code a_number f_want f_compared f_open a_opened f_rowCount a_rowKind a_rowValue f_many a_list f_seen f_fail f_level a_from a_eAt a_whereAt a_source a_distinct a_keeps f_at f_self f_brackets f_values a_vKind a_v f_waiting a_waits ++ z) → va_S A s.heap H locs → sm_operand_J91 s1 f_want f_compared f_open a_opened = some ur → W p l e R s m args below meth c H locs 0 0 Q (F0 m 91 ls [.int s1, .ref (q 0)]) := by
    intro s1 f_want f_compared f_open a_opened ls H locs hl hP hD hS h
    unfold sm_operand_J91 at h
    obtain ⟨v91, h91, h⟩ := hq_bind h
    refine km_push s1 v91 h91 hx hb hml hts hown hK hP hD hS wi_85 (by rw [hRm]; exact ⟨Nat.le_of_ble_eq_true rfl, Nat.le_of_ble_eq_true rfl⟩) hl.1 (Nat.le_of_ble_eq_true rfl) dm_operand_91 ⟨Nat.zero_le _, Nat.zero_le _⟩ (fun H locs hP hD hS => ?_)
    refine lv_aload_n hx hb dm_operand_94 rfl (lv_at hl 0 rfl) ?_
    refine lv_iconst (v := 0) hx hb dm_operand_95 (by decide) ?_
    refine pm_0_compared hx hb hts hown hK hP hD hS wi_83 (by decide) dm_operand_96 (fun H locs hP hD hS => ?_)
    refine lv_aload_n hx hb dm_operand_99 rfl (lv_at hl 0 rfl) ?_
    refine lv_iconst (v := 3) hx hb dm_operand_100 (by decide) ?_
    refine km_becomes 3 (sm_becomes 3 f_want) rfl hx hb hml hts hown hK hP hD hS wi_86 (by rw [hRm]; exact ⟨Nat.le_of_ble_eq_true rfl, Nat.le_of_ble_eq_true rfl⟩) hl.1 (Nat.le_of_ble_eq_true rfl) dm_operand_101 ⟨Nat.zero_le _, Nat.zero_le _⟩ (fun H locs hP hD hS => ?_)
    obtain ⟨hz, h⟩ := hq_ok h
    have h := Option.some.inj h
    exact hq_zret hx hb hr hlocks hQ hK hP hD hS hz (by rw [← h]) (by rw [← h]) dm_operand_104
  have J70 : ∀ (l1 : Int32) {f_want : Int32} {f_compared : Int32} {f_open : Int32} {a_opened : Nat → Int32} {ls : Array Slot} {H : Heap} {locs : List Loc}, lv_has ls 2 [(0, .ref (q 0)), (1, .int l1)] → va_P D hq_cl (hm_w q cI cZ cL f_classes a_parent f_objects a_kindOf a_size a_root a_slotKind a_slot a_kept f_count a_code a_number f_want f_compared f_open a_opened f_rowCount a_rowKind a_rowValue f_many a_list f_seen f_fail f_level a_from a_eAt a_whereAt a_source a_distinct a_keeps f_at f_self f_brackets f_values a_vKind a_v f_waiting a_waits ++ z) H → va_D A (hm_w q cI cZ cL f_classes a_parent f_objects a_kindOf a_size a_root a_slotKind a_slot a_kept f_count a_code a_number f_want f_compared f_open a_opened f_rowCount a_rowKind a_rowValue f_many a_list f_seen f_fail f_level a_from a_eAt a_whereAt a_source a_distinct a_keeps f_at f_self f_brackets f_values a_vKind a_v f_waiting a_waits ++ z) → va_S A s.heap H locs → sm_operand_J70 l1 f_want f_compared f_open a_opened = some ur → W p l e R s m args below meth c H locs 0 0 Q (F0 m 70 ls []) := by
    intro l1 f_want f_compared f_open a_opened ls H locs hl hP hD hS h
    unfold sm_operand_J70 at h
    refine lv_iload_n hx hb dm_operand_70 rfl (lv_at hl 1 rfl) ?_
    refine lv_bipush (v := 6) hx hb dm_operand_71 (by decide) ?_
    refine lv_icmp_eq (tgt := 78) hx hb dm_operand_73 (by decide) (fun hc => ?_) (fun hc => ?_)
    · have h := (if_pos hc).symm.trans h
      refine lv_aload_n hx hb dm_operand_78 rfl (lv_at hl 0 rfl) ?_
      refine lv_aload_n hx hb dm_operand_79 rfl (lv_at hl 0 rfl) ?_
      refine gm_0_compared hx hb hts hown hK hP wi_83 dm_operand_80 ?_
      refine lv_if_eq (tgt := 90) hx hb dm_operand_83 (by decide) (fun hc => ?_) (fun hc => ?_)
      · have h := (if_pos hc).symm.trans h
        refine lv_iconst (v := 2) hx hb dm_operand_90 (by decide) ?_
        exact J91 2 (lv_sub hl [0] rfl) hP hD hS h
      · have h := (if_neg hc).symm.trans h
        refine lv_iconst (v := 4) hx hb dm_operand_86 (by decide) ?_
        refine lv_goto (tgt := 91) hx hb dm_operand_87 (by decide) ?_
        exact J91 4 (lv_sub hl [0] rfl) hP hD hS h
    · have h := (if_neg hc).symm.trans h
      refine lv_iconst (v := 0) hx hb dm_operand_76 (by decide) ?_
      have h := Option.some.inj h
      exact hq_zret hx hb hr hlocks hQ hK hP hD hS (by decide) (by rw [← h]) (by rw [← h]) dm_operand_77
  have J52 : ∀ (l1 : Int32) {f_want : Int32} {f_compared : Int32} {f_open : Int32} {a_opened : Nat → Int32} {ls : Array Slot} {H : Heap} {locs : List Loc}, lv_has ls 2 [(0, .ref (q 0)), (1, .int l1)] → va_P D hq_cl (hm_w q cI cZ cL f_classes a_parent f_objects a_kindOf a_size a_root a_slotKind a_slot a_kept f_count a_code a_number f_want f_compared f_open a_opened f_rowCount a_rowKind a_rowValue f_many a_list f_seen f_fail f_level a_from a_eAt a_whereAt a_source a_distinct a_keeps f_at f_self f_brackets f_values a_vKind a_v f_waiting a_waits ++ z) H → va_D A (hm_w q cI cZ cL f_classes a_parent f_objects a_kindOf a_size a_root a_slotKind a_slot a_kept f_count a_code a_number f_want f_compared f_open a_opened f_rowCount a_rowKind a_rowValue f_many a_list f_seen f_fail f_level a_from a_eAt a_whereAt a_source a_distinct a_keeps f_at f_self f_brackets f_values a_vKind a_v f_waiting a_waits ++ z) → va_S A s.heap H locs → sm_operand_J52 l1 f_want f_compared f_open a_opened = some ur → W p l e R s m args below meth c H locs 0 0 Q (F0 m 52 ls []) := by
    intro l1 f_want f_compared f_open a_opened ls H locs hl hP hD hS h
    unfold sm_operand_J52 at h
    refine lv_iload_n hx hb dm_operand_52 rfl (lv_at hl 1 rfl) ?_
    refine lv_bipush (v := 10) hx hb dm_operand_53 (by decide) ?_
    refine lv_icmp_lt (tgt := 70) hx hb dm_operand_55 (by decide) (fun hc => ?_) (fun hc => ?_)
    · have h := (if_pos hc).symm.trans h
      exact J70 l1 hl hP hD hS h
    · have h := (if_neg hc).symm.trans h
      refine lv_iload_n hx hb dm_operand_58 rfl (lv_at hl 1 rfl) ?_
      refine lv_bipush (v := 12) hx hb dm_operand_59 (by decide) ?_
      refine lv_icmp_gt (tgt := 70) hx hb dm_operand_61 (by decide) (fun hc => ?_) (fun hc => ?_)
      · have h := (if_pos hc).symm.trans h
        exact J70 l1 hl hP hD hS h
      · have h := (if_neg hc).symm.trans h
        refine lv_aload_n hx hb dm_operand_64 rfl (lv_at hl 0 rfl) ?_
        refine lv_iconst (v := 5) hx hb dm_operand_65 (by decide) ?_
        refine km_becomes 5 (sm_becomes 5 f_want) rfl hx hb hml hts hown hK hP hD hS wi_86 (by rw [hRm]; exact ⟨Nat.le_of_ble_eq_true rfl, Nat.le_of_ble_eq_true rfl⟩) hl.1 (Nat.le_of_ble_eq_true rfl) dm_operand_66 ⟨Nat.zero_le _, Nat.zero_le _⟩ (fun H locs hP hD hS => ?_)
        obtain ⟨hz, h⟩ := hq_ok h
        have h := Option.some.inj h
        exact hq_zret hx hb hr hlocks hQ hK hP hD hS hz (by rw [← h]) (by rw [← h]) dm_operand_69
  have J32 : ∀ (l1 : Int32) {f_want : Int32} {f_compared : Int32} {f_open : Int32} {a_opened : Nat → Int32} {ls : Array Slot} {H : Heap} {locs : List Loc}, lv_has ls 2 [(0, .ref (q 0)), (1, .int l1)] → va_P D hq_cl (hm_w q cI cZ cL f_classes a_parent f_objects a_kindOf a_size a_root a_slotKind a_slot a_kept f_count a_code a_number f_want f_compared f_open a_opened f_rowCount a_rowKind a_rowValue f_many a_list f_seen f_fail f_level a_from a_eAt a_whereAt a_source a_distinct a_keeps f_at f_self f_brackets f_values a_vKind a_v f_waiting a_waits ++ z) H → va_D A (hm_w q cI cZ cL f_classes a_parent f_objects a_kindOf a_size a_root a_slotKind a_slot a_kept f_count a_code a_number f_want f_compared f_open a_opened f_rowCount a_rowKind a_rowValue f_many a_list f_seen f_fail f_level a_from a_eAt a_whereAt a_source a_distinct a_keeps f_at f_self f_brackets f_values a_vKind a_v f_waiting a_waits ++ z) → va_S A s.heap H locs → sm_operand_J32 l1 f_want f_compared f_open a_opened = some ur → W p l e R s m args below meth c H locs 0 0 Q (F0 m 32 ls []) := by
    intro l1 f_want f_compared f_open a_opened ls H locs hl hP hD hS h
    unfold sm_operand_J32 at h
    refine lv_iload_n hx hb dm_operand_32 rfl (lv_at hl 1 rfl) ?_
    refine lv_bipush (v := 17) hx hb dm_operand_33 (by decide) ?_
    refine lv_icmp_ne (tgt := 52) hx hb dm_operand_35 (by decide) (fun hc => ?_) (fun hc => ?_)
    · have h := (if_neg hc).symm.trans h
      exact J52 l1 hl hP hD hS h
    · have h := (if_pos hc).symm.trans h
      refine lv_aload_n hx hb dm_operand_38 rfl (lv_at hl 0 rfl) ?_
      refine gm_0_want hx hb hts hown hK hP wi_81 dm_operand_39 ?_
      refine lv_iconst (v := 3) hx hb dm_operand_42 (by decide) ?_
      refine lv_icmp_gt (tgt := 52) hx hb dm_operand_43 (by decide) (fun hc => ?_) (fun hc => ?_)
      · have h := (if_pos hc).symm.trans h
        exact J52 l1 hl hP hD hS h
      · have h := (if_neg hc).symm.trans h
        refine lv_aload_n hx hb dm_operand_46 rfl (lv_at hl 0 rfl) ?_
        refine lv_iconst (v := 3) hx hb dm_operand_47 (by decide) ?_
        refine km_becomes 3 (sm_becomes 3 f_want) rfl hx hb hml hts hown hK hP hD hS wi_86 (by rw [hRm]; exact ⟨Nat.le_of_ble_eq_true rfl, Nat.le_of_ble_eq_true rfl⟩) hl.1 (Nat.le_of_ble_eq_true rfl) dm_operand_48 ⟨Nat.zero_le _, Nat.zero_le _⟩ (fun H locs hP hD hS => ?_)
        obtain ⟨hz, h⟩ := hq_ok h
        have h := Option.some.inj h
        exact hq_zret hx hb hr hlocks hQ hK hP hD hS hz (by rw [← h]) (by rw [← h]) dm_operand_51
  have J19 : ∀ (l1 : Int32) {f_want : Int32} {f_compared : Int32} {f_open : Int32} {a_opened : Nat → Int32} {ls : Array Slot} {H : Heap} {locs : List Loc}, lv_has ls 2 [(0, .ref (q 0)), (1, .int l1)] → va_P D hq_cl (hm_w q cI cZ cL f_classes a_parent f_objects a_kindOf a_size a_root a_slotKind a_slot a_kept f_count a_code a_number f_want f_compared f_open a_opened f_rowCount a_rowKind a_rowValue f_many a_list f_seen f_fail f_level a_from a_eAt a_whereAt a_source a_distinct a_keeps f_at f_self f_brackets f_values a_vKind a_v f_waiting a_waits ++ z) H → va_D A (hm_w q cI cZ cL f_classes a_parent f_objects a_kindOf a_size a_root a_slotKind a_slot a_kept f_count a_code a_number f_want f_compared f_open a_opened f_rowCount a_rowKind a_rowValue f_many a_list f_seen f_fail f_level a_from a_eAt a_whereAt a_source a_distinct a_keeps f_at f_self f_brackets f_values a_vKind a_v f_waiting a_waits ++ z) → va_S A s.heap H locs → sm_operand_J19 l1 f_want f_compared f_open a_opened = some ur → W p l e R s m args below meth c H locs 0 0 Q (F0 m 19 ls []) := by
    intro l1 f_want f_compared f_open a_opened ls H locs hl hP hD hS h
    unfold sm_operand_J19 at h
    refine lv_iload_n hx hb dm_operand_19 rfl (lv_at hl 1 rfl) ?_
    refine lv_iconst (v := 2) hx hb dm_operand_20 (by decide) ?_
    refine lv_icmp_ne (tgt := 32) hx hb dm_operand_21 (by decide) (fun hc => ?_) (fun hc => ?_)
    · have h := (if_neg hc).symm.trans h
      exact J32 l1 hl hP hD hS h
    · have h := (if_pos hc).symm.trans h
      refine lv_aload_n hx hb dm_operand_24 rfl (lv_at hl 0 rfl) ?_
      refine gm_0_want hx hb hts hown hK hP wi_81 dm_operand_25 ?_
      refine lv_iconst (v := 2) hx hb dm_operand_28 (by decide) ?_
      refine lv_icmp_le (tgt := 46) hx hb dm_operand_29 (by decide) (fun hc => ?_) (fun hc => ?_)
      · have h := (if_pos hc).symm.trans h
        refine lv_aload_n hx hb dm_operand_46 rfl (lv_at hl 0 rfl) ?_
        refine lv_iconst (v := 3) hx hb dm_operand_47 (by decide) ?_
        refine km_becomes 3 (sm_becomes 3 f_want) rfl hx hb hml hts hown hK hP hD hS wi_86 (by rw [hRm]; exact ⟨Nat.le_of_ble_eq_true rfl, Nat.le_of_ble_eq_true rfl⟩) hl.1 (Nat.le_of_ble_eq_true rfl) dm_operand_48 ⟨Nat.zero_le _, Nat.zero_le _⟩ (fun H locs hP hD hS => ?_)
        obtain ⟨hz, h⟩ := hq_ok h
        have h := Option.some.inj h
        exact hq_zret hx hb hr hlocks hQ hK hP hD hS hz (by rw [← h]) (by rw [← h]) dm_operand_51
      · have h := (if_neg hc).symm.trans h
        exact J32 l1 hl hP hD hS h
  refine lv_iload_n hx hb dm_operand_0 rfl (lv_at hl 1 rfl) ?_
  refine lv_iconst (v := 1) hx hb dm_operand_1 (by decide) ?_
  refine lv_icmp_ne (tgt := 19) hx hb dm_operand_2 (by decide) (fun hc => ?_) (fun hc => ?_)
  · have h := (if_neg hc).symm.trans h
    exact J19 l1 hl hP hD hS h
  · have h := (if_pos hc).symm.trans h
    refine lv_aload_n hx hb dm_operand_5 rfl (lv_at hl 0 rfl) ?_
    refine gm_0_want hx hb hts hown hK hP wi_81 dm_operand_6 ?_
    refine lv_iconst (v := 1) hx hb dm_operand_9 (by decide) ?_
    refine lv_icmp_ne (tgt := 19) hx hb dm_operand_10 (by decide) (fun hc => ?_) (fun hc => ?_)
    · have h := (if_neg hc).symm.trans h
      exact J19 l1 hl hP hD hS h
    · have h := (if_pos hc).symm.trans h
      refine lv_aload_n hx hb dm_operand_13 rfl (lv_at hl 0 rfl) ?_
      refine lv_iconst (v := 2) hx hb dm_operand_14 (by decide) ?_
      refine km_becomes 2 (sm_becomes 2 f_want) rfl hx hb hml hts hown hK hP hD hS wi_86 (by rw [hRm]; exact ⟨Nat.le_of_ble_eq_true rfl, Nat.le_of_ble_eq_true rfl⟩) hl.1 (Nat.le_of_ble_eq_true rfl) dm_operand_15 ⟨Nat.zero_le _, Nat.zero_le _⟩ (fun H locs hP hD hS => ?_)
      obtain ⟨hz, h⟩ := hq_ok h
      have h := Option.some.inj h
      exact hq_zret hx hb hr hlocks hQ hK hP hD hS hz (by rw [← h]) (by rw [← h]) dm_operand_18
end
section
variable {p : Program} {l : Launch} {e : Env} {R : Room} {s : State} {m : MethodId} {args : Array Value} {below : List Frame} {meth : Method} {c : Code} {H H0 : Heap} {locs : List Loc} {cells slots : Nat} {Q : State → Prop}
variable {cc : ByteArray} {pc idx nC : Nat} {ls : Array Slot} {rest : List Value} {D : va_G} {A : Nat → Prop} {own : String} {q : Nat → Nat} {cI cZ cL : ClassId} {z w : va_W}
variable {f_classes f_objects f_count f_want f_compared f_open f_rowCount f_many f_seen f_fail f_level f_at f_self f_brackets f_values f_waiting : Int32}
variable {a_parent a_kindOf a_size a_root a_slotKind a_slot a_kept a_code a_number a_opened a_rowKind a_rowValue a_list a_from a_eAt a_whereAt a_source a_distinct a_keeps a_vKind a_v a_waits : Nat → Int32}
theorem km_operand (l1 : Int32) (ur : Int32 × Int32 × Int32 × Int32 × (Nat → Int32)) (hu : sm_operand l1 f_want f_compared f_open a_opened = some ur) (hx : p.tables.exec = Jvm.exec) (hb : c.code = cc) (hml : c.maxLocals = nC) (hts : ∀ x ∈ hq_tbl, x.before args s = true) (hown : s.vm.findClass own = some m.cls) (hK : va_K D hq_cl (hq_tys cI cZ cL) s) (hP : va_P D hq_cl (hm_w q cI cZ cL f_classes a_parent f_objects a_kindOf a_size a_root a_slotKind a_slot a_kept f_count a_code a_number f_want f_compared f_open a_opened f_rowCount a_rowKind a_rowValue f_many a_list f_seen f_fail f_level a_from a_eAt a_whereAt a_source a_distinct a_keeps f_at f_self f_brackets f_values a_vKind a_v f_waiting a_waits ++ z) H) (hD : va_D A (hm_w q cI cZ cL f_classes a_parent f_objects a_kindOf a_size a_root a_slotKind a_slot a_kept f_count a_code a_number f_want f_compared f_open a_opened f_rowCount a_rowKind a_rowValue f_many a_list f_seen f_fail f_level a_from a_eAt a_whereAt a_source a_distinct a_keeps f_at f_self f_brackets f_values a_vKind a_v f_waiting a_waits ++ z)) (hS : va_S A H0 H locs) (h1 : Cond.methodLink own idx ym_operand ∈ hq_tbl) (hR : 1 + 1 ≤ R.frames ∧ 8 + (2 + 11) + 21 ≤ R.locals) (hls : ls.size = nC) (hW : (rest.map fun v => v.category).sum ≤ 8) (hdg : decode cc pc = .ok (.invokevirtual idx, 3)) (hf : cells + 0 ≤ R.cells ∧ slots + 0 ≤ R.slots) (kk : ∀ (H1 : Heap) (locs1 : List Loc), va_P D hq_cl (hm_w q cI cZ cL f_classes a_parent f_objects a_kindOf a_size a_root a_slotKind a_slot a_kept f_count a_code a_number ur.2.1 ur.2.2.1 ur.2.2.2.1 ur.2.2.2.2 f_rowCount a_rowKind a_rowValue f_many a_list f_seen f_fail f_level a_from a_eAt a_whereAt a_source a_distinct a_keeps f_at f_self f_brackets f_values a_vKind a_v f_waiting a_waits ++ z) H1 → va_D A (hm_w q cI cZ cL f_classes a_parent f_objects a_kindOf a_size a_root a_slotKind a_slot a_kept f_count a_code a_number ur.2.1 ur.2.2.1 ur.2.2.2.1 ur.2.2.2.2 f_rowCount a_rowKind a_rowValue f_many a_list f_seen f_fail f_level a_from a_eAt a_whereAt a_source a_distinct a_keeps f_at f_self f_brackets f_values a_vKind a_v f_waiting a_waits ++ z) → va_S A H0 H1 locs1 → W p l e R s m args below meth c H1 locs1 cells slots Q (F0 m (pc + 3) ls (.int ur.1 :: rest))) : W p l e R s m args below meth c H locs cells slots Q (F0 m pc ls (.int l1 :: .ref (q 0) :: rest)) :=
  hq_callV (q0 := 0) hx hb hml hown hts hK hP hD hS (cm_operand l1 ur hu) rfl rfl h1 wi_382 wi_383 wi_338 wi_384 1 rfl (by decide +kernel) ⟨rfl, rfl⟩ hR hls rfl hW hdg hf kk
end
theorem dm_ends_0 : decode bm_ends 0 = .ok (.iload_n 1, 1) := by decide +kernel
theorem dm_ends_1 : decode bm_ends 1 = .ok (.iconst 5, 1) := by decide +kernel
theorem dm_ends_2 : decode bm_ends 2 = .ok (.if_icmp .ne 9, 3) := by decide +kernel
theorem dm_ends_5 : decode bm_ends 5 = .ok (.aload_n 0, 1) := by decide +kernel
theorem dm_ends_6 : decode bm_ends 6 = .ok (.iconst 0, 1) := by decide +kernel
theorem dm_ends_7 : decode bm_ends 7 = .ok (.invokevirtual 119, 3) := by decide +kernel
theorem dm_ends_10 : decode bm_ends 10 = .ok (.ireturn, 1) := by decide +kernel
theorem dm_ends_11 : decode bm_ends 11 = .ok (.iload_n 1, 1) := by decide +kernel
theorem dm_ends_12 : decode bm_ends 12 = .ok (.bipush 7, 2) := by decide +kernel
theorem dm_ends_14 : decode bm_ends 14 = .ok (.if_icmp .ne 42, 3) := by decide +kernel
theorem dm_ends_17 : decode bm_ends 17 = .ok (.aload_n 0, 1) := by decide +kernel
theorem dm_ends_18 : decode bm_ends 18 = .ok (.getfield 108, 3) := by decide +kernel
theorem dm_ends_21 : decode bm_ends 21 = .ok (.ifCond .le 35, 3) := by decide +kernel
theorem dm_ends_24 : decode bm_ends 24 = .ok (.aload_n 0, 1) := by decide +kernel
theorem dm_ends_25 : decode bm_ends 25 = .ok (.getfield 38, 3) := by decide +kernel
theorem dm_ends_28 : decode bm_ends 28 = .ok (.aload_n 0, 1) := by decide +kernel
theorem dm_ends_29 : decode bm_ends 29 = .ok (.getfield 108, 3) := by decide +kernel
theorem dm_ends_32 : decode bm_ends 32 = .ok (.iconst 1, 1) := by decide +kernel
theorem dm_ends_33 : decode bm_ends 33 = .ok (.isub, 1) := by decide +kernel
theorem dm_ends_34 : decode bm_ends 34 = .ok (.iaload, 1) := by decide +kernel
theorem dm_ends_35 : decode bm_ends 35 = .ok (.iconst 3, 1) := by decide +kernel
theorem dm_ends_36 : decode bm_ends 36 = .ok (.if_icmp .ne 20, 3) := by decide +kernel
theorem dm_ends_39 : decode bm_ends 39 = .ok (.aload_n 0, 1) := by decide +kernel
theorem dm_ends_40 : decode bm_ends 40 = .ok (.dup, 1) := by decide +kernel
theorem dm_ends_41 : decode bm_ends 41 = .ok (.getfield 108, 3) := by decide +kernel
theorem dm_ends_44 : decode bm_ends 44 = .ok (.iconst 1, 1) := by decide +kernel
theorem dm_ends_45 : decode bm_ends 45 = .ok (.isub, 1) := by decide +kernel
theorem dm_ends_46 : decode bm_ends 46 = .ok (.putfield 108, 3) := by decide +kernel
theorem dm_ends_49 : decode bm_ends 49 = .ok (.aload_n 0, 1) := by decide +kernel
theorem dm_ends_50 : decode bm_ends 50 = .ok (.bipush 7, 2) := by decide +kernel
theorem dm_ends_52 : decode bm_ends 52 = .ok (.invokevirtual 119, 3) := by decide +kernel
theorem dm_ends_55 : decode bm_ends 55 = .ok (.ireturn, 1) := by decide +kernel
theorem dm_ends_56 : decode bm_ends 56 = .ok (.iload_n 1, 1) := by decide +kernel
theorem dm_ends_57 : decode bm_ends 57 = .ok (.bipush 24, 2) := by decide +kernel
theorem dm_ends_59 : decode bm_ends 59 = .ok (.if_icmp .ne 23, 3) := by decide +kernel
theorem dm_ends_62 : decode bm_ends 62 = .ok (.aload_n 0, 1) := by decide +kernel
theorem dm_ends_63 : decode bm_ends 63 = .ok (.getfield 108, 3) := by decide +kernel
theorem dm_ends_66 : decode bm_ends 66 = .ok (.ifCond .ne 16, 3) := by decide +kernel
theorem dm_ends_69 : decode bm_ends 69 = .ok (.aload_n 0, 1) := by decide +kernel
theorem dm_ends_70 : decode bm_ends 70 = .ok (.bipush 8, 2) := by decide +kernel
theorem dm_ends_72 : decode bm_ends 72 = .ok (.invokevirtual 119, 3) := by decide +kernel
theorem dm_ends_75 : decode bm_ends 75 = .ok (.ifCond .eq 7, 3) := by decide +kernel
theorem dm_ends_78 : decode bm_ends 78 = .ok (.iconst 1, 1) := by decide +kernel
theorem dm_ends_79 : decode bm_ends 79 = .ok (.goto 4, 3) := by decide +kernel
theorem dm_ends_82 : decode bm_ends 82 = .ok (.iconst 0, 1) := by decide +kernel
theorem dm_ends_83 : decode bm_ends 83 = .ok (.ireturn, 1) := by decide +kernel
section
variable {l : Launch} {D : va_G} {A : Nat → Prop} {z w : va_W} {q : Nat → Nat} {cI cZ cL : ClassId}
variable {f_classes f_objects f_count f_want f_compared f_open f_rowCount f_many f_seen f_fail f_level f_at f_self f_brackets f_values f_waiting : Int32}
variable {a_parent a_kindOf a_size a_root a_slotKind a_slot a_kept a_code a_number a_opened a_rowKind a_rowValue a_list a_from a_eAt a_whereAt a_source a_distinct a_keeps a_vKind a_v a_waits : Nat → Int32}
set_option maxHeartbeats 4000000 in
set_option maxRecDepth 100000 in
theorem cm_ends (l1 : Int32) (ur : Int32 × Int32 × Int32) (h : sm_ends l1 f_want f_open a_opened = some ur) : hq_Ct l ym_ends bm_ends 2 (some .boolean) { frames := 1, cells := 0, slots := 0, locals := 21 } D (hq_tys cI cZ cL) A [.ref (q 0), .int l1] (hm_w q cI cZ cL f_classes a_parent f_objects a_kindOf a_size a_root a_slotKind a_slot a_kept f_count a_code a_number f_want f_compared f_open a_opened f_rowCount a_rowKind a_rowValue f_many a_list f_seen f_fail f_level a_from a_eAt a_whereAt a_source a_distinct a_keeps f_at f_self f_brackets f_values a_vKind a_v f_waiting a_waits ++ z) (hm_w q cI cZ cL f_classes a_parent f_objects a_kindOf a_size a_root a_slotKind a_slot a_kept f_count a_code a_number ur.2.1 f_compared ur.2.2 a_opened f_rowCount a_rowKind a_rowValue f_many a_list f_seen f_fail f_level a_from a_eAt a_whereAt a_source a_distinct a_keeps f_at f_self f_brackets f_values a_vKind a_v f_waiting a_waits ++ z) (some (.int ur.1)) 0 0 := by
  refine hq_of (by decide) ?_ (Nat.le_of_ble_eq_true rfl)
  intro p e s m below meth c R args Q hRm hQ hx hb hr hml hts hown hlocks hnm hP hK hD ls hl hS
  have hl : lv_has ls 2 [(0, .ref (q 0)), (1, .int l1)] := hl
  have hown : s.vm.findClass "HeapQueriesModel" = some m.cls := hown
  unfold sm_ends at h
  have J56 : ∀ (l1 : Int32) {f_want : Int32} {f_open : Int32} {ls : Array Slot} {H : Heap} {locs : List Loc}, lv_has ls 2 [(0, .ref (q 0)), (1, .int l1)] → va_P D hq_cl (hm_w q cI cZ cL f_classes a_parent f_objects a_kindOf a_size a_root a_slotKind a_slot a_kept f_count a_code a_number f_want f_compared f_open a_opened f_rowCount a_rowKind a_rowValue f_many a_list f_seen f_fail f_level a_from a_eAt a_whereAt a_source a_distinct a_keeps f_at f_self f_brackets f_values a_vKind a_v f_waiting a_waits ++ z) H → va_D A (hm_w q cI cZ cL f_classes a_parent f_objects a_kindOf a_size a_root a_slotKind a_slot a_kept f_count a_code a_number f_want f_compared f_open a_opened f_rowCount a_rowKind a_rowValue f_many a_list f_seen f_fail f_level a_from a_eAt a_whereAt a_source a_distinct a_keeps f_at f_self f_brackets f_values a_vKind a_v f_waiting a_waits ++ z) → va_S A s.heap H locs → sm_ends_J56 l1 f_want f_open a_opened = some ur → W p l e R s m args below meth c H locs 0 0 Q (F0 m 56 ls []) := by
    intro l1 f_want f_open ls H locs hl hP hD hS h
    unfold sm_ends_J56 at h
    refine lv_iload_n hx hb dm_ends_56 rfl (lv_at hl 1 rfl) ?_
    refine lv_bipush (v := 24) hx hb dm_ends_57 (by decide) ?_
    refine lv_icmp_ne (tgt := 82) hx hb dm_ends_59 (by decide) (fun hc => ?_) (fun hc => ?_)
    · have h := (if_neg hc).symm.trans h
      refine lv_iconst (v := 0) hx hb dm_ends_82 (by decide) ?_
      have h := Option.some.inj h
      exact hq_zret hx hb hr hlocks hQ hK hP hD hS (by decide) (by rw [← h]) (by rw [← h]) dm_ends_83
    · have h := (if_pos hc).symm.trans h
      refine lv_aload_n hx hb dm_ends_62 rfl (lv_at hl 0 rfl) ?_
      refine gm_0_open hx hb hts hown hK hP wi_82 dm_ends_63 ?_
      refine lv_if_ne (tgt := 82) hx hb dm_ends_66 (by decide) (fun hc => ?_) (fun hc => ?_)
      · have h := (if_neg hc).symm.trans h
        refine lv_iconst (v := 0) hx hb dm_ends_82 (by decide) ?_
        have h := Option.some.inj h
        exact hq_zret hx hb hr hlocks hQ hK hP hD hS (by decide) (by rw [← h]) (by rw [← h]) dm_ends_83
      · have h := (if_pos hc).symm.trans h
        refine lv_aload_n hx hb dm_ends_69 rfl (lv_at hl 0 rfl) ?_
        refine lv_bipush (v := 8) hx hb dm_ends_70 (by decide) ?_
        refine km_becomes 8 (sm_becomes 8 f_want) rfl hx hb hml hts hown hK hP hD hS wi_86 (by rw [hRm]; exact ⟨Nat.le_of_ble_eq_true rfl, Nat.le_of_ble_eq_true rfl⟩) hl.1 (Nat.le_of_ble_eq_true rfl) dm_ends_72 ⟨Nat.zero_le _, Nat.zero_le _⟩ (fun H locs hP hD hS => ?_)
        refine lv_if_eq (tgt := 82) hx hb dm_ends_75 (by decide) (fun hc => ?_) (fun hc => ?_)
        · have h := (if_pos hc).symm.trans h
          refine lv_iconst (v := 0) hx hb dm_ends_82 (by decide) ?_
          have h := Option.some.inj h
          exact hq_zret hx hb hr hlocks hQ hK hP hD hS (by decide) (by rw [← h]) (by rw [← h]) dm_ends_83
        · have h := (if_neg hc).symm.trans h
          refine lv_iconst (v := 1) hx hb dm_ends_78 (by decide) ?_
          refine lv_goto (tgt := 83) hx hb dm_ends_79 (by decide) ?_
          have h := Option.some.inj h
          exact hq_zret hx hb hr hlocks hQ hK hP hD hS (by decide) (by rw [← h]) (by rw [← h]) dm_ends_83
  refine lv_iload_n hx hb dm_ends_0 rfl (lv_at hl 1 rfl) ?_
  refine lv_iconst (v := 5) hx hb dm_ends_1 (by decide) ?_
  refine lv_icmp_ne (tgt := 11) hx hb dm_ends_2 (by decide) (fun hc => ?_) (fun hc => ?_)
  · have h := (if_neg hc).symm.trans h
    refine lv_iload_n hx hb dm_ends_11 rfl (lv_at hl 1 rfl) ?_
    refine lv_bipush (v := 7) hx hb dm_ends_12 (by decide) ?_
    refine lv_icmp_ne (tgt := 56) hx hb dm_ends_14 (by decide) (fun hc => ?_) (fun hc => ?_)
    · have h := (if_neg hc).symm.trans h
      exact J56 l1 hl hP hD hS h
    · have h := (if_pos hc).symm.trans h
      refine lv_aload_n hx hb dm_ends_17 rfl (lv_at hl 0 rfl) ?_
      refine gm_0_open hx hb hts hown hK hP wi_82 dm_ends_18 ?_
      refine lv_if_le (tgt := 56) hx hb dm_ends_21 (by decide) (fun hc => ?_) (fun hc => ?_)
      · have h := (if_pos hc).symm.trans h
        exact J56 l1 hl hP hD hS h
      · have h := (if_neg hc).symm.trans h
        refine lv_aload_n hx hb dm_ends_24 rfl (lv_at hl 0 rfl) ?_
        refine gm_0_opened hx hb hts hown hK hP wi_84 dm_ends_25 ?_
        refine lv_aload_n hx hb dm_ends_28 rfl (lv_at hl 0 rfl) ?_
        refine gm_0_open hx hb hts hown hK hP wi_82 dm_ends_29 ?_
        refine lv_iconst (v := 1) hx hb dm_ends_32 (by decide) ?_
        refine lv_isub hx hb dm_ends_33 ?_
        obtain ⟨hin, h⟩ := hq_idx h
        refine am_10 hx hb hK hP hin dm_ends_34 ?_
        refine lv_iconst (v := 3) hx hb dm_ends_35 (by decide) ?_
        refine lv_icmp_ne (tgt := 56) hx hb dm_ends_36 (by decide) (fun hc => ?_) (fun hc => ?_)
        · have h := (if_neg hc).symm.trans h
          exact J56 l1 hl hP hD hS h
        · have h := (if_pos hc).symm.trans h
          refine lv_aload_n hx hb dm_ends_39 rfl (lv_at hl 0 rfl) ?_
          refine lv_dup hx hb dm_ends_40 rfl ?_
          refine gm_0_open hx hb hts hown hK hP wi_82 dm_ends_41 ?_
          refine lv_iconst (v := 1) hx hb dm_ends_44 (by decide) ?_
          refine lv_isub hx hb dm_ends_45 ?_
          refine pm_0_open hx hb hts hown hK hP hD hS wi_82 dm_ends_46 (fun H locs hP hD hS => ?_)
          refine lv_aload_n hx hb dm_ends_49 rfl (lv_at hl 0 rfl) ?_
          refine lv_bipush (v := 7) hx hb dm_ends_50 (by decide) ?_
          refine km_becomes 7 (sm_becomes 7 f_want) rfl hx hb hml hts hown hK hP hD hS wi_86 (by rw [hRm]; exact ⟨Nat.le_of_ble_eq_true rfl, Nat.le_of_ble_eq_true rfl⟩) hl.1 (Nat.le_of_ble_eq_true rfl) dm_ends_52 ⟨Nat.zero_le _, Nat.zero_le _⟩ (fun H locs hP hD hS => ?_)
          obtain ⟨hz, h⟩ := hq_ok h
          have h := Option.some.inj h
          exact hq_zret hx hb hr hlocks hQ hK hP hD hS hz (by rw [← h]) (by rw [← h]) dm_ends_55
  · have h := (if_pos hc).symm.trans h
    refine lv_aload_n hx hb dm_ends_5 rfl (lv_at hl 0 rfl) ?_
    refine lv_iconst (v := 0) hx hb dm_ends_6 (by decide) ?_
    refine km_becomes 0 (sm_becomes 0 f_want) rfl hx hb hml hts hown hK hP hD hS wi_86 (by rw [hRm]; exact ⟨Nat.le_of_ble_eq_true rfl, Nat.le_of_ble_eq_true rfl⟩) hl.1 (Nat.le_of_ble_eq_true rfl) dm_ends_7 ⟨Nat.zero_le _, Nat.zero_le _⟩ (fun H locs hP hD hS => ?_)
    obtain ⟨hz, h⟩ := hq_ok h
    have h := Option.some.inj h
    exact hq_zret hx hb hr hlocks hQ hK hP hD hS hz (by rw [← h]) (by rw [← h]) dm_ends_10
end
section
variable {p : Program} {l : Launch} {e : Env} {R : Room} {s : State} {m : MethodId} {args : Array Value} {below : List Frame} {meth : Method} {c : Code} {H H0 : Heap} {locs : List Loc} {cells slots : Nat} {Q : State → Prop}
variable {cc : ByteArray} {pc idx nC : Nat} {ls : Array Slot} {rest : List Value} {D : va_G} {A : Nat → Prop} {own : String} {q : Nat → Nat} {cI cZ cL : ClassId} {z w : va_W}
variable {f_classes f_objects f_count f_want f_compared f_open f_rowCount f_many f_seen f_fail f_level f_at f_self f_brackets f_values f_waiting : Int32}
variable {a_parent a_kindOf a_size a_root a_slotKind a_slot a_kept a_code a_number a_opened a_rowKind a_rowValue a_list a_from a_eAt a_whereAt a_source a_distinct a_keeps a_vKind a_v a_waits : Nat → Int32}
theorem km_ends (l1 : Int32) (ur : Int32 × Int32 × Int32) (hu : sm_ends l1 f_want f_open a_opened = some ur) (hx : p.tables.exec = Jvm.exec) (hb : c.code = cc) (hml : c.maxLocals = nC) (hts : ∀ x ∈ hq_tbl, x.before args s = true) (hown : s.vm.findClass own = some m.cls) (hK : va_K D hq_cl (hq_tys cI cZ cL) s) (hP : va_P D hq_cl (hm_w q cI cZ cL f_classes a_parent f_objects a_kindOf a_size a_root a_slotKind a_slot a_kept f_count a_code a_number f_want f_compared f_open a_opened f_rowCount a_rowKind a_rowValue f_many a_list f_seen f_fail f_level a_from a_eAt a_whereAt a_source a_distinct a_keeps f_at f_self f_brackets f_values a_vKind a_v f_waiting a_waits ++ z) H) (hD : va_D A (hm_w q cI cZ cL f_classes a_parent f_objects a_kindOf a_size a_root a_slotKind a_slot a_kept f_count a_code a_number f_want f_compared f_open a_opened f_rowCount a_rowKind a_rowValue f_many a_list f_seen f_fail f_level a_from a_eAt a_whereAt a_source a_distinct a_keeps f_at f_self f_brackets f_values a_vKind a_v f_waiting a_waits ++ z)) (hS : va_S A H0 H locs) (h1 : Cond.methodLink own idx ym_ends ∈ hq_tbl) (hR : 1 + 1 ≤ R.frames ∧ 8 + (2 + 11) + 21 ≤ R.locals) (hls : ls.size = nC) (hW : (rest.map fun v => v.category).sum ≤ 8) (hdg : decode cc pc = .ok (.invokevirtual idx, 3)) (hf : cells + 0 ≤ R.cells ∧ slots + 0 ≤ R.slots) (kk : ∀ (H1 : Heap) (locs1 : List Loc), va_P D hq_cl (hm_w q cI cZ cL f_classes a_parent f_objects a_kindOf a_size a_root a_slotKind a_slot a_kept f_count a_code a_number ur.2.1 f_compared ur.2.2 a_opened f_rowCount a_rowKind a_rowValue f_many a_list f_seen f_fail f_level a_from a_eAt a_whereAt a_source a_distinct a_keeps f_at f_self f_brackets f_values a_vKind a_v f_waiting a_waits ++ z) H1 → va_D A (hm_w q cI cZ cL f_classes a_parent f_objects a_kindOf a_size a_root a_slotKind a_slot a_kept f_count a_code a_number ur.2.1 f_compared ur.2.2 a_opened f_rowCount a_rowKind a_rowValue f_many a_list f_seen f_fail f_level a_from a_eAt a_whereAt a_source a_distinct a_keeps f_at f_self f_brackets f_values a_vKind a_v f_waiting a_waits ++ z) → va_S A H0 H1 locs1 → W p l e R s m args below meth c H1 locs1 cells slots Q (F0 m (pc + 3) ls (.int ur.1 :: rest))) : W p l e R s m args below meth c H locs cells slots Q (F0 m pc ls (.int l1 :: .ref (q 0) :: rest)) :=
  hq_callV (q0 := 0) hx hb hml hown hts hK hP hD hS (cm_ends l1 ur hu) rfl rfl h1 wi_385 wi_386 wi_338 wi_387 1 rfl (by decide +kernel) ⟨rfl, rfl⟩ hR hls rfl hW hdg hf kk
end
