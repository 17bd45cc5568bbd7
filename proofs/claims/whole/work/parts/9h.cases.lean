theorem lw_mk {l : Launch} {D : va_G} {A : Nat → Prop} {cI cZ cL : ClassId} {x0 m0 : Nat} {H : Heap} {q qm : Nat → Nat} {c0 y : va_W} {xq_query : Option Nat} {ha_parents : Nat → Int32} {hf_classCount : Int32} {ha_classes : Nat → Int32} {ha_sizes : Nat → Int32} {ha_fields : Nat → Int64} {hf_objectCount : Int32} {hf_roots : Int32} {hf_changed : Int32} {sa_linkedFrom : Nat → Int32} {sa_linkCounts : Nat → Int32} {sa_retainedSets : Nat → Int32} {sa_retainedSizes : Nat → Int32} {sa_dominators : Nat → Int32} {sa_immediateDominators : Nat → Int32} {sf_objectCount : Int32} {sf_roots : Int32} {sf_reachable : Int32} {ta_codes : Nat → Int32} {ta_numbers : Nat → Int32} {tf_count : Int32} {ta_brackets : Nat → Int32} {tf_bracketCount : Int32} {tf_place : Int32} {tf_inWhere : Int32} {tf_compared : Int32} {wa_rows : Nat → Int64} {wf_count : Int32} {wf_looks : Int32} {f_classes : Int32} {a_parent : Nat → Int32} {f_objects : Int32} {a_kindOf : Nat → Int32} {a_size : Nat → Int32} {a_root : Nat → Int32} {a_slotKind : Nat → Int32} {a_slot : Nat → Int32} {a_kept : Nat → Int32} {f_count : Int32} {a_code : Nat → Int32} {a_number : Nat → Int32} {f_want : Int32} {f_compared : Int32} {f_open : Int32} {a_opened : Nat → Int32} {f_rowCount : Int32} {a_rowKind : Nat → Int32} {a_rowValue : Nat → Int32} {f_many : Int32} {a_list : Nat → Int32} {f_seen : Int32} {f_fail : Int32} {f_level : Int32} {a_from : Nat → Int32} {a_eAt : Nat → Int32} {a_whereAt : Nat → Int32} {a_source : Nat → Int32} {a_distinct : Nat → Int32} {a_keeps : Nat → Int32} {f_at : Int32} {f_self : Int32} {f_brackets : Int32} {f_values : Int32} {a_vKind : Nat → Int32} {a_v : Nat → Int32} {f_waiting : Int32} {a_waits : Nat → Int32} (hP : va_P D hq_cl (hx_w q cI cZ cL xq_query ha_parents hf_classCount ha_classes ha_sizes ha_fields hf_objectCount hf_roots hf_changed sa_linkedFrom sa_linkCounts sa_retainedSets sa_retainedSizes sa_dominators sa_immediateDominators sf_objectCount sf_roots sf_reachable ta_codes ta_numbers tf_count ta_brackets tf_bracketCount tf_place tf_inWhere tf_compared wa_rows wf_count wf_looks ++ (c0 ++ (hm_w qm cI cZ cL f_classes a_parent f_objects a_kindOf a_size a_root a_slotKind a_slot a_kept f_count a_code a_number f_want f_compared f_open a_opened f_rowCount a_rowKind a_rowValue f_many a_list f_seen f_fail f_level a_from a_eAt a_whereAt a_source a_distinct a_keeps f_at f_self f_brackets f_values a_vKind a_v f_waiting a_waits ++ y))) H) (hD : va_D A (hx_w q cI cZ cL xq_query ha_parents hf_classCount ha_classes ha_sizes ha_fields hf_objectCount hf_roots hf_changed sa_linkedFrom sa_linkCounts sa_retainedSets sa_retainedSizes sa_dominators sa_immediateDominators sf_objectCount sf_roots sf_reachable ta_codes ta_numbers tf_count ta_brackets tf_bracketCount tf_place tf_inWhere tf_compared wa_rows wf_count wf_looks ++ (c0 ++ (hm_w qm cI cZ cL f_classes a_parent f_objects a_kindOf a_size a_root a_slotKind a_slot a_kept f_count a_code a_number f_want f_compared f_open a_opened f_rowCount a_rowKind a_rowValue f_many a_list f_seen f_fail f_level a_from a_eAt a_whereAt a_source a_distinct a_keeps f_at f_self f_brackets f_values a_vKind a_v f_waiting a_waits ++ y)))) (e1 : q 0 = x0) (e2 : qm 0 = m0) (hJ : lw_J l D A q cI cZ cL (c0.length + 23) y xq_query ha_parents hf_classCount ha_classes ha_sizes ha_fields hf_objectCount hf_roots hf_changed sa_linkedFrom sa_linkCounts sa_retainedSets sa_retainedSizes sa_dominators sa_immediateDominators sf_objectCount sf_roots sf_reachable ta_codes ta_numbers tf_count ta_brackets tf_bracketCount tf_place tf_inWhere tf_compared wa_rows wf_count wf_looks f_classes a_parent f_objects a_kindOf a_size a_root a_slotKind a_slot a_kept f_count a_code a_number f_want f_compared f_open a_opened f_rowCount a_rowKind a_rowValue f_many a_list f_seen f_fail f_level a_from a_eAt a_whereAt a_source a_distinct a_keeps f_at f_self f_brackets f_values a_vKind a_v f_waiting a_waits) : lw_B l D A cI cZ cL x0 m0 H := ⟨q, qm, c0, y, xq_query, ha_parents, hf_classCount, ha_classes, ha_sizes, ha_fields, hf_objectCount, hf_roots, hf_changed, sa_linkedFrom, sa_linkCounts, sa_retainedSets, sa_retainedSizes, sa_dominators, sa_immediateDominators, sf_objectCount, sf_roots, sf_reachable, ta_codes, ta_numbers, tf_count, ta_brackets, tf_bracketCount, tf_place, tf_inWhere, tf_compared, wa_rows, wf_count, wf_looks, f_classes, a_parent, f_objects, a_kindOf, a_size, a_root, a_slotKind, a_slot, a_kept, f_count, a_code, a_number, f_want, f_compared, f_open, a_opened, f_rowCount, a_rowKind, a_rowValue, f_many, a_list, f_seen, f_fail, f_level, a_from, a_eAt, a_whereAt, a_source, a_distinct, a_keeps, f_at, f_self, f_brackets, f_values, a_vKind, a_v, f_waiting, a_waits, e1, e2, hJ, hP, hD⟩
section
variable {p : Program} {l : Launch} {e : Env} {s : State} {m : MethodId} {below : List Frame} {meth : Method} {c : Code} {H : Heap} {locs : List Loc} {Q : State → Prop} {ls : Array Slot} {D : va_G} {A : Nat → Prop} {cI cZ cL : ClassId} {x0 m0 b L t : Nat} {xs : Nat → Int32}
variable {q qm : Nat → Nat} {c0 y : va_W} {cc n k : Nat} {tk : Nat → Nat} {p0 : Nat} {cm : Bool} {st : List Nat} {r : Nat} {xq_query : Option Nat} {ha_parents : Nat → Int32} {ha_classes : Nat → Int32} {ha_sizes : Nat → Int32} {ha_fields : Nat → Int64} {hf_roots : Int32} {hf_changed : Int32} {sa_linkedFrom : Nat → Int32} {sa_linkCounts : Nat → Int32} {sa_retainedSets : Nat → Int32} {sa_retainedSizes : Nat → Int32} {sa_dominators : Nat → Int32} {sa_immediateDominators : Nat → Int32} {sf_objectCount : Int32} {sf_roots : Int32} {sf_reachable : Int32} {ta_codes : Nat → Int32} {ta_numbers : Nat → Int32} {ta_brackets : Nat → Int32} {tf_bracketCount : Int32} {tf_place : Int32} {tf_inWhere : Int32} {tf_compared : Int32} {wa_rows : Nat → Int64} {wf_looks : Int32} {a_parent : Nat → Int32} {a_kindOf : Nat → Int32} {a_size : Nat → Int32} {a_root : Nat → Int32} {a_slotKind : Nat → Int32} {a_slot : Nat → Int32} {a_kept : Nat → Int32} {a_code : Nat → Int32} {a_number : Nat → Int32} {f_want : Int32} {f_compared : Int32} {f_open : Int32} {a_opened : Nat → Int32} {a_rowKind : Nat → Int32} {a_rowValue : Nat → Int32} {f_many : Int32} {a_list : Nat → Int32} {f_fail : Int32} {f_level : Int32} {a_from : Nat → Int32} {a_eAt : Nat → Int32} {a_whereAt : Nat → Int32} {a_source : Nat → Int32} {a_distinct : Nat → Int32} {a_keeps : Nat → Int32} {f_at : Int32} {f_self : Int32} {f_brackets : Int32} {f_values : Int32} {a_vKind : Nat → Int32} {a_v : Nat → Int32} {f_waiting : Int32} {a_waits : Nat → Int32}
set_option maxHeartbeats 4000000 in
set_option maxRecDepth 100000 in
theorem lwc_0 (hx : p.tables.exec = Jvm.exec) (hb : c.code = code) (hml : c.maxLocals = 4) (hts : ∀ w ∈ hq_tbl, w.before #[Value.ref b] s = true) (hown : s.vm.findClass "HeapQueriesLaw" = some m.cls) (hK : va_K D hq_cl (hq_tys cI cZ cL) s) (hA : ∀ q : Nat, s.heap.size ≤ q → A q) (hN : hq_N s) (hX : va_X b L xs s s.heap) (hbl : b < s.heap.size) (hbA : ¬ A b) (hL : L ≤ 2560) (ht : 5 * t + 5 ≤ L) (hl : lv_has ls 4 [(0, .ref b), (1, .ref x0), (2, .ref m0), (3, .int (nI (5 * t)))]) (hh : hh_I cc n a_parent a_kindOf a_size a_root a_slotKind a_slot ha_parents ha_classes ha_sizes ha_fields hf_roots) (hsv : hf_changed = 0 → hs_V n a_root a_slotKind a_slot ha_sizes hf_roots sa_linkedFrom sa_linkCounts sa_retainedSets sa_retainedSizes sa_immediateDominators sf_objectCount sf_roots sf_reachable) (hti : ht_I cc k tk p0 cm st a_code a_number ta_codes ta_numbers ta_brackets tf_bracketCount tf_place tf_inWhere tf_compared) (hri : hr_I r a_rowKind a_rowValue wa_rows) (hq : lw_q l D A q cI cZ cL (c0.length + 23) y p0 k ta_codes ta_numbers xq_query) (e1 : q 0 = x0) (e2 : qm 0 = m0) (hP : va_P D hq_cl (hx_w q cI cZ cL xq_query ha_parents (nI cc) ha_classes ha_sizes ha_fields (nI n) hf_roots hf_changed sa_linkedFrom sa_linkCounts sa_retainedSets sa_retainedSizes sa_dominators sa_immediateDominators sf_objectCount sf_roots sf_reachable ta_codes ta_numbers (nI k) ta_brackets tf_bracketCount tf_place tf_inWhere tf_compared wa_rows (nI r) wf_looks ++ (c0 ++ (hm_w qm cI cZ cL (nI cc) a_parent (nI n) a_kindOf a_size a_root a_slotKind a_slot a_kept (nI k) a_code a_number f_want f_compared f_open a_opened (nI r) a_rowKind a_rowValue f_many a_list wf_looks f_fail f_level a_from a_eAt a_whereAt a_source a_distinct a_keeps f_at f_self f_brackets f_values a_vKind a_v f_waiting a_waits ++ y))) H) (hD : va_D A (hx_w q cI cZ cL xq_query ha_parents (nI cc) ha_classes ha_sizes ha_fields (nI n) hf_roots hf_changed sa_linkedFrom sa_linkCounts sa_retainedSets sa_retainedSizes sa_dominators sa_immediateDominators sf_objectCount sf_roots sf_reachable ta_codes ta_numbers (nI k) ta_brackets tf_bracketCount tf_place tf_inWhere tf_compared wa_rows (nI r) wf_looks ++ (c0 ++ (hm_w qm cI cZ cL (nI cc) a_parent (nI n) a_kindOf a_size a_root a_slotKind a_slot a_kept (nI k) a_code a_number f_want f_compared f_open a_opened (nI r) a_rowKind a_rowValue f_many a_list wf_looks f_fail f_level a_from a_eAt a_whereAt a_source a_distinct a_keeps f_at f_self f_brackets f_values a_vKind a_v f_waiting a_waits ++ y)))) (hS : va_S A s.heap H locs)
    (kk : ∀ (H1 : Heap) (locs1 : List Loc), lw_B l D A cI cZ cL x0 m0 H1 → va_S A s.heap H1 locs1 → W p l e room_1 s m #[Value.ref b] below meth c H1 locs1 (100 + 50 * (t + 1)) (6000 + 250 * (t + 1)) Q (F0 m 467 ls [])) : W p l e room_1 s m #[Value.ref b] below meth c H locs (100 + 50 * t) (6000 + 250 * t) Q (F0 m 108 ls []) := by
  rw [← e1, ← e2] at hl
  obtain ⟨r1, c', mp', xp', h1, h2, h3⟩ := hh_addClass hh (xs (nI (5 * t) + 1).toNatClampNeg)
  refine lv_aload_n hx hb dlw_108 rfl (lv_at hl 1 rfl) ?_
  refine lv_aload_n hx hb dlw_109 rfl (lv_at hl 0 rfl) ?_
  refine lv_iload_n hx hb dlw_110 rfl (lv_at hl 3 rfl) ?_
  refine lv_iconst (v := 1) hx hb dlw_111 (by decide) ?_
  refine lv_iadd hx hb dlw_112 ?_
  refine va_sld hx hb hX hbl hbA hS (lw_in ht hL 1 1 rfl (by decide)) dlw_113 ?_
  refine kxq_addClass (xs (nI (5 * t) + 1).toNatClampNeg) _ h2 hx hb hml hts hown hK hP hD hS wi_733 ⟨Nat.le_of_ble_eq_true rfl, Nat.le_of_ble_eq_true rfl⟩ hl.1 (Nat.le_of_ble_eq_true rfl) dlw_114 ⟨by show 100 + 50 * t + 0 ≤ 600000; omega, by show 6000 + 250 * t + 0 ≤ 7302249; omega⟩ (fun H locs hP hD hS => ?_)
  refine lv_aload_n hx hb dlw_117 rfl (lv_at hl 2 rfl) ?_
  refine lv_aload_n hx hb dlw_118 rfl (lv_at hl 0 rfl) ?_
  refine lv_iload_n hx hb dlw_119 rfl (lv_at hl 3 rfl) ?_
  refine lv_iconst (v := 1) hx hb dlw_120 (by decide) ?_
  refine lv_iadd hx hb dlw_121 ?_
  refine va_sld hx hb hX hbl hbA hS (lw_in ht hL 1 1 rfl (by decide)) dlw_122 ?_
  have hP := hz_toMP hP
  have hD := hz_toMD hD
  refine km_addClass (xs (nI (5 * t) + 1).toNatClampNeg) _ h1 hx hb hml hts hown hK hP hD hS wi_734 ⟨Nat.le_of_ble_eq_true rfl, Nat.le_of_ble_eq_true rfl⟩ hl.1 (Nat.le_of_ble_eq_true rfl) dlw_123 ⟨by show 100 + 50 * t + 0 ≤ 600000; omega, by show 6000 + 250 * t + 0 ≤ 7302249; omega⟩ (fun H locs hP hD hS => ?_)
  have hP := hz_toXP hP
  have hD := hz_toXD hD
  refine lv_icmp_eq (tgt := 467) hx hb dlw_126 (by decide) (fun _ => ?_) (fun hc => absurd rfl hc)
  refine W.widen (k := 100 + 50 * (t + 1)) (n := 6000 + 250 * (t + 1)) (by omega) (by omega) ?_
  exact kk H locs (lw_mk hP hD e1 e2 ⟨c', n, k, tk, p0, cm, st, r, rfl, rfl, rfl, rfl, rfl, rfl, rfl, rfl, rfl, h3, hsv, ht_more (lw_addC hh.1 h3.1 h1) hti, hri, hq⟩) hS
set_option maxHeartbeats 4000000 in
set_option maxRecDepth 100000 in
theorem lwc_1 (hx : p.tables.exec = Jvm.exec) (hb : c.code = code) (hml : c.maxLocals = 4) (hts : ∀ w ∈ hq_tbl, w.before #[Value.ref b] s = true) (hown : s.vm.findClass "HeapQueriesLaw" = some m.cls) (hK : va_K D hq_cl (hq_tys cI cZ cL) s) (hA : ∀ q : Nat, s.heap.size ≤ q → A q) (hN : hq_N s) (hX : va_X b L xs s s.heap) (hbl : b < s.heap.size) (hbA : ¬ A b) (hL : L ≤ 2560) (ht : 5 * t + 5 ≤ L) (hl : lv_has ls 4 [(0, .ref b), (1, .ref x0), (2, .ref m0), (3, .int (nI (5 * t)))]) (hh : hh_I cc n a_parent a_kindOf a_size a_root a_slotKind a_slot ha_parents ha_classes ha_sizes ha_fields hf_roots) (hsv : hf_changed = 0 → hs_V n a_root a_slotKind a_slot ha_sizes hf_roots sa_linkedFrom sa_linkCounts sa_retainedSets sa_retainedSizes sa_immediateDominators sf_objectCount sf_roots sf_reachable) (hti : ht_I cc k tk p0 cm st a_code a_number ta_codes ta_numbers ta_brackets tf_bracketCount tf_place tf_inWhere tf_compared) (hri : hr_I r a_rowKind a_rowValue wa_rows) (hq : lw_q l D A q cI cZ cL (c0.length + 23) y p0 k ta_codes ta_numbers xq_query) (e1 : q 0 = x0) (e2 : qm 0 = m0) (hP : va_P D hq_cl (hx_w q cI cZ cL xq_query ha_parents (nI cc) ha_classes ha_sizes ha_fields (nI n) hf_roots hf_changed sa_linkedFrom sa_linkCounts sa_retainedSets sa_retainedSizes sa_dominators sa_immediateDominators sf_objectCount sf_roots sf_reachable ta_codes ta_numbers (nI k) ta_brackets tf_bracketCount tf_place tf_inWhere tf_compared wa_rows (nI r) wf_looks ++ (c0 ++ (hm_w qm cI cZ cL (nI cc) a_parent (nI n) a_kindOf a_size a_root a_slotKind a_slot a_kept (nI k) a_code a_number f_want f_compared f_open a_opened (nI r) a_rowKind a_rowValue f_many a_list wf_looks f_fail f_level a_from a_eAt a_whereAt a_source a_distinct a_keeps f_at f_self f_brackets f_values a_vKind a_v f_waiting a_waits ++ y))) H) (hD : va_D A (hx_w q cI cZ cL xq_query ha_parents (nI cc) ha_classes ha_sizes ha_fields (nI n) hf_roots hf_changed sa_linkedFrom sa_linkCounts sa_retainedSets sa_retainedSizes sa_dominators sa_immediateDominators sf_objectCount sf_roots sf_reachable ta_codes ta_numbers (nI k) ta_brackets tf_bracketCount tf_place tf_inWhere tf_compared wa_rows (nI r) wf_looks ++ (c0 ++ (hm_w qm cI cZ cL (nI cc) a_parent (nI n) a_kindOf a_size a_root a_slotKind a_slot a_kept (nI k) a_code a_number f_want f_compared f_open a_opened (nI r) a_rowKind a_rowValue f_many a_list wf_looks f_fail f_level a_from a_eAt a_whereAt a_source a_distinct a_keeps f_at f_self f_brackets f_values a_vKind a_v f_waiting a_waits ++ y)))) (hS : va_S A s.heap H locs)
    (kk : ∀ (H1 : Heap) (locs1 : List Loc), lw_B l D A cI cZ cL x0 m0 H1 → va_S A s.heap H1 locs1 → W p l e room_1 s m #[Value.ref b] below meth c H1 locs1 (100 + 50 * (t + 1)) (6000 + 250 * (t + 1)) Q (F0 m 467 ls [])) : W p l e room_1 s m #[Value.ref b] below meth c H locs (100 + 50 * t) (6000 + 250 * t) Q (F0 m 131 ls []) := by
  rw [← e1, ← e2] at hl
  obtain ⟨r1, n', mk', ms', xk', xs', ch', h1, h2, h3, h4⟩ := hh_addObject hh (xs (nI (5 * t) + 1).toNatClampNeg) (xs (nI (5 * t) + 2).toNatClampNeg) hf_changed
  have hsv' : ch' = 0 → hs_V n' a_root a_slotKind a_slot xs' hf_roots sa_linkedFrom sa_linkCounts sa_retainedSets sa_retainedSizes sa_immediateDominators sf_objectCount sf_roots sf_reachable := fun e0 => by
    rcases h4 with ⟨a1, a2, a3, a4, a5, a6⟩ | h4
    · subst a1 a2 a3 a4 a5 a6
      exact hsv e0
    · exact absurd (h4.symm.trans e0) (by decide)
  refine lv_aload_n hx hb dlw_131 rfl (lv_at hl 1 rfl) ?_
  refine lv_aload_n hx hb dlw_132 rfl (lv_at hl 0 rfl) ?_
  refine lv_iload_n hx hb dlw_133 rfl (lv_at hl 3 rfl) ?_
  refine lv_iconst (v := 1) hx hb dlw_134 (by decide) ?_
  refine lv_iadd hx hb dlw_135 ?_
  refine va_sld hx hb hX hbl hbA hS (lw_in ht hL 1 1 rfl (by decide)) dlw_136 ?_
  refine lv_aload_n hx hb dlw_137 rfl (lv_at hl 0 rfl) ?_
  refine lv_iload_n hx hb dlw_138 rfl (lv_at hl 3 rfl) ?_
  refine lv_iconst (v := 2) hx hb dlw_139 (by decide) ?_
  refine lv_iadd hx hb dlw_140 ?_
  refine va_sld hx hb hX hbl hbA hS (lw_in ht hL 2 2 rfl (by decide)) dlw_141 ?_
  refine kxq_addObject (xs (nI (5 * t) + 1).toNatClampNeg) (xs (nI (5 * t) + 2).toNatClampNeg) _ h2 hx hb hml hts hown hK hP hD hS wi_735 ⟨Nat.le_of_ble_eq_true rfl, Nat.le_of_ble_eq_true rfl⟩ hl.1 (Nat.le_of_ble_eq_true rfl) dlw_142 ⟨by show 100 + 50 * t + 0 ≤ 600000; omega, by show 6000 + 250 * t + 0 ≤ 7302249; omega⟩ (fun H locs hP hD hS => ?_)
  refine lv_aload_n hx hb dlw_145 rfl (lv_at hl 2 rfl) ?_
  refine lv_aload_n hx hb dlw_146 rfl (lv_at hl 0 rfl) ?_
  refine lv_iload_n hx hb dlw_147 rfl (lv_at hl 3 rfl) ?_
  refine lv_iconst (v := 1) hx hb dlw_148 (by decide) ?_
  refine lv_iadd hx hb dlw_149 ?_
  refine va_sld hx hb hX hbl hbA hS (lw_in ht hL 1 1 rfl (by decide)) dlw_150 ?_
  refine lv_aload_n hx hb dlw_151 rfl (lv_at hl 0 rfl) ?_
  refine lv_iload_n hx hb dlw_152 rfl (lv_at hl 3 rfl) ?_
  refine lv_iconst (v := 2) hx hb dlw_153 (by decide) ?_
  refine lv_iadd hx hb dlw_154 ?_
  refine va_sld hx hb hX hbl hbA hS (lw_in ht hL 2 2 rfl (by decide)) dlw_155 ?_
  have hP := hz_toMP hP
  have hD := hz_toMD hD
  refine km_addObject (xs (nI (5 * t) + 1).toNatClampNeg) (xs (nI (5 * t) + 2).toNatClampNeg) _ h1 hx hb hml hts hown hK hP hD hS wi_736 ⟨Nat.le_of_ble_eq_true rfl, Nat.le_of_ble_eq_true rfl⟩ hl.1 (Nat.le_of_ble_eq_true rfl) dlw_156 ⟨by show 100 + 50 * t + 0 ≤ 600000; omega, by show 6000 + 250 * t + 0 ≤ 7302249; omega⟩ (fun H locs hP hD hS => ?_)
  have hP := hz_toXP hP
  have hD := hz_toXD hD
  refine lv_icmp_eq (tgt := 467) hx hb dlw_159 (by decide) (fun _ => ?_) (fun hc => absurd rfl hc)
  refine W.widen (k := 100 + 50 * (t + 1)) (n := 6000 + 250 * (t + 1)) (by omega) (by omega) ?_
  exact kk H locs (lw_mk hP hD e1 e2 ⟨cc, n', k, tk, p0, cm, st, r, rfl, rfl, rfl, rfl, rfl, rfl, rfl, rfl, rfl, h3, hsv', hti, hri, hq⟩) hS
set_option maxHeartbeats 4000000 in
set_option maxRecDepth 100000 in
theorem lwc_2 (hx : p.tables.exec = Jvm.exec) (hb : c.code = code) (hml : c.maxLocals = 4) (hts : ∀ w ∈ hq_tbl, w.before #[Value.ref b] s = true) (hown : s.vm.findClass "HeapQueriesLaw" = some m.cls) (hK : va_K D hq_cl (hq_tys cI cZ cL) s) (hA : ∀ q : Nat, s.heap.size ≤ q → A q) (hN : hq_N s) (hX : va_X b L xs s s.heap) (hbl : b < s.heap.size) (hbA : ¬ A b) (hL : L ≤ 2560) (ht : 5 * t + 5 ≤ L) (hl : lv_has ls 4 [(0, .ref b), (1, .ref x0), (2, .ref m0), (3, .int (nI (5 * t)))]) (hh : hh_I cc n a_parent a_kindOf a_size a_root a_slotKind a_slot ha_parents ha_classes ha_sizes ha_fields hf_roots) (hsv : hf_changed = 0 → hs_V n a_root a_slotKind a_slot ha_sizes hf_roots sa_linkedFrom sa_linkCounts sa_retainedSets sa_retainedSizes sa_immediateDominators sf_objectCount sf_roots sf_reachable) (hti : ht_I cc k tk p0 cm st a_code a_number ta_codes ta_numbers ta_brackets tf_bracketCount tf_place tf_inWhere tf_compared) (hri : hr_I r a_rowKind a_rowValue wa_rows) (hq : lw_q l D A q cI cZ cL (c0.length + 23) y p0 k ta_codes ta_numbers xq_query) (e1 : q 0 = x0) (e2 : qm 0 = m0) (hP : va_P D hq_cl (hx_w q cI cZ cL xq_query ha_parents (nI cc) ha_classes ha_sizes ha_fields (nI n) hf_roots hf_changed sa_linkedFrom sa_linkCounts sa_retainedSets sa_retainedSizes sa_dominators sa_immediateDominators sf_objectCount sf_roots sf_reachable ta_codes ta_numbers (nI k) ta_brackets tf_bracketCount tf_place tf_inWhere tf_compared wa_rows (nI r) wf_looks ++ (c0 ++ (hm_w qm cI cZ cL (nI cc) a_parent (nI n) a_kindOf a_size a_root a_slotKind a_slot a_kept (nI k) a_code a_number f_want f_compared f_open a_opened (nI r) a_rowKind a_rowValue f_many a_list wf_looks f_fail f_level a_from a_eAt a_whereAt a_source a_distinct a_keeps f_at f_self f_brackets f_values a_vKind a_v f_waiting a_waits ++ y))) H) (hD : va_D A (hx_w q cI cZ cL xq_query ha_parents (nI cc) ha_classes ha_sizes ha_fields (nI n) hf_roots hf_changed sa_linkedFrom sa_linkCounts sa_retainedSets sa_retainedSizes sa_dominators sa_immediateDominators sf_objectCount sf_roots sf_reachable ta_codes ta_numbers (nI k) ta_brackets tf_bracketCount tf_place tf_inWhere tf_compared wa_rows (nI r) wf_looks ++ (c0 ++ (hm_w qm cI cZ cL (nI cc) a_parent (nI n) a_kindOf a_size a_root a_slotKind a_slot a_kept (nI k) a_code a_number f_want f_compared f_open a_opened (nI r) a_rowKind a_rowValue f_many a_list wf_looks f_fail f_level a_from a_eAt a_whereAt a_source a_distinct a_keeps f_at f_self f_brackets f_values a_vKind a_v f_waiting a_waits ++ y)))) (hS : va_S A s.heap H locs)
    (kk : ∀ (H1 : Heap) (locs1 : List Loc), lw_B l D A cI cZ cL x0 m0 H1 → va_S A s.heap H1 locs1 → W p l e room_1 s m #[Value.ref b] below meth c H1 locs1 (100 + 50 * (t + 1)) (6000 + 250 * (t + 1)) Q (F0 m 467 ls [])) : W p l e room_1 s m #[Value.ref b] below meth c H locs (100 + 50 * t) (6000 + 250 * t) Q (F0 m 164 ls []) := by
  rw [← e1, ← e2] at hl
  obtain ⟨r1, sk', sl', xf', ch', h1, h2, _, h3, h4⟩ := hh_set hh (xs (nI (5 * t) + 1).toNatClampNeg) (xs (nI (5 * t) + 2).toNatClampNeg) (xs (nI (5 * t) + 3).toNatClampNeg) (xs (nI (5 * t) + 4).toNatClampNeg) hf_changed
  have hsv' : ch' = 0 → hs_V n a_root sk' sl' ha_sizes hf_roots sa_linkedFrom sa_linkCounts sa_retainedSets sa_retainedSizes sa_immediateDominators sf_objectCount sf_roots sf_reachable := fun e0 => by
    rcases h4 with ⟨a1, a2, a3, a4⟩ | h4
    · subst a1 a2 a3 a4
      exact hsv e0
    · exact absurd (h4.symm.trans e0) (by decide)
  refine lv_aload_n hx hb dlw_164 rfl (lv_at hl 1 rfl) ?_
  refine lv_aload_n hx hb dlw_165 rfl (lv_at hl 0 rfl) ?_
  refine lv_iload_n hx hb dlw_166 rfl (lv_at hl 3 rfl) ?_
  refine lv_iconst (v := 1) hx hb dlw_167 (by decide) ?_
  refine lv_iadd hx hb dlw_168 ?_
  refine va_sld hx hb hX hbl hbA hS (lw_in ht hL 1 1 rfl (by decide)) dlw_169 ?_
  refine lv_aload_n hx hb dlw_170 rfl (lv_at hl 0 rfl) ?_
  refine lv_iload_n hx hb dlw_171 rfl (lv_at hl 3 rfl) ?_
  refine lv_iconst (v := 2) hx hb dlw_172 (by decide) ?_
  refine lv_iadd hx hb dlw_173 ?_
  refine va_sld hx hb hX hbl hbA hS (lw_in ht hL 2 2 rfl (by decide)) dlw_174 ?_
  refine lv_aload_n hx hb dlw_175 rfl (lv_at hl 0 rfl) ?_
  refine lv_iload_n hx hb dlw_176 rfl (lv_at hl 3 rfl) ?_
  refine lv_iconst (v := 3) hx hb dlw_177 (by decide) ?_
  refine lv_iadd hx hb dlw_178 ?_
  refine va_sld hx hb hX hbl hbA hS (lw_in ht hL 3 3 rfl (by decide)) dlw_179 ?_
  refine lv_aload_n hx hb dlw_180 rfl (lv_at hl 0 rfl) ?_
  refine lv_iload_n hx hb dlw_181 rfl (lv_at hl 3 rfl) ?_
  refine lv_iconst (v := 4) hx hb dlw_182 (by decide) ?_
  refine lv_iadd hx hb dlw_183 ?_
  refine va_sld hx hb hX hbl hbA hS (lw_in ht hL 4 4 rfl (by decide)) dlw_184 ?_
  refine kxq_set (xs (nI (5 * t) + 1).toNatClampNeg) (xs (nI (5 * t) + 2).toNatClampNeg) (xs (nI (5 * t) + 3).toNatClampNeg) (xs (nI (5 * t) + 4).toNatClampNeg) _ h2 hx hb hml hts hown hK hP hD hS wi_737 ⟨Nat.le_of_ble_eq_true rfl, Nat.le_of_ble_eq_true rfl⟩ hl.1 (Nat.le_of_ble_eq_true rfl) dlw_185 ⟨by show 100 + 50 * t + 0 ≤ 600000; omega, by show 6000 + 250 * t + 0 ≤ 7302249; omega⟩ (fun H locs hP hD hS => ?_)
  refine lv_aload_n hx hb dlw_188 rfl (lv_at hl 2 rfl) ?_
  refine lv_aload_n hx hb dlw_189 rfl (lv_at hl 0 rfl) ?_
  refine lv_iload_n hx hb dlw_190 rfl (lv_at hl 3 rfl) ?_
  refine lv_iconst (v := 1) hx hb dlw_191 (by decide) ?_
  refine lv_iadd hx hb dlw_192 ?_
  refine va_sld hx hb hX hbl hbA hS (lw_in ht hL 1 1 rfl (by decide)) dlw_193 ?_
  refine lv_aload_n hx hb dlw_194 rfl (lv_at hl 0 rfl) ?_
  refine lv_iload_n hx hb dlw_195 rfl (lv_at hl 3 rfl) ?_
  refine lv_iconst (v := 2) hx hb dlw_196 (by decide) ?_
  refine lv_iadd hx hb dlw_197 ?_
  refine va_sld hx hb hX hbl hbA hS (lw_in ht hL 2 2 rfl (by decide)) dlw_198 ?_
  refine lv_aload_n hx hb dlw_199 rfl (lv_at hl 0 rfl) ?_
  refine lv_iload_n hx hb dlw_200 rfl (lv_at hl 3 rfl) ?_
  refine lv_iconst (v := 3) hx hb dlw_201 (by decide) ?_
  refine lv_iadd hx hb dlw_202 ?_
  refine va_sld hx hb hX hbl hbA hS (lw_in ht hL 3 3 rfl (by decide)) dlw_203 ?_
  refine lv_aload_n hx hb dlw_204 rfl (lv_at hl 0 rfl) ?_
  refine lv_iload_n hx hb dlw_205 rfl (lv_at hl 3 rfl) ?_
  refine lv_iconst (v := 4) hx hb dlw_206 (by decide) ?_
  refine lv_iadd hx hb dlw_207 ?_
  refine va_sld hx hb hX hbl hbA hS (lw_in ht hL 4 4 rfl (by decide)) dlw_208 ?_
  have hP := hz_toMP hP
  have hD := hz_toMD hD
  refine km_set (xs (nI (5 * t) + 1).toNatClampNeg) (xs (nI (5 * t) + 2).toNatClampNeg) (xs (nI (5 * t) + 3).toNatClampNeg) (xs (nI (5 * t) + 4).toNatClampNeg) _ h1 hx hb hml hts hown hK hP hD hS wi_738 ⟨Nat.le_of_ble_eq_true rfl, Nat.le_of_ble_eq_true rfl⟩ hl.1 (Nat.le_of_ble_eq_true rfl) dlw_209 ⟨by show 100 + 50 * t + 0 ≤ 600000; omega, by show 6000 + 250 * t + 0 ≤ 7302249; omega⟩ (fun H locs hP hD hS => ?_)
  have hP := hz_toXP hP
  have hD := hz_toXD hD
  refine lv_icmp_eq (tgt := 467) hx hb dlw_212 (by decide) (fun _ => ?_) (fun hc => absurd rfl hc)
  refine W.widen (k := 100 + 50 * (t + 1)) (n := 6000 + 250 * (t + 1)) (by omega) (by omega) ?_
  exact kk H locs (lw_mk hP hD e1 e2 ⟨cc, n, k, tk, p0, cm, st, r, rfl, rfl, rfl, rfl, rfl, rfl, rfl, rfl, rfl, h3, hsv', hti, hri, hq⟩) hS
set_option maxHeartbeats 4000000 in
set_option maxRecDepth 100000 in
theorem lwc_3 (hx : p.tables.exec = Jvm.exec) (hb : c.code = code) (hml : c.maxLocals = 4) (hts : ∀ w ∈ hq_tbl, w.before #[Value.ref b] s = true) (hown : s.vm.findClass "HeapQueriesLaw" = some m.cls) (hK : va_K D hq_cl (hq_tys cI cZ cL) s) (hA : ∀ q : Nat, s.heap.size ≤ q → A q) (hN : hq_N s) (hX : va_X b L xs s s.heap) (hbl : b < s.heap.size) (hbA : ¬ A b) (hL : L ≤ 2560) (ht : 5 * t + 5 ≤ L) (hl : lv_has ls 4 [(0, .ref b), (1, .ref x0), (2, .ref m0), (3, .int (nI (5 * t)))]) (hh : hh_I cc n a_parent a_kindOf a_size a_root a_slotKind a_slot ha_parents ha_classes ha_sizes ha_fields hf_roots) (hsv : hf_changed = 0 → hs_V n a_root a_slotKind a_slot ha_sizes hf_roots sa_linkedFrom sa_linkCounts sa_retainedSets sa_retainedSizes sa_immediateDominators sf_objectCount sf_roots sf_reachable) (hti : ht_I cc k tk p0 cm st a_code a_number ta_codes ta_numbers ta_brackets tf_bracketCount tf_place tf_inWhere tf_compared) (hri : hr_I r a_rowKind a_rowValue wa_rows) (hq : lw_q l D A q cI cZ cL (c0.length + 23) y p0 k ta_codes ta_numbers xq_query) (e1 : q 0 = x0) (e2 : qm 0 = m0) (hP : va_P D hq_cl (hx_w q cI cZ cL xq_query ha_parents (nI cc) ha_classes ha_sizes ha_fields (nI n) hf_roots hf_changed sa_linkedFrom sa_linkCounts sa_retainedSets sa_retainedSizes sa_dominators sa_immediateDominators sf_objectCount sf_roots sf_reachable ta_codes ta_numbers (nI k) ta_brackets tf_bracketCount tf_place tf_inWhere tf_compared wa_rows (nI r) wf_looks ++ (c0 ++ (hm_w qm cI cZ cL (nI cc) a_parent (nI n) a_kindOf a_size a_root a_slotKind a_slot a_kept (nI k) a_code a_number f_want f_compared f_open a_opened (nI r) a_rowKind a_rowValue f_many a_list wf_looks f_fail f_level a_from a_eAt a_whereAt a_source a_distinct a_keeps f_at f_self f_brackets f_values a_vKind a_v f_waiting a_waits ++ y))) H) (hD : va_D A (hx_w q cI cZ cL xq_query ha_parents (nI cc) ha_classes ha_sizes ha_fields (nI n) hf_roots hf_changed sa_linkedFrom sa_linkCounts sa_retainedSets sa_retainedSizes sa_dominators sa_immediateDominators sf_objectCount sf_roots sf_reachable ta_codes ta_numbers (nI k) ta_brackets tf_bracketCount tf_place tf_inWhere tf_compared wa_rows (nI r) wf_looks ++ (c0 ++ (hm_w qm cI cZ cL (nI cc) a_parent (nI n) a_kindOf a_size a_root a_slotKind a_slot a_kept (nI k) a_code a_number f_want f_compared f_open a_opened (nI r) a_rowKind a_rowValue f_many a_list wf_looks f_fail f_level a_from a_eAt a_whereAt a_source a_distinct a_keeps f_at f_self f_brackets f_values a_vKind a_v f_waiting a_waits ++ y)))) (hS : va_S A s.heap H locs)
    (kk : ∀ (H1 : Heap) (locs1 : List Loc), lw_B l D A cI cZ cL x0 m0 H1 → va_S A s.heap H1 locs1 → W p l e room_1 s m #[Value.ref b] below meth c H1 locs1 (100 + 50 * (t + 1)) (6000 + 250 * (t + 1)) Q (F0 m 467 ls [])) : W p l e room_1 s m #[Value.ref b] below meth c H locs (100 + 50 * t) (6000 + 250 * t) Q (F0 m 217 ls []) := by
  rw [← e1, ← e2] at hl
  have go : ∀ z : Int32, z = 0 ∨ z = 1 → (∀ (H : Heap) (locs : List Loc) (rest : List Value), W p l e room_1 s m #[Value.ref b] below meth c H locs (100 + 50 * t) (6000 + 250 * t) Q (F0 m 236 ls (.int z :: rest)) → W p l e room_1 s m #[Value.ref b] below meth c H locs (100 + 50 * t) (6000 + 250 * t) Q (F0 m 228 ls (.int (xs (nI (5 * t) + 2).toNatClampNeg) :: rest))) → (∀ (H : Heap) (locs : List Loc) (rest : List Value), W p l e room_1 s m #[Value.ref b] below meth c H locs (100 + 50 * t) (6000 + 250 * t) Q (F0 m 258 ls (.int z :: rest)) → W p l e room_1 s m #[Value.ref b] below meth c H locs (100 + 50 * t) (6000 + 250 * t) Q (F0 m 250 ls (.int (xs (nI (5 * t) + 2).toNatClampNeg) :: rest))) → W p l e room_1 s m #[Value.ref b] below meth c H locs (100 + 50 * t) (6000 + 250 * t) Q (F0 m 217 ls []) := by
    intro z hz0 j1 j2
    obtain ⟨r1, mr', xr', ch', h1, h2, _, h3, h4⟩ := hh_setRoot hh (xs (nI (5 * t) + 1).toNatClampNeg) z hf_changed hz0
    have hsv' : ch' = 0 → hs_V n mr' a_slotKind a_slot ha_sizes xr' sa_linkedFrom sa_linkCounts sa_retainedSets sa_retainedSizes sa_immediateDominators sf_objectCount sf_roots sf_reachable := fun e0 => by
      rcases h4 with ⟨a1, a2, a3⟩ | h4
      · subst a1 a2 a3
        exact hsv e0
      · exact absurd (h4.symm.trans e0) (by decide)
    refine lv_aload_n hx hb dlw_217 rfl (lv_at hl 1 rfl) ?_
    refine lv_aload_n hx hb dlw_218 rfl (lv_at hl 0 rfl) ?_
    refine lv_iload_n hx hb dlw_219 rfl (lv_at hl 3 rfl) ?_
    refine lv_iconst (v := 1) hx hb dlw_220 (by decide) ?_
    refine lv_iadd hx hb dlw_221 ?_
    refine va_sld hx hb hX hbl hbA hS (lw_in ht hL 1 1 rfl (by decide)) dlw_222 ?_
    refine lv_aload_n hx hb dlw_223 rfl (lv_at hl 0 rfl) ?_
    refine lv_iload_n hx hb dlw_224 rfl (lv_at hl 3 rfl) ?_
    refine lv_iconst (v := 2) hx hb dlw_225 (by decide) ?_
    refine lv_iadd hx hb dlw_226 ?_
    refine va_sld hx hb hX hbl hbA hS (lw_in ht hL 2 2 rfl (by decide)) dlw_227 ?_
    refine j1 _ _ _ ?_
    refine kxq_setRoot (xs (nI (5 * t) + 1).toNatClampNeg) z _ h2 hx hb hml hts hown hK hP hD hS wi_739 ⟨Nat.le_of_ble_eq_true rfl, Nat.le_of_ble_eq_true rfl⟩ hl.1 (Nat.le_of_ble_eq_true rfl) dlw_236 ⟨by show 100 + 50 * t + 0 ≤ 600000; omega, by show 6000 + 250 * t + 0 ≤ 7302249; omega⟩ (fun H locs hP hD hS => ?_)
    refine lv_aload_n hx hb dlw_239 rfl (lv_at hl 2 rfl) ?_
    refine lv_aload_n hx hb dlw_240 rfl (lv_at hl 0 rfl) ?_
    refine lv_iload_n hx hb dlw_241 rfl (lv_at hl 3 rfl) ?_
    refine lv_iconst (v := 1) hx hb dlw_242 (by decide) ?_
    refine lv_iadd hx hb dlw_243 ?_
    refine va_sld hx hb hX hbl hbA hS (lw_in ht hL 1 1 rfl (by decide)) dlw_244 ?_
    refine lv_aload_n hx hb dlw_245 rfl (lv_at hl 0 rfl) ?_
    refine lv_iload_n hx hb dlw_246 rfl (lv_at hl 3 rfl) ?_
    refine lv_iconst (v := 2) hx hb dlw_247 (by decide) ?_
    refine lv_iadd hx hb dlw_248 ?_
    refine va_sld hx hb hX hbl hbA hS (lw_in ht hL 2 2 rfl (by decide)) dlw_249 ?_
    refine j2 _ _ _ ?_
    have hP := hz_toMP hP
    have hD := hz_toMD hD
    refine km_setRoot (xs (nI (5 * t) + 1).toNatClampNeg) z _ h1 hx hb hml hts hown hK hP hD hS wi_740 ⟨Nat.le_of_ble_eq_true rfl, Nat.le_of_ble_eq_true rfl⟩ hl.1 (Nat.le_of_ble_eq_true rfl) dlw_258 ⟨by show 100 + 50 * t + 0 ≤ 600000; omega, by show 6000 + 250 * t + 0 ≤ 7302249; omega⟩ (fun H locs hP hD hS => ?_)
    have hP := hz_toXP hP
    have hD := hz_toXD hD
    refine lv_icmp_eq (tgt := 467) hx hb dlw_261 (by decide) (fun _ => ?_) (fun hc => absurd rfl hc)
    refine W.widen (k := 100 + 50 * (t + 1)) (n := 6000 + 250 * (t + 1)) (by omega) (by omega) ?_
    exact kk H locs (lw_mk hP hD e1 e2 ⟨cc, n, k, tk, p0, cm, st, r, rfl, rfl, rfl, rfl, rfl, rfl, rfl, rfl, rfl, h3, hsv', hti, hri, hq⟩) hS
  by_cases v0 : (xs (nI (5 * t) + 2).toNatClampNeg) = 0
  · refine go 0 (Or.inl rfl) (fun H locs rest h9 => ?_) (fun H locs rest h9 => ?_)
    · refine lv_if_eq (tgt := 235) hx hb dlw_228 (by decide) (fun _ => ?_) (fun hc => absurd v0 hc)
      exact lv_iconst (v := 0) hx hb dlw_235 (by decide) h9
    · refine lv_if_eq (tgt := 257) hx hb dlw_250 (by decide) (fun _ => ?_) (fun hc => absurd v0 hc)
      exact lv_iconst (v := 0) hx hb dlw_257 (by decide) h9
  · refine go 1 (Or.inr rfl) (fun H locs rest h9 => ?_) (fun H locs rest h9 => ?_)
    · refine lv_if_eq (tgt := 235) hx hb dlw_228 (by decide) (fun hc => absurd hc v0) (fun _ => ?_)
      refine lv_iconst (v := 1) hx hb dlw_231 (by decide) ?_
      exact lv_goto (tgt := 236) hx hb dlw_232 (by decide) h9
    · refine lv_if_eq (tgt := 257) hx hb dlw_250 (by decide) (fun hc => absurd hc v0) (fun _ => ?_)
      refine lv_iconst (v := 1) hx hb dlw_253 (by decide) ?_
      exact lv_goto (tgt := 258) hx hb dlw_254 (by decide) h9
set_option maxHeartbeats 4000000 in
set_option maxRecDepth 100000 in
theorem lwc_4 (hx : p.tables.exec = Jvm.exec) (hb : c.code = code) (hml : c.maxLocals = 4) (hts : ∀ w ∈ hq_tbl, w.before #[Value.ref b] s = true) (hown : s.vm.findClass "HeapQueriesLaw" = some m.cls) (hK : va_K D hq_cl (hq_tys cI cZ cL) s) (hA : ∀ q : Nat, s.heap.size ≤ q → A q) (hN : hq_N s) (hX : va_X b L xs s s.heap) (hbl : b < s.heap.size) (hbA : ¬ A b) (hL : L ≤ 2560) (ht : 5 * t + 5 ≤ L) (hl : lv_has ls 4 [(0, .ref b), (1, .ref x0), (2, .ref m0), (3, .int (nI (5 * t)))]) (hh : hh_I cc n a_parent a_kindOf a_size a_root a_slotKind a_slot ha_parents ha_classes ha_sizes ha_fields hf_roots) (hsv : hf_changed = 0 → hs_V n a_root a_slotKind a_slot ha_sizes hf_roots sa_linkedFrom sa_linkCounts sa_retainedSets sa_retainedSizes sa_immediateDominators sf_objectCount sf_roots sf_reachable) (hti : ht_I cc k tk p0 cm st a_code a_number ta_codes ta_numbers ta_brackets tf_bracketCount tf_place tf_inWhere tf_compared) (hri : hr_I r a_rowKind a_rowValue wa_rows) (hq : lw_q l D A q cI cZ cL (c0.length + 23) y p0 k ta_codes ta_numbers xq_query) (e1 : q 0 = x0) (e2 : qm 0 = m0) (hP : va_P D hq_cl (hx_w q cI cZ cL xq_query ha_parents (nI cc) ha_classes ha_sizes ha_fields (nI n) hf_roots hf_changed sa_linkedFrom sa_linkCounts sa_retainedSets sa_retainedSizes sa_dominators sa_immediateDominators sf_objectCount sf_roots sf_reachable ta_codes ta_numbers (nI k) ta_brackets tf_bracketCount tf_place tf_inWhere tf_compared wa_rows (nI r) wf_looks ++ (c0 ++ (hm_w qm cI cZ cL (nI cc) a_parent (nI n) a_kindOf a_size a_root a_slotKind a_slot a_kept (nI k) a_code a_number f_want f_compared f_open a_opened (nI r) a_rowKind a_rowValue f_many a_list wf_looks f_fail f_level a_from a_eAt a_whereAt a_source a_distinct a_keeps f_at f_self f_brackets f_values a_vKind a_v f_waiting a_waits ++ y))) H) (hD : va_D A (hx_w q cI cZ cL xq_query ha_parents (nI cc) ha_classes ha_sizes ha_fields (nI n) hf_roots hf_changed sa_linkedFrom sa_linkCounts sa_retainedSets sa_retainedSizes sa_dominators sa_immediateDominators sf_objectCount sf_roots sf_reachable ta_codes ta_numbers (nI k) ta_brackets tf_bracketCount tf_place tf_inWhere tf_compared wa_rows (nI r) wf_looks ++ (c0 ++ (hm_w qm cI cZ cL (nI cc) a_parent (nI n) a_kindOf a_size a_root a_slotKind a_slot a_kept (nI k) a_code a_number f_want f_compared f_open a_opened (nI r) a_rowKind a_rowValue f_many a_list wf_looks f_fail f_level a_from a_eAt a_whereAt a_source a_distinct a_keeps f_at f_self f_brackets f_values a_vKind a_v f_waiting a_waits ++ y)))) (hS : va_S A s.heap H locs)
    (kk : ∀ (H1 : Heap) (locs1 : List Loc), lw_B l D A cI cZ cL x0 m0 H1 → va_S A s.heap H1 locs1 → W p l e room_1 s m #[Value.ref b] below meth c H1 locs1 (100 + 50 * (t + 1)) (6000 + 250 * (t + 1)) Q (F0 m 467 ls [])) : W p l e room_1 s m #[Value.ref b] below meth c H locs (100 + 50 * t) (6000 + 250 * t) Q (F0 m 266 ls []) := by
  rw [← e1, ← e2] at hl
  obtain ⟨r1, kp', ch', lf', lc', rs', rz', dm', im', so', sr', re', h1, h2, _, h3⟩ := hh_dominator hh (xs (nI (5 * t) + 1).toNatClampNeg) a_kept (dm := sa_dominators) hsv
  refine lv_aload_n hx hb dlw_266 rfl (lv_at hl 1 rfl) ?_
  refine lv_aload_n hx hb dlw_267 rfl (lv_at hl 0 rfl) ?_
  refine lv_iload_n hx hb dlw_268 rfl (lv_at hl 3 rfl) ?_
  refine lv_iconst (v := 1) hx hb dlw_269 (by decide) ?_
  refine lv_iadd hx hb dlw_270 ?_
  refine va_sld hx hb hX hbl hbA hS (lw_in ht hL 1 1 rfl (by decide)) dlw_271 ?_
  refine kxq_dominator (xs (nI (5 * t) + 1).toNatClampNeg) _ h2 hx hb hml hts hown hK hP hD hS wi_741 ⟨Nat.le_of_ble_eq_true rfl, Nat.le_of_ble_eq_true rfl⟩ hl.1 (Nat.le_of_ble_eq_true rfl) dlw_272 ⟨by show 100 + 50 * t + 0 ≤ 600000; omega, by show 6000 + 250 * t + 0 ≤ 7302249; omega⟩ (fun H locs hP hD hS => ?_)
  refine lv_aload_n hx hb dlw_275 rfl (lv_at hl 2 rfl) ?_
  refine lv_aload_n hx hb dlw_276 rfl (lv_at hl 0 rfl) ?_
  refine lv_iload_n hx hb dlw_277 rfl (lv_at hl 3 rfl) ?_
  refine lv_iconst (v := 1) hx hb dlw_278 (by decide) ?_
  refine lv_iadd hx hb dlw_279 ?_
  refine va_sld hx hb hX hbl hbA hS (lw_in ht hL 1 1 rfl (by decide)) dlw_280 ?_
  have hP := hz_toMP hP
  have hD := hz_toMD hD
  refine km_dominator (xs (nI (5 * t) + 1).toNatClampNeg) _ h1 hx hb hml hts hown hK hP hD hS wi_742 ⟨Nat.le_of_ble_eq_true rfl, Nat.le_of_ble_eq_true rfl⟩ hl.1 (Nat.le_of_ble_eq_true rfl) dlw_281 ⟨by show 100 + 50 * t + 0 ≤ 600000; omega, by show 6000 + 250 * t + 0 ≤ 7302249; omega⟩ (fun H locs hP hD hS => ?_)
  have hP := hz_toXP hP
  have hD := hz_toXD hD
  refine lv_icmp_eq (tgt := 467) hx hb dlw_284 (by decide) (fun _ => ?_) (fun hc => absurd rfl hc)
  refine W.widen (k := 100 + 50 * (t + 1)) (n := 6000 + 250 * (t + 1)) (by omega) (by omega) ?_
  exact kk H locs (lw_mk hP hD e1 e2 ⟨cc, n, k, tk, p0, cm, st, r, rfl, rfl, rfl, rfl, rfl, rfl, rfl, rfl, rfl, hh, h3, hti, hri, hq⟩) hS
set_option maxHeartbeats 4000000 in
set_option maxRecDepth 100000 in
theorem lwc_5 (hx : p.tables.exec = Jvm.exec) (hb : c.code = code) (hml : c.maxLocals = 4) (hts : ∀ w ∈ hq_tbl, w.before #[Value.ref b] s = true) (hown : s.vm.findClass "HeapQueriesLaw" = some m.cls) (hK : va_K D hq_cl (hq_tys cI cZ cL) s) (hA : ∀ q : Nat, s.heap.size ≤ q → A q) (hN : hq_N s) (hX : va_X b L xs s s.heap) (hbl : b < s.heap.size) (hbA : ¬ A b) (hL : L ≤ 2560) (ht : 5 * t + 5 ≤ L) (hl : lv_has ls 4 [(0, .ref b), (1, .ref x0), (2, .ref m0), (3, .int (nI (5 * t)))]) (hh : hh_I cc n a_parent a_kindOf a_size a_root a_slotKind a_slot ha_parents ha_classes ha_sizes ha_fields hf_roots) (hsv : hf_changed = 0 → hs_V n a_root a_slotKind a_slot ha_sizes hf_roots sa_linkedFrom sa_linkCounts sa_retainedSets sa_retainedSizes sa_immediateDominators sf_objectCount sf_roots sf_reachable) (hti : ht_I cc k tk p0 cm st a_code a_number ta_codes ta_numbers ta_brackets tf_bracketCount tf_place tf_inWhere tf_compared) (hri : hr_I r a_rowKind a_rowValue wa_rows) (hq : lw_q l D A q cI cZ cL (c0.length + 23) y p0 k ta_codes ta_numbers xq_query) (e1 : q 0 = x0) (e2 : qm 0 = m0) (hP : va_P D hq_cl (hx_w q cI cZ cL xq_query ha_parents (nI cc) ha_classes ha_sizes ha_fields (nI n) hf_roots hf_changed sa_linkedFrom sa_linkCounts sa_retainedSets sa_retainedSizes sa_dominators sa_immediateDominators sf_objectCount sf_roots sf_reachable ta_codes ta_numbers (nI k) ta_brackets tf_bracketCount tf_place tf_inWhere tf_compared wa_rows (nI r) wf_looks ++ (c0 ++ (hm_w qm cI cZ cL (nI cc) a_parent (nI n) a_kindOf a_size a_root a_slotKind a_slot a_kept (nI k) a_code a_number f_want f_compared f_open a_opened (nI r) a_rowKind a_rowValue f_many a_list wf_looks f_fail f_level a_from a_eAt a_whereAt a_source a_distinct a_keeps f_at f_self f_brackets f_values a_vKind a_v f_waiting a_waits ++ y))) H) (hD : va_D A (hx_w q cI cZ cL xq_query ha_parents (nI cc) ha_classes ha_sizes ha_fields (nI n) hf_roots hf_changed sa_linkedFrom sa_linkCounts sa_retainedSets sa_retainedSizes sa_dominators sa_immediateDominators sf_objectCount sf_roots sf_reachable ta_codes ta_numbers (nI k) ta_brackets tf_bracketCount tf_place tf_inWhere tf_compared wa_rows (nI r) wf_looks ++ (c0 ++ (hm_w qm cI cZ cL (nI cc) a_parent (nI n) a_kindOf a_size a_root a_slotKind a_slot a_kept (nI k) a_code a_number f_want f_compared f_open a_opened (nI r) a_rowKind a_rowValue f_many a_list wf_looks f_fail f_level a_from a_eAt a_whereAt a_source a_distinct a_keeps f_at f_self f_brackets f_values a_vKind a_v f_waiting a_waits ++ y)))) (hS : va_S A s.heap H locs)
    (kk : ∀ (H1 : Heap) (locs1 : List Loc), lw_B l D A cI cZ cL x0 m0 H1 → va_S A s.heap H1 locs1 → W p l e room_1 s m #[Value.ref b] below meth c H1 locs1 (100 + 50 * (t + 1)) (6000 + 250 * (t + 1)) Q (F0 m 467 ls [])) : W p l e room_1 s m #[Value.ref b] below meth c H locs (100 + 50 * t) (6000 + 250 * t) Q (F0 m 289 ls []) := by
  rw [← e1, ← e2] at hl
  obtain ⟨r1, ch', lf', lc', rs', rz', dm', im', so', sr', re', h1, h2, _, h3⟩ := hh_retained hh (xs (nI (5 * t) + 1).toNatClampNeg) (dm := sa_dominators) hsv
  refine lv_aload_n hx hb dlw_289 rfl (lv_at hl 1 rfl) ?_
  refine lv_aload_n hx hb dlw_290 rfl (lv_at hl 0 rfl) ?_
  refine lv_iload_n hx hb dlw_291 rfl (lv_at hl 3 rfl) ?_
  refine lv_iconst (v := 1) hx hb dlw_292 (by decide) ?_
  refine lv_iadd hx hb dlw_293 ?_
  refine va_sld hx hb hX hbl hbA hS (lw_in ht hL 1 1 rfl (by decide)) dlw_294 ?_
  refine kxq_retained (xs (nI (5 * t) + 1).toNatClampNeg) _ h2 hx hb hml hts hown hK hP hD hS wi_743 ⟨Nat.le_of_ble_eq_true rfl, Nat.le_of_ble_eq_true rfl⟩ hl.1 (Nat.le_of_ble_eq_true rfl) dlw_295 ⟨by show 100 + 50 * t + 0 ≤ 600000; omega, by show 6000 + 250 * t + 0 ≤ 7302249; omega⟩ (fun H locs hP hD hS => ?_)
  refine lv_aload_n hx hb dlw_298 rfl (lv_at hl 2 rfl) ?_
  refine lv_aload_n hx hb dlw_299 rfl (lv_at hl 0 rfl) ?_
  refine lv_iload_n hx hb dlw_300 rfl (lv_at hl 3 rfl) ?_
  refine lv_iconst (v := 1) hx hb dlw_301 (by decide) ?_
  refine lv_iadd hx hb dlw_302 ?_
  refine va_sld hx hb hX hbl hbA hS (lw_in ht hL 1 1 rfl (by decide)) dlw_303 ?_
  have hP := hz_toMP hP
  have hD := hz_toMD hD
  refine km_retained (xs (nI (5 * t) + 1).toNatClampNeg) _ h1 hx hb hml hts hown hK hP hD hS wi_744 ⟨Nat.le_of_ble_eq_true rfl, Nat.le_of_ble_eq_true rfl⟩ hl.1 (Nat.le_of_ble_eq_true rfl) dlw_304 ⟨by show 100 + 50 * t + 0 ≤ 600000; omega, by show 6000 + 250 * t + 0 ≤ 7302249; omega⟩ (fun H locs hP hD hS => ?_)
  have hP := hz_toXP hP
  have hD := hz_toXD hD
  refine lv_icmp_eq (tgt := 467) hx hb dlw_307 (by decide) (fun _ => ?_) (fun hc => absurd rfl hc)
  refine W.widen (k := 100 + 50 * (t + 1)) (n := 6000 + 250 * (t + 1)) (by omega) (by omega) ?_
  exact kk H locs (lw_mk hP hD e1 e2 ⟨cc, n, k, tk, p0, cm, st, r, rfl, rfl, rfl, rfl, rfl, rfl, rfl, rfl, rfl, hh, h3, hti, hri, hq⟩) hS
set_option maxHeartbeats 4000000 in
set_option maxRecDepth 100000 in
theorem lwc_7 (hx : p.tables.exec = Jvm.exec) (hb : c.code = code) (hml : c.maxLocals = 4) (hts : ∀ w ∈ hq_tbl, w.before #[Value.ref b] s = true) (hown : s.vm.findClass "HeapQueriesLaw" = some m.cls) (hK : va_K D hq_cl (hq_tys cI cZ cL) s) (hA : ∀ q : Nat, s.heap.size ≤ q → A q) (hN : hq_N s) (hX : va_X b L xs s s.heap) (hbl : b < s.heap.size) (hbA : ¬ A b) (hL : L ≤ 2560) (ht : 5 * t + 5 ≤ L) (hl : lv_has ls 4 [(0, .ref b), (1, .ref x0), (2, .ref m0), (3, .int (nI (5 * t)))]) (hh : hh_I cc n a_parent a_kindOf a_size a_root a_slotKind a_slot ha_parents ha_classes ha_sizes ha_fields hf_roots) (hsv : hf_changed = 0 → hs_V n a_root a_slotKind a_slot ha_sizes hf_roots sa_linkedFrom sa_linkCounts sa_retainedSets sa_retainedSizes sa_immediateDominators sf_objectCount sf_roots sf_reachable) (hti : ht_I cc k tk p0 cm st a_code a_number ta_codes ta_numbers ta_brackets tf_bracketCount tf_place tf_inWhere tf_compared) (hri : hr_I r a_rowKind a_rowValue wa_rows) (hq : lw_q l D A q cI cZ cL (c0.length + 23) y p0 k ta_codes ta_numbers xq_query) (e1 : q 0 = x0) (e2 : qm 0 = m0) (hP : va_P D hq_cl (hx_w q cI cZ cL xq_query ha_parents (nI cc) ha_classes ha_sizes ha_fields (nI n) hf_roots hf_changed sa_linkedFrom sa_linkCounts sa_retainedSets sa_retainedSizes sa_dominators sa_immediateDominators sf_objectCount sf_roots sf_reachable ta_codes ta_numbers (nI k) ta_brackets tf_bracketCount tf_place tf_inWhere tf_compared wa_rows (nI r) wf_looks ++ (c0 ++ (hm_w qm cI cZ cL (nI cc) a_parent (nI n) a_kindOf a_size a_root a_slotKind a_slot a_kept (nI k) a_code a_number f_want f_compared f_open a_opened (nI r) a_rowKind a_rowValue f_many a_list wf_looks f_fail f_level a_from a_eAt a_whereAt a_source a_distinct a_keeps f_at f_self f_brackets f_values a_vKind a_v f_waiting a_waits ++ y))) H) (hD : va_D A (hx_w q cI cZ cL xq_query ha_parents (nI cc) ha_classes ha_sizes ha_fields (nI n) hf_roots hf_changed sa_linkedFrom sa_linkCounts sa_retainedSets sa_retainedSizes sa_dominators sa_immediateDominators sf_objectCount sf_roots sf_reachable ta_codes ta_numbers (nI k) ta_brackets tf_bracketCount tf_place tf_inWhere tf_compared wa_rows (nI r) wf_looks ++ (c0 ++ (hm_w qm cI cZ cL (nI cc) a_parent (nI n) a_kindOf a_size a_root a_slotKind a_slot a_kept (nI k) a_code a_number f_want f_compared f_open a_opened (nI r) a_rowKind a_rowValue f_many a_list wf_looks f_fail f_level a_from a_eAt a_whereAt a_source a_distinct a_keeps f_at f_self f_brackets f_values a_vKind a_v f_waiting a_waits ++ y)))) (hS : va_S A s.heap H locs)
    (kk : ∀ (H1 : Heap) (locs1 : List Loc), lw_B l D A cI cZ cL x0 m0 H1 → va_S A s.heap H1 locs1 → W p l e room_1 s m #[Value.ref b] below meth c H1 locs1 (100 + 50 * (t + 1)) (6000 + 250 * (t + 1)) Q (F0 m 467 ls [])) : W p l e room_1 s m #[Value.ref b] below meth c H locs (100 + 50 * t) (6000 + 250 * t) Q (F0 m 345 ls []) := by
  rw [← e1, ← e2] at hl
  refine lv_aload_n hx hb dlw_345 rfl (lv_at hl 1 rfl) ?_
  refine kxq_tokens  _ rfl hx hb hml hts hown hK hP hD hS wi_745 ⟨Nat.le_of_ble_eq_true rfl, Nat.le_of_ble_eq_true rfl⟩ hl.1 (Nat.le_of_ble_eq_true rfl) dlw_346 ⟨by show 100 + 50 * t + 0 ≤ 600000; omega, by show 6000 + 250 * t + 0 ≤ 7302249; omega⟩ (fun H locs hP hD hS => ?_)
  refine lv_aload_n hx hb dlw_349 rfl (lv_at hl 2 rfl) ?_
  have hP := hz_toMP hP
  have hD := hz_toMD hD
  refine km_tokens  _ rfl hx hb hml hts hown hK hP hD hS wi_746 ⟨Nat.le_of_ble_eq_true rfl, Nat.le_of_ble_eq_true rfl⟩ hl.1 (Nat.le_of_ble_eq_true rfl) dlw_350 ⟨by show 100 + 50 * t + 0 ≤ 600000; omega, by show 6000 + 250 * t + 0 ≤ 7302249; omega⟩ (fun H locs hP hD hS => ?_)
  have hP := hz_toXP hP
  have hD := hz_toXD hD
  refine lv_icmp_eq (tgt := 467) hx hb dlw_353 (by decide) (fun _ => ?_) (fun hc => absurd rfl hc)
  refine W.widen (k := 100 + 50 * (t + 1)) (n := 6000 + 250 * (t + 1)) (by omega) (by omega) ?_
  exact kk H locs (lw_mk hP hD e1 e2 ⟨cc, n, k, tk, p0, cm, st, r, rfl, rfl, rfl, rfl, rfl, rfl, rfl, rfl, rfl, hh, hsv, hti, hri, hq⟩) hS
set_option maxHeartbeats 4000000 in
set_option maxRecDepth 100000 in
theorem lwc_8 (hx : p.tables.exec = Jvm.exec) (hb : c.code = code) (hml : c.maxLocals = 4) (hts : ∀ w ∈ hq_tbl, w.before #[Value.ref b] s = true) (hown : s.vm.findClass "HeapQueriesLaw" = some m.cls) (hK : va_K D hq_cl (hq_tys cI cZ cL) s) (hA : ∀ q : Nat, s.heap.size ≤ q → A q) (hN : hq_N s) (hX : va_X b L xs s s.heap) (hbl : b < s.heap.size) (hbA : ¬ A b) (hL : L ≤ 2560) (ht : 5 * t + 5 ≤ L) (hl : lv_has ls 4 [(0, .ref b), (1, .ref x0), (2, .ref m0), (3, .int (nI (5 * t)))]) (hh : hh_I cc n a_parent a_kindOf a_size a_root a_slotKind a_slot ha_parents ha_classes ha_sizes ha_fields hf_roots) (hsv : hf_changed = 0 → hs_V n a_root a_slotKind a_slot ha_sizes hf_roots sa_linkedFrom sa_linkCounts sa_retainedSets sa_retainedSizes sa_immediateDominators sf_objectCount sf_roots sf_reachable) (hti : ht_I cc k tk p0 cm st a_code a_number ta_codes ta_numbers ta_brackets tf_bracketCount tf_place tf_inWhere tf_compared) (hri : hr_I r a_rowKind a_rowValue wa_rows) (hq : lw_q l D A q cI cZ cL (c0.length + 23) y p0 k ta_codes ta_numbers xq_query) (e1 : q 0 = x0) (e2 : qm 0 = m0) (hP : va_P D hq_cl (hx_w q cI cZ cL xq_query ha_parents (nI cc) ha_classes ha_sizes ha_fields (nI n) hf_roots hf_changed sa_linkedFrom sa_linkCounts sa_retainedSets sa_retainedSizes sa_dominators sa_immediateDominators sf_objectCount sf_roots sf_reachable ta_codes ta_numbers (nI k) ta_brackets tf_bracketCount tf_place tf_inWhere tf_compared wa_rows (nI r) wf_looks ++ (c0 ++ (hm_w qm cI cZ cL (nI cc) a_parent (nI n) a_kindOf a_size a_root a_slotKind a_slot a_kept (nI k) a_code a_number f_want f_compared f_open a_opened (nI r) a_rowKind a_rowValue f_many a_list wf_looks f_fail f_level a_from a_eAt a_whereAt a_source a_distinct a_keeps f_at f_self f_brackets f_values a_vKind a_v f_waiting a_waits ++ y))) H) (hD : va_D A (hx_w q cI cZ cL xq_query ha_parents (nI cc) ha_classes ha_sizes ha_fields (nI n) hf_roots hf_changed sa_linkedFrom sa_linkCounts sa_retainedSets sa_retainedSizes sa_dominators sa_immediateDominators sf_objectCount sf_roots sf_reachable ta_codes ta_numbers (nI k) ta_brackets tf_bracketCount tf_place tf_inWhere tf_compared wa_rows (nI r) wf_looks ++ (c0 ++ (hm_w qm cI cZ cL (nI cc) a_parent (nI n) a_kindOf a_size a_root a_slotKind a_slot a_kept (nI k) a_code a_number f_want f_compared f_open a_opened (nI r) a_rowKind a_rowValue f_many a_list wf_looks f_fail f_level a_from a_eAt a_whereAt a_source a_distinct a_keeps f_at f_self f_brackets f_values a_vKind a_v f_waiting a_waits ++ y)))) (hS : va_S A s.heap H locs)
    (kk : ∀ (H1 : Heap) (locs1 : List Loc), lw_B l D A cI cZ cL x0 m0 H1 → va_S A s.heap H1 locs1 → W p l e room_1 s m #[Value.ref b] below meth c H1 locs1 (100 + 50 * (t + 1)) (6000 + 250 * (t + 1)) Q (F0 m 467 ls [])) : W p l e room_1 s m #[Value.ref b] below meth c H locs (100 + 50 * t) (6000 + 250 * t) Q (F0 m 358 ls []) := by
  rw [← e1, ← e2] at hl
  refine lv_aload_n hx hb dlw_358 rfl (lv_at hl 1 rfl) ?_
  refine kxq_depth  _ rfl hx hb hml hts hown hK hP hD hS wi_747 ⟨Nat.le_of_ble_eq_true rfl, Nat.le_of_ble_eq_true rfl⟩ hl.1 (Nat.le_of_ble_eq_true rfl) dlw_359 ⟨by show 100 + 50 * t + 0 ≤ 600000; omega, by show 6000 + 250 * t + 0 ≤ 7302249; omega⟩ (fun H locs hP hD hS => ?_)
  refine lv_aload_n hx hb dlw_362 rfl (lv_at hl 2 rfl) ?_
  have hP := hz_toMP hP
  have hD := hz_toMD hD
  refine km_depth  _ (ht_depth hti) hx hb hml hts hown hK hP hD hS wi_748 ⟨Nat.le_of_ble_eq_true rfl, Nat.le_of_ble_eq_true rfl⟩ hl.1 (Nat.le_of_ble_eq_true rfl) dlw_363 ⟨by show 100 + 50 * t + 0 ≤ 600000; omega, by show 6000 + 250 * t + 0 ≤ 7302249; omega⟩ (fun H locs hP hD hS => ?_)
  have hP := hz_toXP hP
  have hD := hz_toXD hD
  refine lv_icmp_eq (tgt := 467) hx hb dlw_366 (by decide) (fun _ => ?_) (fun hc => absurd rfl hc)
  refine W.widen (k := 100 + 50 * (t + 1)) (n := 6000 + 250 * (t + 1)) (by omega) (by omega) ?_
  exact kk H locs (lw_mk hP hD e1 e2 ⟨cc, n, k, tk, p0, cm, st, r, rfl, rfl, rfl, rfl, rfl, rfl, rfl, rfl, rfl, hh, hsv, hti, hri, hq⟩) hS
set_option maxHeartbeats 4000000 in
set_option maxRecDepth 100000 in
theorem lwc_11 (hx : p.tables.exec = Jvm.exec) (hb : c.code = code) (hml : c.maxLocals = 4) (hts : ∀ w ∈ hq_tbl, w.before #[Value.ref b] s = true) (hown : s.vm.findClass "HeapQueriesLaw" = some m.cls) (hK : va_K D hq_cl (hq_tys cI cZ cL) s) (hA : ∀ q : Nat, s.heap.size ≤ q → A q) (hN : hq_N s) (hX : va_X b L xs s s.heap) (hbl : b < s.heap.size) (hbA : ¬ A b) (hL : L ≤ 2560) (ht : 5 * t + 5 ≤ L) (hl : lv_has ls 4 [(0, .ref b), (1, .ref x0), (2, .ref m0), (3, .int (nI (5 * t)))]) (hh : hh_I cc n a_parent a_kindOf a_size a_root a_slotKind a_slot ha_parents ha_classes ha_sizes ha_fields hf_roots) (hsv : hf_changed = 0 → hs_V n a_root a_slotKind a_slot ha_sizes hf_roots sa_linkedFrom sa_linkCounts sa_retainedSets sa_retainedSizes sa_immediateDominators sf_objectCount sf_roots sf_reachable) (hti : ht_I cc k tk p0 cm st a_code a_number ta_codes ta_numbers ta_brackets tf_bracketCount tf_place tf_inWhere tf_compared) (hri : hr_I r a_rowKind a_rowValue wa_rows) (hq : lw_q l D A q cI cZ cL (c0.length + 23) y p0 k ta_codes ta_numbers xq_query) (e1 : q 0 = x0) (e2 : qm 0 = m0) (hP : va_P D hq_cl (hx_w q cI cZ cL xq_query ha_parents (nI cc) ha_classes ha_sizes ha_fields (nI n) hf_roots hf_changed sa_linkedFrom sa_linkCounts sa_retainedSets sa_retainedSizes sa_dominators sa_immediateDominators sf_objectCount sf_roots sf_reachable ta_codes ta_numbers (nI k) ta_brackets tf_bracketCount tf_place tf_inWhere tf_compared wa_rows (nI r) wf_looks ++ (c0 ++ (hm_w qm cI cZ cL (nI cc) a_parent (nI n) a_kindOf a_size a_root a_slotKind a_slot a_kept (nI k) a_code a_number f_want f_compared f_open a_opened (nI r) a_rowKind a_rowValue f_many a_list wf_looks f_fail f_level a_from a_eAt a_whereAt a_source a_distinct a_keeps f_at f_self f_brackets f_values a_vKind a_v f_waiting a_waits ++ y))) H) (hD : va_D A (hx_w q cI cZ cL xq_query ha_parents (nI cc) ha_classes ha_sizes ha_fields (nI n) hf_roots hf_changed sa_linkedFrom sa_linkCounts sa_retainedSets sa_retainedSizes sa_dominators sa_immediateDominators sf_objectCount sf_roots sf_reachable ta_codes ta_numbers (nI k) ta_brackets tf_bracketCount tf_place tf_inWhere tf_compared wa_rows (nI r) wf_looks ++ (c0 ++ (hm_w qm cI cZ cL (nI cc) a_parent (nI n) a_kindOf a_size a_root a_slotKind a_slot a_kept (nI k) a_code a_number f_want f_compared f_open a_opened (nI r) a_rowKind a_rowValue f_many a_list wf_looks f_fail f_level a_from a_eAt a_whereAt a_source a_distinct a_keeps f_at f_self f_brackets f_values a_vKind a_v f_waiting a_waits ++ y)))) (hS : va_S A s.heap H locs)
    (kk : ∀ (H1 : Heap) (locs1 : List Loc), lw_B l D A cI cZ cL x0 m0 H1 → va_S A s.heap H1 locs1 → W p l e room_1 s m #[Value.ref b] below meth c H1 locs1 (100 + 50 * (t + 1)) (6000 + 250 * (t + 1)) Q (F0 m 467 ls [])) : W p l e room_1 s m #[Value.ref b] below meth c H locs (100 + 50 * t) (6000 + 250 * t) Q (F0 m 395 ls []) := by
  rw [← e1, ← e2] at hl
  refine lv_aload_n hx hb dlw_395 rfl (lv_at hl 1 rfl) ?_
  refine kxq_rows  _ rfl hx hb hml hts hown hK hP hD hS wi_749 ⟨Nat.le_of_ble_eq_true rfl, Nat.le_of_ble_eq_true rfl⟩ hl.1 (Nat.le_of_ble_eq_true rfl) dlw_396 ⟨by show 100 + 50 * t + 0 ≤ 600000; omega, by show 6000 + 250 * t + 0 ≤ 7302249; omega⟩ (fun H locs hP hD hS => ?_)
  refine lv_aload_n hx hb dlw_399 rfl (lv_at hl 2 rfl) ?_
  have hP := hz_toMP hP
  have hD := hz_toMD hD
  refine km_rows  _ rfl hx hb hml hts hown hK hP hD hS wi_750 ⟨Nat.le_of_ble_eq_true rfl, Nat.le_of_ble_eq_true rfl⟩ hl.1 (Nat.le_of_ble_eq_true rfl) dlw_400 ⟨by show 100 + 50 * t + 0 ≤ 600000; omega, by show 6000 + 250 * t + 0 ≤ 7302249; omega⟩ (fun H locs hP hD hS => ?_)
  have hP := hz_toXP hP
  have hD := hz_toXD hD
  refine lv_icmp_eq (tgt := 467) hx hb dlw_403 (by decide) (fun _ => ?_) (fun hc => absurd rfl hc)
  refine W.widen (k := 100 + 50 * (t + 1)) (n := 6000 + 250 * (t + 1)) (by omega) (by omega) ?_
  exact kk H locs (lw_mk hP hD e1 e2 ⟨cc, n, k, tk, p0, cm, st, r, rfl, rfl, rfl, rfl, rfl, rfl, rfl, rfl, rfl, hh, hsv, hti, hri, hq⟩) hS
set_option maxHeartbeats 4000000 in
set_option maxRecDepth 100000 in
theorem lwc_12 (hx : p.tables.exec = Jvm.exec) (hb : c.code = code) (hml : c.maxLocals = 4) (hts : ∀ w ∈ hq_tbl, w.before #[Value.ref b] s = true) (hown : s.vm.findClass "HeapQueriesLaw" = some m.cls) (hK : va_K D hq_cl (hq_tys cI cZ cL) s) (hA : ∀ q : Nat, s.heap.size ≤ q → A q) (hN : hq_N s) (hX : va_X b L xs s s.heap) (hbl : b < s.heap.size) (hbA : ¬ A b) (hL : L ≤ 2560) (ht : 5 * t + 5 ≤ L) (hl : lv_has ls 4 [(0, .ref b), (1, .ref x0), (2, .ref m0), (3, .int (nI (5 * t)))]) (hh : hh_I cc n a_parent a_kindOf a_size a_root a_slotKind a_slot ha_parents ha_classes ha_sizes ha_fields hf_roots) (hsv : hf_changed = 0 → hs_V n a_root a_slotKind a_slot ha_sizes hf_roots sa_linkedFrom sa_linkCounts sa_retainedSets sa_retainedSizes sa_immediateDominators sf_objectCount sf_roots sf_reachable) (hti : ht_I cc k tk p0 cm st a_code a_number ta_codes ta_numbers ta_brackets tf_bracketCount tf_place tf_inWhere tf_compared) (hri : hr_I r a_rowKind a_rowValue wa_rows) (hq : lw_q l D A q cI cZ cL (c0.length + 23) y p0 k ta_codes ta_numbers xq_query) (e1 : q 0 = x0) (e2 : qm 0 = m0) (hP : va_P D hq_cl (hx_w q cI cZ cL xq_query ha_parents (nI cc) ha_classes ha_sizes ha_fields (nI n) hf_roots hf_changed sa_linkedFrom sa_linkCounts sa_retainedSets sa_retainedSizes sa_dominators sa_immediateDominators sf_objectCount sf_roots sf_reachable ta_codes ta_numbers (nI k) ta_brackets tf_bracketCount tf_place tf_inWhere tf_compared wa_rows (nI r) wf_looks ++ (c0 ++ (hm_w qm cI cZ cL (nI cc) a_parent (nI n) a_kindOf a_size a_root a_slotKind a_slot a_kept (nI k) a_code a_number f_want f_compared f_open a_opened (nI r) a_rowKind a_rowValue f_many a_list wf_looks f_fail f_level a_from a_eAt a_whereAt a_source a_distinct a_keeps f_at f_self f_brackets f_values a_vKind a_v f_waiting a_waits ++ y))) H) (hD : va_D A (hx_w q cI cZ cL xq_query ha_parents (nI cc) ha_classes ha_sizes ha_fields (nI n) hf_roots hf_changed sa_linkedFrom sa_linkCounts sa_retainedSets sa_retainedSizes sa_dominators sa_immediateDominators sf_objectCount sf_roots sf_reachable ta_codes ta_numbers (nI k) ta_brackets tf_bracketCount tf_place tf_inWhere tf_compared wa_rows (nI r) wf_looks ++ (c0 ++ (hm_w qm cI cZ cL (nI cc) a_parent (nI n) a_kindOf a_size a_root a_slotKind a_slot a_kept (nI k) a_code a_number f_want f_compared f_open a_opened (nI r) a_rowKind a_rowValue f_many a_list wf_looks f_fail f_level a_from a_eAt a_whereAt a_source a_distinct a_keeps f_at f_self f_brackets f_values a_vKind a_v f_waiting a_waits ++ y)))) (hS : va_S A s.heap H locs)
    (kk : ∀ (H1 : Heap) (locs1 : List Loc), lw_B l D A cI cZ cL x0 m0 H1 → va_S A s.heap H1 locs1 → W p l e room_1 s m #[Value.ref b] below meth c H1 locs1 (100 + 50 * (t + 1)) (6000 + 250 * (t + 1)) Q (F0 m 467 ls [])) : W p l e room_1 s m #[Value.ref b] below meth c H locs (100 + 50 * t) (6000 + 250 * t) Q (F0 m 408 ls []) := by
  rw [← e1, ← e2] at hl
  obtain ⟨v, h1, h2⟩ := hr_kind hri (xs (nI (5 * t) + 1).toNatClampNeg)
  refine lv_aload_n hx hb dlw_408 rfl (lv_at hl 1 rfl) ?_
  refine lv_aload_n hx hb dlw_409 rfl (lv_at hl 0 rfl) ?_
  refine lv_iload_n hx hb dlw_410 rfl (lv_at hl 3 rfl) ?_
  refine lv_iconst (v := 1) hx hb dlw_411 (by decide) ?_
  refine lv_iadd hx hb dlw_412 ?_
  refine va_sld hx hb hX hbl hbA hS (lw_in ht hL 1 1 rfl (by decide)) dlw_413 ?_
  refine kxq_kind (xs (nI (5 * t) + 1).toNatClampNeg) _ h2 hx hb hml hts hown hK hP hD hS wi_751 ⟨Nat.le_of_ble_eq_true rfl, Nat.le_of_ble_eq_true rfl⟩ hl.1 (Nat.le_of_ble_eq_true rfl) dlw_414 ⟨by show 100 + 50 * t + 0 ≤ 600000; omega, by show 6000 + 250 * t + 0 ≤ 7302249; omega⟩ (fun H locs hP hD hS => ?_)
  refine lv_aload_n hx hb dlw_417 rfl (lv_at hl 2 rfl) ?_
  refine lv_aload_n hx hb dlw_418 rfl (lv_at hl 0 rfl) ?_
  refine lv_iload_n hx hb dlw_419 rfl (lv_at hl 3 rfl) ?_
  refine lv_iconst (v := 1) hx hb dlw_420 (by decide) ?_
  refine lv_iadd hx hb dlw_421 ?_
  refine va_sld hx hb hX hbl hbA hS (lw_in ht hL 1 1 rfl (by decide)) dlw_422 ?_
  have hP := hz_toMP hP
  have hD := hz_toMD hD
  refine km_kind (xs (nI (5 * t) + 1).toNatClampNeg) _ h1 hx hb hml hts hown hK hP hD hS wi_752 ⟨Nat.le_of_ble_eq_true rfl, Nat.le_of_ble_eq_true rfl⟩ hl.1 (Nat.le_of_ble_eq_true rfl) dlw_423 ⟨by show 100 + 50 * t + 0 ≤ 600000; omega, by show 6000 + 250 * t + 0 ≤ 7302249; omega⟩ (fun H locs hP hD hS => ?_)
  have hP := hz_toXP hP
  have hD := hz_toXD hD
  refine lv_icmp_eq (tgt := 467) hx hb dlw_426 (by decide) (fun _ => ?_) (fun hc => absurd rfl hc)
  refine W.widen (k := 100 + 50 * (t + 1)) (n := 6000 + 250 * (t + 1)) (by omega) (by omega) ?_
  exact kk H locs (lw_mk hP hD e1 e2 ⟨cc, n, k, tk, p0, cm, st, r, rfl, rfl, rfl, rfl, rfl, rfl, rfl, rfl, rfl, hh, hsv, hti, hri, hq⟩) hS
set_option maxHeartbeats 4000000 in
set_option maxRecDepth 100000 in
theorem lwc_13 (hx : p.tables.exec = Jvm.exec) (hb : c.code = code) (hml : c.maxLocals = 4) (hts : ∀ w ∈ hq_tbl, w.before #[Value.ref b] s = true) (hown : s.vm.findClass "HeapQueriesLaw" = some m.cls) (hK : va_K D hq_cl (hq_tys cI cZ cL) s) (hA : ∀ q : Nat, s.heap.size ≤ q → A q) (hN : hq_N s) (hX : va_X b L xs s s.heap) (hbl : b < s.heap.size) (hbA : ¬ A b) (hL : L ≤ 2560) (ht : 5 * t + 5 ≤ L) (hl : lv_has ls 4 [(0, .ref b), (1, .ref x0), (2, .ref m0), (3, .int (nI (5 * t)))]) (hh : hh_I cc n a_parent a_kindOf a_size a_root a_slotKind a_slot ha_parents ha_classes ha_sizes ha_fields hf_roots) (hsv : hf_changed = 0 → hs_V n a_root a_slotKind a_slot ha_sizes hf_roots sa_linkedFrom sa_linkCounts sa_retainedSets sa_retainedSizes sa_immediateDominators sf_objectCount sf_roots sf_reachable) (hti : ht_I cc k tk p0 cm st a_code a_number ta_codes ta_numbers ta_brackets tf_bracketCount tf_place tf_inWhere tf_compared) (hri : hr_I r a_rowKind a_rowValue wa_rows) (hq : lw_q l D A q cI cZ cL (c0.length + 23) y p0 k ta_codes ta_numbers xq_query) (e1 : q 0 = x0) (e2 : qm 0 = m0) (hP : va_P D hq_cl (hx_w q cI cZ cL xq_query ha_parents (nI cc) ha_classes ha_sizes ha_fields (nI n) hf_roots hf_changed sa_linkedFrom sa_linkCounts sa_retainedSets sa_retainedSizes sa_dominators sa_immediateDominators sf_objectCount sf_roots sf_reachable ta_codes ta_numbers (nI k) ta_brackets tf_bracketCount tf_place tf_inWhere tf_compared wa_rows (nI r) wf_looks ++ (c0 ++ (hm_w qm cI cZ cL (nI cc) a_parent (nI n) a_kindOf a_size a_root a_slotKind a_slot a_kept (nI k) a_code a_number f_want f_compared f_open a_opened (nI r) a_rowKind a_rowValue f_many a_list wf_looks f_fail f_level a_from a_eAt a_whereAt a_source a_distinct a_keeps f_at f_self f_brackets f_values a_vKind a_v f_waiting a_waits ++ y))) H) (hD : va_D A (hx_w q cI cZ cL xq_query ha_parents (nI cc) ha_classes ha_sizes ha_fields (nI n) hf_roots hf_changed sa_linkedFrom sa_linkCounts sa_retainedSets sa_retainedSizes sa_dominators sa_immediateDominators sf_objectCount sf_roots sf_reachable ta_codes ta_numbers (nI k) ta_brackets tf_bracketCount tf_place tf_inWhere tf_compared wa_rows (nI r) wf_looks ++ (c0 ++ (hm_w qm cI cZ cL (nI cc) a_parent (nI n) a_kindOf a_size a_root a_slotKind a_slot a_kept (nI k) a_code a_number f_want f_compared f_open a_opened (nI r) a_rowKind a_rowValue f_many a_list wf_looks f_fail f_level a_from a_eAt a_whereAt a_source a_distinct a_keeps f_at f_self f_brackets f_values a_vKind a_v f_waiting a_waits ++ y)))) (hS : va_S A s.heap H locs)
    (kk : ∀ (H1 : Heap) (locs1 : List Loc), lw_B l D A cI cZ cL x0 m0 H1 → va_S A s.heap H1 locs1 → W p l e room_1 s m #[Value.ref b] below meth c H1 locs1 (100 + 50 * (t + 1)) (6000 + 250 * (t + 1)) Q (F0 m 467 ls [])) : W p l e room_1 s m #[Value.ref b] below meth c H locs (100 + 50 * t) (6000 + 250 * t) Q (F0 m 431 ls []) := by
  rw [← e1, ← e2] at hl
  obtain ⟨v, h1, h2⟩ := hr_value hri (xs (nI (5 * t) + 1).toNatClampNeg)
  refine lv_aload_n hx hb dlw_431 rfl (lv_at hl 1 rfl) ?_
  refine lv_aload_n hx hb dlw_432 rfl (lv_at hl 0 rfl) ?_
  refine lv_iload_n hx hb dlw_433 rfl (lv_at hl 3 rfl) ?_
  refine lv_iconst (v := 1) hx hb dlw_434 (by decide) ?_
  refine lv_iadd hx hb dlw_435 ?_
  refine va_sld hx hb hX hbl hbA hS (lw_in ht hL 1 1 rfl (by decide)) dlw_436 ?_
  refine kxq_value (xs (nI (5 * t) + 1).toNatClampNeg) _ h2 hx hb hml hts hown hK hP hD hS wi_753 ⟨Nat.le_of_ble_eq_true rfl, Nat.le_of_ble_eq_true rfl⟩ hl.1 (Nat.le_of_ble_eq_true rfl) dlw_437 ⟨by show 100 + 50 * t + 0 ≤ 600000; omega, by show 6000 + 250 * t + 0 ≤ 7302249; omega⟩ (fun H locs hP hD hS => ?_)
  refine lv_aload_n hx hb dlw_440 rfl (lv_at hl 2 rfl) ?_
  refine lv_aload_n hx hb dlw_441 rfl (lv_at hl 0 rfl) ?_
  refine lv_iload_n hx hb dlw_442 rfl (lv_at hl 3 rfl) ?_
  refine lv_iconst (v := 1) hx hb dlw_443 (by decide) ?_
  refine lv_iadd hx hb dlw_444 ?_
  refine va_sld hx hb hX hbl hbA hS (lw_in ht hL 1 1 rfl (by decide)) dlw_445 ?_
  have hP := hz_toMP hP
  have hD := hz_toMD hD
  refine km_value (xs (nI (5 * t) + 1).toNatClampNeg) _ h1 hx hb hml hts hown hK hP hD hS wi_754 ⟨Nat.le_of_ble_eq_true rfl, Nat.le_of_ble_eq_true rfl⟩ hl.1 (Nat.le_of_ble_eq_true rfl) dlw_446 ⟨by show 100 + 50 * t + 0 ≤ 600000; omega, by show 6000 + 250 * t + 0 ≤ 7302249; omega⟩ (fun H locs hP hD hS => ?_)
  have hP := hz_toXP hP
  have hD := hz_toXD hD
  refine lv_icmp_eq (tgt := 467) hx hb dlw_449 (by decide) (fun _ => ?_) (fun hc => absurd rfl hc)
  refine W.widen (k := 100 + 50 * (t + 1)) (n := 6000 + 250 * (t + 1)) (by omega) (by omega) ?_
  exact kk H locs (lw_mk hP hD e1 e2 ⟨cc, n, k, tk, p0, cm, st, r, rfl, rfl, rfl, rfl, rfl, rfl, rfl, rfl, rfl, hh, hsv, hti, hri, hq⟩) hS
set_option maxHeartbeats 4000000 in
set_option maxRecDepth 100000 in
theorem lwc_14 (hx : p.tables.exec = Jvm.exec) (hb : c.code = code) (hml : c.maxLocals = 4) (hts : ∀ w ∈ hq_tbl, w.before #[Value.ref b] s = true) (hown : s.vm.findClass "HeapQueriesLaw" = some m.cls) (hK : va_K D hq_cl (hq_tys cI cZ cL) s) (hA : ∀ q : Nat, s.heap.size ≤ q → A q) (hN : hq_N s) (hX : va_X b L xs s s.heap) (hbl : b < s.heap.size) (hbA : ¬ A b) (hL : L ≤ 2560) (ht : 5 * t + 5 ≤ L) (hl : lv_has ls 4 [(0, .ref b), (1, .ref x0), (2, .ref m0), (3, .int (nI (5 * t)))]) (hh : hh_I cc n a_parent a_kindOf a_size a_root a_slotKind a_slot ha_parents ha_classes ha_sizes ha_fields hf_roots) (hsv : hf_changed = 0 → hs_V n a_root a_slotKind a_slot ha_sizes hf_roots sa_linkedFrom sa_linkCounts sa_retainedSets sa_retainedSizes sa_immediateDominators sf_objectCount sf_roots sf_reachable) (hti : ht_I cc k tk p0 cm st a_code a_number ta_codes ta_numbers ta_brackets tf_bracketCount tf_place tf_inWhere tf_compared) (hri : hr_I r a_rowKind a_rowValue wa_rows) (hq : lw_q l D A q cI cZ cL (c0.length + 23) y p0 k ta_codes ta_numbers xq_query) (e1 : q 0 = x0) (e2 : qm 0 = m0) (hP : va_P D hq_cl (hx_w q cI cZ cL xq_query ha_parents (nI cc) ha_classes ha_sizes ha_fields (nI n) hf_roots hf_changed sa_linkedFrom sa_linkCounts sa_retainedSets sa_retainedSizes sa_dominators sa_immediateDominators sf_objectCount sf_roots sf_reachable ta_codes ta_numbers (nI k) ta_brackets tf_bracketCount tf_place tf_inWhere tf_compared wa_rows (nI r) wf_looks ++ (c0 ++ (hm_w qm cI cZ cL (nI cc) a_parent (nI n) a_kindOf a_size a_root a_slotKind a_slot a_kept (nI k) a_code a_number f_want f_compared f_open a_opened (nI r) a_rowKind a_rowValue f_many a_list wf_looks f_fail f_level a_from a_eAt a_whereAt a_source a_distinct a_keeps f_at f_self f_brackets f_values a_vKind a_v f_waiting a_waits ++ y))) H) (hD : va_D A (hx_w q cI cZ cL xq_query ha_parents (nI cc) ha_classes ha_sizes ha_fields (nI n) hf_roots hf_changed sa_linkedFrom sa_linkCounts sa_retainedSets sa_retainedSizes sa_dominators sa_immediateDominators sf_objectCount sf_roots sf_reachable ta_codes ta_numbers (nI k) ta_brackets tf_bracketCount tf_place tf_inWhere tf_compared wa_rows (nI r) wf_looks ++ (c0 ++ (hm_w qm cI cZ cL (nI cc) a_parent (nI n) a_kindOf a_size a_root a_slotKind a_slot a_kept (nI k) a_code a_number f_want f_compared f_open a_opened (nI r) a_rowKind a_rowValue f_many a_list wf_looks f_fail f_level a_from a_eAt a_whereAt a_source a_distinct a_keeps f_at f_self f_brackets f_values a_vKind a_v f_waiting a_waits ++ y)))) (hS : va_S A s.heap H locs)
    (kk : ∀ (H1 : Heap) (locs1 : List Loc), lw_B l D A cI cZ cL x0 m0 H1 → va_S A s.heap H1 locs1 → W p l e room_1 s m #[Value.ref b] below meth c H1 locs1 (100 + 50 * (t + 1)) (6000 + 250 * (t + 1)) Q (F0 m 467 ls [])) : W p l e room_1 s m #[Value.ref b] below meth c H locs (100 + 50 * t) (6000 + 250 * t) Q (F0 m 454 ls []) := by
  rw [← e1, ← e2] at hl
  refine lv_aload_n hx hb dlw_454 rfl (lv_at hl 1 rfl) ?_
  refine kxq_looked  _ rfl hx hb hml hts hown hK hP hD hS wi_755 ⟨Nat.le_of_ble_eq_true rfl, Nat.le_of_ble_eq_true rfl⟩ hl.1 (Nat.le_of_ble_eq_true rfl) dlw_455 ⟨by show 100 + 50 * t + 0 ≤ 600000; omega, by show 6000 + 250 * t + 0 ≤ 7302249; omega⟩ (fun H locs hP hD hS => ?_)
  refine lv_aload_n hx hb dlw_458 rfl (lv_at hl 2 rfl) ?_
  have hP := hz_toMP hP
  have hD := hz_toMD hD
  refine km_looked  _ rfl hx hb hml hts hown hK hP hD hS wi_756 ⟨Nat.le_of_ble_eq_true rfl, Nat.le_of_ble_eq_true rfl⟩ hl.1 (Nat.le_of_ble_eq_true rfl) dlw_459 ⟨by show 100 + 50 * t + 0 ≤ 600000; omega, by show 6000 + 250 * t + 0 ≤ 7302249; omega⟩ (fun H locs hP hD hS => ?_)
  have hP := hz_toXP hP
  have hD := hz_toXD hD
  refine lv_icmp_eq (tgt := 467) hx hb dlw_462 (by decide) (fun _ => ?_) (fun hc => absurd rfl hc)
  refine W.widen (k := 100 + 50 * (t + 1)) (n := 6000 + 250 * (t + 1)) (by omega) (by omega) ?_
  exact kk H locs (lw_mk hP hD e1 e2 ⟨cc, n, k, tk, p0, cm, st, r, rfl, rfl, rfl, rfl, rfl, rfl, rfl, rfl, rfl, hh, hsv, hti, hri, hq⟩) hS
end
