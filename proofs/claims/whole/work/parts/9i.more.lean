/-! token, clear and run in the law -/
theorem ht_no8 {c n : Int32} {xc xn brk : Nat → Int32} {k bc pl iw cx : Int32} {t1 t2 t4 : Nat → Int32} {t3 t5 t6 t7 t8 : Int32} (hp : pl = nI 8) (h : sxt_take c n xc xn k brk bc pl iw cx = some (1, t1, t2, t3, t4, t5, t6, t7, t8)) : False := by
  subst hp
  have e : sxt_placeAfter c brk bc (nI 8) iw cx = some (-1) := by
    unfold sxt_placeAfter
    repeat (first | rw [if_neg (by decide)])
  unfold sxt_take at h
  rw [e, Option.bind_some] at h
  by_cases h4 : (40 : Int32) ≤ k
  · rw [if_pos h4] at h
    cases h
  · rw [if_neg h4, if_pos rfl] at h
    cases h
theorem lw_run0 {cc k : Nat} {tk : Nat → Nat} {p : Nat} {cm : Bool} {st : List Nat} {mc mn xc xn brk : Nat → Int32} {bc pl iw cx : Int32} {mp mk ms mr sk sl kp0 opn rk rv ls fr ea wh so di ke vk va wt : Nat → Int32} {nn w0 c0 o0 rc0 my sn0 f0 lev0 a0 s0 b0 v0 w1 : Int32} (h : ht_I cc k tk p cm st mc mn xc xn brk bc pl iw cx) (h8 : ¬ p = 8) :
    sm_run mp nn mk ms mr sk sl kp0 (nI k) mc mn w0 c0 o0 opn rc0 rk rv my ls sn0 f0 lev0 fr ea wh so di ke a0 s0 b0 v0 vk va w1 wt = some (-1, kp0, w0, c0, o0, opn, rc0, rk, rv, my, ls, sn0, f0, lev0, fr, ea, wh, so, di, ke, a0, s0, b0, v0, vk, va, w1, wt) := by
  have hk := h.1
  unfold sm_run
  rcases ht_24 h with ⟨rfl, _⟩ | ⟨j, rfl, h9⟩
  · rw [if_pos (by decide : nI 0 = 0)]
  · have hj := h.2.1 j (by omega)
    rw [if_neg (show ¬ nI (j + 1) = 0 from he_q 0 0 rfl (by omega) (by omega) (by omega)), nI_pred, if_pos (hb_I (show j < 40 by omega) (by omega)), nI_clamp (show j < 2 ^ 31 by omega), hj.2.1, if_neg (show ¬ nI (tk j) = 24 from he_q 24 24 rfl (by have := hj.1; omega) (by omega) (fun q => h8 (h9.mpr q)))]
theorem lw_one {D : va_G} {cl : List vw_C} {X Y : va_W} {c : Nat × va_E} {H : Heap} (h : va_P D cl (X ++ (c :: Y)) H) : va_P D cl (X ++ ([c] ++ Y)) H := h
theorem lw_oneD {A : Nat → Prop} {X Y : va_W} {c : Nat × va_E} (h : va_D A (X ++ (c :: Y))) : va_D A (X ++ ([c] ++ Y)) := h
theorem lw_zp {c0 X y : va_W} (hX : X.length = 23) : hz_le (zp (c0.length + 23) y) (c0 ++ (X ++ y)) := zp_le fun i x hx => by
  rw [List.getElem?_append_right (by omega), List.getElem?_append_right (by omega), hX, show c0.length + 23 + i - c0.length - 23 = i by omega]
  exact hx
section
variable {p : Program} {l : Launch} {e : Env} {s : State} {m : MethodId} {below : List Frame} {meth : Method} {c : Code} {H : Heap} {locs : List Loc} {Q : State → Prop} {ls : Array Slot} {D : va_G} {A : Nat → Prop} {cI cZ cL : ClassId} {x0 m0 b L t : Nat} {xs : Nat → Int32}
variable {q qm : Nat → Nat} {c0 y : va_W} {cc n k : Nat} {tk : Nat → Nat} {p0 : Nat} {cm : Bool} {st : List Nat} {r : Nat} {xq_query : Option Nat} {ha_parents : Nat → Int32} {ha_classes : Nat → Int32} {ha_sizes : Nat → Int32} {ha_fields : Nat → Int64} {hf_roots : Int32} {hf_changed : Int32} {sa_linkedFrom : Nat → Int32} {sa_linkCounts : Nat → Int32} {sa_retainedSets : Nat → Int32} {sa_retainedSizes : Nat → Int32} {sa_dominators : Nat → Int32} {sa_immediateDominators : Nat → Int32} {sf_objectCount : Int32} {sf_roots : Int32} {sf_reachable : Int32} {ta_codes : Nat → Int32} {ta_numbers : Nat → Int32} {ta_brackets : Nat → Int32} {tf_bracketCount : Int32} {tf_place : Int32} {tf_inWhere : Int32} {tf_compared : Int32} {wa_rows : Nat → Int64} {wf_looks : Int32} {a_parent : Nat → Int32} {a_kindOf : Nat → Int32} {a_size : Nat → Int32} {a_root : Nat → Int32} {a_slotKind : Nat → Int32} {a_slot : Nat → Int32} {a_kept : Nat → Int32} {a_code : Nat → Int32} {a_number : Nat → Int32} {f_want : Int32} {f_compared : Int32} {f_open : Int32} {a_opened : Nat → Int32} {a_rowKind : Nat → Int32} {a_rowValue : Nat → Int32} {f_many : Int32} {a_list : Nat → Int32} {f_fail : Int32} {f_level : Int32} {a_from : Nat → Int32} {a_eAt : Nat → Int32} {a_whereAt : Nat → Int32} {a_source : Nat → Int32} {a_distinct : Nat → Int32} {a_keeps : Nat → Int32} {f_at : Int32} {f_self : Int32} {f_brackets : Int32} {f_values : Int32} {a_vKind : Nat → Int32} {a_v : Nat → Int32} {f_waiting : Int32} {a_waits : Nat → Int32}
set_option maxHeartbeats 4000000 in
set_option maxRecDepth 100000 in
theorem lwc_9 (hx : p.tables.exec = Jvm.exec) (hb : c.code = code) (hml : c.maxLocals = 4) (hts : ∀ w ∈ hq_tbl, w.before #[Value.ref b] s = true) (hown : s.vm.findClass "HeapQueriesLaw" = some m.cls) (hK : va_K D hq_cl (hq_tys cI cZ cL) s) (hA : ∀ q : Nat, s.heap.size ≤ q → A q) (hN : hq_N s) (hX : va_X b L xs s s.heap) (hbl : b < s.heap.size) (hbA : ¬ A b) (hL : L ≤ 2560) (ht : 5 * t + 5 ≤ L) (hl : lv_has ls 4 [(0, .ref b), (1, .ref x0), (2, .ref m0), (3, .int (nI (5 * t)))]) (hh : hh_I cc n a_parent a_kindOf a_size a_root a_slotKind a_slot ha_parents ha_classes ha_sizes ha_fields hf_roots) (hsv : hf_changed = 0 → hs_V n a_root a_slotKind a_slot ha_sizes hf_roots sa_linkedFrom sa_linkCounts sa_retainedSets sa_retainedSizes sa_immediateDominators sf_objectCount sf_roots sf_reachable) (hti : ht_I cc k tk p0 cm st a_code a_number ta_codes ta_numbers ta_brackets tf_bracketCount tf_place tf_inWhere tf_compared) (hri : hr_I r a_rowKind a_rowValue wa_rows) (hq : lw_q l D A q cI cZ cL (c0.length + 23) y p0 k ta_codes ta_numbers xq_query) (e1 : q 0 = x0) (e2 : qm 0 = m0) (hP : va_P D hq_cl (hx_w q cI cZ cL xq_query ha_parents (nI cc) ha_classes ha_sizes ha_fields (nI n) hf_roots hf_changed sa_linkedFrom sa_linkCounts sa_retainedSets sa_retainedSizes sa_dominators sa_immediateDominators sf_objectCount sf_roots sf_reachable ta_codes ta_numbers (nI k) ta_brackets tf_bracketCount tf_place tf_inWhere tf_compared wa_rows (nI r) wf_looks ++ (c0 ++ (hm_w qm cI cZ cL (nI cc) a_parent (nI n) a_kindOf a_size a_root a_slotKind a_slot a_kept (nI k) a_code a_number f_want f_compared f_open a_opened (nI r) a_rowKind a_rowValue f_many a_list wf_looks f_fail f_level a_from a_eAt a_whereAt a_source a_distinct a_keeps f_at f_self f_brackets f_values a_vKind a_v f_waiting a_waits ++ y))) H) (hD : va_D A (hx_w q cI cZ cL xq_query ha_parents (nI cc) ha_classes ha_sizes ha_fields (nI n) hf_roots hf_changed sa_linkedFrom sa_linkCounts sa_retainedSets sa_retainedSizes sa_dominators sa_immediateDominators sf_objectCount sf_roots sf_reachable ta_codes ta_numbers (nI k) ta_brackets tf_bracketCount tf_place tf_inWhere tf_compared wa_rows (nI r) wf_looks ++ (c0 ++ (hm_w qm cI cZ cL (nI cc) a_parent (nI n) a_kindOf a_size a_root a_slotKind a_slot a_kept (nI k) a_code a_number f_want f_compared f_open a_opened (nI r) a_rowKind a_rowValue f_many a_list wf_looks f_fail f_level a_from a_eAt a_whereAt a_source a_distinct a_keeps f_at f_self f_brackets f_values a_vKind a_v f_waiting a_waits ++ y)))) (hS : va_S A s.heap H locs)
    (kk : ∀ (H1 : Heap) (locs1 : List Loc), lw_B l D A cI cZ cL x0 m0 H1 → va_S A s.heap H1 locs1 → W p l e room_1 s m #[Value.ref b] below meth c H1 locs1 (100 + 50 * (t + 1)) (6000 + 250 * (t + 1)) Q (F0 m 467 ls [])) : W p l e room_1 s m #[Value.ref b] below meth c H locs (100 + 50 * t) (6000 + 250 * t) Q (F0 m 371 ls []) := by
  rw [← e1, ← e2] at hl
  refine lv_aload_n hx hb dlw_371 rfl (lv_at hl 1 rfl) ?_
  refine hq_callV (q0 := 0) (As := []) hx hb hml hown hts hK hP hD hS (cxq_clear) rfl rfl wi_757 wi_758 wi_759 wi_209 wi_760 0 rfl (by decide +kernel) ⟨rfl, rfl⟩ ⟨Nat.le_of_ble_eq_true rfl, Nat.le_of_ble_eq_true rfl⟩ hl.1 rfl (Nat.le_of_ble_eq_true rfl) dlw_372 ⟨by show 100 + 50 * t + 0 ≤ 600000; omega, by show 6000 + 250 * t + 0 ≤ 7302249; omega⟩ (fun H locs hP hD hS => ?_)
  refine lv_aload_n hx hb dlw_375 rfl (lv_at hl 2 rfl) ?_
  have hP := hz_toMP hP
  have hD := hz_toMD hD
  refine km_clear  _ rfl hx hb hml hts hown hK hP hD hS wi_761 ⟨Nat.le_of_ble_eq_true rfl, Nat.le_of_ble_eq_true rfl⟩ hl.1 (Nat.le_of_ble_eq_true rfl) dlw_376 ⟨by show 100 + 50 * t + 0 ≤ 600000; omega, by show 6000 + 250 * t + 0 ≤ 7302249; omega⟩ (fun H locs hP hD hS => ?_)
  have hP := hz_toXP hP
  have hD := hz_toXD hD
  refine lv_goto (tgt := 467) hx hb dlw_379 (by decide) ?_
  refine W.widen (k := 100 + 50 * (t + 1)) (n := 6000 + 250 * (t + 1)) (by omega) (by omega) ?_
  exact kk H locs (lw_mk hP hD e1 e2 ⟨cc, n, 0, tk, 0, false, [], r, rfl, rfl, rfl, rfl, rfl, rfl, rfl, rfl, rfl, hh, hsv, ht_clear hti, hri, ⟨fun _ => rfl, fun h => absurd h (by decide)⟩⟩) hS
set_option maxHeartbeats 4000000 in
set_option maxRecDepth 100000 in
theorem lwc_6 (hx : p.tables.exec = Jvm.exec) (hb : c.code = code) (hml : c.maxLocals = 4) (hts : ∀ w ∈ hq_tbl, w.before #[Value.ref b] s = true) (hown : s.vm.findClass "HeapQueriesLaw" = some m.cls) (hK : va_K D hq_cl (hq_tys cI cZ cL) s) (hA : ∀ q : Nat, s.heap.size ≤ q → A q) (hN : hq_N s) (hX : va_X b L xs s s.heap) (hbl : b < s.heap.size) (hbA : ¬ A b) (hL : L ≤ 2560) (ht : 5 * t + 5 ≤ L) (hl : lv_has ls 4 [(0, .ref b), (1, .ref x0), (2, .ref m0), (3, .int (nI (5 * t)))]) (hh : hh_I cc n a_parent a_kindOf a_size a_root a_slotKind a_slot ha_parents ha_classes ha_sizes ha_fields hf_roots) (hsv : hf_changed = 0 → hs_V n a_root a_slotKind a_slot ha_sizes hf_roots sa_linkedFrom sa_linkCounts sa_retainedSets sa_retainedSizes sa_immediateDominators sf_objectCount sf_roots sf_reachable) (hti : ht_I cc k tk p0 cm st a_code a_number ta_codes ta_numbers ta_brackets tf_bracketCount tf_place tf_inWhere tf_compared) (hri : hr_I r a_rowKind a_rowValue wa_rows) (hq : lw_q l D A q cI cZ cL (c0.length + 23) y p0 k ta_codes ta_numbers xq_query) (e1 : q 0 = x0) (e2 : qm 0 = m0) (hP : va_P D hq_cl (hx_w q cI cZ cL xq_query ha_parents (nI cc) ha_classes ha_sizes ha_fields (nI n) hf_roots hf_changed sa_linkedFrom sa_linkCounts sa_retainedSets sa_retainedSizes sa_dominators sa_immediateDominators sf_objectCount sf_roots sf_reachable ta_codes ta_numbers (nI k) ta_brackets tf_bracketCount tf_place tf_inWhere tf_compared wa_rows (nI r) wf_looks ++ (c0 ++ (hm_w qm cI cZ cL (nI cc) a_parent (nI n) a_kindOf a_size a_root a_slotKind a_slot a_kept (nI k) a_code a_number f_want f_compared f_open a_opened (nI r) a_rowKind a_rowValue f_many a_list wf_looks f_fail f_level a_from a_eAt a_whereAt a_source a_distinct a_keeps f_at f_self f_brackets f_values a_vKind a_v f_waiting a_waits ++ y))) H) (hD : va_D A (hx_w q cI cZ cL xq_query ha_parents (nI cc) ha_classes ha_sizes ha_fields (nI n) hf_roots hf_changed sa_linkedFrom sa_linkCounts sa_retainedSets sa_retainedSizes sa_dominators sa_immediateDominators sf_objectCount sf_roots sf_reachable ta_codes ta_numbers (nI k) ta_brackets tf_bracketCount tf_place tf_inWhere tf_compared wa_rows (nI r) wf_looks ++ (c0 ++ (hm_w qm cI cZ cL (nI cc) a_parent (nI n) a_kindOf a_size a_root a_slotKind a_slot a_kept (nI k) a_code a_number f_want f_compared f_open a_opened (nI r) a_rowKind a_rowValue f_many a_list wf_looks f_fail f_level a_from a_eAt a_whereAt a_source a_distinct a_keeps f_at f_self f_brackets f_values a_vKind a_v f_waiting a_waits ++ y)))) (hS : va_S A s.heap H locs)
    (kk : ∀ (H1 : Heap) (locs1 : List Loc), lw_B l D A cI cZ cL x0 m0 H1 → va_S A s.heap H1 locs1 → W p l e room_1 s m #[Value.ref b] below meth c H1 locs1 (100 + 50 * (t + 1)) (6000 + 250 * (t + 1)) Q (F0 m 467 ls [])) : W p l e room_1 s m #[Value.ref b] below meth c H locs (100 + 50 * t) (6000 + 250 * t) Q (F0 m 312 ls []) := by
  rw [← e1, ← e2] at hl
  have hcc := hh.1
  rcases ht_token hti (by omega) (xs (nI (5 * t) + 1).toNatClampNeg) (xs (nI (5 * t) + 2).toNatClampNeg) f_want f_compared f_open a_opened with ⟨mc', mn', w1, c1, o1, opn', h1, hti', hx'⟩ | ⟨mc', mn', w1, c1, o1, opn', tk', p', cm', st', xc', xn', brk', bc', pl', iw', cx', h1, ha, hta, hk40, hcv, hti'⟩
  · rcases hx' with ha | ⟨ha, hta⟩
    · refine lv_aload_n hx hb dlw_312 rfl (lv_at hl 1 rfl) ?_
      refine lv_aload_n hx hb dlw_313 rfl (lv_at hl 0 rfl) ?_
      refine lv_iload_n hx hb dlw_314 rfl (lv_at hl 3 rfl) ?_
      refine lv_iconst (v := 1) hx hb dlw_315 (by decide) ?_
      refine lv_iadd hx hb dlw_316 ?_
      refine va_sld hx hb hX hbl hbA hS (lw_in ht hL 1 1 rfl (by decide)) dlw_317 ?_
      refine lv_aload_n hx hb dlw_318 rfl (lv_at hl 0 rfl) ?_
      refine lv_iload_n hx hb dlw_319 rfl (lv_at hl 3 rfl) ?_
      refine lv_iconst (v := 2) hx hb dlw_320 (by decide) ?_
      refine lv_iadd hx hb dlw_321 ?_
      refine va_sld hx hb hX hbl hbA hS (lw_in ht hL 2 2 rfl (by decide)) dlw_322 ?_
      refine hq_callV (q0 := 0) (As := [.int (xs (nI (5 * t) + 1).toNatClampNeg), .int (xs (nI (5 * t) + 2).toNatClampNeg)]) hx hb hml hown hts hK hP hD hS (cxq_token0 (xs (nI (5 * t) + 1).toNatClampNeg) (xs (nI (5 * t) + 2).toNatClampNeg) ha) rfl rfl wi_762 wi_763 wi_764 wi_209 wi_765 2 rfl (by decide +kernel) ⟨rfl, rfl⟩ ⟨Nat.le_of_ble_eq_true rfl, Nat.le_of_ble_eq_true rfl⟩ hl.1 rfl (Nat.le_of_ble_eq_true rfl) dlw_323 ⟨by show 100 + 50 * t + 0 ≤ 600000; omega, by show 6000 + 250 * t + 0 ≤ 7302249; omega⟩ (fun H locs hP hD hS => ?_)
      refine lv_aload_n hx hb dlw_326 rfl (lv_at hl 2 rfl) ?_
      refine lv_aload_n hx hb dlw_327 rfl (lv_at hl 0 rfl) ?_
      refine lv_iload_n hx hb dlw_328 rfl (lv_at hl 3 rfl) ?_
      refine lv_iconst (v := 1) hx hb dlw_329 (by decide) ?_
      refine lv_iadd hx hb dlw_330 ?_
      refine va_sld hx hb hX hbl hbA hS (lw_in ht hL 1 1 rfl (by decide)) dlw_331 ?_
      refine lv_aload_n hx hb dlw_332 rfl (lv_at hl 0 rfl) ?_
      refine lv_iload_n hx hb dlw_333 rfl (lv_at hl 3 rfl) ?_
      refine lv_iconst (v := 2) hx hb dlw_334 (by decide) ?_
      refine lv_iadd hx hb dlw_335 ?_
      refine va_sld hx hb hX hbl hbA hS (lw_in ht hL 2 2 rfl (by decide)) dlw_336 ?_
      have hP := hz_toMP hP
      have hD := hz_toMD hD
      refine km_token (xs (nI (5 * t) + 1).toNatClampNeg) (xs (nI (5 * t) + 2).toNatClampNeg) _ h1 hx hb hml hts hown hK hP hD hS wi_766 ⟨Nat.le_of_ble_eq_true rfl, Nat.le_of_ble_eq_true rfl⟩ hl.1 (Nat.le_of_ble_eq_true rfl) dlw_337 ⟨by show 100 + 50 * t + 0 ≤ 600000; omega, by show 6000 + 250 * t + 0 ≤ 7302249; omega⟩ (fun H locs hP hD hS => ?_)
      have hP := hz_toXP hP
      have hD := hz_toXD hD
      refine lv_icmp_eq (tgt := 467) hx hb dlw_340 (by decide) (fun _ => ?_) (fun hc => absurd rfl hc)
      refine W.widen (k := 100 + 50 * (t + 1)) (n := 6000 + 250 * (t + 1)) (by omega) (by omega) ?_
      exact kk H locs (lw_mk hP hD e1 e2 ⟨cc, n, k, tk, p0, cm, st, r, rfl, rfl, rfl, rfl, rfl, rfl, rfl, rfl, rfl, hh, hsv, hti', hri, hq⟩) hS
    · refine lv_aload_n hx hb dlw_312 rfl (lv_at hl 1 rfl) ?_
      refine lv_aload_n hx hb dlw_313 rfl (lv_at hl 0 rfl) ?_
      refine lv_iload_n hx hb dlw_314 rfl (lv_at hl 3 rfl) ?_
      refine lv_iconst (v := 1) hx hb dlw_315 (by decide) ?_
      refine lv_iadd hx hb dlw_316 ?_
      refine va_sld hx hb hX hbl hbA hS (lw_in ht hL 1 1 rfl (by decide)) dlw_317 ?_
      refine lv_aload_n hx hb dlw_318 rfl (lv_at hl 0 rfl) ?_
      refine lv_iload_n hx hb dlw_319 rfl (lv_at hl 3 rfl) ?_
      refine lv_iconst (v := 2) hx hb dlw_320 (by decide) ?_
      refine lv_iadd hx hb dlw_321 ?_
      refine va_sld hx hb hX hbl hbA hS (lw_in ht hL 2 2 rfl (by decide)) dlw_322 ?_
      refine hq_callV (q0 := 0) (As := [.int (xs (nI (5 * t) + 1).toNatClampNeg), .int (xs (nI (5 * t) + 2).toNatClampNeg)]) hx hb hml hown hts hK hP hD hS (cxq_token1 (xs (nI (5 * t) + 1).toNatClampNeg) (xs (nI (5 * t) + 2).toNatClampNeg) ha hta) rfl rfl wi_762 wi_763 wi_764 wi_209 wi_765 2 rfl (by decide +kernel) ⟨rfl, rfl⟩ ⟨Nat.le_of_ble_eq_true rfl, Nat.le_of_ble_eq_true rfl⟩ hl.1 rfl (Nat.le_of_ble_eq_true rfl) dlw_323 ⟨by show 100 + 50 * t + 0 ≤ 600000; omega, by show 6000 + 250 * t + 0 ≤ 7302249; omega⟩ (fun H locs hP hD hS => ?_)
      refine lv_aload_n hx hb dlw_326 rfl (lv_at hl 2 rfl) ?_
      refine lv_aload_n hx hb dlw_327 rfl (lv_at hl 0 rfl) ?_
      refine lv_iload_n hx hb dlw_328 rfl (lv_at hl 3 rfl) ?_
      refine lv_iconst (v := 1) hx hb dlw_329 (by decide) ?_
      refine lv_iadd hx hb dlw_330 ?_
      refine va_sld hx hb hX hbl hbA hS (lw_in ht hL 1 1 rfl (by decide)) dlw_331 ?_
      refine lv_aload_n hx hb dlw_332 rfl (lv_at hl 0 rfl) ?_
      refine lv_iload_n hx hb dlw_333 rfl (lv_at hl 3 rfl) ?_
      refine lv_iconst (v := 2) hx hb dlw_334 (by decide) ?_
      refine lv_iadd hx hb dlw_335 ?_
      refine va_sld hx hb hX hbl hbA hS (lw_in ht hL 2 2 rfl (by decide)) dlw_336 ?_
      have hP := hz_toMP hP
      have hD := hz_toMD hD
      refine km_token (xs (nI (5 * t) + 1).toNatClampNeg) (xs (nI (5 * t) + 2).toNatClampNeg) _ h1 hx hb hml hts hown hK hP hD hS wi_766 ⟨Nat.le_of_ble_eq_true rfl, Nat.le_of_ble_eq_true rfl⟩ hl.1 (Nat.le_of_ble_eq_true rfl) dlw_337 ⟨by show 100 + 50 * t + 0 ≤ 600000; omega, by show 6000 + 250 * t + 0 ≤ 7302249; omega⟩ (fun H locs hP hD hS => ?_)
      have hP := hz_toXP hP
      have hD := hz_toXD hD
      refine lv_icmp_eq (tgt := 467) hx hb dlw_340 (by decide) (fun _ => ?_) (fun hc => absurd rfl hc)
      refine W.widen (k := 100 + 50 * (t + 1)) (n := 6000 + 250 * (t + 1)) (by omega) (by omega) ?_
      exact kk H locs (lw_mk hP hD e1 e2 ⟨cc, n, k, tk, p0, cm, st, r, rfl, rfl, rfl, rfl, rfl, rfl, rfl, rfl, rfl, hh, hsv, hti', hri, hq⟩) hS
  · have n8 : ¬ p0 = 8 := fun e8 => ht_no8 (by rw [hti.2.2.2.1, e8]) hta
    have hqn := hq.1 n8
    by_cases h24 : (xs (nI (5 * t) + 1).toNatClampNeg) = 24
    · have t24 : tk' k = 24 := by
        rw [h24] at hcv
        exact ((nI_eq (a := 24) (by omega) (by have := (hti'.2.1 k (by omega)).1; omega)).mp hcv).symm
      have p8 : p' = 8 := by
        rcases ht_24 hti' with ⟨h0, _⟩ | ⟨j, h0, h9⟩
        · omega
        · have ej : j = k := by omega
          rw [ej] at h9
          exact h9.mpr t24
      subst p8
      obtain ⟨us, hg, x, hu, hg8, hx39⟩ := hw_read hti' hh
      have ha24 : sxq_isNumberAllowed 24 (xs (nI (5 * t) + 2).toNatClampNeg) (nI cc) = some 1 := by rw [← h24]; exact ha
      have hta24 : sxt_take 24 (xs (nI (5 * t) + 2).toNatClampNeg) ta_codes ta_numbers (nI k) ta_brackets tf_bracketCount tf_place tf_inWhere tf_compared = some (1, xc', xn', nI (k + 1), brk', bc', pl', iw', cx') := by rw [← h24]; exact hta
      have hP := hz_drP hP
      have hD := hz_drD hD
      refine lv_aload_n hx hb dlw_312 rfl (lv_at hl 1 rfl) ?_
      refine lv_aload_n hx hb dlw_313 rfl (lv_at hl 0 rfl) ?_
      refine lv_iload_n hx hb dlw_314 rfl (lv_at hl 3 rfl) ?_
      refine lv_iconst (v := 1) hx hb dlw_315 (by decide) ?_
      refine lv_iadd hx hb dlw_316 ?_
      refine va_sld hx hb hX hbl hbA hS (lw_in ht hL 1 1 rfl (by decide)) dlw_317 ?_
      refine lv_aload_n hx hb dlw_318 rfl (lv_at hl 0 rfl) ?_
      refine lv_iload_n hx hb dlw_319 rfl (lv_at hl 3 rfl) ?_
      refine lv_iconst (v := 2) hx hb dlw_320 (by decide) ?_
      refine lv_iadd hx hb dlw_321 ?_
      refine va_sld hx hb hX hbl hbA hS (lw_in ht hL 2 2 rfl (by decide)) dlw_322 ?_
      refine hq_callVn (q0 := 0) (mc := x + 1) (ms := 4 * x + 2) (As := [.int 24, .int (xs (nI (5 * t) + 2).toNatClampNeg)]) hx hb hml hown hts hK hA hN hP hD hS (cxq_token3 (xs (nI (5 * t) + 2).toNatClampNeg) (by omega) ha24 hta24 hu) rfl rfl wi_762 wi_763 wi_764 wi_209 wi_765 2 rfl (by decide +kernel) ⟨rfl, rfl⟩ ⟨Nat.le_of_ble_eq_true rfl, Nat.le_of_ble_eq_true rfl⟩ hl.1 (by rw [h24]; rfl) (Nat.le_of_ble_eq_true rfl) dlw_323 ⟨by show 100 + 50 * t + (x + 1) ≤ 600000; omega, by show 6000 + 250 * t + (4 * x + 2) ≤ 7302249; omega⟩ (fun o w1 H locs hpost hP hD hS => ?_)
      obtain ⟨rfl, a, bq, y', rfl, hch⟩ := hpost
      have hQ := (hd_chain us (some bq) hch).more (hz_le.rf) (show hg + 1 ≤ 9 by omega)
      rw [List.append_nil] at hP hD
      have hP := lw_one hP
      have hD := lw_oneD hD
      refine lv_aload_n hx hb dlw_326 rfl (lv_at hl 2 rfl) ?_
      refine lv_aload_n hx hb dlw_327 rfl (lv_at hl 0 rfl) ?_
      refine lv_iload_n hx hb dlw_328 rfl (lv_at hl 3 rfl) ?_
      refine lv_iconst (v := 1) hx hb dlw_329 (by decide) ?_
      refine lv_iadd hx hb dlw_330 ?_
      refine va_sld hx hb hX hbl hbA hS (lw_in ht hL 1 1 rfl (by decide)) dlw_331 ?_
      refine lv_aload_n hx hb dlw_332 rfl (lv_at hl 0 rfl) ?_
      refine lv_iload_n hx hb dlw_333 rfl (lv_at hl 3 rfl) ?_
      refine lv_iconst (v := 2) hx hb dlw_334 (by decide) ?_
      refine lv_iadd hx hb dlw_335 ?_
      refine va_sld hx hb hX hbl hbA hS (lw_in ht hL 2 2 rfl (by decide)) dlw_336 ?_
      have hP := hz_toMP hP
      have hD := hz_toMD hD
      refine km_token (xs (nI (5 * t) + 1).toNatClampNeg) (xs (nI (5 * t) + 2).toNatClampNeg) _ h1 hx hb hml hts hown hK hP hD hS wi_766 ⟨Nat.le_of_ble_eq_true rfl, Nat.le_of_ble_eq_true rfl⟩ hl.1 (Nat.le_of_ble_eq_true rfl) dlw_337 ⟨by show 100 + 50 * t + (x + 1) + 0 ≤ 600000; omega, by show 6000 + 250 * t + (4 * x + 2) + 0 ≤ 7302249; omega⟩ (fun H locs hP hD hS => ?_)
      have hP := hz_toXP hP
      have hD := hz_toXD hD
      refine lv_icmp_eq (tgt := 467) hx hb dlw_340 (by decide) (fun _ => ?_) (fun hc => absurd rfl hc)
      refine W.widen (k := 100 + 50 * (t + 1)) (n := 6000 + 250 * (t + 1)) (by omega) (by omega) ?_
      exact kk H locs (lw_mk hP hD e1 e2 ⟨cc, n, k + 1, tk', 8, cm', st', r, rfl, rfl, rfl, rfl, rfl, rfl, rfl, rfl, rfl, hh, hsv, hti', hri, ⟨fun h => absurd rfl h, fun _ => ⟨us, hg, x, bq, hu, rfl, hQ⟩⟩⟩) hS
    · have p8 : ¬ p' = 8 := fun e8 => by
        rcases ht_24 hti' with ⟨h0, _⟩ | ⟨j, h0, h9⟩
        · omega
        · have ej : j = k := by omega
          rw [ej] at h9
          exact h24 (hcv.trans (by rw [h9.mp e8]; rfl))
      refine lv_aload_n hx hb dlw_312 rfl (lv_at hl 1 rfl) ?_
      refine lv_aload_n hx hb dlw_313 rfl (lv_at hl 0 rfl) ?_
      refine lv_iload_n hx hb dlw_314 rfl (lv_at hl 3 rfl) ?_
      refine lv_iconst (v := 1) hx hb dlw_315 (by decide) ?_
      refine lv_iadd hx hb dlw_316 ?_
      refine va_sld hx hb hX hbl hbA hS (lw_in ht hL 1 1 rfl (by decide)) dlw_317 ?_
      refine lv_aload_n hx hb dlw_318 rfl (lv_at hl 0 rfl) ?_
      refine lv_iload_n hx hb dlw_319 rfl (lv_at hl 3 rfl) ?_
      refine lv_iconst (v := 2) hx hb dlw_320 (by decide) ?_
      refine lv_iadd hx hb dlw_321 ?_
      refine va_sld hx hb hX hbl hbA hS (lw_in ht hL 2 2 rfl (by decide)) dlw_322 ?_
      refine hq_callV (q0 := 0) (As := [.int (xs (nI (5 * t) + 1).toNatClampNeg), .int (xs (nI (5 * t) + 2).toNatClampNeg)]) hx hb hml hown hts hK hP hD hS (cxq_token2 (xs (nI (5 * t) + 1).toNatClampNeg) (xs (nI (5 * t) + 2).toNatClampNeg) h24 ha hta) rfl rfl wi_762 wi_763 wi_764 wi_209 wi_765 2 rfl (by decide +kernel) ⟨rfl, rfl⟩ ⟨Nat.le_of_ble_eq_true rfl, Nat.le_of_ble_eq_true rfl⟩ hl.1 rfl (Nat.le_of_ble_eq_true rfl) dlw_323 ⟨by show 100 + 50 * t + 0 ≤ 600000; omega, by show 6000 + 250 * t + 0 ≤ 7302249; omega⟩ (fun H locs hP hD hS => ?_)
      refine lv_aload_n hx hb dlw_326 rfl (lv_at hl 2 rfl) ?_
      refine lv_aload_n hx hb dlw_327 rfl (lv_at hl 0 rfl) ?_
      refine lv_iload_n hx hb dlw_328 rfl (lv_at hl 3 rfl) ?_
      refine lv_iconst (v := 1) hx hb dlw_329 (by decide) ?_
      refine lv_iadd hx hb dlw_330 ?_
      refine va_sld hx hb hX hbl hbA hS (lw_in ht hL 1 1 rfl (by decide)) dlw_331 ?_
      refine lv_aload_n hx hb dlw_332 rfl (lv_at hl 0 rfl) ?_
      refine lv_iload_n hx hb dlw_333 rfl (lv_at hl 3 rfl) ?_
      refine lv_iconst (v := 2) hx hb dlw_334 (by decide) ?_
      refine lv_iadd hx hb dlw_335 ?_
      refine va_sld hx hb hX hbl hbA hS (lw_in ht hL 2 2 rfl (by decide)) dlw_336 ?_
      have hP := hz_toMP hP
      have hD := hz_toMD hD
      refine km_token (xs (nI (5 * t) + 1).toNatClampNeg) (xs (nI (5 * t) + 2).toNatClampNeg) _ h1 hx hb hml hts hown hK hP hD hS wi_766 ⟨Nat.le_of_ble_eq_true rfl, Nat.le_of_ble_eq_true rfl⟩ hl.1 (Nat.le_of_ble_eq_true rfl) dlw_337 ⟨by show 100 + 50 * t + 0 ≤ 600000; omega, by show 6000 + 250 * t + 0 ≤ 7302249; omega⟩ (fun H locs hP hD hS => ?_)
      have hP := hz_toXP hP
      have hD := hz_toXD hD
      refine lv_icmp_eq (tgt := 467) hx hb dlw_340 (by decide) (fun _ => ?_) (fun hc => absurd rfl hc)
      refine W.widen (k := 100 + 50 * (t + 1)) (n := 6000 + 250 * (t + 1)) (by omega) (by omega) ?_
      exact kk H locs (lw_mk hP hD e1 e2 ⟨cc, n, k + 1, tk', p', cm', st', r, rfl, rfl, rfl, rfl, rfl, rfl, rfl, rfl, rfl, hh, hsv, hti', hri, ⟨fun _ => hqn, fun h => absurd h p8⟩⟩) hS
set_option maxHeartbeats 4000000 in
set_option maxRecDepth 100000 in
theorem lwc_10 (hx : p.tables.exec = Jvm.exec) (hb : c.code = code) (hml : c.maxLocals = 4) (hts : ∀ w ∈ hq_tbl, w.before #[Value.ref b] s = true) (hown : s.vm.findClass "HeapQueriesLaw" = some m.cls) (hK : va_K D hq_cl (hq_tys cI cZ cL) s) (hA : ∀ q : Nat, s.heap.size ≤ q → A q) (hN : hq_N s) (hX : va_X b L xs s s.heap) (hbl : b < s.heap.size) (hbA : ¬ A b) (hL : L ≤ 2560) (ht : 5 * t + 5 ≤ L) (hl : lv_has ls 4 [(0, .ref b), (1, .ref x0), (2, .ref m0), (3, .int (nI (5 * t)))]) (hh : hh_I cc n a_parent a_kindOf a_size a_root a_slotKind a_slot ha_parents ha_classes ha_sizes ha_fields hf_roots) (hsv : hf_changed = 0 → hs_V n a_root a_slotKind a_slot ha_sizes hf_roots sa_linkedFrom sa_linkCounts sa_retainedSets sa_retainedSizes sa_immediateDominators sf_objectCount sf_roots sf_reachable) (hti : ht_I cc k tk p0 cm st a_code a_number ta_codes ta_numbers ta_brackets tf_bracketCount tf_place tf_inWhere tf_compared) (hri : hr_I r a_rowKind a_rowValue wa_rows) (hq : lw_q l D A q cI cZ cL (c0.length + 23) y p0 k ta_codes ta_numbers xq_query) (e1 : q 0 = x0) (e2 : qm 0 = m0) (hP : va_P D hq_cl (hx_w q cI cZ cL xq_query ha_parents (nI cc) ha_classes ha_sizes ha_fields (nI n) hf_roots hf_changed sa_linkedFrom sa_linkCounts sa_retainedSets sa_retainedSizes sa_dominators sa_immediateDominators sf_objectCount sf_roots sf_reachable ta_codes ta_numbers (nI k) ta_brackets tf_bracketCount tf_place tf_inWhere tf_compared wa_rows (nI r) wf_looks ++ (c0 ++ (hm_w qm cI cZ cL (nI cc) a_parent (nI n) a_kindOf a_size a_root a_slotKind a_slot a_kept (nI k) a_code a_number f_want f_compared f_open a_opened (nI r) a_rowKind a_rowValue f_many a_list wf_looks f_fail f_level a_from a_eAt a_whereAt a_source a_distinct a_keeps f_at f_self f_brackets f_values a_vKind a_v f_waiting a_waits ++ y))) H) (hD : va_D A (hx_w q cI cZ cL xq_query ha_parents (nI cc) ha_classes ha_sizes ha_fields (nI n) hf_roots hf_changed sa_linkedFrom sa_linkCounts sa_retainedSets sa_retainedSizes sa_dominators sa_immediateDominators sf_objectCount sf_roots sf_reachable ta_codes ta_numbers (nI k) ta_brackets tf_bracketCount tf_place tf_inWhere tf_compared wa_rows (nI r) wf_looks ++ (c0 ++ (hm_w qm cI cZ cL (nI cc) a_parent (nI n) a_kindOf a_size a_root a_slotKind a_slot a_kept (nI k) a_code a_number f_want f_compared f_open a_opened (nI r) a_rowKind a_rowValue f_many a_list wf_looks f_fail f_level a_from a_eAt a_whereAt a_source a_distinct a_keeps f_at f_self f_brackets f_values a_vKind a_v f_waiting a_waits ++ y)))) (hS : va_S A s.heap H locs)
    (kk : ∀ (H1 : Heap) (locs1 : List Loc), lw_B l D A cI cZ cL x0 m0 H1 → va_S A s.heap H1 locs1 → W p l e room_1 s m #[Value.ref b] below meth c H1 locs1 (100 + 50 * (t + 1)) (6000 + 250 * (t + 1)) Q (F0 m 467 ls [])) : W p l e room_1 s m #[Value.ref b] below meth c H locs (100 + 50 * t) (6000 + 250 * t) Q (F0 m 382 ls []) := by
  rw [← e1, ← e2] at hl
  have hcc := hh.1
  have hn24 := hh.2.1
  by_cases h8 : p0 = 8
  · subst h8
    obtain ⟨us, hg, i', bq, hu, hqe, hQ⟩ := hq.2 rfl
    obtain ⟨lf', lc', rs', rz', dm', im', so', sr', re', r1, r2⟩ := hh_refresh hh (dm := sa_dominators) hsv
    obtain ⟨e0, xr1, c1, sn1, Rr, f1, m1, m2, m3, m4, m5⟩ := hw_runs hti hh r2 hu wa_rows a_kept a_opened a_rowKind a_rowValue a_list a_from a_eAt a_whereAt a_source a_distinct a_keeps a_vKind a_v a_waits f_want f_compared f_open (nI r) f_many wf_looks f_fail f_level f_at f_self f_brackets f_values f_waiting
    have hQd := hQ.more (lw_zp (c0 := c0) (X := hm_w qm cI cZ cL (nI cc) a_parent (nI n) a_kindOf a_size a_root a_slotKind a_slot a_kept (nI k) a_code a_number f_want f_compared f_open a_opened (nI r) a_rowKind a_rowValue f_many a_list wf_looks f_fail f_level a_from a_eAt a_whereAt a_source a_distinct a_keeps f_at f_self f_brackets f_values a_vKind a_v f_waiting a_waits) (y := y) rfl) (Nat.le_refl 9)
    rw [← hqe] at hQd
    have hrun : sxq_run (hd_seq us) xq_query ha_parents ha_classes ha_sizes ha_fields (nI n) hf_roots hf_changed sa_linkedFrom sa_linkCounts sa_retainedSets sa_retainedSizes sa_dominators sa_immediateDominators sf_objectCount sf_roots sf_reachable wa_rows (nI r) wf_looks = some (if e0 = 0 then c1 else e0, 0, lf', lc', rs', rz', dm', im', so', sr', re', xr1, if e0 = 0 then c1 else 0, sn1) := by
      have f1 : hd_seq us ha_parents ha_classes ha_sizes ha_fields (nI n) lf' lc' rz' im' sr' re' wa_rows (sxw_begin (nI r) wf_looks).1 (sxw_begin (nI r) wf_looks).2 = some (e0, xr1, c1, sn1) := f1
      unfold sxq_run
      rw [hqe, if_neg (Option.some_ne_none bq), r1, Option.bind_some, f1, Option.bind_some]
      by_cases z0 : e0 = 0
      · rw [if_pos z0, if_pos z0, if_pos z0]
        rfl
      · rw [if_neg z0, if_neg z0, if_neg z0]
        rfl
    have hrow : ∃ r1, (if e0 = 0 then c1 else 0) = nI r1 ∧ hr_I r1 Rr.2.2.2.2.2.2.2.1 Rr.2.2.2.2.2.2.2.2.1 xr1 := by
      by_cases z0 : e0 = 0
      · obtain ⟨r1, a1, a2, a3⟩ := m5 z0
        refine ⟨r1, by rw [if_pos z0, a2], a1, fun i hi => ?_⟩
        obtain ⟨u, b1, b2, b3, b4, b5⟩ := a3 i hi
        exact ⟨u.1, b1, b3, by rw [b4]; exact b5, fun w => by rw [b4]; exact b2.2.1 w⟩
      · exact ⟨0, by rw [if_neg z0]; rfl, Nat.zero_le _, fun i hi => by omega⟩
    obtain ⟨r9, hr9, hri9⟩ := hrow
    refine lv_aload_n hx hb dlw_382 rfl (lv_at hl 1 rfl) ?_
    refine kxq_run (hd_seq us) hQd _ hrun hx hb hml hts hown hK hP hD hS wi_767 ⟨Nat.le_of_ble_eq_true rfl, Nat.le_of_ble_eq_true rfl⟩ hl.1 (Nat.le_of_ble_eq_true rfl) dlw_383 ⟨by show 100 + 50 * t + 0 ≤ 600000; omega, by show 6000 + 250 * t + 0 ≤ 7302249; omega⟩ (fun H locs hP hD hS => ?_)
    refine lv_aload_n hx hb dlw_386 rfl (lv_at hl 2 rfl) ?_
    have hP := hz_toMP hP
    have hD := hz_toMD hD
    refine km_run  _ m1 hx hb hml hts hown hK hP hD hS wi_768 ⟨Nat.le_of_ble_eq_true rfl, Nat.le_of_ble_eq_true rfl⟩ hl.1 (Nat.le_of_ble_eq_true rfl) dlw_387 ⟨by show 100 + 50 * t + 0 ≤ 600000; omega, by show 6000 + 250 * t + 0 ≤ 7302249; omega⟩ (fun H locs hP hD hS => ?_)
    have hP := hz_toXP hP
    have hD := hz_toXD hD
    refine lv_icmp_eq (tgt := 467) hx hb dlw_390 (by decide) (fun _ => ?_) (fun hc => absurd m2.symm hc)
    refine W.widen (k := 100 + 50 * (t + 1)) (n := 6000 + 250 * (t + 1)) (by omega) (by omega) ?_
    exact kk H locs (lw_mk hP hD e1 e2 ⟨cc, n, k, tk, 8, cm, st, r9, rfl, rfl, rfl, rfl, rfl, rfl, m3.trans hr9, hr9, m4, hh, fun _ => r2, hti, hri9, hq⟩) hS
  · have hqn := hq.1 h8
    have hrun : sxq_run hd_noQ xq_query ha_parents ha_classes ha_sizes ha_fields (nI n) hf_roots hf_changed sa_linkedFrom sa_linkCounts sa_retainedSets sa_retainedSizes sa_dominators sa_immediateDominators sf_objectCount sf_roots sf_reachable wa_rows (nI r) wf_looks = some (-1, hf_changed, sa_linkedFrom, sa_linkCounts, sa_retainedSets, sa_retainedSizes, sa_dominators, sa_immediateDominators, sf_objectCount, sf_roots, sf_reachable, wa_rows, nI r, wf_looks) := if_pos hqn
    have hQd : hd_Q l D A q cI cZ cL (c0 ++ (hm_w qm cI cZ cL (nI cc) a_parent (nI n) a_kindOf a_size a_root a_slotKind a_slot a_kept (nI k) a_code a_number f_want f_compared f_open a_opened (nI r) a_rowKind a_rowValue f_many a_list wf_looks f_fail f_level a_from a_eAt a_whereAt a_source a_distinct a_keeps f_at f_self f_brackets f_values a_vKind a_v f_waiting a_waits ++ y)) xq_query 9 hd_noQ := by rw [hqn]; exact hd_Q.none
    refine lv_aload_n hx hb dlw_382 rfl (lv_at hl 1 rfl) ?_
    refine kxq_run hd_noQ hQd _ hrun hx hb hml hts hown hK hP hD hS wi_767 ⟨Nat.le_of_ble_eq_true rfl, Nat.le_of_ble_eq_true rfl⟩ hl.1 (Nat.le_of_ble_eq_true rfl) dlw_383 ⟨by show 100 + 50 * t + 0 ≤ 600000; omega, by show 6000 + 250 * t + 0 ≤ 7302249; omega⟩ (fun H locs hP hD hS => ?_)
    refine lv_aload_n hx hb dlw_386 rfl (lv_at hl 2 rfl) ?_
    have hP := hz_toMP hP
    have hD := hz_toMD hD
    refine km_run  _ (lw_run0 hti h8) hx hb hml hts hown hK hP hD hS wi_768 ⟨Nat.le_of_ble_eq_true rfl, Nat.le_of_ble_eq_true rfl⟩ hl.1 (Nat.le_of_ble_eq_true rfl) dlw_387 ⟨by show 100 + 50 * t + 0 ≤ 600000; omega, by show 6000 + 250 * t + 0 ≤ 7302249; omega⟩ (fun H locs hP hD hS => ?_)
    have hP := hz_toXP hP
    have hD := hz_toXD hD
    refine lv_icmp_eq (tgt := 467) hx hb dlw_390 (by decide) (fun _ => ?_) (fun hc => absurd rfl hc)
    refine W.widen (k := 100 + 50 * (t + 1)) (n := 6000 + 250 * (t + 1)) (by omega) (by omega) ?_
    exact kk H locs (lw_mk hP hD e1 e2 ⟨cc, n, k, tk, p0, cm, st, r, rfl, rfl, rfl, rfl, rfl, rfl, rfl, rfl, rfl, hh, hsv, hti, hri, hq⟩) hS
end
