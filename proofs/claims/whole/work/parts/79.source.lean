/-! addSource and addSelect, what the nested query, condition and row mean being given -/
abbrev hd_Y : Type := (Nat → Int32) → (Nat → Int32) → (Nat → Int32) → (Nat → Int64) → Int32 → (Nat → Int32) → (Nat → Int32) → (Nat → Int32) → (Nat → Int32) → Int32 → Int32 → (Nat → Int64) → Int32 → Int32 → Option (Int32 × (Nat → Int64) × Int32 × Int32)
def hd_rq (k : Nat) : Room := { frames := 60 + 3 * (9 - k), cells := 0, slots := 0, locals := 2200 + 100 * (9 - k) }
def hd_rs (k : Nat) : Room := { frames := 59 + 3 * (9 - k), cells := 0, slots := 0, locals := 2170 + 100 * (9 - k) }
def hd_ro (k : Nat) : Room := { frames := 58 + 3 * (9 - k), cells := 0, slots := 0, locals := 2140 + 100 * (9 - k) }
theorem hd_roomo {k a b : Nat} (ha : a ≤ 58) (hb : b ≤ 2140) : a ≤ (hd_ro k).frames ∧ b ≤ (hd_ro k).locals := ⟨by show a ≤ 58 + 3 * (9 - k); omega, by show b ≤ 2140 + 100 * (9 - k); omega⟩
theorem hd_rooms {k a b : Nat} (ha : a ≤ 59) (hb : b ≤ 2170) : a ≤ (hd_rs k).frames ∧ b ≤ (hd_rs k).locals := ⟨by show a ≤ 59 + 3 * (9 - k); omega, by show b ≤ 2170 + 100 * (9 - k); omega⟩
theorem hd_deepo {k : Nat} (hk : k ≤ 8) : (hd_rq (k + 1)).frames + 1 ≤ (hd_ro k).frames ∧ 8 + (6 + 11) + (hd_rq (k + 1)).locals ≤ (hd_ro k).locals := ⟨by show 60 + 3 * (9 - (k + 1)) + 1 ≤ 58 + 3 * (9 - k); omega, by show 8 + (6 + 11) + (2200 + 100 * (9 - (k + 1))) ≤ 2140 + 100 * (9 - k); omega⟩
section
variable {p : Program} {l : Launch} {e : Env} {R : Room} {s : State} {m : MethodId} {args : Array Value} {below : List Frame} {meth : Method} {c : Code} {H H0 : Heap} {locs : List Loc} {cells slots : Nat} {Q : State → Prop}
variable {cc : ByteArray} {pc idx nC : Nat} {ls : Array Slot} {rest : List Value} {D : va_G} {A : Nat → Prop} {own : String} {q : Nat → Nat} {cI cZ cL : ClassId} {z w : va_W}
variable {hf_classCount hf_objectCount hf_roots hf_changed sf_objectCount sf_roots sf_reachable tf_count tf_bracketCount tf_place tf_inWhere tf_compared wf_count wf_looks n_code n_number s_isDistinct s_isRetained s_sourceClass s_withDescendants : Int32}
variable {ha_parents ha_classes ha_sizes sa_linkedFrom sa_linkCounts sa_retainedSets sa_retainedSizes sa_dominators sa_immediateDominators ta_codes ta_numbers ta_brackets : Nat → Int32}
variable {ha_fields wa_rows : Nat → Int64}
variable {xq_query n_left n_right s_row s_nested s_condition s_next : Option Nat}
variable {pa_n pk_n pa_s pk_s : Nat}
theorem kxw_recq {k : Nat} {l3 : Int32} {r : Option Nat} {u : Int32 × (Nat → Int64) × Int32 × Int32} {W0 W1 : va_W} {q0 : Nat} {fs : List Value} (hM : hq_Ct l yxw_addQuery bxw_addQuery 6 (some .int) (hd_rq k) D (hq_tys cI cZ cL) A [.ref (q 4), .ref (q 1), va_rf r, .int l3] W0 W1 (some (.int u.1)) 0 0) (he : W0[q0]? = some (q 4, .inr (5, fs))) (hx : p.tables.exec = Jvm.exec) (hb : c.code = cc) (hml : c.maxLocals = nC) (hts : ∀ x ∈ hq_tbl, x.before args s = true) (hown : s.vm.findClass own = some m.cls) (hK : va_K D hq_cl (hq_tys cI cZ cL) s) (hP : va_P D hq_cl W0 H) (hD : va_D A W0) (hS : va_S A H0 H locs) (h1 : Cond.methodLink own idx yxw_addQuery ∈ hq_tbl) (hR : (hd_rq k).frames + 1 ≤ R.frames ∧ 8 + (6 + 11) + (hd_rq k).locals ≤ R.locals) (hls : ls.size = nC) (hW : (rest.map fun v => v.category).sum ≤ 8) (hdg : decode cc pc = .ok (.invokevirtual idx, 3)) (hf : cells + 0 ≤ R.cells ∧ slots + 0 ≤ R.slots) (kk : ∀ (H1 : Heap) (locs1 : List Loc), va_P D hq_cl W1 H1 → va_D A W1 → va_S A H0 H1 locs1 → W p l e R s m args below meth c H1 locs1 cells slots Q (F0 m (pc + 3) ls (.int u.1 :: rest))) : W p l e R s m args below meth c H locs cells slots Q (F0 m pc ls (.int l3 :: va_rf r :: .ref (q 1) :: .ref (q 4) :: rest)) :=
  hq_callV (q0 := q0) hx hb hml hown hts hK hP hD hS hM he rfl h1 wi_649 wi_650 wi_311 wi_651 3 rfl (by decide +kernel) ⟨rfl, rfl⟩ hR hls rfl hW hdg hf kk
end
def sxw_addSource (dN : hd_Y) (l3 : Int32) (ha_parents : Nat → Int32) (ha_classes : Nat → Int32) (ha_sizes : Nat → Int32) (ha_fields : Nat → Int64) (hf_objectCount : Int32) (sa_linkedFrom : Nat → Int32) (sa_linkCounts : Nat → Int32) (sa_retainedSizes : Nat → Int32) (sa_immediateDominators : Nat → Int32) (sf_roots : Int32) (sf_reachable : Int32) (wa_rows : Nat → Int64) (wf_count : Int32) (wf_looks : Int32) (s_nested : Option Nat) (s_sourceClass : Int32) (s_withDescendants : Int32) : Option (Int32 × (Nat → Int64) × Int32 × Int32) :=
  if s_nested = none then
    (sxw_addObjectsOfClass ha_parents ha_classes hf_objectCount wa_rows wf_count s_sourceClass s_withDescendants).bind fun v10 =>
      some (0, v10.1, v10.2, wf_looks)
  else
    (dN ha_parents ha_classes ha_sizes ha_fields hf_objectCount sa_linkedFrom sa_linkCounts sa_retainedSizes sa_immediateDominators sf_roots sf_reachable wa_rows wf_count wf_looks).bind fun v30 =>
      if v30.1 = 0 then
        (sxw_hasNumber wf_count v30.2.1 v30.2.2.1).bind fun v46 =>
          if v46 = 0 then
            (sxw_leaveOutEmpty wf_count v30.2.1 v30.2.2.1).bind fun v58 =>
              some (0, v58.1, v58.2, v30.2.2.2)
          else
            some (((-4), v30.2.1, v30.2.2.1, v30.2.2.2))
      else
        some (v30.1, v30.2.1, v30.2.2.1, v30.2.2.2)
theorem dxw_addSource_0 : decode bxw_addSource 0 = .ok (.aload_n 2, 1) := by decide +kernel
theorem dxw_addSource_1 : decode bxw_addSource 1 = .ok (.getfield 53, 3) := by decide +kernel
theorem dxw_addSource_4 : decode bxw_addSource 4 = .ok (.ifnonnull 11, 3) := by decide +kernel
theorem dxw_addSource_7 : decode bxw_addSource 7 = .ok (.aload_n 0, 1) := by decide +kernel
theorem dxw_addSource_8 : decode bxw_addSource 8 = .ok (.aload_n 1, 1) := by decide +kernel
theorem dxw_addSource_9 : decode bxw_addSource 9 = .ok (.aload_n 2, 1) := by decide +kernel
theorem dxw_addSource_10 : decode bxw_addSource 10 = .ok (.invokevirtual 56, 3) := by decide +kernel
theorem dxw_addSource_13 : decode bxw_addSource 13 = .ok (.iconst 0, 1) := by decide +kernel
theorem dxw_addSource_14 : decode bxw_addSource 14 = .ok (.ireturn, 1) := by decide +kernel
theorem dxw_addSource_15 : decode bxw_addSource 15 = .ok (.aload_n 0, 1) := by decide +kernel
theorem dxw_addSource_16 : decode bxw_addSource 16 = .ok (.getfield 15, 3) := by decide +kernel
theorem dxw_addSource_19 : decode bxw_addSource 19 = .ok (.istore 4, 2) := by decide +kernel
theorem dxw_addSource_21 : decode bxw_addSource 21 = .ok (.aload_n 0, 1) := by decide +kernel
theorem dxw_addSource_22 : decode bxw_addSource 22 = .ok (.aload_n 1, 1) := by decide +kernel
theorem dxw_addSource_23 : decode bxw_addSource 23 = .ok (.aload_n 2, 1) := by decide +kernel
theorem dxw_addSource_24 : decode bxw_addSource 24 = .ok (.getfield 53, 3) := by decide +kernel
theorem dxw_addSource_27 : decode bxw_addSource 27 = .ok (.iload_n 3, 1) := by decide +kernel
theorem dxw_addSource_28 : decode bxw_addSource 28 = .ok (.iconst 1, 1) := by decide +kernel
theorem dxw_addSource_29 : decode bxw_addSource 29 = .ok (.iadd, 1) := by decide +kernel
theorem dxw_addSource_30 : decode bxw_addSource 30 = .ok (.invokevirtual 60, 3) := by decide +kernel
theorem dxw_addSource_33 : decode bxw_addSource 33 = .ok (.istore 5, 2) := by decide +kernel
theorem dxw_addSource_35 : decode bxw_addSource 35 = .ok (.iload 5, 2) := by decide +kernel
theorem dxw_addSource_37 : decode bxw_addSource 37 = .ok (.ifCond .eq 6, 3) := by decide +kernel
theorem dxw_addSource_40 : decode bxw_addSource 40 = .ok (.iload 5, 2) := by decide +kernel
theorem dxw_addSource_42 : decode bxw_addSource 42 = .ok (.ireturn, 1) := by decide +kernel
theorem dxw_addSource_43 : decode bxw_addSource 43 = .ok (.aload_n 0, 1) := by decide +kernel
theorem dxw_addSource_44 : decode bxw_addSource 44 = .ok (.iload 4, 2) := by decide +kernel
theorem dxw_addSource_46 : decode bxw_addSource 46 = .ok (.invokevirtual 63, 3) := by decide +kernel
theorem dxw_addSource_49 : decode bxw_addSource 49 = .ok (.ifCond .eq 6, 3) := by decide +kernel
theorem dxw_addSource_52 : decode bxw_addSource 52 = .ok (.bipush (-4), 2) := by decide +kernel
theorem dxw_addSource_54 : decode bxw_addSource 54 = .ok (.ireturn, 1) := by decide +kernel
theorem dxw_addSource_55 : decode bxw_addSource 55 = .ok (.aload_n 0, 1) := by decide +kernel
theorem dxw_addSource_56 : decode bxw_addSource 56 = .ok (.iload 4, 2) := by decide +kernel
theorem dxw_addSource_58 : decode bxw_addSource 58 = .ok (.invokevirtual 67, 3) := by decide +kernel
theorem dxw_addSource_61 : decode bxw_addSource 61 = .ok (.iconst 0, 1) := by decide +kernel
theorem dxw_addSource_62 : decode bxw_addSource 62 = .ok (.ireturn, 1) := by decide +kernel
section
variable {l : Launch} {D : va_G} {A : Nat → Prop} {z w : va_W} {q : Nat → Nat} {cI cZ cL : ClassId}
variable {hf_classCount hf_objectCount hf_roots hf_changed sf_objectCount sf_roots sf_reachable tf_count tf_bracketCount tf_place tf_inWhere tf_compared wf_count wf_looks n_code n_number s_isDistinct s_isRetained s_sourceClass s_withDescendants : Int32}
variable {ha_parents ha_classes ha_sizes sa_linkedFrom sa_linkCounts sa_retainedSets sa_retainedSizes sa_dominators sa_immediateDominators ta_codes ta_numbers ta_brackets : Nat → Int32}
variable {ha_fields wa_rows : Nat → Int64}
variable {xq_query n_left n_right s_row s_nested s_condition s_next : Option Nat}
variable {pa_n pk_n pa_s pk_s : Nat}
set_option maxHeartbeats 4000000 in
set_option maxRecDepth 100000 in
theorem cxw_addSource (k : Nat) (hk : k ≤ 8) (dN : hd_Y) (l3 : Int32) (ur : Int32 × (Nat → Int64) × Int32 × Int32) (h : sxw_addSource dN l3 ha_parents ha_classes ha_sizes ha_fields hf_objectCount sa_linkedFrom sa_linkCounts sa_retainedSizes sa_immediateDominators sf_roots sf_reachable wa_rows wf_count wf_looks s_nested s_sourceClass s_withDescendants = some ur) (ph_s : z[pk_s]? = some (pa_s, .inr (6, [.int s_isDistinct, .int s_isRetained, va_rf s_row, va_rf s_nested, .int s_sourceClass, .int s_withDescendants, va_rf s_condition, va_rf s_next]))) (hNd : ∀ u, dN ha_parents ha_classes ha_sizes ha_fields hf_objectCount sa_linkedFrom sa_linkCounts sa_retainedSizes sa_immediateDominators sf_roots sf_reachable wa_rows wf_count wf_looks = some u → hq_Ct l yxw_addQuery bxw_addQuery 6 (some .int) (hd_rq (k + 1)) D (hq_tys cI cZ cL) A [.ref (q 4), .ref (q 1), va_rf s_nested, .int (l3 + 1)] (hx_w q cI cZ cL xq_query ha_parents hf_classCount ha_classes ha_sizes ha_fields hf_objectCount hf_roots hf_changed sa_linkedFrom sa_linkCounts sa_retainedSets sa_retainedSizes sa_dominators sa_immediateDominators sf_objectCount sf_roots sf_reachable ta_codes ta_numbers tf_count ta_brackets tf_bracketCount tf_place tf_inWhere tf_compared wa_rows wf_count wf_looks ++ z) (hx_w q cI cZ cL xq_query ha_parents hf_classCount ha_classes ha_sizes ha_fields hf_objectCount hf_roots hf_changed sa_linkedFrom sa_linkCounts sa_retainedSets sa_retainedSizes sa_dominators sa_immediateDominators sf_objectCount sf_roots sf_reachable ta_codes ta_numbers tf_count ta_brackets tf_bracketCount tf_place tf_inWhere tf_compared u.2.1 u.2.2.1 u.2.2.2 ++ z) (some (.int u.1)) 0 0) : hq_Ct l yxw_addSource bxw_addSource 6 (some .int) (hd_ro k) D (hq_tys cI cZ cL) A [.ref (q 4), .ref (q 1), .ref pa_s, .int l3] (hx_w q cI cZ cL xq_query ha_parents hf_classCount ha_classes ha_sizes ha_fields hf_objectCount hf_roots hf_changed sa_linkedFrom sa_linkCounts sa_retainedSets sa_retainedSizes sa_dominators sa_immediateDominators sf_objectCount sf_roots sf_reachable ta_codes ta_numbers tf_count ta_brackets tf_bracketCount tf_place tf_inWhere tf_compared wa_rows wf_count wf_looks ++ z) (hx_w q cI cZ cL xq_query ha_parents hf_classCount ha_classes ha_sizes ha_fields hf_objectCount hf_roots hf_changed sa_linkedFrom sa_linkCounts sa_retainedSets sa_retainedSizes sa_dominators sa_immediateDominators sf_objectCount sf_roots sf_reachable ta_codes ta_numbers tf_count ta_brackets tf_bracketCount tf_place tf_inWhere tf_compared ur.2.1 ur.2.2.1 ur.2.2.2 ++ z) (some (.int ur.1)) 0 0 := by
  refine hq_of (by decide) ?_ (Nat.le_of_ble_eq_true rfl)
  intro p e s m below meth c R args Q hRm hQ hx hb hr hml hts hown hlocks hnm hP hK hD ls hl hS
  have hl : lv_has ls 6 [(0, .ref (q 4)), (1, .ref (q 1)), (2, .ref pa_s), (3, .int l3)] := hl
  have hown : s.vm.findClass "HeapQueries$Worker" = some m.cls := hown
  unfold sxw_addSource at h
  refine lv_aload_n hx hb dxw_addSource_0 rfl (lv_at hl 2 rfl) ?_
  refine gx_s_nested hx hb hts hown hK hP ph_s wi_652 dxw_addSource_1 ?_
  refine hq_ifnonnull (tgt := 15) hx hb dxw_addSource_4 (by decide) (fun hc => ?_) (fun hc => ?_)
  · have h := (if_pos hc).symm.trans h
    refine lv_aload_n hx hb dxw_addSource_7 rfl (lv_at hl 0 rfl) ?_
    refine lv_aload_n hx hb dxw_addSource_8 rfl (lv_at hl 1 rfl) ?_
    refine lv_aload_n hx hb dxw_addSource_9 rfl (lv_at hl 2 rfl) ?_
    obtain ⟨v10, h10, h⟩ := hq_bind h
    refine kxw_addObjectsOfClass  v10 h10 ph_s hx hb hml hts hown hK hP hD hS wi_653 (by rw [hRm]; exact hd_roomo (by decide) (by decide)) hl.1 (Nat.le_of_ble_eq_true rfl) dxw_addSource_10 ⟨Nat.zero_le _, Nat.zero_le _⟩ (fun H locs hP hD hS => ?_)
    refine lv_iconst (v := 0) hx hb dxw_addSource_13 (by decide) ?_
    have h := Option.some.inj h
    exact hq_iret hx hb hr hlocks hQ hK hP hD hS (by rw [← h]) (by rw [← h]) dxw_addSource_14
  · have h := (if_neg hc).symm.trans h
    refine lv_aload_n hx hb dxw_addSource_15 rfl (lv_at hl 0 rfl) ?_
    refine gx_4_count hx hb hts hown hK hP wi_56 dxw_addSource_16 ?_
    refine lv_istore (lv' := [(4, .int wf_count), (0, .ref (q 4)), (1, .ref (q 1)), (2, .ref pa_s), (3, .int l3)]) hx hb dxw_addSource_19 hl (by decide) rfl (fun ls hl => ?_)
    refine lv_aload_n hx hb dxw_addSource_21 rfl (lv_at hl 1 rfl) ?_
    refine lv_aload_n hx hb dxw_addSource_22 rfl (lv_at hl 2 rfl) ?_
    refine lv_aload_n hx hb dxw_addSource_23 rfl (lv_at hl 3 rfl) ?_
    refine gx_s_nested hx hb hts hown hK hP ph_s wi_652 dxw_addSource_24 ?_
    refine lv_iload_n hx hb dxw_addSource_27 rfl (lv_at hl 4 rfl) ?_
    refine lv_iconst (v := 1) hx hb dxw_addSource_28 (by decide) ?_
    refine lv_iadd hx hb dxw_addSource_29 ?_
    obtain ⟨v30, h30, h⟩ := hq_bind h
    refine kxw_recq (q0 := 4) (hNd v30 h30) rfl hx hb hml hts hown hK hP hD hS wi_654 (by rw [hRm]; exact hd_deepo hk) hl.1 (Nat.le_of_ble_eq_true rfl) dxw_addSource_30 ⟨Nat.zero_le _, Nat.zero_le _⟩ (fun H locs hP hD hS => ?_)
    refine lv_istore (lv' := [(5, .int v30.1), (4, .int wf_count), (0, .ref (q 4)), (1, .ref (q 1)), (2, .ref pa_s), (3, .int l3)]) hx hb dxw_addSource_33 hl (by decide) rfl (fun ls hl => ?_)
    refine lv_iload hx hb dxw_addSource_35 (lv_at hl 0 rfl) ?_
    refine lv_if_eq (tgt := 43) hx hb dxw_addSource_37 (by decide) (fun hc => ?_) (fun hc => ?_)
    · have h := (if_pos hc).symm.trans h
      refine lv_aload_n hx hb dxw_addSource_43 rfl (lv_at hl 2 rfl) ?_
      refine lv_iload hx hb dxw_addSource_44 (lv_at hl 1 rfl) ?_
      obtain ⟨v46, h46, h⟩ := hq_bind h
      refine kxw_hasNumber wf_count v46 h46 hx hb hml hts hown hK hP hD hS wi_195 (by rw [hRm]; exact hd_roomo (by decide) (by decide)) hl.1 (Nat.le_of_ble_eq_true rfl) dxw_addSource_46 ⟨Nat.zero_le _, Nat.zero_le _⟩ (fun H locs hP hD hS => ?_)
      refine lv_if_eq (tgt := 55) hx hb dxw_addSource_49 (by decide) (fun hc => ?_) (fun hc => ?_)
      · have h := (if_pos hc).symm.trans h
        refine lv_aload_n hx hb dxw_addSource_55 rfl (lv_at hl 2 rfl) ?_
        refine lv_iload hx hb dxw_addSource_56 (lv_at hl 1 rfl) ?_
        obtain ⟨v58, h58, h⟩ := hq_bind h
        refine kxw_leaveOutEmpty wf_count v58 h58 hx hb hml hts hown hK hP hD hS wi_655 (by rw [hRm]; exact hd_roomo (by decide) (by decide)) hl.1 (Nat.le_of_ble_eq_true rfl) dxw_addSource_58 ⟨Nat.zero_le _, Nat.zero_le _⟩ (fun H locs hP hD hS => ?_)
        refine lv_iconst (v := 0) hx hb dxw_addSource_61 (by decide) ?_
        have h := Option.some.inj h
        exact hq_iret hx hb hr hlocks hQ hK hP hD hS (by rw [← h]) (by rw [← h]) dxw_addSource_62
      · have h := (if_neg hc).symm.trans h
        refine lv_bipush (v := (-4)) hx hb dxw_addSource_52 (by decide) ?_
        have h := Option.some.inj h
        exact hq_iret hx hb hr hlocks hQ hK hP hD hS (by rw [← h]) (by rw [← h]) dxw_addSource_54
    · have h := (if_neg hc).symm.trans h
      refine lv_iload hx hb dxw_addSource_40 (lv_at hl 0 rfl) ?_
      have h := Option.some.inj h
      exact hq_iret hx hb hr hlocks hQ hK hP hD hS (by rw [← h]) (by rw [← h]) dxw_addSource_42
end
section
variable {p : Program} {l : Launch} {e : Env} {R : Room} {s : State} {m : MethodId} {args : Array Value} {below : List Frame} {meth : Method} {c : Code} {H H0 : Heap} {locs : List Loc} {cells slots : Nat} {Q : State → Prop}
variable {cc : ByteArray} {pc idx nC : Nat} {ls : Array Slot} {rest : List Value} {D : va_G} {A : Nat → Prop} {own : String} {q : Nat → Nat} {cI cZ cL : ClassId} {z w : va_W}
variable {hf_classCount hf_objectCount hf_roots hf_changed sf_objectCount sf_roots sf_reachable tf_count tf_bracketCount tf_place tf_inWhere tf_compared wf_count wf_looks n_code n_number s_isDistinct s_isRetained s_sourceClass s_withDescendants : Int32}
variable {ha_parents ha_classes ha_sizes sa_linkedFrom sa_linkCounts sa_retainedSets sa_retainedSizes sa_dominators sa_immediateDominators ta_codes ta_numbers ta_brackets : Nat → Int32}
variable {ha_fields wa_rows : Nat → Int64}
variable {xq_query n_left n_right s_row s_nested s_condition s_next : Option Nat}
variable {pa_n pk_n pa_s pk_s : Nat}
theorem kxw_addSource (k : Nat) (hk : k ≤ 8) (dN : hd_Y) (l3 : Int32) (ur : Int32 × (Nat → Int64) × Int32 × Int32) (hu : sxw_addSource dN l3 ha_parents ha_classes ha_sizes ha_fields hf_objectCount sa_linkedFrom sa_linkCounts sa_retainedSizes sa_immediateDominators sf_roots sf_reachable wa_rows wf_count wf_looks s_nested s_sourceClass s_withDescendants = some ur) (ph_s : z[pk_s]? = some (pa_s, .inr (6, [.int s_isDistinct, .int s_isRetained, va_rf s_row, va_rf s_nested, .int s_sourceClass, .int s_withDescendants, va_rf s_condition, va_rf s_next]))) (hNd : ∀ u, dN ha_parents ha_classes ha_sizes ha_fields hf_objectCount sa_linkedFrom sa_linkCounts sa_retainedSizes sa_immediateDominators sf_roots sf_reachable wa_rows wf_count wf_looks = some u → hq_Ct l yxw_addQuery bxw_addQuery 6 (some .int) (hd_rq (k + 1)) D (hq_tys cI cZ cL) A [.ref (q 4), .ref (q 1), va_rf s_nested, .int (l3 + 1)] (hx_w q cI cZ cL xq_query ha_parents hf_classCount ha_classes ha_sizes ha_fields hf_objectCount hf_roots hf_changed sa_linkedFrom sa_linkCounts sa_retainedSets sa_retainedSizes sa_dominators sa_immediateDominators sf_objectCount sf_roots sf_reachable ta_codes ta_numbers tf_count ta_brackets tf_bracketCount tf_place tf_inWhere tf_compared wa_rows wf_count wf_looks ++ z) (hx_w q cI cZ cL xq_query ha_parents hf_classCount ha_classes ha_sizes ha_fields hf_objectCount hf_roots hf_changed sa_linkedFrom sa_linkCounts sa_retainedSets sa_retainedSizes sa_dominators sa_immediateDominators sf_objectCount sf_roots sf_reachable ta_codes ta_numbers tf_count ta_brackets tf_bracketCount tf_place tf_inWhere tf_compared u.2.1 u.2.2.1 u.2.2.2 ++ z) (some (.int u.1)) 0 0) (hx : p.tables.exec = Jvm.exec) (hb : c.code = cc) (hml : c.maxLocals = nC) (hts : ∀ x ∈ hq_tbl, x.before args s = true) (hown : s.vm.findClass own = some m.cls) (hK : va_K D hq_cl (hq_tys cI cZ cL) s) (hP : va_P D hq_cl (hx_w q cI cZ cL xq_query ha_parents hf_classCount ha_classes ha_sizes ha_fields hf_objectCount hf_roots hf_changed sa_linkedFrom sa_linkCounts sa_retainedSets sa_retainedSizes sa_dominators sa_immediateDominators sf_objectCount sf_roots sf_reachable ta_codes ta_numbers tf_count ta_brackets tf_bracketCount tf_place tf_inWhere tf_compared wa_rows wf_count wf_looks ++ z) H) (hD : va_D A (hx_w q cI cZ cL xq_query ha_parents hf_classCount ha_classes ha_sizes ha_fields hf_objectCount hf_roots hf_changed sa_linkedFrom sa_linkCounts sa_retainedSets sa_retainedSizes sa_dominators sa_immediateDominators sf_objectCount sf_roots sf_reachable ta_codes ta_numbers tf_count ta_brackets tf_bracketCount tf_place tf_inWhere tf_compared wa_rows wf_count wf_looks ++ z)) (hS : va_S A H0 H locs) (h1 : Cond.methodLink own idx yxw_addSource ∈ hq_tbl) (hR : (hd_ro k).frames + 1 ≤ R.frames ∧ 8 + (6 + 11) + (hd_ro k).locals ≤ R.locals) (hls : ls.size = nC) (hW : (rest.map fun v => v.category).sum ≤ 8) (hdg : decode cc pc = .ok (.invokevirtual idx, 3)) (hf : cells + 0 ≤ R.cells ∧ slots + 0 ≤ R.slots) (kk : ∀ (H1 : Heap) (locs1 : List Loc), va_P D hq_cl (hx_w q cI cZ cL xq_query ha_parents hf_classCount ha_classes ha_sizes ha_fields hf_objectCount hf_roots hf_changed sa_linkedFrom sa_linkCounts sa_retainedSets sa_retainedSizes sa_dominators sa_immediateDominators sf_objectCount sf_roots sf_reachable ta_codes ta_numbers tf_count ta_brackets tf_bracketCount tf_place tf_inWhere tf_compared ur.2.1 ur.2.2.1 ur.2.2.2 ++ z) H1 → va_D A (hx_w q cI cZ cL xq_query ha_parents hf_classCount ha_classes ha_sizes ha_fields hf_objectCount hf_roots hf_changed sa_linkedFrom sa_linkCounts sa_retainedSets sa_retainedSizes sa_dominators sa_immediateDominators sf_objectCount sf_roots sf_reachable ta_codes ta_numbers tf_count ta_brackets tf_bracketCount tf_place tf_inWhere tf_compared ur.2.1 ur.2.2.1 ur.2.2.2 ++ z) → va_S A H0 H1 locs1 → W p l e R s m args below meth c H1 locs1 cells slots Q (F0 m (pc + 3) ls (.int ur.1 :: rest))) : W p l e R s m args below meth c H locs cells slots Q (F0 m pc ls (.int l3 :: .ref pa_s :: .ref (q 1) :: .ref (q 4) :: rest)) :=
  hq_callV (q0 := 4) hx hb hml hown hts hK hP hD hS (cxw_addSource k hk dN l3 ur hu ph_s hNd) rfl rfl h1 wi_656 wi_657 wi_311 wi_658 3 rfl (by decide +kernel) ⟨rfl, rfl⟩ hR hls rfl hW hdg hf kk
end
def sxw_addSelect_J30 (dN : hd_Y) (dC dR : hd_X) (l4 : Int32) (l5 : Int32) (ha_parents : Nat → Int32) (ha_classes : Nat → Int32) (ha_sizes : Nat → Int32) (ha_fields : Nat → Int64) (hf_objectCount : Int32) (sa_linkedFrom : Nat → Int32) (sa_linkCounts : Nat → Int32) (sa_retainedSizes : Nat → Int32) (sa_immediateDominators : Nat → Int32) (sf_roots : Int32) (sf_reachable : Int32) (wa_rows : Nat → Int64) (wf_count : Int32) (wf_looks : Int32) (s_isDistinct : Int32) (s_isRetained : Int32) (s_row : Option Nat) (s_nested : Option Nat) (s_sourceClass : Int32) (s_withDescendants : Int32) (s_condition : Option Nat) : Option (Int32 × (Nat → Int64) × Int32 × Int32) :=
  if l5 = 0 then
    if s_isRetained = 0 then
      if s_isDistinct = 0 then
        some (0, wa_rows, wf_count, wf_looks)
      else
        (sxw_leaveOutRepeated l4 wa_rows wf_count).bind fun v63 =>
          some (0, v63.1, v63.2, wf_looks)
    else
      (sxw_turnIntoRetained l4 hf_objectCount sa_linkedFrom sf_roots sf_reachable wa_rows wf_count).bind fun v49 =>
        some (v49.1, v49.2.1, v49.2.2, wf_looks)
  else
    some (l5, wa_rows, wf_count, wf_looks)
def sxw_addSelect (dN : hd_Y) (dC dR : hd_X) (l3 : Int32) (ha_parents : Nat → Int32) (ha_classes : Nat → Int32) (ha_sizes : Nat → Int32) (ha_fields : Nat → Int64) (hf_objectCount : Int32) (sa_linkedFrom : Nat → Int32) (sa_linkCounts : Nat → Int32) (sa_retainedSizes : Nat → Int32) (sa_immediateDominators : Nat → Int32) (sf_roots : Int32) (sf_reachable : Int32) (wa_rows : Nat → Int64) (wf_count : Int32) (wf_looks : Int32) (s_isDistinct : Int32) (s_isRetained : Int32) (s_row : Option Nat) (s_nested : Option Nat) (s_sourceClass : Int32) (s_withDescendants : Int32) (s_condition : Option Nat) : Option (Int32 × (Nat → Int64) × Int32 × Int32) :=
  (sxw_addSource dN l3 ha_parents ha_classes ha_sizes ha_fields hf_objectCount sa_linkedFrom sa_linkCounts sa_retainedSizes sa_immediateDominators sf_roots sf_reachable wa_rows wf_count wf_looks s_nested s_sourceClass s_withDescendants).bind fun v10 =>
    if v10.1 = 0 then
      (sxw_lookAtAll dC dR wf_count ha_classes ha_sizes ha_fields hf_objectCount sa_linkCounts sa_retainedSizes sa_immediateDominators v10.2.1 v10.2.2.1 v10.2.2.2 s_row s_condition).bind fun v25 =>
        sxw_addSelect_J30 dN dC dR wf_count v25.1 ha_parents ha_classes ha_sizes ha_fields hf_objectCount sa_linkedFrom sa_linkCounts sa_retainedSizes sa_immediateDominators sf_roots sf_reachable v25.2.1 v25.2.2.1 v25.2.2.2 s_isDistinct s_isRetained s_row s_nested s_sourceClass s_withDescendants s_condition
    else
      sxw_addSelect_J30 dN dC dR wf_count v10.1 ha_parents ha_classes ha_sizes ha_fields hf_objectCount sa_linkedFrom sa_linkCounts sa_retainedSizes sa_immediateDominators sf_roots sf_reachable v10.2.1 v10.2.2.1 v10.2.2.2 s_isDistinct s_isRetained s_row s_nested s_sourceClass s_withDescendants s_condition
theorem dxw_addSelect_0 : decode bxw_addSelect 0 = .ok (.aload_n 0, 1) := by decide +kernel
theorem dxw_addSelect_1 : decode bxw_addSelect 1 = .ok (.getfield 15, 3) := by decide +kernel
theorem dxw_addSelect_4 : decode bxw_addSelect 4 = .ok (.istore 4, 2) := by decide +kernel
theorem dxw_addSelect_6 : decode bxw_addSelect 6 = .ok (.aload_n 0, 1) := by decide +kernel
theorem dxw_addSelect_7 : decode bxw_addSelect 7 = .ok (.aload_n 1, 1) := by decide +kernel
theorem dxw_addSelect_8 : decode bxw_addSelect 8 = .ok (.aload_n 2, 1) := by decide +kernel
theorem dxw_addSelect_9 : decode bxw_addSelect 9 = .ok (.iload_n 3, 1) := by decide +kernel
theorem dxw_addSelect_10 : decode bxw_addSelect 10 = .ok (.invokevirtual 32, 3) := by decide +kernel
theorem dxw_addSelect_13 : decode bxw_addSelect 13 = .ok (.istore 5, 2) := by decide +kernel
theorem dxw_addSelect_15 : decode bxw_addSelect 15 = .ok (.iload 5, 2) := by decide +kernel
theorem dxw_addSelect_17 : decode bxw_addSelect 17 = .ok (.ifCond .ne 13, 3) := by decide +kernel
theorem dxw_addSelect_20 : decode bxw_addSelect 20 = .ok (.aload_n 0, 1) := by decide +kernel
theorem dxw_addSelect_21 : decode bxw_addSelect 21 = .ok (.aload_n 1, 1) := by decide +kernel
theorem dxw_addSelect_22 : decode bxw_addSelect 22 = .ok (.aload_n 2, 1) := by decide +kernel
theorem dxw_addSelect_23 : decode bxw_addSelect 23 = .ok (.iload 4, 2) := by decide +kernel
theorem dxw_addSelect_25 : decode bxw_addSelect 25 = .ok (.invokevirtual 35, 3) := by decide +kernel
theorem dxw_addSelect_28 : decode bxw_addSelect 28 = .ok (.istore 5, 2) := by decide +kernel
theorem dxw_addSelect_30 : decode bxw_addSelect 30 = .ok (.iload 5, 2) := by decide +kernel
theorem dxw_addSelect_32 : decode bxw_addSelect 32 = .ok (.ifCond .eq 6, 3) := by decide +kernel
theorem dxw_addSelect_35 : decode bxw_addSelect 35 = .ok (.iload 5, 2) := by decide +kernel
theorem dxw_addSelect_37 : decode bxw_addSelect 37 = .ok (.ireturn, 1) := by decide +kernel
theorem dxw_addSelect_38 : decode bxw_addSelect 38 = .ok (.aload_n 2, 1) := by decide +kernel
theorem dxw_addSelect_39 : decode bxw_addSelect 39 = .ok (.getfield 38, 3) := by decide +kernel
theorem dxw_addSelect_42 : decode bxw_addSelect 42 = .ok (.ifCond .eq 11, 3) := by decide +kernel
theorem dxw_addSelect_45 : decode bxw_addSelect 45 = .ok (.aload_n 0, 1) := by decide +kernel
theorem dxw_addSelect_46 : decode bxw_addSelect 46 = .ok (.aload_n 1, 1) := by decide +kernel
theorem dxw_addSelect_47 : decode bxw_addSelect 47 = .ok (.iload 4, 2) := by decide +kernel
theorem dxw_addSelect_49 : decode bxw_addSelect 49 = .ok (.invokevirtual 42, 3) := by decide +kernel
theorem dxw_addSelect_52 : decode bxw_addSelect 52 = .ok (.ireturn, 1) := by decide +kernel
theorem dxw_addSelect_53 : decode bxw_addSelect 53 = .ok (.aload_n 2, 1) := by decide +kernel
theorem dxw_addSelect_54 : decode bxw_addSelect 54 = .ok (.getfield 46, 3) := by decide +kernel
theorem dxw_addSelect_57 : decode bxw_addSelect 57 = .ok (.ifCond .eq 9, 3) := by decide +kernel
theorem dxw_addSelect_60 : decode bxw_addSelect 60 = .ok (.aload_n 0, 1) := by decide +kernel
theorem dxw_addSelect_61 : decode bxw_addSelect 61 = .ok (.iload 4, 2) := by decide +kernel
theorem dxw_addSelect_63 : decode bxw_addSelect 63 = .ok (.invokevirtual 49, 3) := by decide +kernel
theorem dxw_addSelect_66 : decode bxw_addSelect 66 = .ok (.iconst 0, 1) := by decide +kernel
theorem dxw_addSelect_67 : decode bxw_addSelect 67 = .ok (.ireturn, 1) := by decide +kernel
section
variable {l : Launch} {D : va_G} {A : Nat → Prop} {z w : va_W} {q : Nat → Nat} {cI cZ cL : ClassId}
variable {hf_classCount hf_objectCount hf_roots hf_changed sf_objectCount sf_roots sf_reachable tf_count tf_bracketCount tf_place tf_inWhere tf_compared wf_count wf_looks n_code n_number s_isDistinct s_isRetained s_sourceClass s_withDescendants : Int32}
variable {ha_parents ha_classes ha_sizes sa_linkedFrom sa_linkCounts sa_retainedSets sa_retainedSizes sa_dominators sa_immediateDominators ta_codes ta_numbers ta_brackets : Nat → Int32}
variable {ha_fields wa_rows : Nat → Int64}
variable {xq_query n_left n_right s_row s_nested s_condition s_next : Option Nat}
variable {pa_n pk_n pa_s pk_s : Nat}
set_option maxHeartbeats 4000000 in
set_option maxRecDepth 100000 in
theorem cxw_addSelect (k : Nat) (hk : k ≤ 8) (dN : hd_Y) (dC dR : hd_X) (l3 : Int32) (ur : Int32 × (Nat → Int64) × Int32 × Int32) (h : sxw_addSelect dN dC dR l3 ha_parents ha_classes ha_sizes ha_fields hf_objectCount sa_linkedFrom sa_linkCounts sa_retainedSizes sa_immediateDominators sf_roots sf_reachable wa_rows wf_count wf_looks s_isDistinct s_isRetained s_row s_nested s_sourceClass s_withDescendants s_condition = some ur) (ph_s : z[pk_s]? = some (pa_s, .inr (6, [.int s_isDistinct, .int s_isRetained, va_rf s_row, va_rf s_nested, .int s_sourceClass, .int s_withDescendants, va_rf s_condition, va_rf s_next]))) (hNd : ∀ u, dN ha_parents ha_classes ha_sizes ha_fields hf_objectCount sa_linkedFrom sa_linkCounts sa_retainedSizes sa_immediateDominators sf_roots sf_reachable wa_rows wf_count wf_looks = some u → hq_Ct l yxw_addQuery bxw_addQuery 6 (some .int) (hd_rq (k + 1)) D (hq_tys cI cZ cL) A [.ref (q 4), .ref (q 1), va_rf s_nested, .int (l3 + 1)] (hx_w q cI cZ cL xq_query ha_parents hf_classCount ha_classes ha_sizes ha_fields hf_objectCount hf_roots hf_changed sa_linkedFrom sa_linkCounts sa_retainedSets sa_retainedSizes sa_dominators sa_immediateDominators sf_objectCount sf_roots sf_reachable ta_codes ta_numbers tf_count ta_brackets tf_bracketCount tf_place tf_inWhere tf_compared wa_rows wf_count wf_looks ++ z) (hx_w q cI cZ cL xq_query ha_parents hf_classCount ha_classes ha_sizes ha_fields hf_objectCount hf_roots hf_changed sa_linkedFrom sa_linkCounts sa_retainedSets sa_retainedSizes sa_dominators sa_immediateDominators sf_objectCount sf_roots sf_reachable ta_codes ta_numbers tf_count ta_brackets tf_bracketCount tf_place tf_inWhere tf_compared u.2.1 u.2.2.1 u.2.2.2 ++ z) (some (.int u.1)) 0 0) (hCd : hd_E l D A q cI cZ cL z s_condition 41 dC) (hRd : hd_E l D A q cI cZ cL z s_row 41 dR) : hq_Ct l yxw_addSelect bxw_addSelect 6 (some .int) (hd_rs k) D (hq_tys cI cZ cL) A [.ref (q 4), .ref (q 1), .ref pa_s, .int l3] (hx_w q cI cZ cL xq_query ha_parents hf_classCount ha_classes ha_sizes ha_fields hf_objectCount hf_roots hf_changed sa_linkedFrom sa_linkCounts sa_retainedSets sa_retainedSizes sa_dominators sa_immediateDominators sf_objectCount sf_roots sf_reachable ta_codes ta_numbers tf_count ta_brackets tf_bracketCount tf_place tf_inWhere tf_compared wa_rows wf_count wf_looks ++ z) (hx_w q cI cZ cL xq_query ha_parents hf_classCount ha_classes ha_sizes ha_fields hf_objectCount hf_roots hf_changed sa_linkedFrom sa_linkCounts sa_retainedSets sa_retainedSizes sa_dominators sa_immediateDominators sf_objectCount sf_roots sf_reachable ta_codes ta_numbers tf_count ta_brackets tf_bracketCount tf_place tf_inWhere tf_compared ur.2.1 ur.2.2.1 ur.2.2.2 ++ z) (some (.int ur.1)) 0 0 := by
  refine hq_of (by decide) ?_ (Nat.le_of_ble_eq_true rfl)
  intro p e s m below meth c R args Q hRm hQ hx hb hr hml hts hown hlocks hnm hP hK hD ls hl hS
  have hl : lv_has ls 6 [(0, .ref (q 4)), (1, .ref (q 1)), (2, .ref pa_s), (3, .int l3)] := hl
  have hown : s.vm.findClass "HeapQueries$Worker" = some m.cls := hown
  unfold sxw_addSelect at h
  have J30 : ∀ (l4 : Int32) (l5 : Int32) {wa_rows : Nat → Int64} {wf_count : Int32} {wf_looks : Int32} {ls : Array Slot} {H : Heap} {locs : List Loc}, lv_has ls 6 [(0, .ref (q 4)), (1, .ref (q 1)), (2, .ref pa_s), (4, .int l4), (5, .int l5)] → va_P D hq_cl (hx_w q cI cZ cL xq_query ha_parents hf_classCount ha_classes ha_sizes ha_fields hf_objectCount hf_roots hf_changed sa_linkedFrom sa_linkCounts sa_retainedSets sa_retainedSizes sa_dominators sa_immediateDominators sf_objectCount sf_roots sf_reachable ta_codes ta_numbers tf_count ta_brackets tf_bracketCount tf_place tf_inWhere tf_compared wa_rows wf_count wf_looks ++ z) H → va_D A (hx_w q cI cZ cL xq_query ha_parents hf_classCount ha_classes ha_sizes ha_fields hf_objectCount hf_roots hf_changed sa_linkedFrom sa_linkCounts sa_retainedSets sa_retainedSizes sa_dominators sa_immediateDominators sf_objectCount sf_roots sf_reachable ta_codes ta_numbers tf_count ta_brackets tf_bracketCount tf_place tf_inWhere tf_compared wa_rows wf_count wf_looks ++ z) → va_S A s.heap H locs → sxw_addSelect_J30 dN dC dR l4 l5 ha_parents ha_classes ha_sizes ha_fields hf_objectCount sa_linkedFrom sa_linkCounts sa_retainedSizes sa_immediateDominators sf_roots sf_reachable wa_rows wf_count wf_looks s_isDistinct s_isRetained s_row s_nested s_sourceClass s_withDescendants s_condition = some ur → W p l e R s m args below meth c H locs 0 0 Q (F0 m 30 ls []) := by
    intro l4 l5 wa_rows wf_count wf_looks ls H locs hl hP hD hS h
    unfold sxw_addSelect_J30 at h
    refine lv_iload hx hb dxw_addSelect_30 (lv_at hl 4 rfl) ?_
    refine lv_if_eq (tgt := 38) hx hb dxw_addSelect_32 (by decide) (fun hc => ?_) (fun hc => ?_)
    · have h := (if_pos hc).symm.trans h
      refine lv_aload_n hx hb dxw_addSelect_38 rfl (lv_at hl 2 rfl) ?_
      refine gx_s_isRetained hx hb hts hown hK hP ph_s wi_659 dxw_addSelect_39 ?_
      refine lv_if_eq (tgt := 53) hx hb dxw_addSelect_42 (by decide) (fun hc => ?_) (fun hc => ?_)
      · have h := (if_pos hc).symm.trans h
        refine lv_aload_n hx hb dxw_addSelect_53 rfl (lv_at hl 2 rfl) ?_
        refine gx_s_isDistinct hx hb hts hown hK hP ph_s wi_660 dxw_addSelect_54 ?_
        refine lv_if_eq (tgt := 66) hx hb dxw_addSelect_57 (by decide) (fun hc => ?_) (fun hc => ?_)
        · have h := (if_pos hc).symm.trans h
          refine lv_iconst (v := 0) hx hb dxw_addSelect_66 (by decide) ?_
          have h := Option.some.inj h
          exact hq_iret hx hb hr hlocks hQ hK hP hD hS (by rw [← h]) (by rw [← h]) dxw_addSelect_67
        · have h := (if_neg hc).symm.trans h
          refine lv_aload_n hx hb dxw_addSelect_60 rfl (lv_at hl 0 rfl) ?_
          refine lv_iload hx hb dxw_addSelect_61 (lv_at hl 3 rfl) ?_
          obtain ⟨v63, h63, h⟩ := hq_bind h
          refine kxw_leaveOutRepeated l4 v63 h63 hx hb hml hts hown hK hP hD hS wi_661 (by rw [hRm]; exact hd_rooms (by decide) (by decide)) hl.1 (Nat.le_of_ble_eq_true rfl) dxw_addSelect_63 ⟨Nat.zero_le _, Nat.zero_le _⟩ (fun H locs hP hD hS => ?_)
          refine lv_iconst (v := 0) hx hb dxw_addSelect_66 (by decide) ?_
          have h := Option.some.inj h
          exact hq_iret hx hb hr hlocks hQ hK hP hD hS (by rw [← h]) (by rw [← h]) dxw_addSelect_67
      · have h := (if_neg hc).symm.trans h
        refine lv_aload_n hx hb dxw_addSelect_45 rfl (lv_at hl 0 rfl) ?_
        refine lv_aload_n hx hb dxw_addSelect_46 rfl (lv_at hl 1 rfl) ?_
        refine lv_iload hx hb dxw_addSelect_47 (lv_at hl 3 rfl) ?_
        obtain ⟨v49, h49, h⟩ := hq_bind h
        refine kxw_turnIntoRetained l4 v49 h49 hx hb hml hts hown hK hP hD hS wi_662 (by rw [hRm]; exact hd_rooms (by decide) (by decide)) hl.1 (Nat.le_of_ble_eq_true rfl) dxw_addSelect_49 ⟨Nat.zero_le _, Nat.zero_le _⟩ (fun H locs hP hD hS => ?_)
        have h := Option.some.inj h
        exact hq_iret hx hb hr hlocks hQ hK hP hD hS (by rw [← h]) (by rw [← h]) dxw_addSelect_52
    · have h := (if_neg hc).symm.trans h
      refine lv_iload hx hb dxw_addSelect_35 (lv_at hl 4 rfl) ?_
      have h := Option.some.inj h
      exact hq_iret hx hb hr hlocks hQ hK hP hD hS (by rw [← h]) (by rw [← h]) dxw_addSelect_37
  refine lv_aload_n hx hb dxw_addSelect_0 rfl (lv_at hl 0 rfl) ?_
  refine gx_4_count hx hb hts hown hK hP wi_56 dxw_addSelect_1 ?_
  refine lv_istore (lv' := [(4, .int wf_count), (0, .ref (q 4)), (1, .ref (q 1)), (2, .ref pa_s), (3, .int l3)]) hx hb dxw_addSelect_4 hl (by decide) rfl (fun ls hl => ?_)
  refine lv_aload_n hx hb dxw_addSelect_6 rfl (lv_at hl 1 rfl) ?_
  refine lv_aload_n hx hb dxw_addSelect_7 rfl (lv_at hl 2 rfl) ?_
  refine lv_aload_n hx hb dxw_addSelect_8 rfl (lv_at hl 3 rfl) ?_
  refine lv_iload_n hx hb dxw_addSelect_9 rfl (lv_at hl 4 rfl) ?_
  obtain ⟨v10, h10, h⟩ := hq_bind h
  refine kxw_addSource k hk dN l3 v10 h10 ph_s hNd hx hb hml hts hown hK hP hD hS wi_663 (by rw [hRm]; exact ⟨by show 58 + 3 * (9 - k) + 1 ≤ 59 + 3 * (9 - k); omega, by show _ + (2140 + 100 * (9 - k)) ≤ 2170 + 100 * (9 - k); omega⟩) hl.1 (Nat.le_of_ble_eq_true rfl) dxw_addSelect_10 ⟨Nat.zero_le _, Nat.zero_le _⟩ (fun H locs hP hD hS => ?_)
  refine lv_istore (lv' := [(5, .int v10.1), (4, .int wf_count), (0, .ref (q 4)), (1, .ref (q 1)), (2, .ref pa_s), (3, .int l3)]) hx hb dxw_addSelect_13 hl (by decide) rfl (fun ls hl => ?_)
  refine lv_iload hx hb dxw_addSelect_15 (lv_at hl 0 rfl) ?_
  refine lv_if_ne (tgt := 30) hx hb dxw_addSelect_17 (by decide) (fun hc => ?_) (fun hc => ?_)
  · have h := (if_neg hc).symm.trans h
    exact J30 wf_count v10.1 (lv_sub hl [2, 3, 4, 1, 0] rfl) hP hD hS h
  · have h := (if_pos hc).symm.trans h
    refine lv_aload_n hx hb dxw_addSelect_20 rfl (lv_at hl 2 rfl) ?_
    refine lv_aload_n hx hb dxw_addSelect_21 rfl (lv_at hl 3 rfl) ?_
    refine lv_aload_n hx hb dxw_addSelect_22 rfl (lv_at hl 4 rfl) ?_
    refine lv_iload hx hb dxw_addSelect_23 (lv_at hl 1 rfl) ?_
    obtain ⟨v25, h25, h⟩ := hq_bind h
    refine kxw_lookAtAll dC dR wf_count v25 h25 ph_s hCd hRd hx hb hml hts hown hK hP hD hS wi_664 (by rw [hRm]; exact hd_rooms (by decide) (by decide)) hl.1 (Nat.le_of_ble_eq_true rfl) dxw_addSelect_25 ⟨Nat.zero_le _, Nat.zero_le _⟩ (fun H locs hP hD hS => ?_)
    refine lv_istore (lv' := [(5, .int v25.1), (4, .int wf_count), (0, .ref (q 4)), (1, .ref (q 1)), (2, .ref pa_s), (3, .int l3)]) hx hb dxw_addSelect_28 hl (by decide) rfl (fun ls hl => ?_)
    exact J30 wf_count v25.1 (lv_sub hl [2, 3, 4, 1, 0] rfl) hP hD hS h
end
section
variable {p : Program} {l : Launch} {e : Env} {R : Room} {s : State} {m : MethodId} {args : Array Value} {below : List Frame} {meth : Method} {c : Code} {H H0 : Heap} {locs : List Loc} {cells slots : Nat} {Q : State → Prop}
variable {cc : ByteArray} {pc idx nC : Nat} {ls : Array Slot} {rest : List Value} {D : va_G} {A : Nat → Prop} {own : String} {q : Nat → Nat} {cI cZ cL : ClassId} {z w : va_W}
variable {hf_classCount hf_objectCount hf_roots hf_changed sf_objectCount sf_roots sf_reachable tf_count tf_bracketCount tf_place tf_inWhere tf_compared wf_count wf_looks n_code n_number s_isDistinct s_isRetained s_sourceClass s_withDescendants : Int32}
variable {ha_parents ha_classes ha_sizes sa_linkedFrom sa_linkCounts sa_retainedSets sa_retainedSizes sa_dominators sa_immediateDominators ta_codes ta_numbers ta_brackets : Nat → Int32}
variable {ha_fields wa_rows : Nat → Int64}
variable {xq_query n_left n_right s_row s_nested s_condition s_next : Option Nat}
variable {pa_n pk_n pa_s pk_s : Nat}
theorem kxw_addSelect (k : Nat) (hk : k ≤ 8) (dN : hd_Y) (dC dR : hd_X) (l3 : Int32) (ur : Int32 × (Nat → Int64) × Int32 × Int32) (hu : sxw_addSelect dN dC dR l3 ha_parents ha_classes ha_sizes ha_fields hf_objectCount sa_linkedFrom sa_linkCounts sa_retainedSizes sa_immediateDominators sf_roots sf_reachable wa_rows wf_count wf_looks s_isDistinct s_isRetained s_row s_nested s_sourceClass s_withDescendants s_condition = some ur) (ph_s : z[pk_s]? = some (pa_s, .inr (6, [.int s_isDistinct, .int s_isRetained, va_rf s_row, va_rf s_nested, .int s_sourceClass, .int s_withDescendants, va_rf s_condition, va_rf s_next]))) (hNd : ∀ u, dN ha_parents ha_classes ha_sizes ha_fields hf_objectCount sa_linkedFrom sa_linkCounts sa_retainedSizes sa_immediateDominators sf_roots sf_reachable wa_rows wf_count wf_looks = some u → hq_Ct l yxw_addQuery bxw_addQuery 6 (some .int) (hd_rq (k + 1)) D (hq_tys cI cZ cL) A [.ref (q 4), .ref (q 1), va_rf s_nested, .int (l3 + 1)] (hx_w q cI cZ cL xq_query ha_parents hf_classCount ha_classes ha_sizes ha_fields hf_objectCount hf_roots hf_changed sa_linkedFrom sa_linkCounts sa_retainedSets sa_retainedSizes sa_dominators sa_immediateDominators sf_objectCount sf_roots sf_reachable ta_codes ta_numbers tf_count ta_brackets tf_bracketCount tf_place tf_inWhere tf_compared wa_rows wf_count wf_looks ++ z) (hx_w q cI cZ cL xq_query ha_parents hf_classCount ha_classes ha_sizes ha_fields hf_objectCount hf_roots hf_changed sa_linkedFrom sa_linkCounts sa_retainedSets sa_retainedSizes sa_dominators sa_immediateDominators sf_objectCount sf_roots sf_reachable ta_codes ta_numbers tf_count ta_brackets tf_bracketCount tf_place tf_inWhere tf_compared u.2.1 u.2.2.1 u.2.2.2 ++ z) (some (.int u.1)) 0 0) (hCd : hd_E l D A q cI cZ cL z s_condition 41 dC) (hRd : hd_E l D A q cI cZ cL z s_row 41 dR) (hx : p.tables.exec = Jvm.exec) (hb : c.code = cc) (hml : c.maxLocals = nC) (hts : ∀ x ∈ hq_tbl, x.before args s = true) (hown : s.vm.findClass own = some m.cls) (hK : va_K D hq_cl (hq_tys cI cZ cL) s) (hP : va_P D hq_cl (hx_w q cI cZ cL xq_query ha_parents hf_classCount ha_classes ha_sizes ha_fields hf_objectCount hf_roots hf_changed sa_linkedFrom sa_linkCounts sa_retainedSets sa_retainedSizes sa_dominators sa_immediateDominators sf_objectCount sf_roots sf_reachable ta_codes ta_numbers tf_count ta_brackets tf_bracketCount tf_place tf_inWhere tf_compared wa_rows wf_count wf_looks ++ z) H) (hD : va_D A (hx_w q cI cZ cL xq_query ha_parents hf_classCount ha_classes ha_sizes ha_fields hf_objectCount hf_roots hf_changed sa_linkedFrom sa_linkCounts sa_retainedSets sa_retainedSizes sa_dominators sa_immediateDominators sf_objectCount sf_roots sf_reachable ta_codes ta_numbers tf_count ta_brackets tf_bracketCount tf_place tf_inWhere tf_compared wa_rows wf_count wf_looks ++ z)) (hS : va_S A H0 H locs) (h1 : Cond.methodLink own idx yxw_addSelect ∈ hq_tbl) (hR : (hd_rs k).frames + 1 ≤ R.frames ∧ 8 + (6 + 11) + (hd_rs k).locals ≤ R.locals) (hls : ls.size = nC) (hW : (rest.map fun v => v.category).sum ≤ 8) (hdg : decode cc pc = .ok (.invokevirtual idx, 3)) (hf : cells + 0 ≤ R.cells ∧ slots + 0 ≤ R.slots) (kk : ∀ (H1 : Heap) (locs1 : List Loc), va_P D hq_cl (hx_w q cI cZ cL xq_query ha_parents hf_classCount ha_classes ha_sizes ha_fields hf_objectCount hf_roots hf_changed sa_linkedFrom sa_linkCounts sa_retainedSets sa_retainedSizes sa_dominators sa_immediateDominators sf_objectCount sf_roots sf_reachable ta_codes ta_numbers tf_count ta_brackets tf_bracketCount tf_place tf_inWhere tf_compared ur.2.1 ur.2.2.1 ur.2.2.2 ++ z) H1 → va_D A (hx_w q cI cZ cL xq_query ha_parents hf_classCount ha_classes ha_sizes ha_fields hf_objectCount hf_roots hf_changed sa_linkedFrom sa_linkCounts sa_retainedSets sa_retainedSizes sa_dominators sa_immediateDominators sf_objectCount sf_roots sf_reachable ta_codes ta_numbers tf_count ta_brackets tf_bracketCount tf_place tf_inWhere tf_compared ur.2.1 ur.2.2.1 ur.2.2.2 ++ z) → va_S A H0 H1 locs1 → W p l e R s m args below meth c H1 locs1 cells slots Q (F0 m (pc + 3) ls (.int ur.1 :: rest))) : W p l e R s m args below meth c H locs cells slots Q (F0 m pc ls (.int l3 :: .ref pa_s :: .ref (q 1) :: .ref (q 4) :: rest)) :=
  hq_callV (q0 := 4) hx hb hml hown hts hK hP hD hS (cxw_addSelect k hk dN dC dR l3 ur hu ph_s hNd hCd hRd) rfl rfl h1 wi_665 wi_666 wi_311 wi_667 3 rfl (by decide +kernel) ⟨rfl, rfl⟩ hR hls rfl hW hdg hf kk
end
