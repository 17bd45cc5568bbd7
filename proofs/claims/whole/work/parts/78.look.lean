/-! lookAtAll, what condition and row mean being given -/
def sxw_lookAtAll_J70 (dR : hd_X) (rec : Int32 → Int32 → (Nat → Int32) → (Nat → Int32) → (Nat → Int64) → Int32 → (Nat → Int32) → (Nat → Int32) → (Nat → Int32) → (Nat → Int64) → Int32 → Int32 → (Option Nat) → (Option Nat) → Option (Int32 × (Nat → Int64) × Int32 × Int32)) (l4 : Int32) (l5 : Int32) (l6 : Int32) (s0 : Int64) (ha_classes : Nat → Int32) (ha_sizes : Nat → Int32) (ha_fields : Nat → Int64) (hf_objectCount : Int32) (sa_linkCounts : Nat → Int32) (sa_retainedSizes : Nat → Int32) (sa_immediateDominators : Nat → Int32) (wa_rows : Nat → Int64) (wf_count : Int32) (wf_looks : Int32) (s_row : Option Nat) (s_condition : Option Nat) : Option (Int32 × (Nat → Int64) × Int32 × Int32) :=
  if (sxv_isError s0) = 0 then
    if (lg_cmp s0 4294967296) = 0 then
      rec l4 (l5 + 1) ha_classes ha_sizes ha_fields hf_objectCount sa_linkCounts sa_retainedSizes sa_immediateDominators wa_rows wf_count wf_looks s_row s_condition
    else
      (dR l6 ha_classes ha_sizes ha_fields hf_objectCount sa_linkCounts sa_retainedSizes sa_immediateDominators).bind fun v106 =>
        if (sxv_isError v106) = 0 then
          (sxw_add v106 wa_rows wf_count).bind fun v128 =>
            rec l4 (l5 + 1) ha_classes ha_sizes ha_fields hf_objectCount sa_linkCounts sa_retainedSizes sa_immediateDominators v128.1 v128.2 wf_looks s_row s_condition
        else
          some (((sxv_contentOf v106), wa_rows, wf_count, wf_looks))
  else
    some (((sxv_contentOf s0), wa_rows, wf_count, wf_looks))
def sxw_lookAtAll_L14_B (dC dR : hd_X) (rec : Int32 → Int32 → (Nat → Int32) → (Nat → Int32) → (Nat → Int64) → Int32 → (Nat → Int32) → (Nat → Int32) → (Nat → Int32) → (Nat → Int64) → Int32 → Int32 → (Option Nat) → (Option Nat) → Option (Int32 × (Nat → Int64) × Int32 × Int32)) (l4 : Int32) (l5 : Int32) (ha_classes : Nat → Int32) (ha_sizes : Nat → Int32) (ha_fields : Nat → Int64) (hf_objectCount : Int32) (sa_linkCounts : Nat → Int32) (sa_retainedSizes : Nat → Int32) (sa_immediateDominators : Nat → Int32) (wa_rows : Nat → Int64) (wf_count : Int32) (wf_looks : Int32) (s_row : Option Nat) (s_condition : Option Nat) : Option (Int32 × (Nat → Int64) × Int32 × Int32) :=
  if l4 ≤ l5 then
    some (0, wa_rows, wf_count, wf_looks)
  else
    if hq_I l5 192 = true then
      if s_condition = none then
        sxw_lookAtAll_J70 dR rec l4 l5 ((sxv_contentOf (wa_rows l5.toNatClampNeg))) 4294967297 ha_classes ha_sizes ha_fields hf_objectCount sa_linkCounts sa_retainedSizes sa_immediateDominators wa_rows wf_count (wf_looks + 1) s_row s_condition
      else
        (dC ((sxv_contentOf (wa_rows l5.toNatClampNeg))) ha_classes ha_sizes ha_fields hf_objectCount sa_linkCounts sa_retainedSizes sa_immediateDominators).bind fun v64 =>
          sxw_lookAtAll_J70 dR rec l4 l5 ((sxv_contentOf (wa_rows l5.toNatClampNeg))) (sxv_truthOf v64) ha_classes ha_sizes ha_fields hf_objectCount sa_linkCounts sa_retainedSizes sa_immediateDominators wa_rows wf_count (wf_looks + 1) s_row s_condition
    else none
def sxw_lookAtAll_L14 (dC dR : hd_X) : Nat → Int32 → Int32 → (Nat → Int32) → (Nat → Int32) → (Nat → Int64) → Int32 → (Nat → Int32) → (Nat → Int32) → (Nat → Int32) → (Nat → Int64) → Int32 → Int32 → (Option Nat) → (Option Nat) → Option (Int32 × (Nat → Int64) × Int32 × Int32)
  | 0 => fun _ _ _ _ _ _ _ _ _ _ _ _ _ _ => none
  | n + 1 => sxw_lookAtAll_L14_B dC dR (sxw_lookAtAll_L14 dC dR n)
def sxw_lookAtAll (dC dR : hd_X) (l3 : Int32) (ha_classes : Nat → Int32) (ha_sizes : Nat → Int32) (ha_fields : Nat → Int64) (hf_objectCount : Int32) (sa_linkCounts : Nat → Int32) (sa_retainedSizes : Nat → Int32) (sa_immediateDominators : Nat → Int32) (wa_rows : Nat → Int64) (wf_count : Int32) (wf_looks : Int32) (s_row : Option Nat) (s_condition : Option Nat) : Option (Int32 × (Nat → Int64) × Int32 × Int32) :=
  sxw_lookAtAll_L14 dC dR kF wf_count l3 ha_classes ha_sizes ha_fields hf_objectCount sa_linkCounts sa_retainedSizes sa_immediateDominators wa_rows l3 wf_looks s_row s_condition
theorem dxw_lookAtAll_0 : decode bxw_lookAtAll 0 = .ok (.aload_n 0, 1) := by decide +kernel
theorem dxw_lookAtAll_1 : decode bxw_lookAtAll 1 = .ok (.getfield 15, 3) := by decide +kernel
theorem dxw_lookAtAll_4 : decode bxw_lookAtAll 4 = .ok (.istore 4, 2) := by decide +kernel
theorem dxw_lookAtAll_6 : decode bxw_lookAtAll 6 = .ok (.aload_n 0, 1) := by decide +kernel
theorem dxw_lookAtAll_7 : decode bxw_lookAtAll 7 = .ok (.iload_n 3, 1) := by decide +kernel
theorem dxw_lookAtAll_8 : decode bxw_lookAtAll 8 = .ok (.putfield 15, 3) := by decide +kernel
theorem dxw_lookAtAll_11 : decode bxw_lookAtAll 11 = .ok (.iload_n 3, 1) := by decide +kernel
theorem dxw_lookAtAll_12 : decode bxw_lookAtAll 12 = .ok (.istore 5, 2) := by decide +kernel
theorem dxw_lookAtAll_14 : decode bxw_lookAtAll 14 = .ok (.iload 5, 2) := by decide +kernel
theorem dxw_lookAtAll_16 : decode bxw_lookAtAll 16 = .ok (.iload 4, 2) := by decide +kernel
theorem dxw_lookAtAll_18 : decode bxw_lookAtAll 18 = .ok (.if_icmp .ge 119, 3) := by decide +kernel
theorem dxw_lookAtAll_21 : decode bxw_lookAtAll 21 = .ok (.aload_n 0, 1) := by decide +kernel
theorem dxw_lookAtAll_22 : decode bxw_lookAtAll 22 = .ok (.getfield 9, 3) := by decide +kernel
theorem dxw_lookAtAll_25 : decode bxw_lookAtAll 25 = .ok (.iload 5, 2) := by decide +kernel
theorem dxw_lookAtAll_27 : decode bxw_lookAtAll 27 = .ok (.laload, 1) := by decide +kernel
theorem dxw_lookAtAll_28 : decode bxw_lookAtAll 28 = .ok (.invokestatic 100, 3) := by decide +kernel
theorem dxw_lookAtAll_31 : decode bxw_lookAtAll 31 = .ok (.istore 6, 2) := by decide +kernel
theorem dxw_lookAtAll_33 : decode bxw_lookAtAll 33 = .ok (.aload_n 0, 1) := by decide +kernel
theorem dxw_lookAtAll_34 : decode bxw_lookAtAll 34 = .ok (.dup, 1) := by decide +kernel
theorem dxw_lookAtAll_35 : decode bxw_lookAtAll 35 = .ok (.getfield 19, 3) := by decide +kernel
theorem dxw_lookAtAll_38 : decode bxw_lookAtAll 38 = .ok (.iconst 1, 1) := by decide +kernel
theorem dxw_lookAtAll_39 : decode bxw_lookAtAll 39 = .ok (.iadd, 1) := by decide +kernel
theorem dxw_lookAtAll_40 : decode bxw_lookAtAll 40 = .ok (.putfield 19, 3) := by decide +kernel
theorem dxw_lookAtAll_43 : decode bxw_lookAtAll 43 = .ok (.aload_n 2, 1) := by decide +kernel
theorem dxw_lookAtAll_44 : decode bxw_lookAtAll 44 = .ok (.getfield 104, 3) := by decide +kernel
theorem dxw_lookAtAll_47 : decode bxw_lookAtAll 47 = .ok (.ifnonnull 9, 3) := by decide +kernel
theorem dxw_lookAtAll_50 : decode bxw_lookAtAll 50 = .ok (.ldc2_w 108, 3) := by decide +kernel
theorem dxw_lookAtAll_53 : decode bxw_lookAtAll 53 = .ok (.goto 17, 3) := by decide +kernel
theorem dxw_lookAtAll_56 : decode bxw_lookAtAll 56 = .ok (.aload_n 1, 1) := by decide +kernel
theorem dxw_lookAtAll_57 : decode bxw_lookAtAll 57 = .ok (.aload_n 2, 1) := by decide +kernel
theorem dxw_lookAtAll_58 : decode bxw_lookAtAll 58 = .ok (.getfield 104, 3) := by decide +kernel
theorem dxw_lookAtAll_61 : decode bxw_lookAtAll 61 = .ok (.iload 6, 2) := by decide +kernel
theorem dxw_lookAtAll_63 : decode bxw_lookAtAll 63 = .ok (.iconst 0, 1) := by decide +kernel
theorem dxw_lookAtAll_64 : decode bxw_lookAtAll 64 = .ok (.invokestatic 110, 3) := by decide +kernel
theorem dxw_lookAtAll_67 : decode bxw_lookAtAll 67 = .ok (.invokestatic 116, 3) := by decide +kernel
theorem dxw_lookAtAll_70 : decode bxw_lookAtAll 70 = .ok (.lstore 7, 2) := by decide +kernel
theorem dxw_lookAtAll_72 : decode bxw_lookAtAll 72 = .ok (.lload 7, 2) := by decide +kernel
theorem dxw_lookAtAll_74 : decode bxw_lookAtAll 74 = .ok (.invokestatic 120, 3) := by decide +kernel
theorem dxw_lookAtAll_77 : decode bxw_lookAtAll 77 = .ok (.ifCond .eq 9, 3) := by decide +kernel
theorem dxw_lookAtAll_80 : decode bxw_lookAtAll 80 = .ok (.lload 7, 2) := by decide +kernel
theorem dxw_lookAtAll_82 : decode bxw_lookAtAll 82 = .ok (.invokestatic 100, 3) := by decide +kernel
theorem dxw_lookAtAll_85 : decode bxw_lookAtAll 85 = .ok (.ireturn, 1) := by decide +kernel
theorem dxw_lookAtAll_86 : decode bxw_lookAtAll 86 = .ok (.lload 7, 2) := by decide +kernel
theorem dxw_lookAtAll_88 : decode bxw_lookAtAll 88 = .ok (.ldc2_w 124, 3) := by decide +kernel
theorem dxw_lookAtAll_91 : decode bxw_lookAtAll 91 = .ok (.lcmp, 1) := by decide +kernel
theorem dxw_lookAtAll_92 : decode bxw_lookAtAll 92 = .ok (.ifCond .ne 6, 3) := by decide +kernel
theorem dxw_lookAtAll_95 : decode bxw_lookAtAll 95 = .ok (.goto 36, 3) := by decide +kernel
theorem dxw_lookAtAll_98 : decode bxw_lookAtAll 98 = .ok (.aload_n 1, 1) := by decide +kernel
theorem dxw_lookAtAll_99 : decode bxw_lookAtAll 99 = .ok (.aload_n 2, 1) := by decide +kernel
theorem dxw_lookAtAll_100 : decode bxw_lookAtAll 100 = .ok (.getfield 126, 3) := by decide +kernel
theorem dxw_lookAtAll_103 : decode bxw_lookAtAll 103 = .ok (.iload 6, 2) := by decide +kernel
theorem dxw_lookAtAll_105 : decode bxw_lookAtAll 105 = .ok (.iconst 0, 1) := by decide +kernel
theorem dxw_lookAtAll_106 : decode bxw_lookAtAll 106 = .ok (.invokestatic 110, 3) := by decide +kernel
theorem dxw_lookAtAll_109 : decode bxw_lookAtAll 109 = .ok (.lstore 9, 2) := by decide +kernel
theorem dxw_lookAtAll_111 : decode bxw_lookAtAll 111 = .ok (.lload 9, 2) := by decide +kernel
theorem dxw_lookAtAll_113 : decode bxw_lookAtAll 113 = .ok (.invokestatic 120, 3) := by decide +kernel
theorem dxw_lookAtAll_116 : decode bxw_lookAtAll 116 = .ok (.ifCond .eq 9, 3) := by decide +kernel
theorem dxw_lookAtAll_119 : decode bxw_lookAtAll 119 = .ok (.lload 9, 2) := by decide +kernel
theorem dxw_lookAtAll_121 : decode bxw_lookAtAll 121 = .ok (.invokestatic 100, 3) := by decide +kernel
theorem dxw_lookAtAll_124 : decode bxw_lookAtAll 124 = .ok (.ireturn, 1) := by decide +kernel
theorem dxw_lookAtAll_125 : decode bxw_lookAtAll 125 = .ok (.aload_n 0, 1) := by decide +kernel
theorem dxw_lookAtAll_126 : decode bxw_lookAtAll 126 = .ok (.lload 9, 2) := by decide +kernel
theorem dxw_lookAtAll_128 : decode bxw_lookAtAll 128 = .ok (.invokevirtual 96, 3) := by decide +kernel
theorem dxw_lookAtAll_131 : decode bxw_lookAtAll 131 = .ok (.iinc 5 1, 3) := by decide +kernel
theorem dxw_lookAtAll_134 : decode bxw_lookAtAll 134 = .ok (.goto (-120), 3) := by decide +kernel
theorem dxw_lookAtAll_137 : decode bxw_lookAtAll 137 = .ok (.iconst 0, 1) := by decide +kernel
theorem dxw_lookAtAll_138 : decode bxw_lookAtAll 138 = .ok (.ireturn, 1) := by decide +kernel
section
variable {l : Launch} {D : va_G} {A : Nat → Prop} {z w : va_W} {q : Nat → Nat} {cI cZ cL : ClassId}
variable {hf_classCount hf_objectCount hf_roots hf_changed sf_objectCount sf_roots sf_reachable tf_count tf_bracketCount tf_place tf_inWhere tf_compared wf_count wf_looks n_code n_number s_isDistinct s_isRetained s_sourceClass s_withDescendants : Int32}
variable {ha_parents ha_classes ha_sizes sa_linkedFrom sa_linkCounts sa_retainedSets sa_retainedSizes sa_dominators sa_immediateDominators ta_codes ta_numbers ta_brackets : Nat → Int32}
variable {ha_fields wa_rows : Nat → Int64}
variable {xq_query n_left n_right s_row s_nested s_condition s_next : Option Nat}
variable {pa_n pk_n pa_s pk_s : Nat}
set_option maxHeartbeats 4000000 in
set_option maxRecDepth 100000 in
theorem cxw_lookAtAll (dC dR : hd_X) (l3 : Int32) (ur : Int32 × (Nat → Int64) × Int32 × Int32) (h : sxw_lookAtAll dC dR l3 ha_classes ha_sizes ha_fields hf_objectCount sa_linkCounts sa_retainedSizes sa_immediateDominators wa_rows wf_count wf_looks s_row s_condition = some ur) (ph_s : z[pk_s]? = some (pa_s, .inr (6, [.int s_isDistinct, .int s_isRetained, va_rf s_row, va_rf s_nested, .int s_sourceClass, .int s_withDescendants, va_rf s_condition, va_rf s_next]))) (hCd : hd_E l D A q cI cZ cL z s_condition 41 dC) (hRd : hd_E l D A q cI cZ cL z s_row 41 dR) : hq_Ct l yxw_lookAtAll bxw_lookAtAll 11 (some .int) { frames := 50, cells := 0, slots := 0, locals := 2000 } D (hq_tys cI cZ cL) A [.ref (q 4), .ref (q 1), .ref pa_s, .int l3] (hx_w q cI cZ cL xq_query ha_parents hf_classCount ha_classes ha_sizes ha_fields hf_objectCount hf_roots hf_changed sa_linkedFrom sa_linkCounts sa_retainedSets sa_retainedSizes sa_dominators sa_immediateDominators sf_objectCount sf_roots sf_reachable ta_codes ta_numbers tf_count ta_brackets tf_bracketCount tf_place tf_inWhere tf_compared wa_rows wf_count wf_looks ++ z) (hx_w q cI cZ cL xq_query ha_parents hf_classCount ha_classes ha_sizes ha_fields hf_objectCount hf_roots hf_changed sa_linkedFrom sa_linkCounts sa_retainedSets sa_retainedSizes sa_dominators sa_immediateDominators sf_objectCount sf_roots sf_reachable ta_codes ta_numbers tf_count ta_brackets tf_bracketCount tf_place tf_inWhere tf_compared ur.2.1 ur.2.2.1 ur.2.2.2 ++ z) (some (.int ur.1)) 0 0 := by
  refine hq_of (by decide) ?_ (Nat.le_of_ble_eq_true rfl)
  intro p e s m below meth c R args Q hRm hQ hx hb hr hml hts hown hlocks hnm hP hK hD ls hl hS
  have hl : lv_has ls 11 [(0, .ref (q 4)), (1, .ref (q 1)), (2, .ref pa_s), (3, .int l3)] := hl
  have hown : s.vm.findClass "HeapQueries$Worker" = some m.cls := hown
  unfold sxw_lookAtAll at h
  have L14 : ∀ (n : Nat) (l4 : Int32) (l5 : Int32) {wa_rows : Nat → Int64} {wf_count : Int32} {wf_looks : Int32} {ls : Array Slot} {H : Heap} {locs : List Loc}, lv_has ls 11 [(0, .ref (q 4)), (1, .ref (q 1)), (2, .ref pa_s), (4, .int l4), (5, .int l5)] → va_P D hq_cl (hx_w q cI cZ cL xq_query ha_parents hf_classCount ha_classes ha_sizes ha_fields hf_objectCount hf_roots hf_changed sa_linkedFrom sa_linkCounts sa_retainedSets sa_retainedSizes sa_dominators sa_immediateDominators sf_objectCount sf_roots sf_reachable ta_codes ta_numbers tf_count ta_brackets tf_bracketCount tf_place tf_inWhere tf_compared wa_rows wf_count wf_looks ++ z) H → va_D A (hx_w q cI cZ cL xq_query ha_parents hf_classCount ha_classes ha_sizes ha_fields hf_objectCount hf_roots hf_changed sa_linkedFrom sa_linkCounts sa_retainedSets sa_retainedSizes sa_dominators sa_immediateDominators sf_objectCount sf_roots sf_reachable ta_codes ta_numbers tf_count ta_brackets tf_bracketCount tf_place tf_inWhere tf_compared wa_rows wf_count wf_looks ++ z) → va_S A s.heap H locs → sxw_lookAtAll_L14 dC dR n l4 l5 ha_classes ha_sizes ha_fields hf_objectCount sa_linkCounts sa_retainedSizes sa_immediateDominators wa_rows wf_count wf_looks s_row s_condition = some ur → W p l e R s m args below meth c H locs 0 0 Q (F0 m 14 ls []) := by
    intro n
    induction n with
    | zero =>
      intro l4 l5 wa_rows wf_count wf_looks ls H locs hl hP hD hS h
      have h : (none : Option (Int32 × (Nat → Int64) × Int32 × Int32)) = some ur := h
      cases h
    | succ n ih =>
      intro l4 l5 wa_rows wf_count wf_looks ls H locs hl hP hD hS h
      have h : sxw_lookAtAll_L14_B dC dR (sxw_lookAtAll_L14 dC dR n) l4 l5 ha_classes ha_sizes ha_fields hf_objectCount sa_linkCounts sa_retainedSizes sa_immediateDominators wa_rows wf_count wf_looks s_row s_condition = some ur := h
      unfold sxw_lookAtAll_L14_B at h
      have J70 : ∀ (l4 : Int32) (l5 : Int32) (l6 : Int32) (s0 : Int64) {wa_rows : Nat → Int64} {wf_count : Int32} {wf_looks : Int32} {ls : Array Slot} {H : Heap} {locs : List Loc}, lv_has ls 11 [(0, .ref (q 4)), (1, .ref (q 1)), (2, .ref pa_s), (4, .int l4), (5, .int l5), (6, .int l6)] → va_P D hq_cl (hx_w q cI cZ cL xq_query ha_parents hf_classCount ha_classes ha_sizes ha_fields hf_objectCount hf_roots hf_changed sa_linkedFrom sa_linkCounts sa_retainedSets sa_retainedSizes sa_dominators sa_immediateDominators sf_objectCount sf_roots sf_reachable ta_codes ta_numbers tf_count ta_brackets tf_bracketCount tf_place tf_inWhere tf_compared wa_rows wf_count wf_looks ++ z) H → va_D A (hx_w q cI cZ cL xq_query ha_parents hf_classCount ha_classes ha_sizes ha_fields hf_objectCount hf_roots hf_changed sa_linkedFrom sa_linkCounts sa_retainedSets sa_retainedSizes sa_dominators sa_immediateDominators sf_objectCount sf_roots sf_reachable ta_codes ta_numbers tf_count ta_brackets tf_bracketCount tf_place tf_inWhere tf_compared wa_rows wf_count wf_looks ++ z) → va_S A s.heap H locs → sxw_lookAtAll_J70 dR (sxw_lookAtAll_L14 dC dR n) l4 l5 l6 s0 ha_classes ha_sizes ha_fields hf_objectCount sa_linkCounts sa_retainedSizes sa_immediateDominators wa_rows wf_count wf_looks s_row s_condition = some ur → W p l e R s m args below meth c H locs 0 0 Q (F0 m 70 ls [.long s0]) := by
        intro l4 l5 l6 s0 wa_rows wf_count wf_looks ls H locs hl hP hD hS h
        unfold sxw_lookAtAll_J70 at h
        refine lv_lstore (lv' := [(7, .long s0), (0, .ref (q 4)), (1, .ref (q 1)), (2, .ref pa_s), (4, .int l4), (5, .int l5), (6, .int l6)]) hx hb dxw_lookAtAll_70 hl (by decide) rfl (fun ls hl => ?_)
        refine lv_lload hx hb dxw_lookAtAll_72 (lv_at hl 0 rfl) ?_
        refine kxv_isError s0 (sxv_isError s0) rfl hx hb hml hts hown hK hP hD hS wi_639 (by rw [hRm]; exact ⟨Nat.le_of_ble_eq_true rfl, Nat.le_of_ble_eq_true rfl⟩) hl.1 (Nat.le_of_ble_eq_true rfl) dxw_lookAtAll_74 ⟨Nat.zero_le _, Nat.zero_le _⟩ (fun H locs hP hD hS => ?_)
        refine lv_if_eq (tgt := 86) hx hb dxw_lookAtAll_77 (by decide) (fun hc => ?_) (fun hc => ?_)
        · have h := (if_pos hc).symm.trans h
          refine lv_lload hx hb dxw_lookAtAll_86 (lv_at hl 0 rfl) ?_
          refine lv_ldc2 (v := 4294967296) hx hb hown (hts _ wi_640) dxw_lookAtAll_88 ?_
          refine W.lcmp hx hb dxw_lookAtAll_91 ?_
          refine lv_if_ne (tgt := 98) hx hb dxw_lookAtAll_92 (by decide) (fun hc => ?_) (fun hc => ?_)
          · have h := (if_neg hc).symm.trans h
            refine lv_aload_n hx hb dxw_lookAtAll_98 rfl (lv_at hl 2 rfl) ?_
            refine lv_aload_n hx hb dxw_lookAtAll_99 rfl (lv_at hl 3 rfl) ?_
            refine gx_s_row hx hb hts hown hK hP ph_s wi_641 dxw_lookAtAll_100 ?_
            refine lv_iload hx hb dxw_lookAtAll_103 (lv_at hl 6 rfl) ?_
            refine lv_iconst (v := 0) hx hb dxw_lookAtAll_105 (by decide) ?_
            obtain ⟨v106, h106, h⟩ := hq_bind h
            refine kxc_rec (k := 0) (l3 := 0) (hRd z hz_le.rf 0 l6 (by decide) _ _ _ _ _ _ _ _ _ _ _ _ _ _ _ _ _ _ _ _ _ _ _ _ _ _ _ _ _ v106 h106) hx hb hml hts hown hK hP hD hS wi_642 (by rw [hRm]; exact ⟨Nat.le_of_ble_eq_true rfl, Nat.le_of_ble_eq_true rfl⟩) hl.1 (Nat.le_of_ble_eq_true rfl) dxw_lookAtAll_106 ⟨Nat.zero_le _, Nat.zero_le _⟩ (fun H locs hP hD hS => ?_)
            refine lv_lstore (lv' := [(9, .long v106), (7, .long s0), (0, .ref (q 4)), (1, .ref (q 1)), (2, .ref pa_s), (4, .int l4), (5, .int l5), (6, .int l6)]) hx hb dxw_lookAtAll_109 hl (by decide) rfl (fun ls hl => ?_)
            refine lv_lload hx hb dxw_lookAtAll_111 (lv_at hl 0 rfl) ?_
            refine kxv_isError v106 (sxv_isError v106) rfl hx hb hml hts hown hK hP hD hS wi_639 (by rw [hRm]; exact ⟨Nat.le_of_ble_eq_true rfl, Nat.le_of_ble_eq_true rfl⟩) hl.1 (Nat.le_of_ble_eq_true rfl) dxw_lookAtAll_113 ⟨Nat.zero_le _, Nat.zero_le _⟩ (fun H locs hP hD hS => ?_)
            refine lv_if_eq (tgt := 125) hx hb dxw_lookAtAll_116 (by decide) (fun hc => ?_) (fun hc => ?_)
            · have h := (if_pos hc).symm.trans h
              refine lv_aload_n hx hb dxw_lookAtAll_125 rfl (lv_at hl 2 rfl) ?_
              refine lv_lload hx hb dxw_lookAtAll_126 (lv_at hl 0 rfl) ?_
              obtain ⟨v128, h128, h⟩ := hq_bind h
              refine kxw_add v106 v128 h128 hx hb hml hts hown hK hP hD hS wi_186 (by rw [hRm]; exact ⟨Nat.le_of_ble_eq_true rfl, Nat.le_of_ble_eq_true rfl⟩) hl.1 (Nat.le_of_ble_eq_true rfl) dxw_lookAtAll_128 ⟨Nat.zero_le _, Nat.zero_le _⟩ (fun H locs hP hD hS => ?_)
              refine lv_iinc (k := 6) (v := l5 + 1) (lv' := [(5, .int (l5 + 1)), (9, .long v106), (7, .long s0), (0, .ref (q 4)), (1, .ref (q 1)), (2, .ref pa_s), (4, .int l4), (6, .int l6)]) hx hb dxw_lookAtAll_131 hl rfl (congrArg (fun j => l5 + j) (by decide)) (by decide) rfl (fun ls hl => ?_)
              refine lv_goto (tgt := 14) hx hb dxw_lookAtAll_134 (by decide) ?_
              exact ih l4 (l5 + 1) (lv_sub hl [3, 4, 5, 6, 0] rfl) hP hD hS h
            · have h := (if_neg hc).symm.trans h
              refine lv_lload hx hb dxw_lookAtAll_119 (lv_at hl 0 rfl) ?_
              refine kxv_contentOf v106 (sxv_contentOf v106) rfl hx hb hml hts hown hK hP hD hS wi_194 (by rw [hRm]; exact ⟨Nat.le_of_ble_eq_true rfl, Nat.le_of_ble_eq_true rfl⟩) hl.1 (Nat.le_of_ble_eq_true rfl) dxw_lookAtAll_121 ⟨Nat.zero_le _, Nat.zero_le _⟩ (fun H locs hP hD hS => ?_)
              have h := Option.some.inj h
              exact hq_iret hx hb hr hlocks hQ hK hP hD hS (by rw [← h]) (by rw [← h]) dxw_lookAtAll_124
          · have h := (if_pos hc).symm.trans h
            refine lv_goto (tgt := 131) hx hb dxw_lookAtAll_95 (by decide) ?_
            refine lv_iinc (k := 5) (v := l5 + 1) (lv' := [(5, .int (l5 + 1)), (7, .long s0), (0, .ref (q 4)), (1, .ref (q 1)), (2, .ref pa_s), (4, .int l4), (6, .int l6)]) hx hb dxw_lookAtAll_131 hl rfl (congrArg (fun j => l5 + j) (by decide)) (by decide) rfl (fun ls hl => ?_)
            refine lv_goto (tgt := 14) hx hb dxw_lookAtAll_134 (by decide) ?_
            exact ih l4 (l5 + 1) (lv_sub hl [2, 3, 4, 5, 0] rfl) hP hD hS h
        · have h := (if_neg hc).symm.trans h
          refine lv_lload hx hb dxw_lookAtAll_80 (lv_at hl 0 rfl) ?_
          refine kxv_contentOf s0 (sxv_contentOf s0) rfl hx hb hml hts hown hK hP hD hS wi_194 (by rw [hRm]; exact ⟨Nat.le_of_ble_eq_true rfl, Nat.le_of_ble_eq_true rfl⟩) hl.1 (Nat.le_of_ble_eq_true rfl) dxw_lookAtAll_82 ⟨Nat.zero_le _, Nat.zero_le _⟩ (fun H locs hP hD hS => ?_)
          have h := Option.some.inj h
          exact hq_iret hx hb hr hlocks hQ hK hP hD hS (by rw [← h]) (by rw [← h]) dxw_lookAtAll_85
      refine lv_iload hx hb dxw_lookAtAll_14 (lv_at hl 4 rfl) ?_
      refine lv_iload hx hb dxw_lookAtAll_16 (lv_at hl 3 rfl) ?_
      refine lv_icmp_ge (tgt := 137) hx hb dxw_lookAtAll_18 (by decide) (fun hc => ?_) (fun hc => ?_)
      · have h := (if_pos hc).symm.trans h
        refine lv_iconst (v := 0) hx hb dxw_lookAtAll_137 (by decide) ?_
        have h := Option.some.inj h
        exact hq_iret hx hb hr hlocks hQ hK hP hD hS (by rw [← h]) (by rw [← h]) dxw_lookAtAll_138
      · have h := (if_neg hc).symm.trans h
        refine lv_aload_n hx hb dxw_lookAtAll_21 rfl (lv_at hl 0 rfl) ?_
        refine gx_4_rows hx hb hts hown hK hP wi_59 dxw_lookAtAll_22 ?_
        refine lv_iload hx hb dxw_lookAtAll_25 (lv_at hl 4 rfl) ?_
        obtain ⟨hin, h⟩ := hq_idx h
        refine ax_18 hx hb hK hP hin dxw_lookAtAll_27 ?_
        refine kxv_contentOf (wa_rows l5.toNatClampNeg) (sxv_contentOf (wa_rows l5.toNatClampNeg)) rfl hx hb hml hts hown hK hP hD hS wi_194 (by rw [hRm]; exact ⟨Nat.le_of_ble_eq_true rfl, Nat.le_of_ble_eq_true rfl⟩) hl.1 (Nat.le_of_ble_eq_true rfl) dxw_lookAtAll_28 ⟨Nat.zero_le _, Nat.zero_le _⟩ (fun H locs hP hD hS => ?_)
        refine lv_istore (lv' := [(6, .int ((sxv_contentOf (wa_rows l5.toNatClampNeg)))), (0, .ref (q 4)), (1, .ref (q 1)), (2, .ref pa_s), (4, .int l4), (5, .int l5)]) hx hb dxw_lookAtAll_31 hl (by decide) rfl (fun ls hl => ?_)
        refine lv_aload_n hx hb dxw_lookAtAll_33 rfl (lv_at hl 1 rfl) ?_
        refine lv_dup hx hb dxw_lookAtAll_34 rfl ?_
        refine gx_4_looks hx hb hts hown hK hP wi_64 dxw_lookAtAll_35 ?_
        refine lv_iconst (v := 1) hx hb dxw_lookAtAll_38 (by decide) ?_
        refine lv_iadd hx hb dxw_lookAtAll_39 ?_
        refine px_4_looks hx hb hts hown hK hP hD hS wi_64 dxw_lookAtAll_40 (fun H locs hP hD hS => ?_)
        refine lv_aload_n hx hb dxw_lookAtAll_43 rfl (lv_at hl 3 rfl) ?_
        refine gx_s_condition hx hb hts hown hK hP ph_s wi_643 dxw_lookAtAll_44 ?_
        refine hq_ifnonnull (tgt := 56) hx hb dxw_lookAtAll_47 (by decide) (fun hc => ?_) (fun hc => ?_)
        · have h := (if_pos hc).symm.trans h
          refine lv_ldc2 (v := 4294967297) hx hb hown (hts _ wi_644) dxw_lookAtAll_50 ?_
          refine lv_goto (tgt := 70) hx hb dxw_lookAtAll_53 (by decide) ?_
          exact J70 l4 l5 ((sxv_contentOf (wa_rows l5.toNatClampNeg))) 4294967297 (lv_sub hl [1, 2, 3, 4, 5, 0] rfl) hP hD hS h
        · have h := (if_neg hc).symm.trans h
          refine lv_aload_n hx hb dxw_lookAtAll_56 rfl (lv_at hl 2 rfl) ?_
          refine lv_aload_n hx hb dxw_lookAtAll_57 rfl (lv_at hl 3 rfl) ?_
          refine gx_s_condition hx hb hts hown hK hP ph_s wi_643 dxw_lookAtAll_58 ?_
          refine lv_iload hx hb dxw_lookAtAll_61 (lv_at hl 0 rfl) ?_
          refine lv_iconst (v := 0) hx hb dxw_lookAtAll_63 (by decide) ?_
          obtain ⟨v64, h64, h⟩ := hq_bind h
          refine kxc_rec (k := 0) (l3 := 0) (hCd z hz_le.rf 0 ((sxv_contentOf (wa_rows l5.toNatClampNeg))) (by decide) _ _ _ _ _ _ _ _ _ _ _ _ _ _ _ _ _ _ _ _ _ _ _ _ _ _ _ _ _ v64 h64) hx hb hml hts hown hK hP hD hS wi_642 (by rw [hRm]; exact ⟨Nat.le_of_ble_eq_true rfl, Nat.le_of_ble_eq_true rfl⟩) hl.1 (Nat.le_of_ble_eq_true rfl) dxw_lookAtAll_64 ⟨Nat.zero_le _, Nat.zero_le _⟩ (fun H locs hP hD hS => ?_)
          refine kxv_truthOf v64 (sxv_truthOf v64) rfl hx hb hml hts hown hK hP hD hS wi_645 (by rw [hRm]; exact ⟨Nat.le_of_ble_eq_true rfl, Nat.le_of_ble_eq_true rfl⟩) hl.1 (Nat.le_of_ble_eq_true rfl) dxw_lookAtAll_67 ⟨Nat.zero_le _, Nat.zero_le _⟩ (fun H locs hP hD hS => ?_)
          exact J70 l4 l5 ((sxv_contentOf (wa_rows l5.toNatClampNeg))) (sxv_truthOf v64) (lv_sub hl [1, 2, 3, 4, 5, 0] rfl) hP hD hS h
  refine lv_aload_n hx hb dxw_lookAtAll_0 rfl (lv_at hl 0 rfl) ?_
  refine gx_4_count hx hb hts hown hK hP wi_56 dxw_lookAtAll_1 ?_
  refine lv_istore (lv' := [(4, .int wf_count), (0, .ref (q 4)), (1, .ref (q 1)), (2, .ref pa_s), (3, .int l3)]) hx hb dxw_lookAtAll_4 hl (by decide) rfl (fun ls hl => ?_)
  refine lv_aload_n hx hb dxw_lookAtAll_6 rfl (lv_at hl 1 rfl) ?_
  refine lv_iload_n hx hb dxw_lookAtAll_7 rfl (lv_at hl 4 rfl) ?_
  refine px_4_count hx hb hts hown hK hP hD hS wi_56 dxw_lookAtAll_8 (fun H locs hP hD hS => ?_)
  refine lv_iload_n hx hb dxw_lookAtAll_11 rfl (lv_at hl 4 rfl) ?_
  refine lv_istore (lv' := [(5, .int l3), (4, .int wf_count), (0, .ref (q 4)), (1, .ref (q 1)), (2, .ref pa_s), (3, .int l3)]) hx hb dxw_lookAtAll_12 hl (by decide) rfl (fun ls hl => ?_)
  exact L14 kF wf_count l3 (lv_sub hl [2, 3, 4, 1, 0] rfl) hP hD hS h
end
section
variable {p : Program} {l : Launch} {e : Env} {R : Room} {s : State} {m : MethodId} {args : Array Value} {below : List Frame} {meth : Method} {c : Code} {H H0 : Heap} {locs : List Loc} {cells slots : Nat} {Q : State → Prop}
variable {cc : ByteArray} {pc idx nC : Nat} {ls : Array Slot} {rest : List Value} {D : va_G} {A : Nat → Prop} {own : String} {q : Nat → Nat} {cI cZ cL : ClassId} {z w : va_W}
variable {hf_classCount hf_objectCount hf_roots hf_changed sf_objectCount sf_roots sf_reachable tf_count tf_bracketCount tf_place tf_inWhere tf_compared wf_count wf_looks n_code n_number s_isDistinct s_isRetained s_sourceClass s_withDescendants : Int32}
variable {ha_parents ha_classes ha_sizes sa_linkedFrom sa_linkCounts sa_retainedSets sa_retainedSizes sa_dominators sa_immediateDominators ta_codes ta_numbers ta_brackets : Nat → Int32}
variable {ha_fields wa_rows : Nat → Int64}
variable {xq_query n_left n_right s_row s_nested s_condition s_next : Option Nat}
variable {pa_n pk_n pa_s pk_s : Nat}
theorem kxw_lookAtAll (dC dR : hd_X) (l3 : Int32) (ur : Int32 × (Nat → Int64) × Int32 × Int32) (hu : sxw_lookAtAll dC dR l3 ha_classes ha_sizes ha_fields hf_objectCount sa_linkCounts sa_retainedSizes sa_immediateDominators wa_rows wf_count wf_looks s_row s_condition = some ur) (ph_s : z[pk_s]? = some (pa_s, .inr (6, [.int s_isDistinct, .int s_isRetained, va_rf s_row, va_rf s_nested, .int s_sourceClass, .int s_withDescendants, va_rf s_condition, va_rf s_next]))) (hCd : hd_E l D A q cI cZ cL z s_condition 41 dC) (hRd : hd_E l D A q cI cZ cL z s_row 41 dR) (hx : p.tables.exec = Jvm.exec) (hb : c.code = cc) (hml : c.maxLocals = nC) (hts : ∀ x ∈ hq_tbl, x.before args s = true) (hown : s.vm.findClass own = some m.cls) (hK : va_K D hq_cl (hq_tys cI cZ cL) s) (hP : va_P D hq_cl (hx_w q cI cZ cL xq_query ha_parents hf_classCount ha_classes ha_sizes ha_fields hf_objectCount hf_roots hf_changed sa_linkedFrom sa_linkCounts sa_retainedSets sa_retainedSizes sa_dominators sa_immediateDominators sf_objectCount sf_roots sf_reachable ta_codes ta_numbers tf_count ta_brackets tf_bracketCount tf_place tf_inWhere tf_compared wa_rows wf_count wf_looks ++ z) H) (hD : va_D A (hx_w q cI cZ cL xq_query ha_parents hf_classCount ha_classes ha_sizes ha_fields hf_objectCount hf_roots hf_changed sa_linkedFrom sa_linkCounts sa_retainedSets sa_retainedSizes sa_dominators sa_immediateDominators sf_objectCount sf_roots sf_reachable ta_codes ta_numbers tf_count ta_brackets tf_bracketCount tf_place tf_inWhere tf_compared wa_rows wf_count wf_looks ++ z)) (hS : va_S A H0 H locs) (h1 : Cond.methodLink own idx yxw_lookAtAll ∈ hq_tbl) (hR : 50 + 1 ≤ R.frames ∧ 8 + (11 + 11) + 2000 ≤ R.locals) (hls : ls.size = nC) (hW : (rest.map fun v => v.category).sum ≤ 8) (hdg : decode cc pc = .ok (.invokevirtual idx, 3)) (hf : cells + 0 ≤ R.cells ∧ slots + 0 ≤ R.slots) (kk : ∀ (H1 : Heap) (locs1 : List Loc), va_P D hq_cl (hx_w q cI cZ cL xq_query ha_parents hf_classCount ha_classes ha_sizes ha_fields hf_objectCount hf_roots hf_changed sa_linkedFrom sa_linkCounts sa_retainedSets sa_retainedSizes sa_dominators sa_immediateDominators sf_objectCount sf_roots sf_reachable ta_codes ta_numbers tf_count ta_brackets tf_bracketCount tf_place tf_inWhere tf_compared ur.2.1 ur.2.2.1 ur.2.2.2 ++ z) H1 → va_D A (hx_w q cI cZ cL xq_query ha_parents hf_classCount ha_classes ha_sizes ha_fields hf_objectCount hf_roots hf_changed sa_linkedFrom sa_linkCounts sa_retainedSets sa_retainedSizes sa_dominators sa_immediateDominators sf_objectCount sf_roots sf_reachable ta_codes ta_numbers tf_count ta_brackets tf_bracketCount tf_place tf_inWhere tf_compared ur.2.1 ur.2.2.1 ur.2.2.2 ++ z) → va_S A H0 H1 locs1 → W p l e R s m args below meth c H1 locs1 cells slots Q (F0 m (pc + 3) ls (.int ur.1 :: rest))) : W p l e R s m args below meth c H locs cells slots Q (F0 m pc ls (.int l3 :: .ref pa_s :: .ref (q 1) :: .ref (q 4) :: rest)) :=
  hq_callV (q0 := 4) hx hb hml hown hts hK hP hD hS (cxw_lookAtAll dC dR l3 ur hu ph_s hCd hRd) rfl rfl h1 wi_646 wi_647 wi_311 wi_648 3 rfl (by decide +kernel) ⟨rfl, rfl⟩ hR hls rfl hW hdg hf kk
end
