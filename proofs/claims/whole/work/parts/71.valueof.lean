/-! valueOf: one node, what its operands mean being given -/
abbrev hd_X : Type := Int32 → (Nat → Int32) → (Nat → Int32) → (Nat → Int64) → Int32 → (Nat → Int32) → (Nat → Int32) → (Nat → Int32) → Option Int64
def hd_rm (k : Nat) : Room := { frames := 45 - k, cells := 0, slots := 0, locals := 40 * (45 - k) }
theorem hd_room {k a b : Nat} (hk : k ≤ 40) (ha : a ≤ 5) (hb : b ≤ 200) : a ≤ (hd_rm k).frames ∧ b ≤ (hd_rm k).locals := by
  unfold hd_rm
  exact ⟨by show a ≤ 45 - k; omega, by show b ≤ 40 * (45 - k); omega⟩
theorem hd_deep {k : Nat} (hk : k ≤ 40) : (hd_rm (k + 1)).frames + 1 ≤ (hd_rm k).frames ∧ 8 + (8 + 11) + (hd_rm (k + 1)).locals ≤ (hd_rm k).locals := by
  unfold hd_rm
  exact ⟨by show 45 - (k + 1) + 1 ≤ 45 - k; omega, by show 8 + (8 + 11) + 40 * (45 - (k + 1)) ≤ 40 * (45 - k); omega⟩
def sxc_valueOf (dL dR : hd_X) (l2 : Int32) (l3 : Int32) (ha_classes : Nat → Int32) (ha_sizes : Nat → Int32) (ha_fields : Nat → Int64) (hf_objectCount : Int32) (sa_linkCounts : Nat → Int32) (sa_retainedSizes : Nat → Int32) (sa_immediateDominators : Nat → Int32) (n_code : Int32) (n_number : Int32) (n_left : Option Nat) (n_right : Option Nat) : Option (Int64) :=
  if l3 ≤ 40 then
    if n_left = none then
      some (sxc_valueOfLeaf l2 n_code n_number)
    else
      (dL l2 ha_classes ha_sizes ha_fields hf_objectCount sa_linkCounts sa_retainedSizes sa_immediateDominators).bind fun v34 =>
        if (sxv_isError v34) = 0 then
          if n_right = none then
            (sxc_valueOfUnary v34 ha_classes ha_sizes ha_fields hf_objectCount sa_linkCounts sa_retainedSizes sa_immediateDominators n_code n_number).bind fun v61 =>
              some v61
          else
            if (sxc_settles n_code v34) = 0 then
              (dR l2 ha_classes ha_sizes ha_fields hf_objectCount sa_linkCounts sa_retainedSizes sa_immediateDominators).bind fun v92 =>
                if (sxv_isError v92) = 0 then
                  some (sxc_valueOfBinary n_code v34 v92)
                else
                  some v92
            else
              some (sxv_truthOf v34)
        else
          some v34
  else
    some 0
theorem dxc_valueOf_0 : decode bxc_valueOf 0 = .ok (.aload_n 1, 1) := by decide +kernel
theorem dxc_valueOf_1 : decode bxc_valueOf 1 = .ok (.ifnull 9, 3) := by decide +kernel
theorem dxc_valueOf_4 : decode bxc_valueOf 4 = .ok (.iload_n 3, 1) := by decide +kernel
theorem dxc_valueOf_5 : decode bxc_valueOf 5 = .ok (.bipush 40, 2) := by decide +kernel
theorem dxc_valueOf_7 : decode bxc_valueOf 7 = .ok (.if_icmp .le 5, 3) := by decide +kernel
theorem dxc_valueOf_10 : decode bxc_valueOf 10 = .ok (.lconst 0, 1) := by decide +kernel
theorem dxc_valueOf_11 : decode bxc_valueOf 11 = .ok (.lreturn, 1) := by decide +kernel
theorem dxc_valueOf_12 : decode bxc_valueOf 12 = .ok (.aload_n 1, 1) := by decide +kernel
theorem dxc_valueOf_13 : decode bxc_valueOf 13 = .ok (.getfield 11, 3) := by decide +kernel
theorem dxc_valueOf_16 : decode bxc_valueOf 16 = .ok (.ifnonnull 9, 3) := by decide +kernel
theorem dxc_valueOf_19 : decode bxc_valueOf 19 = .ok (.aload_n 1, 1) := by decide +kernel
theorem dxc_valueOf_20 : decode bxc_valueOf 20 = .ok (.iload_n 2, 1) := by decide +kernel
theorem dxc_valueOf_21 : decode bxc_valueOf 21 = .ok (.invokestatic 17, 3) := by decide +kernel
theorem dxc_valueOf_24 : decode bxc_valueOf 24 = .ok (.lreturn, 1) := by decide +kernel
theorem dxc_valueOf_25 : decode bxc_valueOf 25 = .ok (.aload_n 0, 1) := by decide +kernel
theorem dxc_valueOf_26 : decode bxc_valueOf 26 = .ok (.aload_n 1, 1) := by decide +kernel
theorem dxc_valueOf_27 : decode bxc_valueOf 27 = .ok (.getfield 11, 3) := by decide +kernel
theorem dxc_valueOf_30 : decode bxc_valueOf 30 = .ok (.iload_n 2, 1) := by decide +kernel
theorem dxc_valueOf_31 : decode bxc_valueOf 31 = .ok (.iload_n 3, 1) := by decide +kernel
theorem dxc_valueOf_32 : decode bxc_valueOf 32 = .ok (.iconst 1, 1) := by decide +kernel
theorem dxc_valueOf_33 : decode bxc_valueOf 33 = .ok (.iadd, 1) := by decide +kernel
theorem dxc_valueOf_34 : decode bxc_valueOf 34 = .ok (.invokestatic 23, 3) := by decide +kernel
theorem dxc_valueOf_37 : decode bxc_valueOf 37 = .ok (.lstore 4, 2) := by decide +kernel
theorem dxc_valueOf_39 : decode bxc_valueOf 39 = .ok (.lload 4, 2) := by decide +kernel
theorem dxc_valueOf_41 : decode bxc_valueOf 41 = .ok (.invokestatic 27, 3) := by decide +kernel
theorem dxc_valueOf_44 : decode bxc_valueOf 44 = .ok (.ifCond .eq 6, 3) := by decide +kernel
theorem dxc_valueOf_47 : decode bxc_valueOf 47 = .ok (.lload 4, 2) := by decide +kernel
theorem dxc_valueOf_49 : decode bxc_valueOf 49 = .ok (.lreturn, 1) := by decide +kernel
theorem dxc_valueOf_50 : decode bxc_valueOf 50 = .ok (.aload_n 1, 1) := by decide +kernel
theorem dxc_valueOf_51 : decode bxc_valueOf 51 = .ok (.getfield 31, 3) := by decide +kernel
theorem dxc_valueOf_54 : decode bxc_valueOf 54 = .ok (.ifnonnull 11, 3) := by decide +kernel
theorem dxc_valueOf_57 : decode bxc_valueOf 57 = .ok (.aload_n 0, 1) := by decide +kernel
theorem dxc_valueOf_58 : decode bxc_valueOf 58 = .ok (.aload_n 1, 1) := by decide +kernel
theorem dxc_valueOf_59 : decode bxc_valueOf 59 = .ok (.lload 4, 2) := by decide +kernel
theorem dxc_valueOf_61 : decode bxc_valueOf 61 = .ok (.invokestatic 34, 3) := by decide +kernel
theorem dxc_valueOf_64 : decode bxc_valueOf 64 = .ok (.lreturn, 1) := by decide +kernel
theorem dxc_valueOf_65 : decode bxc_valueOf 65 = .ok (.aload_n 1, 1) := by decide +kernel
theorem dxc_valueOf_66 : decode bxc_valueOf 66 = .ok (.getfield 38, 3) := by decide +kernel
theorem dxc_valueOf_69 : decode bxc_valueOf 69 = .ok (.lload 4, 2) := by decide +kernel
theorem dxc_valueOf_71 : decode bxc_valueOf 71 = .ok (.invokestatic 42, 3) := by decide +kernel
theorem dxc_valueOf_74 : decode bxc_valueOf 74 = .ok (.ifCond .eq 9, 3) := by decide +kernel
theorem dxc_valueOf_77 : decode bxc_valueOf 77 = .ok (.lload 4, 2) := by decide +kernel
theorem dxc_valueOf_79 : decode bxc_valueOf 79 = .ok (.invokestatic 46, 3) := by decide +kernel
theorem dxc_valueOf_82 : decode bxc_valueOf 82 = .ok (.lreturn, 1) := by decide +kernel
theorem dxc_valueOf_83 : decode bxc_valueOf 83 = .ok (.aload_n 0, 1) := by decide +kernel
theorem dxc_valueOf_84 : decode bxc_valueOf 84 = .ok (.aload_n 1, 1) := by decide +kernel
theorem dxc_valueOf_85 : decode bxc_valueOf 85 = .ok (.getfield 31, 3) := by decide +kernel
theorem dxc_valueOf_88 : decode bxc_valueOf 88 = .ok (.iload_n 2, 1) := by decide +kernel
theorem dxc_valueOf_89 : decode bxc_valueOf 89 = .ok (.iload_n 3, 1) := by decide +kernel
theorem dxc_valueOf_90 : decode bxc_valueOf 90 = .ok (.iconst 1, 1) := by decide +kernel
theorem dxc_valueOf_91 : decode bxc_valueOf 91 = .ok (.iadd, 1) := by decide +kernel
theorem dxc_valueOf_92 : decode bxc_valueOf 92 = .ok (.invokestatic 23, 3) := by decide +kernel
theorem dxc_valueOf_95 : decode bxc_valueOf 95 = .ok (.lstore 6, 2) := by decide +kernel
theorem dxc_valueOf_97 : decode bxc_valueOf 97 = .ok (.lload 6, 2) := by decide +kernel
theorem dxc_valueOf_99 : decode bxc_valueOf 99 = .ok (.invokestatic 27, 3) := by decide +kernel
theorem dxc_valueOf_102 : decode bxc_valueOf 102 = .ok (.ifCond .eq 8, 3) := by decide +kernel
theorem dxc_valueOf_105 : decode bxc_valueOf 105 = .ok (.lload 6, 2) := by decide +kernel
theorem dxc_valueOf_107 : decode bxc_valueOf 107 = .ok (.goto 14, 3) := by decide +kernel
theorem dxc_valueOf_110 : decode bxc_valueOf 110 = .ok (.aload_n 1, 1) := by decide +kernel
theorem dxc_valueOf_111 : decode bxc_valueOf 111 = .ok (.getfield 38, 3) := by decide +kernel
theorem dxc_valueOf_114 : decode bxc_valueOf 114 = .ok (.lload 4, 2) := by decide +kernel
theorem dxc_valueOf_116 : decode bxc_valueOf 116 = .ok (.lload 6, 2) := by decide +kernel
theorem dxc_valueOf_118 : decode bxc_valueOf 118 = .ok (.invokestatic 50, 3) := by decide +kernel
theorem dxc_valueOf_121 : decode bxc_valueOf 121 = .ok (.lreturn, 1) := by decide +kernel
section
variable {p : Program} {l : Launch} {e : Env} {R : Room} {s : State} {m : MethodId} {args : Array Value} {below : List Frame} {meth : Method} {c : Code} {H H0 : Heap} {locs : List Loc} {cells slots : Nat} {Q : State → Prop}
variable {cc : ByteArray} {pc idx nC : Nat} {ls : Array Slot} {rest : List Value} {D : va_G} {A : Nat → Prop} {own : String} {q : Nat → Nat} {cI cZ cL : ClassId} {z w : va_W}
theorem kxc_rec {k : Nat} {l2 l3 : Int32} {r : Option Nat} {u : Int64} {W0 W1 : va_W} (hM : hq_Ct l yxc_valueOf bxc_valueOf 8 (some .long) (hd_rm k) D (hq_tys cI cZ cL) A [.ref (q 1), va_rf r, .int l2, .int l3] W0 W1 (some (.long u)) 0 0) (hx : p.tables.exec = Jvm.exec) (hb : c.code = cc) (hml : c.maxLocals = nC) (hts : ∀ x ∈ hq_tbl, x.before args s = true) (hown : s.vm.findClass own = some m.cls) (hK : va_K D hq_cl (hq_tys cI cZ cL) s) (hP : va_P D hq_cl W0 H) (hD : va_D A W0) (hS : va_S A H0 H locs) (h1 : Cond.methodLink own idx yxc_valueOf ∈ hq_tbl) (hR : (hd_rm k).frames + 1 ≤ R.frames ∧ 8 + (8 + 11) + (hd_rm k).locals ≤ R.locals) (hls : ls.size = nC) (hW : (rest.map fun v => v.category).sum ≤ 8) (hdg : decode cc pc = .ok (.invokestatic idx, 3)) (hf : cells + 0 ≤ R.cells ∧ slots + 0 ≤ R.slots) (kk : ∀ (H1 : Heap) (locs1 : List Loc), va_P D hq_cl W1 H1 → va_D A W1 → va_S A H0 H1 locs1 → W p l e R s m args below meth c H1 locs1 cells slots Q (F0 m (pc + 3) ls (.long u :: rest))) : W p l e R s m args below meth c H locs cells slots Q (F0 m pc ls (.int l3 :: .int l2 :: va_rf r :: .ref (q 1) :: rest)) :=
  hq_callS hx hb hml hown hts hK hP hD hS hM h1 wi_595 wi_483 wi_596 4 rfl (by decide +kernel) ⟨rfl, rfl⟩ hR hls rfl hW hdg hf kk
end
section
variable {l : Launch} {D : va_G} {A : Nat → Prop} {z w : va_W} {q : Nat → Nat} {cI cZ cL : ClassId}
variable {hf_classCount hf_objectCount hf_roots hf_changed sf_objectCount sf_roots sf_reachable tf_count tf_bracketCount tf_place tf_inWhere tf_compared wf_count wf_looks n_code n_number s_isDistinct s_isRetained s_sourceClass s_withDescendants : Int32}
variable {ha_parents ha_classes ha_sizes sa_linkedFrom sa_linkCounts sa_retainedSets sa_retainedSizes sa_dominators sa_immediateDominators ta_codes ta_numbers ta_brackets : Nat → Int32}
variable {ha_fields wa_rows : Nat → Int64}
variable {xq_query n_left n_right s_row s_nested s_condition s_next : Option Nat}
variable {pa_n pk_n pa_s pk_s : Nat}
set_option maxHeartbeats 4000000 in
set_option maxRecDepth 100000 in
theorem cxc_valueOf (k : Nat) (hk : k ≤ 40) (dL dR : hd_X) (l2 : Int32) (l3 : Int32) (ur : Int64) (h : sxc_valueOf dL dR l2 l3 ha_classes ha_sizes ha_fields hf_objectCount sa_linkCounts sa_retainedSizes sa_immediateDominators n_code n_number n_left n_right = some ur) (ph_n : z[pk_n]? = some (pa_n, .inr (7, [.int n_code, .int n_number, va_rf n_left, va_rf n_right]))) (hL : ∀ u, dL l2 ha_classes ha_sizes ha_fields hf_objectCount sa_linkCounts sa_retainedSizes sa_immediateDominators = some u → hq_Ct l yxc_valueOf bxc_valueOf 8 (some .long) (hd_rm (k + 1)) D (hq_tys cI cZ cL) A [.ref (q 1), va_rf n_left, .int l2, .int (l3 + 1)] (hx_w q cI cZ cL xq_query ha_parents hf_classCount ha_classes ha_sizes ha_fields hf_objectCount hf_roots hf_changed sa_linkedFrom sa_linkCounts sa_retainedSets sa_retainedSizes sa_dominators sa_immediateDominators sf_objectCount sf_roots sf_reachable ta_codes ta_numbers tf_count ta_brackets tf_bracketCount tf_place tf_inWhere tf_compared wa_rows wf_count wf_looks ++ z) (hx_w q cI cZ cL xq_query ha_parents hf_classCount ha_classes ha_sizes ha_fields hf_objectCount hf_roots hf_changed sa_linkedFrom sa_linkCounts sa_retainedSets sa_retainedSizes sa_dominators sa_immediateDominators sf_objectCount sf_roots sf_reachable ta_codes ta_numbers tf_count ta_brackets tf_bracketCount tf_place tf_inWhere tf_compared wa_rows wf_count wf_looks ++ z) (some (.long u)) 0 0) (hR : ∀ u, dR l2 ha_classes ha_sizes ha_fields hf_objectCount sa_linkCounts sa_retainedSizes sa_immediateDominators = some u → hq_Ct l yxc_valueOf bxc_valueOf 8 (some .long) (hd_rm (k + 1)) D (hq_tys cI cZ cL) A [.ref (q 1), va_rf n_right, .int l2, .int (l3 + 1)] (hx_w q cI cZ cL xq_query ha_parents hf_classCount ha_classes ha_sizes ha_fields hf_objectCount hf_roots hf_changed sa_linkedFrom sa_linkCounts sa_retainedSets sa_retainedSizes sa_dominators sa_immediateDominators sf_objectCount sf_roots sf_reachable ta_codes ta_numbers tf_count ta_brackets tf_bracketCount tf_place tf_inWhere tf_compared wa_rows wf_count wf_looks ++ z) (hx_w q cI cZ cL xq_query ha_parents hf_classCount ha_classes ha_sizes ha_fields hf_objectCount hf_roots hf_changed sa_linkedFrom sa_linkCounts sa_retainedSets sa_retainedSizes sa_dominators sa_immediateDominators sf_objectCount sf_roots sf_reachable ta_codes ta_numbers tf_count ta_brackets tf_bracketCount tf_place tf_inWhere tf_compared wa_rows wf_count wf_looks ++ z) (some (.long u)) 0 0) : hq_Ct l yxc_valueOf bxc_valueOf 8 (some .long) (hd_rm k) D (hq_tys cI cZ cL) A [.ref (q 1), .ref pa_n, .int l2, .int l3] (hx_w q cI cZ cL xq_query ha_parents hf_classCount ha_classes ha_sizes ha_fields hf_objectCount hf_roots hf_changed sa_linkedFrom sa_linkCounts sa_retainedSets sa_retainedSizes sa_dominators sa_immediateDominators sf_objectCount sf_roots sf_reachable ta_codes ta_numbers tf_count ta_brackets tf_bracketCount tf_place tf_inWhere tf_compared wa_rows wf_count wf_looks ++ z) (hx_w q cI cZ cL xq_query ha_parents hf_classCount ha_classes ha_sizes ha_fields hf_objectCount hf_roots hf_changed sa_linkedFrom sa_linkCounts sa_retainedSets sa_retainedSizes sa_dominators sa_immediateDominators sf_objectCount sf_roots sf_reachable ta_codes ta_numbers tf_count ta_brackets tf_bracketCount tf_place tf_inWhere tf_compared wa_rows wf_count wf_looks ++ z) (some (.long ur)) 0 0 := by
  refine hq_of (by decide) ?_ (Nat.le_of_ble_eq_true rfl)
  intro p e s m below meth c R args Q hRm hQ hx hb hr hml hts hown hlocks hnm hP hK hD ls hl hS
  have hl : lv_has ls 8 [(0, .ref (q 1)), (1, .ref pa_n), (2, .int l2), (3, .int l3)] := hl
  have hown : s.vm.findClass "HeapQueries$Calculator" = some m.cls := hown
  unfold sxc_valueOf at h
  refine lv_aload_n hx hb dxc_valueOf_0 rfl (lv_at hl 1 rfl) ?_
  refine lv_ifnull hx hb dxc_valueOf_1 ?_
  refine lv_iload_n hx hb dxc_valueOf_4 rfl (lv_at hl 3 rfl) ?_
  refine lv_bipush (v := 40) hx hb dxc_valueOf_5 (by decide) ?_
  refine lv_icmp_le (tgt := 12) hx hb dxc_valueOf_7 (by decide) (fun hc => ?_) (fun hc => ?_)
  · have h := (if_pos hc).symm.trans h
    refine lv_aload_n hx hb dxc_valueOf_12 rfl (lv_at hl 1 rfl) ?_
    refine gx_n_left hx hb hts hown hK hP ph_n wi_588 dxc_valueOf_13 ?_
    refine hq_ifnonnull (tgt := 25) hx hb dxc_valueOf_16 (by decide) (fun hc => ?_) (fun hc => ?_)
    · have h := (if_pos hc).symm.trans h
      refine lv_aload_n hx hb dxc_valueOf_19 rfl (lv_at hl 1 rfl) ?_
      refine lv_iload_n hx hb dxc_valueOf_20 rfl (lv_at hl 2 rfl) ?_
      refine kxc_valueOfLeaf l2 (sxc_valueOfLeaf l2 n_code n_number) rfl ph_n hx hb hml hts hown hK hP hD hS wi_589 (by rw [hRm]; exact hd_room hk (by decide) (by decide)) hl.1 (Nat.le_of_ble_eq_true rfl) dxc_valueOf_21 ⟨Nat.zero_le _, Nat.zero_le _⟩ (fun H locs hP hD hS => ?_)
      have h := Option.some.inj h
      exact hq_lret hx hb hr hlocks hQ hK hP hD hS (by rw [← h]) rfl dxc_valueOf_24
    · have h := (if_neg hc).symm.trans h
      refine lv_aload_n hx hb dxc_valueOf_25 rfl (lv_at hl 0 rfl) ?_
      refine lv_aload_n hx hb dxc_valueOf_26 rfl (lv_at hl 1 rfl) ?_
      refine gx_n_left hx hb hts hown hK hP ph_n wi_588 dxc_valueOf_27 ?_
      refine lv_iload_n hx hb dxc_valueOf_30 rfl (lv_at hl 2 rfl) ?_
      refine lv_iload_n hx hb dxc_valueOf_31 rfl (lv_at hl 3 rfl) ?_
      refine lv_iconst (v := 1) hx hb dxc_valueOf_32 (by decide) ?_
      refine lv_iadd hx hb dxc_valueOf_33 ?_
      obtain ⟨v34, h34, h⟩ := hq_bind h
      refine kxc_rec (hL v34 h34) hx hb hml hts hown hK hP hD hS wi_590 (by rw [hRm]; exact hd_deep hk) hl.1 (Nat.le_of_ble_eq_true rfl) dxc_valueOf_34 ⟨Nat.zero_le _, Nat.zero_le _⟩ (fun H locs hP hD hS => ?_)
      refine lv_lstore (lv' := [(4, .long v34), (0, .ref (q 1)), (1, .ref pa_n), (2, .int l2), (3, .int l3)]) hx hb dxc_valueOf_37 hl (by decide) rfl (fun ls hl => ?_)
      refine lv_lload hx hb dxc_valueOf_39 (lv_at hl 0 rfl) ?_
      refine kxv_isError v34 (sxv_isError v34) rfl hx hb hml hts hown hK hP hD hS wi_163 (by rw [hRm]; exact hd_room hk (by decide) (by decide)) hl.1 (Nat.le_of_ble_eq_true rfl) dxc_valueOf_41 ⟨Nat.zero_le _, Nat.zero_le _⟩ (fun H locs hP hD hS => ?_)
      refine lv_if_eq (tgt := 50) hx hb dxc_valueOf_44 (by decide) (fun hc => ?_) (fun hc => ?_)
      · have h := (if_pos hc).symm.trans h
        refine lv_aload_n hx hb dxc_valueOf_50 rfl (lv_at hl 2 rfl) ?_
        refine gx_n_right hx hb hts hown hK hP ph_n wi_591 dxc_valueOf_51 ?_
        refine hq_ifnonnull (tgt := 65) hx hb dxc_valueOf_54 (by decide) (fun hc => ?_) (fun hc => ?_)
        · have h := (if_pos hc).symm.trans h
          refine lv_aload_n hx hb dxc_valueOf_57 rfl (lv_at hl 1 rfl) ?_
          refine lv_aload_n hx hb dxc_valueOf_58 rfl (lv_at hl 2 rfl) ?_
          refine lv_lload hx hb dxc_valueOf_59 (lv_at hl 0 rfl) ?_
          obtain ⟨v61, h61, h⟩ := hq_bind h
          refine kxc_valueOfUnary v34 v61 h61 ph_n hx hb hml hts hown hK hP hD hS wi_592 (by rw [hRm]; exact hd_room hk (by decide) (by decide)) hl.1 (Nat.le_of_ble_eq_true rfl) dxc_valueOf_61 ⟨Nat.zero_le _, Nat.zero_le _⟩ (fun H locs hP hD hS => ?_)
          have h := Option.some.inj h
          exact hq_lret hx hb hr hlocks hQ hK hP hD hS (by rw [← h]) rfl dxc_valueOf_64
        · have h := (if_neg hc).symm.trans h
          refine lv_aload_n hx hb dxc_valueOf_65 rfl (lv_at hl 2 rfl) ?_
          refine gx_n_code hx hb hts hown hK hP ph_n wi_138 dxc_valueOf_66 ?_
          refine lv_lload hx hb dxc_valueOf_69 (lv_at hl 0 rfl) ?_
          refine kxc_settles n_code v34 (sxc_settles n_code v34) rfl hx hb hml hts hown hK hP hD hS wi_593 (by rw [hRm]; exact hd_room hk (by decide) (by decide)) hl.1 (Nat.le_of_ble_eq_true rfl) dxc_valueOf_71 ⟨Nat.zero_le _, Nat.zero_le _⟩ (fun H locs hP hD hS => ?_)
          refine lv_if_eq (tgt := 83) hx hb dxc_valueOf_74 (by decide) (fun hc => ?_) (fun hc => ?_)
          · have h := (if_pos hc).symm.trans h
            refine lv_aload_n hx hb dxc_valueOf_83 rfl (lv_at hl 1 rfl) ?_
            refine lv_aload_n hx hb dxc_valueOf_84 rfl (lv_at hl 2 rfl) ?_
            refine gx_n_right hx hb hts hown hK hP ph_n wi_591 dxc_valueOf_85 ?_
            refine lv_iload_n hx hb dxc_valueOf_88 rfl (lv_at hl 3 rfl) ?_
            refine lv_iload_n hx hb dxc_valueOf_89 rfl (lv_at hl 4 rfl) ?_
            refine lv_iconst (v := 1) hx hb dxc_valueOf_90 (by decide) ?_
            refine lv_iadd hx hb dxc_valueOf_91 ?_
            obtain ⟨v92, h92, h⟩ := hq_bind h
            refine kxc_rec (hR v92 h92) hx hb hml hts hown hK hP hD hS wi_590 (by rw [hRm]; exact hd_deep hk) hl.1 (Nat.le_of_ble_eq_true rfl) dxc_valueOf_92 ⟨Nat.zero_le _, Nat.zero_le _⟩ (fun H locs hP hD hS => ?_)
            refine lv_lstore (lv' := [(6, .long v92), (4, .long v34), (0, .ref (q 1)), (1, .ref pa_n), (2, .int l2), (3, .int l3)]) hx hb dxc_valueOf_95 hl (by decide) rfl (fun ls hl => ?_)
            refine lv_lload hx hb dxc_valueOf_97 (lv_at hl 0 rfl) ?_
            refine kxv_isError v92 (sxv_isError v92) rfl hx hb hml hts hown hK hP hD hS wi_163 (by rw [hRm]; exact hd_room hk (by decide) (by decide)) hl.1 (Nat.le_of_ble_eq_true rfl) dxc_valueOf_99 ⟨Nat.zero_le _, Nat.zero_le _⟩ (fun H locs hP hD hS => ?_)
            refine lv_if_eq (tgt := 110) hx hb dxc_valueOf_102 (by decide) (fun hc => ?_) (fun hc => ?_)
            · have h := (if_pos hc).symm.trans h
              refine lv_aload_n hx hb dxc_valueOf_110 rfl (lv_at hl 3 rfl) ?_
              refine gx_n_code hx hb hts hown hK hP ph_n wi_138 dxc_valueOf_111 ?_
              refine lv_lload hx hb dxc_valueOf_114 (lv_at hl 1 rfl) ?_
              refine lv_lload hx hb dxc_valueOf_116 (lv_at hl 0 rfl) ?_
              refine kxc_valueOfBinary n_code v34 v92 (sxc_valueOfBinary n_code v34 v92) rfl hx hb hml hts hown hK hP hD hS wi_594 (by rw [hRm]; exact hd_room hk (by decide) (by decide)) hl.1 (Nat.le_of_ble_eq_true rfl) dxc_valueOf_118 ⟨Nat.zero_le _, Nat.zero_le _⟩ (fun H locs hP hD hS => ?_)
              have h := Option.some.inj h
              exact hq_lret hx hb hr hlocks hQ hK hP hD hS (by rw [← h]) rfl dxc_valueOf_121
            · have h := (if_neg hc).symm.trans h
              refine lv_lload hx hb dxc_valueOf_105 (lv_at hl 0 rfl) ?_
              refine lv_goto (tgt := 121) hx hb dxc_valueOf_107 (by decide) ?_
              have h := Option.some.inj h
              exact hq_lret hx hb hr hlocks hQ hK hP hD hS (by rw [← h]) rfl dxc_valueOf_121
          · have h := (if_neg hc).symm.trans h
            refine lv_lload hx hb dxc_valueOf_77 (lv_at hl 0 rfl) ?_
            refine kxv_truthOf v34 (sxv_truthOf v34) rfl hx hb hml hts hown hK hP hD hS wi_162 (by rw [hRm]; exact hd_room hk (by decide) (by decide)) hl.1 (Nat.le_of_ble_eq_true rfl) dxc_valueOf_79 ⟨Nat.zero_le _, Nat.zero_le _⟩ (fun H locs hP hD hS => ?_)
            have h := Option.some.inj h
            exact hq_lret hx hb hr hlocks hQ hK hP hD hS (by rw [← h]) rfl dxc_valueOf_82
      · have h := (if_neg hc).symm.trans h
        refine lv_lload hx hb dxc_valueOf_47 (lv_at hl 0 rfl) ?_
        have h := Option.some.inj h
        exact hq_lret hx hb hr hlocks hQ hK hP hD hS (by rw [← h]) rfl dxc_valueOf_49
  · have h := (if_neg hc).symm.trans h
    refine lv_lconst (v := 0) hx hb dxc_valueOf_10 (by decide) ?_
    have h := Option.some.inj h
    exact hq_lret hx hb hr hlocks hQ hK hP hD hS (by rw [← h]) rfl dxc_valueOf_11
end
