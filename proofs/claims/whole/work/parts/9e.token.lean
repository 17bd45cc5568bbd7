/-! Reader's constructor; token -/
theorem dxr_init_0 : decode bxr_init 0 = .ok (.aload_n 0, 1) := by decide +kernel
theorem dxr_init_1 : decode bxr_init 1 = .ok (.invokespecial 3, 3) := by decide +kernel
theorem dxr_init_4 : decode bxr_init 4 = .ok (.aload_n 0, 1) := by decide +kernel
theorem dxr_init_5 : decode bxr_init 5 = .ok (.aload_n 1, 1) := by decide +kernel
theorem dxr_init_6 : decode bxr_init 6 = .ok (.putfield 9, 3) := by decide +kernel
theorem dxr_init_9 : decode bxr_init 9 = .ok (.return_, 1) := by decide +kernel
theorem dxq_token_0 : decode bxq_token 0 = .ok (.aload_n 0, 1) := by decide +kernel
theorem dxq_token_1 : decode bxq_token 1 = .ok (.iload_n 1, 1) := by decide +kernel
theorem dxq_token_2 : decode bxq_token 2 = .ok (.iload_n 2, 1) := by decide +kernel
theorem dxq_token_3 : decode bxq_token 3 = .ok (.invokevirtual 74, 3) := by decide +kernel
theorem dxq_token_6 : decode bxq_token 6 = .ok (.ifCond .eq 15, 3) := by decide +kernel
theorem dxq_token_9 : decode bxq_token 9 = .ok (.aload_n 0, 1) := by decide +kernel
theorem dxq_token_10 : decode bxq_token 10 = .ok (.getfield 19, 3) := by decide +kernel
theorem dxq_token_13 : decode bxq_token 13 = .ok (.iload_n 1, 1) := by decide +kernel
theorem dxq_token_14 : decode bxq_token 14 = .ok (.iload_n 2, 1) := by decide +kernel
theorem dxq_token_15 : decode bxq_token 15 = .ok (.invokevirtual 78, 3) := by decide +kernel
theorem dxq_token_18 : decode bxq_token 18 = .ok (.ifCond .ne 5, 3) := by decide +kernel
theorem dxq_token_21 : decode bxq_token 21 = .ok (.iconst 0, 1) := by decide +kernel
theorem dxq_token_22 : decode bxq_token 22 = .ok (.ireturn, 1) := by decide +kernel
theorem dxq_token_23 : decode bxq_token 23 = .ok (.iload_n 1, 1) := by decide +kernel
theorem dxq_token_24 : decode bxq_token 24 = .ok (.bipush 24, 2) := by decide +kernel
theorem dxq_token_26 : decode bxq_token 26 = .ok (.if_icmp .ne 22, 3) := by decide +kernel
theorem dxq_token_29 : decode bxq_token 29 = .ok (.aload_n 0, 1) := by decide +kernel
theorem dxq_token_30 : decode bxq_token 30 = .ok (.new 81, 3) := by decide +kernel
theorem dxq_token_33 : decode bxq_token 33 = .ok (.dup, 1) := by decide +kernel
theorem dxq_token_34 : decode bxq_token 34 = .ok (.aload_n 0, 1) := by decide +kernel
theorem dxq_token_35 : decode bxq_token 35 = .ok (.getfield 19, 3) := by decide +kernel
theorem dxq_token_38 : decode bxq_token 38 = .ok (.invokespecial 83, 3) := by decide +kernel
theorem dxq_token_41 : decode bxq_token 41 = .ok (.iconst 0, 1) := by decide +kernel
theorem dxq_token_42 : decode bxq_token 42 = .ok (.invokevirtual 86, 3) := by decide +kernel
theorem dxq_token_45 : decode bxq_token 45 = .ok (.putfield 90, 3) := by decide +kernel
theorem dxq_token_48 : decode bxq_token 48 = .ok (.iconst 1, 1) := by decide +kernel
theorem dxq_token_49 : decode bxq_token 49 = .ok (.ireturn, 1) := by decide +kernel
def hq_q (q : Nat → Nat) (a : Nat) : Nat → Nat := fun i => if i = 19 then a else q i
theorem hz_mw1 {D : va_G} {cl : List vw_C} {X z : va_W} {c : Nat × va_E} {H : Heap} (h : va_P D cl ((X ++ z) ++ [c]) H) : va_P D cl (X ++ (c :: z)) H := fun k x hx => by
  by_cases h1 : k < X.length
  · rw [List.getElem?_append_left h1] at hx
    refine h k x ?_
    rw [List.append_assoc, List.getElem?_append_left h1]
    exact hx
  · obtain ⟨j, rfl⟩ : ∃ j, k = X.length + j := ⟨k - X.length, by omega⟩
    rw [List.getElem?_append_right (by omega), Nat.add_sub_cancel_left] at hx
    cases j with
    | zero =>
      have hx : some c = some x := hx
      refine h (X ++ z).length x ?_
      rw [List.getElem?_append_right (Nat.le_refl _), Nat.sub_self]
      exact hx
    | succ j =>
      have hx : z[j]? = some x := hx
      have hj := (List.getElem?_eq_some_iff.mp hx).1
      refine h (X.length + j) x ?_
      rw [List.append_assoc, List.getElem?_append_right (by omega), Nat.add_sub_cancel_left, List.getElem?_append_left hj]
      exact hx
theorem hz_mw2 {A : Nat → Prop} {X z : va_W} {c : Nat × va_E} (h : va_D A ((X ++ z) ++ [c])) : va_D A (X ++ (c :: z)) := by
  have F : ∀ (k : Nat) (x : Nat × va_E), (X ++ (c :: z))[k]? = some x → ((X ++ z) ++ [c])[if k < X.length then k else if k = X.length then X.length + z.length else k - 1]? = some x := fun k x hx => by
    by_cases h1 : k < X.length
    · rw [if_pos h1, List.append_assoc, List.getElem?_append_left h1]
      rw [List.getElem?_append_left h1] at hx
      exact hx
    · rw [if_neg h1]
      obtain ⟨j, rfl⟩ : ∃ j, k = X.length + j := ⟨k - X.length, by omega⟩
      rw [List.getElem?_append_right (by omega), Nat.add_sub_cancel_left] at hx
      cases j with
      | zero =>
        have hx : some c = some x := hx
        rw [if_pos (by omega), List.getElem?_append_right (by rw [List.length_append]; exact Nat.le_refl _), List.length_append, Nat.sub_self]
        exact hx
      | succ j =>
        have hx : z[j]? = some x := hx
        have hj := (List.getElem?_eq_some_iff.mp hx).1
        rw [if_neg (by omega), show X.length + (j + 1) - 1 = X.length + j by omega, List.append_assoc, List.getElem?_append_right (by omega), Nat.add_sub_cancel_left, List.getElem?_append_left hj]
        exact hx
  have L : ∀ (k : Nat) (x : Nat × va_E), (X ++ (c :: z))[k]? = some x → k ≤ X.length + z.length := fun k x hx => by
    have := (List.getElem?_eq_some_iff.mp hx).1
    rw [List.length_append, List.length_cons] at this
    omega
  refine ⟨fun i j x y hx hy hxy => ?_, fun k x hx => h.2 _ x (F k x hx)⟩
  have e := h.1 _ _ x y (F i x hx) (F j y hy) hxy
  have l1 := L i x hx
  have l2 := L j y hy
  split at e <;> split at e <;> (try split at e) <;> (try split at e) <;> omega
theorem hz_at19 {X z : va_W} {c : Nat × va_E} (hX : X.length = 19) : (X ++ (c :: z))[19]? = some c := by
  rw [List.getElem?_append_right (by omega), hX]
  rfl
theorem hz_set19 {X z : va_W} {c c' : Nat × va_E} (hX : X.length = 19) : (X ++ (c :: z)).set 19 c' = X ++ (c' :: z) := by
  rw [List.set_append_right _ _ (by omega), hX]
  rfl
section
variable {l : Launch} {D : va_G} {A : Nat → Prop} {z w : va_W} {q : Nat → Nat} {cI cZ cL : ClassId}
theorem cxr_init {q0 a t : Nat} (he : w[q0]? = some (a, .inr (8, [.null, .int 0]))) : hq_Ct l yxr_init bxr_init 2 none { frames := 1, cells := 0, slots := 0, locals := 12 } D (hq_tys cI cZ cL) A [.ref a, .ref t] w (w.set q0 (a, .inr (8, [.ref t, .int 0]))) none 0 0 := by
  refine hq_of (by decide) ?_ (Nat.le_of_ble_eq_true rfl)
  intro p e s m below meth c R args Q hRm hQ hx hb hr hml hts hown hlocks hnm hP hK hD ls hl hS
  have hl : lv_has ls 2 [(0, .ref a), (1, .ref t)] := hl
  have hown : s.vm.findClass "HeapQueries$Reader" = some m.cls := hown
  have hnm : meth.name = "<init>" := hnm
  refine lv_aload_n hx hb dxr_init_0 rfl (lv_at hl 0 rfl) ?_
  refine W.objInit hx hb hown (hts _ wi_724) (hts _ wi_611) (hts _ wi_612) rfl (by rw [hml]; exact hl.1) rfl dxr_init_1 (by rw [hRm]; exact Nat.le_of_ble_eq_true rfl) (by rw [hRm]; exact Nat.le_of_ble_eq_true rfl) ?_
  refine W.eq (g2 := F0 m 4 ls []) rfl ?_
  refine lv_aload_n hx hb dxr_init_4 rfl (lv_at hl 0 rfl) ?_
  refine lv_aload_n hx hb dxr_init_5 rfl (lv_at hl 1 rfl) ?_
  refine va_putF (ty := .object "HeapQueries$Text") hx hb hts hin_xr hty_xr hty_xr_ok hnm_xr hown hK hP hD hS q0 he rfl 0 (by decide) (hts _ wi_600) (fun _ h9 => h9) rfl hnm rfl (by decide +kernel) rfl rfl (Nat.le_of_ble_eq_true rfl) dxr_init_6 (fun H locs hP hD hS => ?_)
  exact hq_vret hx hb hr hlocks hQ hK hP hD hS rfl rfl dxr_init_9
end
section
variable {l : Launch} {D : va_G} {A : Nat → Prop} {z w : va_W} {q : Nat → Nat} {cI cZ cL : ClassId}
variable {hf_classCount hf_objectCount hf_roots hf_changed sf_objectCount sf_roots sf_reachable tf_count tf_bracketCount tf_place tf_inWhere tf_compared wf_count wf_looks n_code n_number s_isDistinct s_isRetained s_sourceClass s_withDescendants : Int32}
variable {ha_parents ha_classes ha_sizes sa_linkedFrom sa_linkCounts sa_retainedSets sa_retainedSizes sa_dominators sa_immediateDominators ta_codes ta_numbers ta_brackets : Nat → Int32}
variable {ha_fields wa_rows : Nat → Int64}
variable {xq_query n_left n_right s_row s_nested s_condition s_next : Option Nat}
variable {pa_n pk_n pa_s pk_s : Nat}
theorem cxq_token0 (l1 l2 : Int32) (ha : sxq_isNumberAllowed l1 l2 hf_classCount = some 0) : hq_Ct l yxq_token bxq_token 3 (some .boolean) { frames := 6, cells := 0, slots := 0, locals := 200 } D (hq_tys cI cZ cL) A [.ref (q 0), .int l1, .int l2] (hx_w q cI cZ cL xq_query ha_parents hf_classCount ha_classes ha_sizes ha_fields hf_objectCount hf_roots hf_changed sa_linkedFrom sa_linkCounts sa_retainedSets sa_retainedSizes sa_dominators sa_immediateDominators sf_objectCount sf_roots sf_reachable ta_codes ta_numbers tf_count ta_brackets tf_bracketCount tf_place tf_inWhere tf_compared wa_rows wf_count wf_looks ++ z) (hx_w q cI cZ cL xq_query ha_parents hf_classCount ha_classes ha_sizes ha_fields hf_objectCount hf_roots hf_changed sa_linkedFrom sa_linkCounts sa_retainedSets sa_retainedSizes sa_dominators sa_immediateDominators sf_objectCount sf_roots sf_reachable ta_codes ta_numbers tf_count ta_brackets tf_bracketCount tf_place tf_inWhere tf_compared wa_rows wf_count wf_looks ++ z) (some (.int 0)) 0 0 := by
  refine hq_of (by decide) ?_ (Nat.le_of_ble_eq_true rfl)
  intro p e s m below meth c R args Q hRm hQ hx hb hr hml hts hown hlocks hnm hP hK hD ls hl hS
  have hl : lv_has ls 3 [(0, .ref (q 0)), (1, .int l1), (2, .int l2)] := hl
  have hown : s.vm.findClass "HeapQueries" = some m.cls := hown
  refine lv_aload_n hx hb dxq_token_0 rfl (lv_at hl 0 rfl) ?_
  refine lv_iload_n hx hb dxq_token_1 rfl (lv_at hl 1 rfl) ?_
  refine lv_iload_n hx hb dxq_token_2 rfl (lv_at hl 2 rfl) ?_
  refine kxq_isNumberAllowed l1 l2 0 ha hx hb hml hts hown hK hP hD hS wi_725 (by rw [hRm]; exact ⟨Nat.le_of_ble_eq_true rfl, Nat.le_of_ble_eq_true rfl⟩) hl.1 (Nat.le_of_ble_eq_true rfl) dxq_token_3 ⟨Nat.zero_le _, Nat.zero_le _⟩ (fun H locs hP hD hS => ?_)
  refine lv_if_eq (tgt := 21) hx hb dxq_token_6 (by decide) (fun _ => ?_) (fun hc => absurd rfl hc)
  refine lv_iconst (v := 0) hx hb dxq_token_21 (by decide) ?_
  exact hq_zret hx hb hr hlocks hQ hK hP hD hS (Or.inl rfl) rfl rfl dxq_token_22
theorem cxq_token1 (l1 l2 : Int32) (ha : sxq_isNumberAllowed l1 l2 hf_classCount = some 1) (ht : sxt_take l1 l2 ta_codes ta_numbers tf_count ta_brackets tf_bracketCount tf_place tf_inWhere tf_compared = some (0, ta_codes, ta_numbers, tf_count, ta_brackets, tf_bracketCount, tf_place, tf_inWhere, tf_compared)) : hq_Ct l yxq_token bxq_token 3 (some .boolean) { frames := 6, cells := 0, slots := 0, locals := 200 } D (hq_tys cI cZ cL) A [.ref (q 0), .int l1, .int l2] (hx_w q cI cZ cL xq_query ha_parents hf_classCount ha_classes ha_sizes ha_fields hf_objectCount hf_roots hf_changed sa_linkedFrom sa_linkCounts sa_retainedSets sa_retainedSizes sa_dominators sa_immediateDominators sf_objectCount sf_roots sf_reachable ta_codes ta_numbers tf_count ta_brackets tf_bracketCount tf_place tf_inWhere tf_compared wa_rows wf_count wf_looks ++ z) (hx_w q cI cZ cL xq_query ha_parents hf_classCount ha_classes ha_sizes ha_fields hf_objectCount hf_roots hf_changed sa_linkedFrom sa_linkCounts sa_retainedSets sa_retainedSizes sa_dominators sa_immediateDominators sf_objectCount sf_roots sf_reachable ta_codes ta_numbers tf_count ta_brackets tf_bracketCount tf_place tf_inWhere tf_compared wa_rows wf_count wf_looks ++ z) (some (.int 0)) 0 0 := by
  refine hq_of (by decide) ?_ (Nat.le_of_ble_eq_true rfl)
  intro p e s m below meth c R args Q hRm hQ hx hb hr hml hts hown hlocks hnm hP hK hD ls hl hS
  have hl : lv_has ls 3 [(0, .ref (q 0)), (1, .int l1), (2, .int l2)] := hl
  have hown : s.vm.findClass "HeapQueries" = some m.cls := hown
  refine lv_aload_n hx hb dxq_token_0 rfl (lv_at hl 0 rfl) ?_
  refine lv_iload_n hx hb dxq_token_1 rfl (lv_at hl 1 rfl) ?_
  refine lv_iload_n hx hb dxq_token_2 rfl (lv_at hl 2 rfl) ?_
  refine kxq_isNumberAllowed l1 l2 1 ha hx hb hml hts hown hK hP hD hS wi_725 (by rw [hRm]; exact ⟨Nat.le_of_ble_eq_true rfl, Nat.le_of_ble_eq_true rfl⟩) hl.1 (Nat.le_of_ble_eq_true rfl) dxq_token_3 ⟨Nat.zero_le _, Nat.zero_le _⟩ (fun H locs hP hD hS => ?_)
  refine lv_if_eq (tgt := 21) hx hb dxq_token_6 (by decide) (fun hc => absurd hc (by decide)) (fun _ => ?_)
  refine lv_aload_n hx hb dxq_token_9 rfl (lv_at hl 0 rfl) ?_
  refine gx_0_text hx hb hts hown hK hP wi_52 dxq_token_10 ?_
  refine lv_iload_n hx hb dxq_token_13 rfl (lv_at hl 1 rfl) ?_
  refine lv_iload_n hx hb dxq_token_14 rfl (lv_at hl 2 rfl) ?_
  refine kxt_take l1 l2 _ ht hx hb hml hts hown hK hP hD hS wi_726 (by rw [hRm]; exact ⟨Nat.le_of_ble_eq_true rfl, Nat.le_of_ble_eq_true rfl⟩) hl.1 (Nat.le_of_ble_eq_true rfl) dxq_token_15 ⟨Nat.zero_le _, Nat.zero_le _⟩ (fun H locs hP hD hS => ?_)
  refine lv_if_ne (tgt := 23) hx hb dxq_token_18 (by decide) (fun hc => absurd rfl hc) (fun _ => ?_)
  refine lv_iconst (v := 0) hx hb dxq_token_21 (by decide) ?_
  exact hq_zret hx hb hr hlocks hQ hK hP hD hS (Or.inl rfl) rfl rfl dxq_token_22
theorem cxq_token2 (l1 l2 : Int32) (hc : ¬ l1 = 24) {t1 t2 t4 : Nat → Int32} {t3 t5 t6 t7 t8 : Int32} (ha : sxq_isNumberAllowed l1 l2 hf_classCount = some 1) (ht : sxt_take l1 l2 ta_codes ta_numbers tf_count ta_brackets tf_bracketCount tf_place tf_inWhere tf_compared = some (1, t1, t2, t3, t4, t5, t6, t7, t8)) : hq_Ct l yxq_token bxq_token 3 (some .boolean) { frames := 6, cells := 0, slots := 0, locals := 200 } D (hq_tys cI cZ cL) A [.ref (q 0), .int l1, .int l2] (hx_w q cI cZ cL xq_query ha_parents hf_classCount ha_classes ha_sizes ha_fields hf_objectCount hf_roots hf_changed sa_linkedFrom sa_linkCounts sa_retainedSets sa_retainedSizes sa_dominators sa_immediateDominators sf_objectCount sf_roots sf_reachable ta_codes ta_numbers tf_count ta_brackets tf_bracketCount tf_place tf_inWhere tf_compared wa_rows wf_count wf_looks ++ z) (hx_w q cI cZ cL xq_query ha_parents hf_classCount ha_classes ha_sizes ha_fields hf_objectCount hf_roots hf_changed sa_linkedFrom sa_linkCounts sa_retainedSets sa_retainedSizes sa_dominators sa_immediateDominators sf_objectCount sf_roots sf_reachable t1 t2 t3 t4 t5 t6 t7 t8 wa_rows wf_count wf_looks ++ z) (some (.int 1)) 0 0 := by
  refine hq_of (by decide) ?_ (Nat.le_of_ble_eq_true rfl)
  intro p e s m below meth c R args Q hRm hQ hx hb hr hml hts hown hlocks hnm hP hK hD ls hl hS
  have hl : lv_has ls 3 [(0, .ref (q 0)), (1, .int l1), (2, .int l2)] := hl
  have hown : s.vm.findClass "HeapQueries" = some m.cls := hown
  refine lv_aload_n hx hb dxq_token_0 rfl (lv_at hl 0 rfl) ?_
  refine lv_iload_n hx hb dxq_token_1 rfl (lv_at hl 1 rfl) ?_
  refine lv_iload_n hx hb dxq_token_2 rfl (lv_at hl 2 rfl) ?_
  refine kxq_isNumberAllowed l1 l2 1 ha hx hb hml hts hown hK hP hD hS wi_725 (by rw [hRm]; exact ⟨Nat.le_of_ble_eq_true rfl, Nat.le_of_ble_eq_true rfl⟩) hl.1 (Nat.le_of_ble_eq_true rfl) dxq_token_3 ⟨Nat.zero_le _, Nat.zero_le _⟩ (fun H locs hP hD hS => ?_)
  refine lv_if_eq (tgt := 21) hx hb dxq_token_6 (by decide) (fun hc => absurd hc (by decide)) (fun _ => ?_)
  refine lv_aload_n hx hb dxq_token_9 rfl (lv_at hl 0 rfl) ?_
  refine gx_0_text hx hb hts hown hK hP wi_52 dxq_token_10 ?_
  refine lv_iload_n hx hb dxq_token_13 rfl (lv_at hl 1 rfl) ?_
  refine lv_iload_n hx hb dxq_token_14 rfl (lv_at hl 2 rfl) ?_
  refine kxt_take l1 l2 _ ht hx hb hml hts hown hK hP hD hS wi_726 (by rw [hRm]; exact ⟨Nat.le_of_ble_eq_true rfl, Nat.le_of_ble_eq_true rfl⟩) hl.1 (Nat.le_of_ble_eq_true rfl) dxq_token_15 ⟨Nat.zero_le _, Nat.zero_le _⟩ (fun H locs hP hD hS => ?_)
  refine lv_if_ne (tgt := 23) hx hb dxq_token_18 (by decide) (fun _ => ?_) (fun hc => absurd (show (1 : Int32) = 0 from hc) (by decide))
  refine lv_iload_n hx hb dxq_token_23 rfl (lv_at hl 1 rfl) ?_
  refine lv_bipush (v := 24) hx hb dxq_token_24 (by decide) ?_
  refine lv_icmp_ne (tgt := 48) hx hb dxq_token_26 (by decide) (fun _ => ?_) (fun h9 => absurd h9 hc)
  refine lv_iconst (v := 1) hx hb dxq_token_48 (by decide) ?_
  exact hq_zret hx hb hr hlocks hQ hK hP hD hS (Or.inr rfl) rfl rfl dxq_token_49
set_option maxHeartbeats 4000000 in
theorem cxq_token3 (l2 : Int32) {k x hg : Nat} {us : List hd_Y} (hk : k ≤ 40) {t1 t2 t4 : Nat → Int32} {t5 t6 t7 t8 : Int32} (ha : sxq_isNumberAllowed 24 l2 hf_classCount = some 1) (ht : sxt_take 24 l2 ta_codes ta_numbers tf_count ta_brackets tf_bracketCount tf_place tf_inWhere tf_compared = some (1, t1, t2, nI k, t4, t5, t6, t7, t8)) (hu : rd_Q (rd_cd t1 k) (rd_nu t2 k) 100 100 0 0 = some (us, hg, x)) :
    hq_Cn l yxq_token bxq_token 3 (some .boolean) { frames := 125, cells := x + 1, slots := 4 * x + 2, locals := 3500 } D (hq_tys cI cZ cL) A [.ref (q 0), .int 24, .int l2] (hx_w q cI cZ cL xq_query ha_parents hf_classCount ha_classes ha_sizes ha_fields hf_objectCount hf_roots hf_changed sa_linkedFrom sa_linkCounts sa_retainedSets sa_retainedSizes sa_dominators sa_immediateDominators sf_objectCount sf_roots sf_reachable ta_codes ta_numbers tf_count ta_brackets tf_bracketCount tf_place tf_inWhere tf_compared wa_rows wf_count wf_looks ++ z) (fun o w1 => o = some (.int 1) ∧ ∃ (a b : Nat) (y : va_W), w1 = (hx_w (hq_q q a) cI cZ cL (some b) ha_parents hf_classCount ha_classes ha_sizes ha_fields hf_objectCount hf_roots hf_changed sa_linkedFrom sa_linkCounts sa_retainedSets sa_retainedSizes sa_dominators sa_immediateDominators sf_objectCount sf_roots sf_reachable t1 t2 (nI k) t4 t5 t6 t7 t8 wa_rows wf_count wf_looks ++ (rd_c (hq_q q a) (nI x) :: (z ++ y))) ∧ hd_ch l D A (hq_q q a) cI cZ cL (zp (z.length + 1) y) hg us (some b)) (x + 1) (4 * x + 2) := by
  refine hq_ofn (by decide) ?_ (Nat.le_of_ble_eq_true rfl)
  intro p e s m below meth c R args Q hRm hQ hx hb hr hml hts hown hlocks hnm hP hK hD hA hN ls hl hS
  have hl : lv_has ls 3 [(0, .ref (q 0)), (1, .int 24), (2, .int l2)] := hl
  have hown : s.vm.findClass "HeapQueries" = some m.cls := hown
  have hRc : R.cells = x + 1 := by rw [hRm]
  have hRs : R.slots = 4 * x + 2 := by rw [hRm]
  refine lv_aload_n hx hb dxq_token_0 rfl (lv_at hl 0 rfl) ?_
  refine lv_iload_n hx hb dxq_token_1 rfl (lv_at hl 1 rfl) ?_
  refine lv_iload_n hx hb dxq_token_2 rfl (lv_at hl 2 rfl) ?_
  refine kxq_isNumberAllowed 24 l2 1 ha hx hb hml hts hown hK hP hD hS wi_725 (by rw [hRm]; exact ⟨Nat.le_of_ble_eq_true rfl, Nat.le_of_ble_eq_true rfl⟩) hl.1 (Nat.le_of_ble_eq_true rfl) dxq_token_3 ⟨Nat.zero_le _, Nat.zero_le _⟩ (fun H locs hP hD hS => ?_)
  refine lv_if_eq (tgt := 21) hx hb dxq_token_6 (by decide) (fun hc => absurd hc (by decide)) (fun _ => ?_)
  refine lv_aload_n hx hb dxq_token_9 rfl (lv_at hl 0 rfl) ?_
  refine gx_0_text hx hb hts hown hK hP wi_52 dxq_token_10 ?_
  refine lv_iload_n hx hb dxq_token_13 rfl (lv_at hl 1 rfl) ?_
  refine lv_iload_n hx hb dxq_token_14 rfl (lv_at hl 2 rfl) ?_
  refine kxt_take 24 l2 _ ht hx hb hml hts hown hK hP hD hS wi_726 (by rw [hRm]; exact ⟨Nat.le_of_ble_eq_true rfl, Nat.le_of_ble_eq_true rfl⟩) hl.1 (Nat.le_of_ble_eq_true rfl) dxq_token_15 ⟨Nat.zero_le _, Nat.zero_le _⟩ (fun H locs hP hD hS => ?_)
  refine lv_if_ne (tgt := 23) hx hb dxq_token_18 (by decide) (fun _ => ?_) (fun hc => absurd (show (1 : Int32) = 0 from hc) (by decide))
  refine lv_iload_n hx hb dxq_token_23 rfl (lv_at hl 1 rfl) ?_
  refine lv_bipush (v := 24) hx hb dxq_token_24 (by decide) ?_
  refine lv_icmp_ne (tgt := 48) hx hb dxq_token_26 (by decide) (fun h9 => absurd rfl h9) (fun _ => ?_)
  refine lv_aload_n hx hb dxq_token_29 rfl (lv_at hl 0 rfl) ?_
  refine va_new (ci := 8) (fs := [.null, .int 0]) hx hb hts hin_xr hty_xr hty_xr_ok hown (hts _ wi_727) (hts _ wi_728) (hts _ wi_598) hK hP hD hS hA rfl hq_jxr (by rw [hRc]; omega) (by rw [hRs]; omega) dxq_token_30 (fun a H hP hD hS => ?_)
  have hP := hz_mw1 hP
  have hD := hz_mw2 hD
  refine lv_dup hx hb dxq_token_33 rfl ?_
  refine lv_aload_n hx hb dxq_token_34 rfl (lv_at hl 0 rfl) ?_
  refine gx_0_text hx hb hts hown hK hP wi_52 dxq_token_35 ?_
  refine hq_callI (As := [.ref (q 3)]) (b := a) hx hb hml hown hts hK hP hD hS (cxr_init (t := q 3) (hz_at19 rfl)) wi_729 wi_730 wi_598 wi_731 rfl 1 rfl (by decide +kernel) ⟨rfl, rfl⟩ (by rw [hRm]; exact ⟨Nat.le_of_ble_eq_true rfl, Nat.le_of_ble_eq_true rfl⟩) hl.1 rfl (Nat.le_of_ble_eq_true rfl) dxq_token_38 (by rw [hRc, hRs]; exact ⟨by omega, by omega⟩) (fun H locs hP hD hS => ?_)
  rw [hz_set19 rfl] at hP hD
  have hP : va_P D hq_cl (hx_w (hq_q q a) cI cZ cL xq_query ha_parents hf_classCount ha_classes ha_sizes ha_fields hf_objectCount hf_roots hf_changed sa_linkedFrom sa_linkCounts sa_retainedSets sa_retainedSizes sa_dominators sa_immediateDominators sf_objectCount sf_roots sf_reachable t1 t2 (nI k) t4 t5 t6 t7 t8 wa_rows wf_count wf_looks ++ (rd_c (hq_q q a) (nI 0) :: z)) H := hP
  have hD : va_D A (hx_w (hq_q q a) cI cZ cL xq_query ha_parents hf_classCount ha_classes ha_sizes ha_fields hf_objectCount hf_roots hf_changed sa_linkedFrom sa_linkCounts sa_retainedSets sa_retainedSizes sa_dominators sa_immediateDominators sf_objectCount sf_roots sf_reachable t1 t2 (nI k) t4 t5 t6 t7 t8 wa_rows wf_count wf_looks ++ (rd_c (hq_q q a) (nI 0) :: z)) := hD
  refine lv_iconst (v := nI 0) hx hb dxq_token_41 (by decide) ?_
  have hM := cxr_readQ (l := l) (D := D) (A := A) (q := hq_q q a) (cI := cI) (cZ := cZ) (cL := cL) (xq_query := xq_query) (ha_parents := ha_parents) (hf_classCount := hf_classCount) (ha_classes := ha_classes) (ha_sizes := ha_sizes) (ha_fields := ha_fields) (hf_objectCount := hf_objectCount) (hf_roots := hf_roots) (hf_changed := hf_changed) (sa_linkedFrom := sa_linkedFrom) (sa_linkCounts := sa_linkCounts) (sa_retainedSets := sa_retainedSets) (sa_retainedSizes := sa_retainedSizes) (sa_dominators := sa_dominators) (sa_immediateDominators := sa_immediateDominators) (sf_objectCount := sf_objectCount) (sf_roots := sf_roots) (sf_reachable := sf_reachable) (ta_codes := t1) (ta_numbers := t2) (tf_count := nI k) (ta_brackets := t4) (tf_bracketCount := t5) (tf_place := t6) (tf_inWhere := t7) (tf_compared := t8) (wa_rows := wa_rows) (wf_count := wf_count) (wf_looks := wf_looks) hk rfl 100 100 0 0 z (us, hg, x) hu
  refine hq_callVn (q0 := 19) (mc := x) (ms := 4 * x) (As := [.int (nI 0)]) (b := a) (ci := 8) hx hb hml hown hts hK hA hN hP hD hS hM (hz_at19 rfl) rfl wi_732 wi_680 wi_681 wi_598 wi_682 1 rfl (by decide +kernel) ⟨rfl, rfl⟩ (by rw [hRm]; exact ⟨Nat.le_of_ble_eq_true rfl, Nat.le_of_ble_eq_true rfl⟩) hl.1 rfl (Nat.le_of_ble_eq_true rfl) dxq_token_42 (by rw [hRc, hRs]; exact ⟨by omega, by omega⟩) (fun o w1 H locs hpost hP hD hS => ?_)
  obtain ⟨b, y, rfl, rfl, hch⟩ := hpost
  refine px_0_query (q := hq_q q a) (r := some b) hx hb hts hown hK hP hD hS wi_691 dxq_token_45 (fun H locs hP hD hS => ?_)
  refine lv_iconst (v := 1) hx hb dxq_token_48 (by decide) ?_
  exact hq_zretn hx hb hr hlocks hQ (by omega) (by omega) hK hP hD hS (Or.inr rfl) ⟨rfl, a, b, y, rfl, hch⟩ dxq_token_49
end
