/-! codes and numbers behind a place; readStep -/
def rd_cd (a : Nat → Int32) (k p : Nat) : Int32 := if p < k then a p else 24
def rd_nu (a : Nat → Int32) (k p : Nat) : Int32 := if p < k then a p else 0
theorem rd_codeAt {a : Nat → Int32} {k p : Nat} (hk : k ≤ 40) (hp : p < 2 ^ 31) : sxt_codeAt (nI p) a (nI k) = some (rd_cd a k p) := by
  unfold sxt_codeAt rd_cd
  rw [if_neg (nI_pos hp)]
  by_cases h : p < k
  · rw [if_neg (hh_nle h (by omega)), if_pos (hb_I (by omega) (by omega)), nI_clamp hp, if_pos h]
  · rw [if_pos ((nI_leI (by omega) hp).mpr (by omega)), if_neg h]
theorem rd_numberAt {a : Nat → Int32} {k p : Nat} (hk : k ≤ 40) (hp : p < 2 ^ 31) : sxt_numberAt (nI p) a (nI k) = some (rd_nu a k p) := by
  unfold sxt_numberAt rd_nu
  rw [if_neg (nI_pos hp)]
  by_cases h : p < k
  · rw [if_neg (hh_nle h (by omega)), if_pos (hb_I (by omega) (by omega)), nI_clamp hp, if_pos h]
  · rw [if_pos ((nI_leI (by omega) hp).mpr (by omega)), if_neg h]
theorem rd_code {a : Nat → Int32} {k p : Nat} (hk : k ≤ 40) (hp : p < 2 ^ 31) : sxr_code a (nI k) (nI p) = some (rd_cd a k p) := by
  unfold sxr_code
  rw [rd_codeAt hk hp]
  rfl
theorem rd_skipY {a : Nat → Int32} {k p : Nat} {x : Int32} (hk : k ≤ 40) (hp : p < 2 ^ 31) (h : rd_cd a k p = x) : sxr_skip x a (nI k) (nI p) = some (1, nI (p + 1)) := by
  unfold sxr_skip
  rw [rd_code hk hp, Option.bind_some, if_pos h]
  unfold sxr_skip_J13
  rw [if_neg (by decide), if_pos (Or.inr rfl), nI_1]
theorem rd_skipN {a : Nat → Int32} {k p : Nat} {x : Int32} (hk : k ≤ 40) (hp : p < 2 ^ 31) (h : ¬ rd_cd a k p = x) : sxr_skip x a (nI k) (nI p) = some (0, nI p) := by
  unfold sxr_skip
  rw [rd_code hk hp, Option.bind_some, if_neg h]
  rfl
theorem rd_lt {a : Nat → Int32} {k p : Nat} (h : ¬ rd_cd a k p = 24) : p < k := by
  apply Classical.byContradiction
  intro q
  exact h (if_neg q)
/-- a cell behind the reader -/
theorem hz_mid {X z1 z2 : va_W} {r c : Nat × va_E} {n : Nat} (hX : X.length = n) : (X ++ (r :: (z1 ++ c :: z2)))[n + (z1.length + 1)]? = some c := by
  refine hq_app hX ?_
  show (z1 ++ c :: z2)[z1.length]? = some c
  rw [List.getElem?_append_right (Nat.le_refl _), Nat.sub_self]
  rfl
theorem hz_setm {X z1 z2 : va_W} {r c c' : Nat × va_E} {n : Nat} (hX : X.length = n) : (X ++ (r :: (z1 ++ c :: z2))).set (n + (z1.length + 1)) c' = X ++ (r :: (z1 ++ c' :: z2)) := by
  subst hX
  rw [List.set_append_right _ _ (Nat.le_add_right _ _), Nat.add_sub_cancel_left]
  show X ++ (r :: (z1 ++ c :: z2).set z1.length c') = _
  rw [List.set_append_right _ _ (Nat.le_refl _), Nat.sub_self]
  rfl
theorem hz_as {X z y : va_W} {r : Nat × va_E} : (X ++ (r :: z)) ++ y = X ++ (r :: (z ++ y)) := by rw [List.append_assoc]; rfl
theorem dxr_readStep_0 : decode bxr_readStep 0 = .ok (.new 74, 3) := by decide +kernel
theorem dxr_readStep_3 : decode bxr_readStep 3 = .ok (.dup, 1) := by decide +kernel
theorem dxr_readStep_4 : decode bxr_readStep 4 = .ok (.aload_n 0, 1) := by decide +kernel
theorem dxr_readStep_5 : decode bxr_readStep 5 = .ok (.invokevirtual 51, 3) := by decide +kernel
theorem dxr_readStep_8 : decode bxr_readStep 8 = .ok (.aload_n 0, 1) := by decide +kernel
theorem dxr_readStep_9 : decode bxr_readStep 9 = .ok (.getfield 9, 3) := by decide +kernel
theorem dxr_readStep_12 : decode bxr_readStep 12 = .ok (.aload_n 0, 1) := by decide +kernel
theorem dxr_readStep_13 : decode bxr_readStep 13 = .ok (.getfield 58, 3) := by decide +kernel
theorem dxr_readStep_16 : decode bxr_readStep 16 = .ok (.invokevirtual 62, 3) := by decide +kernel
theorem dxr_readStep_19 : decode bxr_readStep 19 = .ok (.aload_n 1, 1) := by decide +kernel
theorem dxr_readStep_20 : decode bxr_readStep 20 = .ok (.aconst_null, 1) := by decide +kernel
theorem dxr_readStep_21 : decode bxr_readStep 21 = .ok (.invokespecial 76, 3) := by decide +kernel
theorem dxr_readStep_24 : decode bxr_readStep 24 = .ok (.astore_n 2, 1) := by decide +kernel
theorem dxr_readStep_25 : decode bxr_readStep 25 = .ok (.aload_n 0, 1) := by decide +kernel
theorem dxr_readStep_26 : decode bxr_readStep 26 = .ok (.dup, 1) := by decide +kernel
theorem dxr_readStep_27 : decode bxr_readStep 27 = .ok (.getfield 58, 3) := by decide +kernel
theorem dxr_readStep_30 : decode bxr_readStep 30 = .ok (.iconst 1, 1) := by decide +kernel
theorem dxr_readStep_31 : decode bxr_readStep 31 = .ok (.iadd, 1) := by decide +kernel
theorem dxr_readStep_32 : decode bxr_readStep 32 = .ok (.putfield 58, 3) := by decide +kernel
theorem dxr_readStep_35 : decode bxr_readStep 35 = .ok (.aload_n 2, 1) := by decide +kernel
theorem dxr_readStep_36 : decode bxr_readStep 36 = .ok (.areturn, 1) := by decide +kernel
section
variable {l : Launch} {D : va_G} {A : Nat → Prop} {z w : va_W} {q : Nat → Nat} {cI cZ cL : ClassId}
variable {hf_classCount hf_objectCount hf_roots hf_changed sf_objectCount sf_roots sf_reachable tf_count tf_bracketCount tf_place tf_inWhere tf_compared wf_count wf_looks rf_at n_code n_number s_isDistinct s_isRetained s_sourceClass s_withDescendants : Int32}
variable {ha_parents ha_classes ha_sizes sa_linkedFrom sa_linkCounts sa_retainedSets sa_retainedSizes sa_dominators sa_immediateDominators ta_codes ta_numbers ta_brackets : Nat → Int32}
variable {ha_fields wa_rows : Nat → Int64}
variable {xq_query n_left n_right s_row s_nested s_condition s_next : Option Nat}
variable {pa_n pk_n pa_s pk_s : Nat}
set_option maxHeartbeats 4000000 in
set_option maxRecDepth 100000 in
theorem cxr_readStep {k p : Nat} (hk : k ≤ 40) (hp : p ≤ 40) (r : Option Nat) (htc : tf_count = nI k) :
    hq_Cn l yxr_readStep bxr_readStep 3 (some (.object "HeapQueries$Node")) { frames := 2, cells := 1, slots := 4, locals := 50 } D (hq_tys cI cZ cL) A [.ref (q 19), va_rf r] (hx_w q cI cZ cL xq_query ha_parents hf_classCount ha_classes ha_sizes ha_fields hf_objectCount hf_roots hf_changed sa_linkedFrom sa_linkCounts sa_retainedSets sa_retainedSizes sa_dominators sa_immediateDominators sf_objectCount sf_roots sf_reachable ta_codes ta_numbers tf_count ta_brackets tf_bracketCount tf_place tf_inWhere tf_compared wa_rows wf_count wf_looks ++ (rd_c q (nI p) :: z))
      (fun o w1 => ∃ a, o = some (va_rf (some a)) ∧ w1 = (hx_w q cI cZ cL xq_query ha_parents hf_classCount ha_classes ha_sizes ha_fields hf_objectCount hf_roots hf_changed sa_linkedFrom sa_linkCounts sa_retainedSets sa_retainedSizes sa_dominators sa_immediateDominators sf_objectCount sf_roots sf_reachable ta_codes ta_numbers tf_count ta_brackets tf_bracketCount tf_place tf_inWhere tf_compared wa_rows wf_count wf_looks ++ (rd_c q (nI (p + 1)) :: (z ++ [(a, .inr (7, [.int (rd_cd ta_codes k p), .int (rd_nu ta_numbers k p), va_rf r, va_rf none]))])))) 1 4 := by
  refine hq_ofn (by decide) ?_ (by cases r <;> exact Nat.le_of_ble_eq_true rfl)
  intro p' e s m below meth c R args Q hRm hQ hx hb hr hml hts hown hlocks hnm hP hK hD hA hN ls hl hS
  have hla : lv_args 0 [.ref (q 19), va_rf r] = [(0, .ref (q 19)), (1, va_rf r)] := by cases r <;> rfl
  rw [hla] at hl
  have hown : s.vm.findClass "HeapQueries$Reader" = some m.cls := hown
  have hcode := rd_code (a := ta_codes) hk (show p < 2 ^ 31 by omega)
  have hnum := rd_numberAt (a := ta_numbers) hk (show p < 2 ^ 31 by omega)
  rw [← htc] at hcode hnum
  refine va_new (ci := 7) (fs := [.int 0, .int 0, .null, .null]) hx hb hts hin_xn hty_xn hty_xn_ok hown (hts _ wi_618) (hts _ wi_619) (hts _ wi_620) hK hP hD hS hA rfl (fun j hj => by rcases (show j = 0 ∨ j = 1 ∨ j = 2 ∨ j = 3 by omega) with rfl | rfl | rfl | rfl <;> rfl) (by rw [hRm]; exact Nat.le_of_ble_eq_true rfl) (by rw [hRm]; exact Nat.le_of_ble_eq_true rfl) dxr_readStep_0 (fun a H hP hD hS => ?_)
  rw [hz_as] at hP hD
  refine lv_dup hx hb dxr_readStep_3 rfl ?_
  refine lv_aload_n hx hb dxr_readStep_4 rfl (lv_at hl 0 rfl) ?_
  refine kxr_code _ hcode hx hb hml hts hown hK hP hD hS wi_606 (by rw [hRm]; exact ⟨Nat.le_of_ble_eq_true rfl, Nat.le_of_ble_eq_true rfl⟩) hl.1 (Nat.le_of_ble_eq_true rfl) dxr_readStep_5 (by rw [hRm]; exact ⟨Nat.le_of_ble_eq_true rfl, Nat.le_of_ble_eq_true rfl⟩) (fun H locs hP hD hS => ?_)
  refine lv_aload_n hx hb dxr_readStep_8 rfl (lv_at hl 0 rfl) ?_
  refine gr_19_text hx hb hts hown hK hP wi_600 dxr_readStep_9 ?_
  refine lv_aload_n hx hb dxr_readStep_12 rfl (lv_at hl 0 rfl) ?_
  refine gr_19_at hx hb hts hown hK hP wi_601 dxr_readStep_13 ?_
  refine kxt_numberAt _ _ hnum hx hb hml hts hown hK hP hD hS wi_621 (by rw [hRm]; exact ⟨Nat.le_of_ble_eq_true rfl, Nat.le_of_ble_eq_true rfl⟩) hl.1 (Nat.le_of_ble_eq_true rfl) dxr_readStep_16 (by rw [hRm]; exact ⟨Nat.le_of_ble_eq_true rfl, Nat.le_of_ble_eq_true rfl⟩) (fun H locs hP hD hS => ?_)
  refine hq_aload_n hx hb dxr_readStep_19 rfl (lv_at hl 1 rfl) ?_
  refine hq_null hx hb dxr_readStep_20 ?_
  refine hq_callI hx hb hml hown hts hK hP hD hS (cxn_init (rd_cd ta_codes k p) (rd_nu ta_numbers k p) r none (hz_mid (z2 := []) rfl)) wi_622 wi_623 wi_620 wi_624 rfl 4 rfl (by decide +kernel) ⟨rfl, rfl⟩ (by rw [hRm]; exact ⟨Nat.le_of_ble_eq_true rfl, Nat.le_of_ble_eq_true rfl⟩) hl.1 rfl (Nat.le_of_ble_eq_true rfl) dxr_readStep_21 (by rw [hRm]; exact ⟨Nat.le_of_ble_eq_true rfl, Nat.le_of_ble_eq_true rfl⟩) (fun H locs hP hD hS => ?_)
  rw [hz_setm rfl] at hP hD
  refine lv_astore_n (lv' := [(2, .ref a), (0, .ref (q 19)), (1, va_rf r)]) hx hb dxr_readStep_24 rfl hl (by decide) (by cases r <;> rfl) (fun ls hl => ?_)
  refine lv_aload_n hx hb dxr_readStep_25 rfl (lv_at hl 1 rfl) ?_
  refine lv_dup hx hb dxr_readStep_26 rfl ?_
  refine gr_19_at hx hb hts hown hK hP wi_601 dxr_readStep_27 ?_
  refine lv_iconst (v := 1) hx hb dxr_readStep_30 (by decide) ?_
  refine lv_iadd hx hb dxr_readStep_31 ?_
  refine pr_19_at hx hb hts hown hK hP hD hS wi_601 dxr_readStep_32 (fun H locs hP hD hS => ?_)
  rw [nI_1] at hP hD
  refine lv_aload_n hx hb dxr_readStep_35 rfl (lv_at hl 0 rfl) ?_
  exact hq_aretn (r := some a) hx hb hr hlocks hQ (Nat.le_refl _) (Nat.le_refl _) hK hP hD hS ⟨a, rfl, rfl⟩ dxr_readStep_36
end
