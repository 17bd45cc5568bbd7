/-! readE -/
theorem rd_loop_ge {c : Nat → Int32} {rec : Int32 → Nat → Option (hd_X × Nat × Nat)} {L : Int32} : ∀ (m : Nat) (d : hd_X) (h p : Nat) (u : hd_X × Nat × Nat), rd_loop c rec L m d h p = some u → p ≤ u.2.2 ∧ u.2.2 ≤ 40 := by
  intro m
  induction m with
  | zero => intro d h p u hu; cases hu
  | succ m ih =>
    intro d h p u hu
    obtain ⟨hp, hu⟩ := hq_ok (show (if p ≤ 40 then (if sxr_levelOf (c p) < L then some (d, h, p) else (rec (sxr_levelOf (c p) + 1) (p + 1)).bind fun u => if p + 2 ≤ u.2.2 then rd_loop c rec L m (hd_bin (c p) 0 d u.1) (max h u.2.1 + 1) u.2.2 else none) else none) = some u from hu)
    by_cases hc : sxr_levelOf (c p) < L
    · rw [if_pos hc] at hu
      cases hu
      exact ⟨Nat.le_refl _, hp⟩
    · rw [if_neg hc] at hu
      obtain ⟨v, _, hu⟩ := hq_bind hu
      obtain ⟨hv, hu⟩ := hq_ok hu
      have := ih _ _ _ _ hu
      exact ⟨by omega, this.2⟩
theorem hz_mv {z y : va_W} {c : Nat × va_E} : (z ++ [c]) ++ y = z ++ (c :: y) := by rw [List.append_assoc]; rfl
theorem dxr_readE_0 : decode bxr_readE 0 = .ok (.iload_n 2, 1) := by decide +kernel
theorem dxr_readE_1 : decode bxr_readE 1 = .ok (.bipush 40, 2) := by decide +kernel
theorem dxr_readE_3 : decode bxr_readE 3 = .ok (.if_icmp .le 5, 3) := by decide +kernel
theorem dxr_readE_6 : decode bxr_readE 6 = .ok (.aconst_null, 1) := by decide +kernel
theorem dxr_readE_7 : decode bxr_readE 7 = .ok (.areturn, 1) := by decide +kernel
theorem dxr_readE_8 : decode bxr_readE 8 = .ok (.aload_n 0, 1) := by decide +kernel
theorem dxr_readE_9 : decode bxr_readE 9 = .ok (.bipush 17, 2) := by decide +kernel
theorem dxr_readE_11 : decode bxr_readE 11 = .ok (.invokevirtual 19, 3) := by decide +kernel
theorem dxr_readE_14 : decode bxr_readE 14 = .ok (.ifCond .eq 25, 3) := by decide +kernel
theorem dxr_readE_17 : decode bxr_readE 17 = .ok (.new 74, 3) := by decide +kernel
theorem dxr_readE_20 : decode bxr_readE 20 = .ok (.dup, 1) := by decide +kernel
theorem dxr_readE_21 : decode bxr_readE 21 = .ok (.bipush 17, 2) := by decide +kernel
theorem dxr_readE_23 : decode bxr_readE 23 = .ok (.iconst 0, 1) := by decide +kernel
theorem dxr_readE_24 : decode bxr_readE 24 = .ok (.aload_n 0, 1) := by decide +kernel
theorem dxr_readE_25 : decode bxr_readE 25 = .ok (.iconst 3, 1) := by decide +kernel
theorem dxr_readE_26 : decode bxr_readE 26 = .ok (.iload_n 2, 1) := by decide +kernel
theorem dxr_readE_27 : decode bxr_readE 27 = .ok (.iconst 1, 1) := by decide +kernel
theorem dxr_readE_28 : decode bxr_readE 28 = .ok (.iadd, 1) := by decide +kernel
theorem dxr_readE_29 : decode bxr_readE 29 = .ok (.invokevirtual 37, 3) := by decide +kernel
theorem dxr_readE_32 : decode bxr_readE 32 = .ok (.aconst_null, 1) := by decide +kernel
theorem dxr_readE_33 : decode bxr_readE 33 = .ok (.invokespecial 76, 3) := by decide +kernel
theorem dxr_readE_36 : decode bxr_readE 36 = .ok (.goto 8, 3) := by decide +kernel
theorem dxr_readE_39 : decode bxr_readE 39 = .ok (.aload_n 0, 1) := by decide +kernel
theorem dxr_readE_40 : decode bxr_readE 40 = .ok (.iload_n 2, 1) := by decide +kernel
theorem dxr_readE_41 : decode bxr_readE 41 = .ok (.invokevirtual 79, 3) := by decide +kernel
theorem dxr_readE_44 : decode bxr_readE 44 = .ok (.astore_n 3, 1) := by decide +kernel
theorem dxr_readE_45 : decode bxr_readE 45 = .ok (.iconst 0, 1) := by decide +kernel
theorem dxr_readE_46 : decode bxr_readE 46 = .ok (.istore 4, 2) := by decide +kernel
theorem dxr_readE_48 : decode bxr_readE 48 = .ok (.iload 4, 2) := by decide +kernel
theorem dxr_readE_50 : decode bxr_readE 50 = .ok (.bipush 40, 2) := by decide +kernel
theorem dxr_readE_52 : decode bxr_readE 52 = .ok (.if_icmp .ge 62, 3) := by decide +kernel
theorem dxr_readE_55 : decode bxr_readE 55 = .ok (.aload_n 0, 1) := by decide +kernel
theorem dxr_readE_56 : decode bxr_readE 56 = .ok (.invokevirtual 51, 3) := by decide +kernel
theorem dxr_readE_59 : decode bxr_readE 59 = .ok (.invokestatic 83, 3) := by decide +kernel
theorem dxr_readE_62 : decode bxr_readE 62 = .ok (.iload_n 1, 1) := by decide +kernel
theorem dxr_readE_63 : decode bxr_readE 63 = .ok (.if_icmp .lt 51, 3) := by decide +kernel
theorem dxr_readE_66 : decode bxr_readE 66 = .ok (.aload_n 0, 1) := by decide +kernel
theorem dxr_readE_67 : decode bxr_readE 67 = .ok (.invokevirtual 51, 3) := by decide +kernel
theorem dxr_readE_70 : decode bxr_readE 70 = .ok (.istore 5, 2) := by decide +kernel
theorem dxr_readE_72 : decode bxr_readE 72 = .ok (.aload_n 0, 1) := by decide +kernel
theorem dxr_readE_73 : decode bxr_readE 73 = .ok (.dup, 1) := by decide +kernel
theorem dxr_readE_74 : decode bxr_readE 74 = .ok (.getfield 58, 3) := by decide +kernel
theorem dxr_readE_77 : decode bxr_readE 77 = .ok (.iconst 1, 1) := by decide +kernel
theorem dxr_readE_78 : decode bxr_readE 78 = .ok (.iadd, 1) := by decide +kernel
theorem dxr_readE_79 : decode bxr_readE 79 = .ok (.putfield 58, 3) := by decide +kernel
theorem dxr_readE_82 : decode bxr_readE 82 = .ok (.new 74, 3) := by decide +kernel
theorem dxr_readE_85 : decode bxr_readE 85 = .ok (.dup, 1) := by decide +kernel
theorem dxr_readE_86 : decode bxr_readE 86 = .ok (.iload 5, 2) := by decide +kernel
theorem dxr_readE_88 : decode bxr_readE 88 = .ok (.iconst 0, 1) := by decide +kernel
theorem dxr_readE_89 : decode bxr_readE 89 = .ok (.aload_n 3, 1) := by decide +kernel
theorem dxr_readE_90 : decode bxr_readE 90 = .ok (.aload_n 0, 1) := by decide +kernel
theorem dxr_readE_91 : decode bxr_readE 91 = .ok (.iload 5, 2) := by decide +kernel
theorem dxr_readE_93 : decode bxr_readE 93 = .ok (.invokestatic 83, 3) := by decide +kernel
theorem dxr_readE_96 : decode bxr_readE 96 = .ok (.iconst 1, 1) := by decide +kernel
theorem dxr_readE_97 : decode bxr_readE 97 = .ok (.iadd, 1) := by decide +kernel
theorem dxr_readE_98 : decode bxr_readE 98 = .ok (.iload_n 2, 1) := by decide +kernel
theorem dxr_readE_99 : decode bxr_readE 99 = .ok (.iconst 1, 1) := by decide +kernel
theorem dxr_readE_100 : decode bxr_readE 100 = .ok (.iadd, 1) := by decide +kernel
theorem dxr_readE_101 : decode bxr_readE 101 = .ok (.invokevirtual 37, 3) := by decide +kernel
theorem dxr_readE_104 : decode bxr_readE 104 = .ok (.invokespecial 76, 3) := by decide +kernel
theorem dxr_readE_107 : decode bxr_readE 107 = .ok (.astore_n 3, 1) := by decide +kernel
theorem dxr_readE_108 : decode bxr_readE 108 = .ok (.iinc 4 1, 3) := by decide +kernel
theorem dxr_readE_111 : decode bxr_readE 111 = .ok (.goto (-63), 3) := by decide +kernel
theorem dxr_readE_114 : decode bxr_readE 114 = .ok (.aload_n 3, 1) := by decide +kernel
theorem dxr_readE_115 : decode bxr_readE 115 = .ok (.areturn, 1) := by decide +kernel
section
variable {l : Launch} {D : va_G} {A : Nat → Prop} {z w : va_W} {q : Nat → Nat} {cI cZ cL : ClassId}
variable {hf_classCount hf_objectCount hf_roots hf_changed sf_objectCount sf_roots sf_reachable tf_count tf_bracketCount tf_place tf_inWhere tf_compared wf_count wf_looks rf_at n_code n_number s_isDistinct s_isRetained s_sourceClass s_withDescendants : Int32}
variable {ha_parents ha_classes ha_sizes sa_linkedFrom sa_linkCounts sa_retainedSets sa_retainedSizes sa_dominators sa_immediateDominators ta_codes ta_numbers ta_brackets : Nat → Int32}
variable {ha_fields wa_rows : Nat → Int64}
variable {xq_query n_left n_right s_row s_nested s_condition s_next : Option Nat}
variable {pa_n pk_n pa_s pk_s : Nat}
set_option maxHeartbeats 8000000 in
set_option maxRecDepth 100000 in
theorem cxr_readE1 {k p dep : Nat} (hk : k ≤ 40) (hdp : dep ≤ p) (htc : tf_count = nI k) (L : Int32) (mm : Nat)
    (hrec : ∀ (L : Int32) (dep p : Nat) (z : va_W) (u : hd_X × Nat × Nat), rd_E (rd_cd ta_codes k) (rd_nu ta_numbers k) mm L p = some u → dep ≤ p → hq_Cn l yxr_readE bxr_readE 6 (some (.object "HeapQueries$Node")) (rd_rmE dep (u.2.2 - p)) D (hq_tys cI cZ cL) A [.ref (q 19), .int L, .int (nI dep)] (hx_w q cI cZ cL xq_query ha_parents hf_classCount ha_classes ha_sizes ha_fields hf_objectCount hf_roots hf_changed sa_linkedFrom sa_linkCounts sa_retainedSets sa_retainedSizes sa_dominators sa_immediateDominators sf_objectCount sf_roots sf_reachable ta_codes ta_numbers tf_count ta_brackets tf_bracketCount tf_place tf_inWhere tf_compared wa_rows wf_count wf_looks ++ (rd_c q (nI p) :: z)) (rd_Po l D A q cI cZ cL (hx_w q cI cZ cL xq_query ha_parents hf_classCount ha_classes ha_sizes ha_fields hf_objectCount hf_roots hf_changed sa_linkedFrom sa_linkCounts sa_retainedSets sa_retainedSizes sa_dominators sa_immediateDominators sf_objectCount sf_roots sf_reachable ta_codes ta_numbers tf_count ta_brackets tf_bracketCount tf_place tf_inWhere tf_compared wa_rows wf_count wf_looks) z u.1 u.2.1 u.2.2) (u.2.2 - p) (4 * (u.2.2 - p)))
    (u : hd_X × Nat × Nat) (hu : rd_E (rd_cd ta_codes k) (rd_nu ta_numbers k) (mm + 1) L p = some u) :
    hq_Cn l yxr_readE bxr_readE 6 (some (.object "HeapQueries$Node")) (rd_rmE dep (u.2.2 - p)) D (hq_tys cI cZ cL) A [.ref (q 19), .int L, .int (nI dep)] (hx_w q cI cZ cL xq_query ha_parents hf_classCount ha_classes ha_sizes ha_fields hf_objectCount hf_roots hf_changed sa_linkedFrom sa_linkCounts sa_retainedSets sa_retainedSizes sa_dominators sa_immediateDominators sf_objectCount sf_roots sf_reachable ta_codes ta_numbers tf_count ta_brackets tf_bracketCount tf_place tf_inWhere tf_compared wa_rows wf_count wf_looks ++ (rd_c q (nI p) :: z)) (rd_Po l D A q cI cZ cL (hx_w q cI cZ cL xq_query ha_parents hf_classCount ha_classes ha_sizes ha_fields hf_objectCount hf_roots hf_changed sa_linkedFrom sa_linkCounts sa_retainedSets sa_retainedSizes sa_dominators sa_immediateDominators sf_objectCount sf_roots sf_reachable ta_codes ta_numbers tf_count ta_brackets tf_bracketCount tf_place tf_inWhere tf_compared wa_rows wf_count wf_looks) z u.1 u.2.1 u.2.2) (u.2.2 - p) (4 * (u.2.2 - p)) := by
  obtain ⟨hp, hu⟩ := hq_ok (show (if p ≤ 40 then (if rd_cd ta_codes k p = 17 then (if L ≤ 3 then (rd_E (rd_cd ta_codes k) (rd_nu ta_numbers k) mm 3 (p + 1)).bind fun u => if p + 2 ≤ u.2.2 then rd_loop (rd_cd ta_codes k) (rd_E (rd_cd ta_codes k) (rd_nu ta_numbers k) mm) L 100 (hd_un 17 0 u.1) (u.2.1 + 1) u.2.2 else none else none) else (rd_M (rd_cd ta_codes k) (rd_nu ta_numbers k) (rd_E (rd_cd ta_codes k) (rd_nu ta_numbers k) mm) p).bind fun u => if p + 1 ≤ u.2.2 then rd_loop (rd_cd ta_codes k) (rd_E (rd_cd ta_codes k) (rd_nu ta_numbers k) mm) L 100 u.1 u.2.1 u.2.2 else none) else none) = some u from hu)
  have hd40 : dep ≤ 40 := by omega
  refine hq_ofn (by decide) ?_ (Nat.le_of_ble_eq_true rfl)
  intro p' e s m below meth c R args Q hRm hQ hx hb hr hml hts hown hlocks hnm hP hK hD hA hN ls hl hS
  have hl : lv_has ls 6 [(0, .ref (q 19)), (1, .int L), (2, .int (nI dep))] := hl
  have hown : s.vm.findClass "HeapQueries$Reader" = some m.cls := hown
  have hRc : R.cells = u.2.2 - p := by rw [hRm]; rfl
  have hRs : R.slots = 4 * (u.2.2 - p) := by rw [hRm]; rfl
  have hRf : ∀ x : Nat, (rd_rmE (dep + 1) x).frames + 1 ≤ R.frames ∧ 8 + (6 + 11) + (rd_rmE (dep + 1) x).locals ≤ R.locals := fun x => by
    rw [hRm]; unfold rd_rmE
    exact ⟨by show 2 * (42 - (dep + 1)) + 5 + 1 ≤ 2 * (42 - dep) + 5; omega, by show 8 + (6 + 11) + (60 * (42 - (dep + 1)) + 100) ≤ 60 * (42 - dep) + 100; omega⟩
  have LP : ∀ (n : Nat) (p1 j a h1 : Nat) (d1 : hd_X) (y : va_W) (ls : Array Slot) (H : Heap) (locs : List Loc), lv_has ls 6 [(4, .int (nI j)), (3, .ref a), (0, .ref (q 19)), (1, .int L), (2, .int (nI dep))] → va_P D hq_cl (hx_w q cI cZ cL xq_query ha_parents hf_classCount ha_classes ha_sizes ha_fields hf_objectCount hf_roots hf_changed sa_linkedFrom sa_linkCounts sa_retainedSets sa_retainedSizes sa_dominators sa_immediateDominators sf_objectCount sf_roots sf_reachable ta_codes ta_numbers tf_count ta_brackets tf_bracketCount tf_place tf_inWhere tf_compared wa_rows wf_count wf_looks ++ (rd_c q (nI p1) :: (z ++ y))) H → va_D A (hx_w q cI cZ cL xq_query ha_parents hf_classCount ha_classes ha_sizes ha_fields hf_objectCount hf_roots hf_changed sa_linkedFrom sa_linkCounts sa_retainedSets sa_retainedSizes sa_dominators sa_immediateDominators sf_objectCount sf_roots sf_reachable ta_codes ta_numbers tf_count ta_brackets tf_bracketCount tf_place tf_inWhere tf_compared wa_rows wf_count wf_looks ++ (rd_c q (nI p1) :: (z ++ y))) → va_S A s.heap H locs →
      hd_E l D A q cI cZ cL (zp (z.length + 1) y) (some a) h1 d1 → p ≤ p1 → j + 1 ≤ p1 → rd_loop (rd_cd ta_codes k) (rd_E (rd_cd ta_codes k) (rd_nu ta_numbers k) mm) L n d1 h1 p1 = some u → W p' l e R s m args below meth c H locs (p1 - p) (4 * (p1 - p)) Q (F0 m 48 ls []) := by
    intro n
    induction n with
    | zero => intro p1 j a h1 d1 y ls H locs hl hP hD hS hE hp1 hj hu; cases hu
    | succ n ih =>
      intro p1 j a h1 d1 y ls H locs hl hP hD hS hE hp1 hj hu
      have hge := rd_loop_ge _ _ _ _ _ hu
      obtain ⟨h40, hu⟩ := hq_ok (show (if p1 ≤ 40 then (if sxr_levelOf (rd_cd ta_codes k p1) < L then some (d1, h1, p1) else (rd_E (rd_cd ta_codes k) (rd_nu ta_numbers k) mm (sxr_levelOf (rd_cd ta_codes k p1) + 1) (p1 + 1)).bind fun v => if p1 + 2 ≤ v.2.2 then rd_loop (rd_cd ta_codes k) (rd_E (rd_cd ta_codes k) (rd_nu ta_numbers k) mm) L n (hd_bin (rd_cd ta_codes k p1) 0 d1 v.1) (max h1 v.2.1 + 1) v.2.2 else none) else none) = some u from hu)
      have hcode := rd_code (a := ta_codes) hk (show p1 < 2 ^ 31 by omega)
      rw [← htc] at hcode
      have hf : (p1 - p) + 0 ≤ R.cells ∧ 4 * (p1 - p) + 0 ≤ R.slots := by rw [hRc, hRs]; omega
      refine lv_iload hx hb dxr_readE_48 (lv_at hl 0 rfl) ?_
      refine lv_bipush (v := 40) hx hb dxr_readE_50 (by decide) ?_
      refine lv_icmp_ge (tgt := 114) hx hb dxr_readE_52 (by decide) (fun hc => ?_) (fun hc => ?_)
      · exact absurd ((nI_leI (a := 40) (by omega) (by omega)).mp hc) (by omega)
      · refine lv_aload_n hx hb dxr_readE_55 rfl (lv_at hl 2 rfl) ?_
        refine kxr_code _ hcode hx hb hml hts hown hK hP hD hS wi_606 (by rw [hRm]; exact rd_roomE hd40 (by decide) (by decide)) hl.1 (Nat.le_of_ble_eq_true rfl) dxr_readE_56 hf (fun H locs hP hD hS => ?_)
        refine kxr_levelOf _ _ rfl hx hb hml hts hown hK hP hD hS wi_634 (by rw [hRm]; exact rd_roomE hd40 (by decide) (by decide)) hl.1 (Nat.le_of_ble_eq_true rfl) dxr_readE_59 hf (fun H locs hP hD hS => ?_)
        refine lv_iload_n hx hb dxr_readE_62 rfl (lv_at hl 3 rfl) ?_
        refine lv_icmp_lt (tgt := 114) hx hb dxr_readE_63 (by decide) (fun hc => ?_) (fun hc => ?_)
        · rw [if_pos hc] at hu
          cases hu
          refine lv_aload_n hx hb dxr_readE_114 rfl (lv_at hl 1 rfl) ?_
          exact hq_aretn (r := some a) hx hb hr hlocks hQ (Nat.le_refl _) (Nat.le_refl _) hK hP hD hS ⟨a, y, rfl, rfl, hE⟩ dxr_readE_115
        · rw [if_neg hc] at hu
          obtain ⟨v, hv, hu⟩ := hq_bind hu
          obtain ⟨hv2, hu⟩ := hq_ok hu
          have hge2 := rd_loop_ge _ _ _ _ _ hu
          refine lv_aload_n hx hb dxr_readE_66 rfl (lv_at hl 2 rfl) ?_
          refine kxr_code _ hcode hx hb hml hts hown hK hP hD hS wi_606 (by rw [hRm]; exact rd_roomE hd40 (by decide) (by decide)) hl.1 (Nat.le_of_ble_eq_true rfl) dxr_readE_67 hf (fun H locs hP hD hS => ?_)
          refine lv_istore (lv' := [(5, .int (rd_cd ta_codes k p1)), (4, .int (nI j)), (3, .ref a), (0, .ref (q 19)), (1, .int L), (2, .int (nI dep))]) hx hb dxr_readE_70 hl (by decide) rfl (fun ls hl => ?_)
          refine lv_aload_n hx hb dxr_readE_72 rfl (lv_at hl 3 rfl) ?_
          refine lv_dup hx hb dxr_readE_73 rfl ?_
          refine gr_19_at hx hb hts hown hK hP wi_601 dxr_readE_74 ?_
          refine lv_iconst (v := 1) hx hb dxr_readE_77 (by decide) ?_
          refine lv_iadd hx hb dxr_readE_78 ?_
          refine pr_19_at hx hb hts hown hK hP hD hS wi_601 dxr_readE_79 (fun H locs hP hD hS => ?_)
          rw [nI_1] at hP hD
          refine va_new (ci := 7) (fs := [.int 0, .int 0, .null, .null]) hx hb hts hin_xn hty_xn hty_xn_ok hown (hts _ wi_618) (hts _ wi_619) (hts _ wi_620) hK hP hD hS hA rfl (fun j hj => by rcases (show j = 0 ∨ j = 1 ∨ j = 2 ∨ j = 3 by omega) with rfl | rfl | rfl | rfl <;> rfl) (by rw [hRc]; omega) (by rw [hRs]; omega) dxr_readE_82 (fun a2 H hP hD hS => ?_)
          rw [hz_as] at hP hD
          refine lv_dup hx hb dxr_readE_85 rfl ?_
          refine lv_iload hx hb dxr_readE_86 (lv_at hl 0 rfl) ?_
          refine lv_iconst (v := 0) hx hb dxr_readE_88 (by decide) ?_
          refine lv_aload_n hx hb dxr_readE_89 rfl (lv_at hl 2 rfl) ?_
          refine lv_aload_n hx hb dxr_readE_90 rfl (lv_at hl 3 rfl) ?_
          refine lv_iload hx hb dxr_readE_91 (lv_at hl 0 rfl) ?_
          refine kxr_levelOf _ _ rfl hx hb hml hts hown hK hP hD hS wi_634 (by rw [hRm]; exact rd_roomE hd40 (by decide) (by decide)) hl.1 (Nat.le_of_ble_eq_true rfl) dxr_readE_93 (by rw [hRc, hRs]; omega) (fun H locs hP hD hS => ?_)
          refine lv_iconst (v := 1) hx hb dxr_readE_96 (by decide) ?_
          refine lv_iadd hx hb dxr_readE_97 ?_
          refine lv_iload_n hx hb dxr_readE_98 rfl (lv_at hl 5 rfl) ?_
          refine lv_iconst (v := 1) hx hb dxr_readE_99 (by decide) ?_
          refine lv_iadd hx hb dxr_readE_100 ?_
          rw [nI_1]
          refine hq_callVn (q0 := 19) (mc := v.2.2 - (p1 + 1)) (ms := 4 * (v.2.2 - (p1 + 1))) hx hb hml hown hts hK hA hN hP hD hS (hrec (sxr_levelOf (rd_cd ta_codes k p1) + 1) (dep + 1) (p1 + 1) ((z ++ y) ++ [(a2, .inr (7, [.int 0, .int 0, .null, .null]))]) v hv (by omega)) rfl rfl wi_630 wi_631 wi_632 wi_598 wi_633 2 rfl (by decide +kernel) ⟨rfl, rfl⟩ (hRf _) hl.1 rfl (Nat.le_of_ble_eq_true rfl) dxr_readE_101 (by rw [hRc, hRs]; omega) (fun o w1 H locs hpost hP hD hS => ?_)
          obtain ⟨a3, y3, rfl, rfl, hE3⟩ := hpost
          rw [hz_mv] at hP hD
          refine W.widen (k := v.2.2 - p) (n := 4 * (v.2.2 - p)) (by omega) (by omega) ?_
          refine hq_callI (rest := [.ref a2]) hx hb hml hown hts hK hP hD hS (cxn_init (rd_cd ta_codes k p1) 0 (some a) (some a3) (hz_mid rfl)) wi_622 wi_623 wi_620 wi_624 rfl 4 rfl (by decide +kernel) ⟨rfl, rfl⟩ (by rw [hRm]; exact rd_roomE hd40 (by decide) (by decide)) hl.1 rfl (Nat.le_of_ble_eq_true rfl) dxr_readE_104 (by rw [hRc, hRs]; omega) (fun H locs hP hD hS => ?_)
          rw [hz_setm rfl, List.append_assoc] at hP hD
          refine lv_astore_n (lv' := [(3, .ref a2), (5, .int (rd_cd ta_codes k p1)), (4, .int (nI j)), (0, .ref (q 19)), (1, .int L), (2, .int (nI dep))]) hx hb dxr_readE_107 rfl hl (by decide) rfl (fun ls hl => ?_)
          refine lv_iinc (k := 2) (v := nI j + 1) (lv' := [(4, .int (nI j + 1)), (3, .ref a2), (5, .int (rd_cd ta_codes k p1)), (0, .ref (q 19)), (1, .int L), (2, .int (nI dep))]) hx hb dxr_readE_108 hl rfl (congrArg (fun x => nI j + x) (by decide)) (by decide) rfl (fun ls hl => ?_)
          refine lv_goto (tgt := 48) hx hb dxr_readE_111 (by decide) ?_
          rw [nI_1] at hl
          refine ih v.2.2 (j + 1) a2 (max h1 v.2.1 + 1) (hd_bin (rd_cd ta_codes k p1) 0 d1 v.1) (y ++ ((a2, .inr (7, [.int (rd_cd ta_codes k p1), .int 0, va_rf (some a), va_rf (some a3)])) :: y3)) ls H locs (lv_sub hl [0, 1, 3, 4, 5] rfl) hP hD hS ?_ (by omega) (by omega) hu
          rw [← hd_mk_bin (a := a) (b := a3)]
          refine hd_node (h := max h1 v.2.1) (pk := (z.length + 1) + y.length) zp_mid (hE.more zp_app (Nat.le_max_left _ _)) (hE3.more ?_ (Nat.le_max_right _ _))
          refine zp_le fun i x hx => ?_
          have hlen : ∀ c : Nat × va_E, List.length (z ++ y ++ [c]) + 1 + i = (List.length z + 1) + (List.length y + (i + 1)) := fun c => by
            simp only [List.length_append, List.length_cons, List.length_nil]
            omega
          rw [hlen, zp_get, List.getElem?_append_right (Nat.le_add_right _ _), Nat.add_sub_cancel_left]
          exact hx
  refine lv_iload_n hx hb dxr_readE_0 rfl (lv_at hl 2 rfl) ?_
  refine lv_bipush (v := 40) hx hb dxr_readE_1 (by decide) ?_
  refine lv_icmp_le (tgt := 8) hx hb dxr_readE_3 (by decide) (fun hc => ?_) (fun hc => absurd ((nI_leI (b := 40) (by omega) (by omega)).mpr hd40) hc)
  refine lv_aload_n hx hb dxr_readE_8 rfl (lv_at hl 0 rfl) ?_
  refine lv_bipush (v := 17) hx hb dxr_readE_9 (by decide) ?_
  by_cases h17 : rd_cd ta_codes k p = 17
  · rw [if_pos h17] at hu
    obtain ⟨hL3, hu⟩ := hq_ok hu
    obtain ⟨v, hv, hu⟩ := hq_bind hu
    obtain ⟨hv2, hu⟩ := hq_ok hu
    have hge := rd_loop_ge _ _ _ _ _ hu
    refine ksk_Y 17 hk (by omega) htc h17 hx hb hml hts hown hK hP hD hS wi_629 (by rw [hRm]; exact rd_roomE hd40 (by decide) (by decide)) hl.1 (Nat.le_of_ble_eq_true rfl) dxr_readE_11 (by rw [hRc, hRs]; omega) (fun H locs hP hD hS => ?_)
    refine lv_if_eq (tgt := 39) hx hb dxr_readE_14 (by decide) (fun hc => absurd hc (by decide)) (fun hc => ?_)
    refine va_new (ci := 7) (fs := [.int 0, .int 0, .null, .null]) hx hb hts hin_xn hty_xn hty_xn_ok hown (hts _ wi_618) (hts _ wi_619) (hts _ wi_620) hK hP hD hS hA rfl (fun j hj => by rcases (show j = 0 ∨ j = 1 ∨ j = 2 ∨ j = 3 by omega) with rfl | rfl | rfl | rfl <;> rfl) (by rw [hRc]; omega) (by rw [hRs]; omega) dxr_readE_17 (fun a2 H hP hD hS => ?_)
    rw [hz_as] at hP hD
    refine lv_dup hx hb dxr_readE_20 rfl ?_
    refine lv_bipush (v := 17) hx hb dxr_readE_21 (by decide) ?_
    refine lv_iconst (v := 0) hx hb dxr_readE_23 (by decide) ?_
    refine lv_aload_n hx hb dxr_readE_24 rfl (lv_at hl 0 rfl) ?_
    refine lv_iconst (v := 3) hx hb dxr_readE_25 (by decide) ?_
    refine lv_iload_n hx hb dxr_readE_26 rfl (lv_at hl 2 rfl) ?_
    refine lv_iconst (v := 1) hx hb dxr_readE_27 (by decide) ?_
    refine lv_iadd hx hb dxr_readE_28 ?_
    rw [nI_1]
    refine hq_callVn (q0 := 19) (mc := v.2.2 - (p + 1)) (ms := 4 * (v.2.2 - (p + 1))) hx hb hml hown hts hK hA hN hP hD hS (hrec 3 (dep + 1) (p + 1) (z ++ [(a2, .inr (7, [.int 0, .int 0, .null, .null]))]) v hv (by omega)) rfl rfl wi_630 wi_631 wi_632 wi_598 wi_633 2 rfl (by decide +kernel) ⟨rfl, rfl⟩ (hRf _) hl.1 rfl (Nat.le_of_ble_eq_true rfl) dxr_readE_29 (by rw [hRc, hRs]; omega) (fun o w1 H locs hpost hP hD hS => ?_)
    obtain ⟨a3, y3, rfl, rfl, hE3⟩ := hpost
    rw [hz_mv] at hP hD
    refine W.widen (k := v.2.2 - p) (n := 4 * (v.2.2 - p)) (by omega) (by omega) ?_
    refine hq_null (rest := [.ref a3, .int 0, .int 17, .ref a2, .ref a2]) hx hb dxr_readE_32 ?_
    refine hq_callI (rest := [.ref a2]) hx hb hml hown hts hK hP hD hS (cxn_init 17 0 (some a3) none (hz_mid rfl)) wi_622 wi_623 wi_620 wi_624 rfl 4 rfl (by decide +kernel) ⟨rfl, rfl⟩ (by rw [hRm]; exact rd_roomE hd40 (by decide) (by decide)) hl.1 rfl (Nat.le_of_ble_eq_true rfl) dxr_readE_33 (by rw [hRc, hRs]; omega) (fun H locs hP hD hS => ?_)
    rw [hz_setm rfl] at hP hD
    refine lv_goto (tgt := 44) hx hb dxr_readE_36 (by decide) ?_
    refine lv_astore_n (lv' := [(3, .ref a2), (0, .ref (q 19)), (1, .int L), (2, .int (nI dep))]) hx hb dxr_readE_44 rfl hl (by decide) rfl (fun ls hl => ?_)
    refine lv_iconst (v := 0) hx hb dxr_readE_45 (by decide) ?_
    refine lv_istore (lv' := [(4, .int 0), (3, .ref a2), (0, .ref (q 19)), (1, .int L), (2, .int (nI dep))]) hx hb dxr_readE_46 hl (by decide) rfl (fun ls hl => ?_)
    refine LP 100 v.2.2 0 a2 (v.2.1 + 1) (hd_un 17 0 v.1) _ ls H locs hl hP hD hS ?_ (by omega) (by omega) hu
    rw [← hd_mk_un (a := a3)]
    refine hd_node (pk := (z.length + 1) + 0) (zp_mid (y1 := [])) (hE3.more ?_ (Nat.le_refl _)) hd_E.none
    have hlen : ∀ c : Nat × va_E, List.length (z ++ [c]) = List.length z + 1 := fun c => by simp
    rw [hlen]
    exact zp_cons
  · rw [if_neg h17] at hu
    obtain ⟨v, hv, hu⟩ := hq_bind hu
    obtain ⟨hv2, hu⟩ := hq_ok hu
    have hge := rd_loop_ge _ _ _ _ _ hu
    refine ksk_N 17 hk (by omega) htc h17 hx hb hml hts hown hK hP hD hS wi_629 (by rw [hRm]; exact rd_roomE hd40 (by decide) (by decide)) hl.1 (Nat.le_of_ble_eq_true rfl) dxr_readE_11 (by rw [hRc, hRs]; omega) (fun H locs hP hD hS => ?_)
    refine lv_if_eq (tgt := 39) hx hb dxr_readE_14 (by decide) (fun hc => ?_) (fun hc => absurd rfl hc)
    refine lv_aload_n hx hb dxr_readE_39 rfl (lv_at hl 0 rfl) ?_
    refine lv_iload_n hx hb dxr_readE_40 rfl (lv_at hl 2 rfl) ?_
    refine hq_callVn (q0 := 19) hx hb hml hown hts hK hA hN hP hD hS (cxr_readM hk hp hdp htc _ hrec v hv) rfl rfl wi_635 wi_636 wi_637 wi_598 wi_638 1 rfl (by decide +kernel) ⟨rfl, rfl⟩ (by rw [hRm]; unfold rd_rmE rd_rmM; exact ⟨by show 2 * (42 - dep) + 4 + 1 ≤ 2 * (42 - dep) + 5; omega, by show 8 + (4 + 11) + (60 * (42 - dep) + 70) ≤ 60 * (42 - dep) + 100; omega⟩) hl.1 rfl (Nat.le_of_ble_eq_true rfl) dxr_readE_41 (by rw [hRc, hRs]; omega) (fun o w1 H locs hpost hP hD hS => ?_)
    obtain ⟨a, y, rfl, rfl, hE⟩ := hpost
    refine W.widen (k := v.2.2 - p) (n := 4 * (v.2.2 - p)) (by omega) (by omega) ?_
    refine lv_astore_n (x := a) (rest := []) (lv' := [(3, .ref a), (0, .ref (q 19)), (1, .int L), (2, .int (nI dep))]) hx hb dxr_readE_44 rfl hl (by decide) rfl (fun ls hl => ?_)
    refine lv_iconst (v := 0) hx hb dxr_readE_45 (by decide) ?_
    refine lv_istore (lv' := [(4, .int 0), (3, .ref a), (0, .ref (q 19)), (1, .int L), (2, .int (nI dep))]) hx hb dxr_readE_46 hl (by decide) rfl (fun ls hl => ?_)
    exact LP 100 v.2.2 0 a v.2.1 v.1 y ls H locs hl hP hD hS hE (by omega) (by omega) hu
theorem cxr_readE {k : Nat} (hk : k ≤ 40) (htc : tf_count = nI k) : ∀ (mm : Nat) (L : Int32) (dep p : Nat) (z : va_W) (u : hd_X × Nat × Nat), rd_E (rd_cd ta_codes k) (rd_nu ta_numbers k) mm L p = some u → dep ≤ p → hq_Cn l yxr_readE bxr_readE 6 (some (.object "HeapQueries$Node")) (rd_rmE dep (u.2.2 - p)) D (hq_tys cI cZ cL) A [.ref (q 19), .int L, .int (nI dep)] (hx_w q cI cZ cL xq_query ha_parents hf_classCount ha_classes ha_sizes ha_fields hf_objectCount hf_roots hf_changed sa_linkedFrom sa_linkCounts sa_retainedSets sa_retainedSizes sa_dominators sa_immediateDominators sf_objectCount sf_roots sf_reachable ta_codes ta_numbers tf_count ta_brackets tf_bracketCount tf_place tf_inWhere tf_compared wa_rows wf_count wf_looks ++ (rd_c q (nI p) :: z)) (rd_Po l D A q cI cZ cL (hx_w q cI cZ cL xq_query ha_parents hf_classCount ha_classes ha_sizes ha_fields hf_objectCount hf_roots hf_changed sa_linkedFrom sa_linkCounts sa_retainedSets sa_retainedSizes sa_dominators sa_immediateDominators sf_objectCount sf_roots sf_reachable ta_codes ta_numbers tf_count ta_brackets tf_bracketCount tf_place tf_inWhere tf_compared wa_rows wf_count wf_looks) z u.1 u.2.1 u.2.2) (u.2.2 - p) (4 * (u.2.2 - p)) := by
  intro mm
  induction mm with
  | zero => intro L dep p z u hu; cases hu
  | succ mm ih => intro L dep p z u hu hdp; exact cxr_readE1 hk hdp htc L mm ih u hu
end
