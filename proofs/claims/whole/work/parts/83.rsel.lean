/-! readSelect -/
def rd_rmS (dep x : Nat) : Room := { frames := 100 + 2 * (9 - dep), cells := x, slots := 4 * x, locals := 2700 + 60 * (9 - dep) }
def rd_rmQ (dep x : Nat) : Room := { frames := 101 + 2 * (9 - dep), cells := x, slots := 4 * x, locals := 2730 + 60 * (9 - dep) }
theorem rd_roomS {dep x a b : Nat} (ha : a ≤ 100) (hb : b ≤ 2700) : a ≤ (rd_rmS dep x).frames ∧ b ≤ (rd_rmS dep x).locals := ⟨by show a ≤ 100 + 2 * (9 - dep); omega, by show b ≤ 2700 + 60 * (9 - dep); omega⟩
theorem hz_mv2 {z y y2 : va_W} {c : Nat × va_E} : (z ++ (c :: y)) ++ y2 = z ++ (c :: (y ++ y2)) := by rw [List.append_assoc]; rfl
theorem zp_off {n m : Nat} {y y2 : va_W} (hm : m = n + y.length) : hz_le (zp m y2) (zp n (y ++ y2)) := zp_le fun i x hx => by
  rw [hm, Nat.add_assoc, zp_get, List.getElem?_append_right (Nat.le_add_right _ _), Nat.add_sub_cancel_left]
  exact hx
def rd_PS (l : Launch) (D : va_G) (A : Nat → Prop) (q : Nat → Nat) (cI cZ cL : ClassId) (X z : va_W) (f : hd_Y) (h p' : Nat) : Option Value → va_W → Prop :=
  fun o w1 => ∃ (a : Nat) (y : va_W) (sD sR sc sw : Int32) (row nested cond : Option Nat) (dN : hd_Y) (dC dR : hd_X), o = some (va_rf (some a)) ∧ w1 = X ++ (rd_c q (nI p') :: (z ++ ((a, .inr (6, [.int sD, .int sR, va_rf row, va_rf nested, .int sc, .int sw, va_rf cond, va_rf none])) :: y))) ∧
    hd_E l D A q cI cZ cL (zp (z.length + 2) y) row 41 dR ∧ hd_E l D A q cI cZ cL (zp (z.length + 2) y) cond 41 dC ∧ hd_Q l D A q cI cZ cL (zp (z.length + 2) y) nested h dN ∧ f = hd_sel dN dC dR sD sR row nested sc sw cond
def rd_PQ (l : Launch) (D : va_G) (A : Nat → Prop) (q : Nat → Nat) (cI cZ cL : ClassId) (X z : va_W) (fs : List hd_Y) (h p' : Nat) : Option Value → va_W → Prop :=
  fun o w1 => ∃ (a : Nat) (y : va_W), o = some (va_rf (some a)) ∧ w1 = X ++ (rd_c q (nI p') :: (z ++ y)) ∧ hd_ch l D A q cI cZ cL (zp (z.length + 1) y) h fs (some a)
theorem dxr_readSelect_0 : decode bxr_readSelect 0 = .ok (.new 24, 3) := by decide +kernel
theorem dxr_readSelect_3 : decode bxr_readSelect 3 = .ok (.dup, 1) := by decide +kernel
theorem dxr_readSelect_4 : decode bxr_readSelect 4 = .ok (.invokespecial 29, 3) := by decide +kernel
theorem dxr_readSelect_7 : decode bxr_readSelect 7 = .ok (.astore_n 2, 1) := by decide +kernel
theorem dxr_readSelect_8 : decode bxr_readSelect 8 = .ok (.aload_n 0, 1) := by decide +kernel
theorem dxr_readSelect_9 : decode bxr_readSelect 9 = .ok (.iconst 0, 1) := by decide +kernel
theorem dxr_readSelect_10 : decode bxr_readSelect 10 = .ok (.invokevirtual 19, 3) := by decide +kernel
theorem dxr_readSelect_13 : decode bxr_readSelect 13 = .ok (.pop, 1) := by decide +kernel
theorem dxr_readSelect_14 : decode bxr_readSelect 14 = .ok (.aload_n 2, 1) := by decide +kernel
theorem dxr_readSelect_15 : decode bxr_readSelect 15 = .ok (.aload_n 0, 1) := by decide +kernel
theorem dxr_readSelect_16 : decode bxr_readSelect 16 = .ok (.iconst 1, 1) := by decide +kernel
theorem dxr_readSelect_17 : decode bxr_readSelect 17 = .ok (.invokevirtual 19, 3) := by decide +kernel
theorem dxr_readSelect_20 : decode bxr_readSelect 20 = .ok (.putfield 30, 3) := by decide +kernel
theorem dxr_readSelect_23 : decode bxr_readSelect 23 = .ok (.aload_n 2, 1) := by decide +kernel
theorem dxr_readSelect_24 : decode bxr_readSelect 24 = .ok (.aload_n 0, 1) := by decide +kernel
theorem dxr_readSelect_25 : decode bxr_readSelect 25 = .ok (.iconst 2, 1) := by decide +kernel
theorem dxr_readSelect_26 : decode bxr_readSelect 26 = .ok (.invokevirtual 19, 3) := by decide +kernel
theorem dxr_readSelect_29 : decode bxr_readSelect 29 = .ok (.putfield 34, 3) := by decide +kernel
theorem dxr_readSelect_32 : decode bxr_readSelect 32 = .ok (.aload_n 2, 1) := by decide +kernel
theorem dxr_readSelect_33 : decode bxr_readSelect 33 = .ok (.aload_n 0, 1) := by decide +kernel
theorem dxr_readSelect_34 : decode bxr_readSelect 34 = .ok (.iconst 1, 1) := by decide +kernel
theorem dxr_readSelect_35 : decode bxr_readSelect 35 = .ok (.iconst 0, 1) := by decide +kernel
theorem dxr_readSelect_36 : decode bxr_readSelect 36 = .ok (.invokevirtual 37, 3) := by decide +kernel
theorem dxr_readSelect_39 : decode bxr_readSelect 39 = .ok (.putfield 41, 3) := by decide +kernel
theorem dxr_readSelect_42 : decode bxr_readSelect 42 = .ok (.aload_n 0, 1) := by decide +kernel
theorem dxr_readSelect_43 : decode bxr_readSelect 43 = .ok (.iconst 3, 1) := by decide +kernel
theorem dxr_readSelect_44 : decode bxr_readSelect 44 = .ok (.invokevirtual 19, 3) := by decide +kernel
theorem dxr_readSelect_47 : decode bxr_readSelect 47 = .ok (.pop, 1) := by decide +kernel
theorem dxr_readSelect_48 : decode bxr_readSelect 48 = .ok (.aload_n 0, 1) := by decide +kernel
theorem dxr_readSelect_49 : decode bxr_readSelect 49 = .ok (.bipush 6, 2) := by decide +kernel
theorem dxr_readSelect_51 : decode bxr_readSelect 51 = .ok (.invokevirtual 19, 3) := by decide +kernel
theorem dxr_readSelect_54 : decode bxr_readSelect 54 = .ok (.ifCond .eq 24, 3) := by decide +kernel
theorem dxr_readSelect_57 : decode bxr_readSelect 57 = .ok (.aload_n 2, 1) := by decide +kernel
theorem dxr_readSelect_58 : decode bxr_readSelect 58 = .ok (.aload_n 0, 1) := by decide +kernel
theorem dxr_readSelect_59 : decode bxr_readSelect 59 = .ok (.iload_n 1, 1) := by decide +kernel
theorem dxr_readSelect_60 : decode bxr_readSelect 60 = .ok (.iconst 1, 1) := by decide +kernel
theorem dxr_readSelect_61 : decode bxr_readSelect 61 = .ok (.iadd, 1) := by decide +kernel
theorem dxr_readSelect_62 : decode bxr_readSelect 62 = .ok (.invokevirtual 45, 3) := by decide +kernel
theorem dxr_readSelect_65 : decode bxr_readSelect 65 = .ok (.putfield 48, 3) := by decide +kernel
theorem dxr_readSelect_68 : decode bxr_readSelect 68 = .ok (.aload_n 0, 1) := by decide +kernel
theorem dxr_readSelect_69 : decode bxr_readSelect 69 = .ok (.bipush 7, 2) := by decide +kernel
theorem dxr_readSelect_71 : decode bxr_readSelect 71 = .ok (.invokevirtual 19, 3) := by decide +kernel
theorem dxr_readSelect_74 : decode bxr_readSelect 74 = .ok (.pop, 1) := by decide +kernel
theorem dxr_readSelect_75 : decode bxr_readSelect 75 = .ok (.goto 46, 3) := by decide +kernel
theorem dxr_readSelect_78 : decode bxr_readSelect 78 = .ok (.aload_n 2, 1) := by decide +kernel
theorem dxr_readSelect_79 : decode bxr_readSelect 79 = .ok (.aload_n 0, 1) := by decide +kernel
theorem dxr_readSelect_80 : decode bxr_readSelect 80 = .ok (.invokevirtual 51, 3) := by decide +kernel
theorem dxr_readSelect_83 : decode bxr_readSelect 83 = .ok (.bipush 9, 2) := by decide +kernel
theorem dxr_readSelect_85 : decode bxr_readSelect 85 = .ok (.if_icmp .ne 7, 3) := by decide +kernel
theorem dxr_readSelect_88 : decode bxr_readSelect 88 = .ok (.iconst 1, 1) := by decide +kernel
theorem dxr_readSelect_89 : decode bxr_readSelect 89 = .ok (.goto 4, 3) := by decide +kernel
theorem dxr_readSelect_92 : decode bxr_readSelect 92 = .ok (.iconst 0, 1) := by decide +kernel
theorem dxr_readSelect_93 : decode bxr_readSelect 93 = .ok (.putfield 55, 3) := by decide +kernel
theorem dxr_readSelect_96 : decode bxr_readSelect 96 = .ok (.aload_n 2, 1) := by decide +kernel
theorem dxr_readSelect_97 : decode bxr_readSelect 97 = .ok (.aload_n 0, 1) := by decide +kernel
theorem dxr_readSelect_98 : decode bxr_readSelect 98 = .ok (.getfield 9, 3) := by decide +kernel
theorem dxr_readSelect_101 : decode bxr_readSelect 101 = .ok (.aload_n 0, 1) := by decide +kernel
theorem dxr_readSelect_102 : decode bxr_readSelect 102 = .ok (.getfield 58, 3) := by decide +kernel
theorem dxr_readSelect_105 : decode bxr_readSelect 105 = .ok (.invokevirtual 62, 3) := by decide +kernel
theorem dxr_readSelect_108 : decode bxr_readSelect 108 = .ok (.putfield 68, 3) := by decide +kernel
theorem dxr_readSelect_111 : decode bxr_readSelect 111 = .ok (.aload_n 0, 1) := by decide +kernel
theorem dxr_readSelect_112 : decode bxr_readSelect 112 = .ok (.dup, 1) := by decide +kernel
theorem dxr_readSelect_113 : decode bxr_readSelect 113 = .ok (.getfield 58, 3) := by decide +kernel
theorem dxr_readSelect_116 : decode bxr_readSelect 116 = .ok (.iconst 1, 1) := by decide +kernel
theorem dxr_readSelect_117 : decode bxr_readSelect 117 = .ok (.iadd, 1) := by decide +kernel
theorem dxr_readSelect_118 : decode bxr_readSelect 118 = .ok (.putfield 58, 3) := by decide +kernel
theorem dxr_readSelect_121 : decode bxr_readSelect 121 = .ok (.aload_n 0, 1) := by decide +kernel
theorem dxr_readSelect_122 : decode bxr_readSelect 122 = .ok (.iconst 4, 1) := by decide +kernel
theorem dxr_readSelect_123 : decode bxr_readSelect 123 = .ok (.invokevirtual 19, 3) := by decide +kernel
theorem dxr_readSelect_126 : decode bxr_readSelect 126 = .ok (.ifCond .eq 13, 3) := by decide +kernel
theorem dxr_readSelect_129 : decode bxr_readSelect 129 = .ok (.aload_n 2, 1) := by decide +kernel
theorem dxr_readSelect_130 : decode bxr_readSelect 130 = .ok (.aload_n 0, 1) := by decide +kernel
theorem dxr_readSelect_131 : decode bxr_readSelect 131 = .ok (.iconst 1, 1) := by decide +kernel
theorem dxr_readSelect_132 : decode bxr_readSelect 132 = .ok (.iconst 0, 1) := by decide +kernel
theorem dxr_readSelect_133 : decode bxr_readSelect 133 = .ok (.invokevirtual 37, 3) := by decide +kernel
theorem dxr_readSelect_136 : decode bxr_readSelect 136 = .ok (.putfield 71, 3) := by decide +kernel
theorem dxr_readSelect_139 : decode bxr_readSelect 139 = .ok (.aload_n 2, 1) := by decide +kernel
theorem dxr_readSelect_140 : decode bxr_readSelect 140 = .ok (.areturn, 1) := by decide +kernel
section
variable {l : Launch} {D : va_G} {A : Nat → Prop} {z w : va_W} {q : Nat → Nat} {cI cZ cL : ClassId}
variable {hf_classCount hf_objectCount hf_roots hf_changed sf_objectCount sf_roots sf_reachable tf_count tf_bracketCount tf_place tf_inWhere tf_compared wf_count wf_looks rf_at n_code n_number s_isDistinct s_isRetained s_sourceClass s_withDescendants : Int32}
variable {ha_parents ha_classes ha_sizes sa_linkedFrom sa_linkCounts sa_retainedSets sa_retainedSizes sa_dominators sa_immediateDominators ta_codes ta_numbers ta_brackets : Nat → Int32}
variable {ha_fields wa_rows : Nat → Int64}
variable {xq_query n_left n_right s_row s_nested s_condition s_next : Option Nat}
variable {pa_n pk_n pa_s pk_s : Nat}
set_option maxHeartbeats 8000000 in
set_option maxRecDepth 100000 in
theorem cxr_readSelect {k p dep : Nat} (hk : k ≤ 40) (hd8 : dep ≤ 8) (htc : tf_count = nI k) (fe : Nat) (recQ : Nat → Option (List hd_Y × Nat × Nat))
    (hrec : ∀ (p : Nat) (z : va_W) (u : List hd_Y × Nat × Nat), recQ p = some u → hq_Cn l yxr_readQuery bxr_readQuery 5 (some (.object "HeapQueries$Select")) (rd_rmQ (dep + 1) (u.2.2 - p)) D (hq_tys cI cZ cL) A [.ref (q 19), .int (nI (dep + 1))] (hx_w q cI cZ cL xq_query ha_parents hf_classCount ha_classes ha_sizes ha_fields hf_objectCount hf_roots hf_changed sa_linkedFrom sa_linkCounts sa_retainedSets sa_retainedSizes sa_dominators sa_immediateDominators sf_objectCount sf_roots sf_reachable ta_codes ta_numbers tf_count ta_brackets tf_bracketCount tf_place tf_inWhere tf_compared wa_rows wf_count wf_looks ++ (rd_c q (nI p) :: z)) (rd_PQ l D A q cI cZ cL (hx_w q cI cZ cL xq_query ha_parents hf_classCount ha_classes ha_sizes ha_fields hf_objectCount hf_roots hf_changed sa_linkedFrom sa_linkCounts sa_retainedSets sa_retainedSizes sa_dominators sa_immediateDominators sf_objectCount sf_roots sf_reachable ta_codes ta_numbers tf_count ta_brackets tf_bracketCount tf_place tf_inWhere tf_compared wa_rows wf_count wf_looks) z u.1 u.2.1 u.2.2) (u.2.2 - p) (4 * (u.2.2 - p)))
    (u : hd_Y × Nat × Nat) (hu : rd_S (rd_cd ta_codes k) (rd_nu ta_numbers k) fe recQ p = some u) :
    hq_Cn l yxr_readSelect bxr_readSelect 3 (some (.object "HeapQueries$Select")) (rd_rmS dep (u.2.2 - p)) D (hq_tys cI cZ cL) A [.ref (q 19), .int (nI dep)] (hx_w q cI cZ cL xq_query ha_parents hf_classCount ha_classes ha_sizes ha_fields hf_objectCount hf_roots hf_changed sa_linkedFrom sa_linkCounts sa_retainedSets sa_retainedSizes sa_dominators sa_immediateDominators sf_objectCount sf_roots sf_reachable ta_codes ta_numbers tf_count ta_brackets tf_bracketCount tf_place tf_inWhere tf_compared wa_rows wf_count wf_looks ++ (rd_c q (nI p) :: z)) (rd_PS l D A q cI cZ cL (hx_w q cI cZ cL xq_query ha_parents hf_classCount ha_classes ha_sizes ha_fields hf_objectCount hf_roots hf_changed sa_linkedFrom sa_linkCounts sa_retainedSets sa_retainedSizes sa_dominators sa_immediateDominators sf_objectCount sf_roots sf_reachable ta_codes ta_numbers tf_count ta_brackets tf_bracketCount tf_place tf_inWhere tf_compared wa_rows wf_count wf_looks) z u.1 u.2.1 u.2.2) (u.2.2 - p) (4 * (u.2.2 - p)) := by
  unfold rd_S at hu
  obtain ⟨⟨hc0, hp40⟩, hu⟩ := hq_ok hu
  obtain ⟨ev, hev, hu⟩ := hq_bind hu
  obtain ⟨⟨hev1, hev2, hev3, hev4⟩, hu⟩ := hq_ok hu
  have hs1 := rd_sk_ge (c := rd_cd ta_codes k) (x := 1) (i := p + 1)
  have hs2 := rd_sk_ge (c := rd_cd ta_codes k) (x := 2) (i := rd_sk (rd_cd ta_codes k) 1 (p + 1))
  have bD := rd_b01 (c := rd_cd ta_codes k) (x := 1) (i := p + 1)
  have bR := rd_b01 (c := rd_cd ta_codes k) (x := 2) (i := rd_sk (rd_cd ta_codes k) 1 (p + 1))
  generalize hgD : rd_b (rd_cd ta_codes k) 1 (p + 1) = sD at hu bD
  generalize hgR : rd_b (rd_cd ta_codes k) 2 (rd_sk (rd_cd ta_codes k) 1 (p + 1)) = sR at hu bR
  have hWge : ∀ (mk : hd_X → Option Nat → hd_Y) (h i : Nat), rd_W (rd_cd ta_codes k) (rd_nu ta_numbers k) fe mk h i = some u → i ≤ u.2.2 := fun mk h i hw => by
    unfold rd_W at hw
    by_cases h4 : rd_cd ta_codes k i = 4
    · rw [if_pos h4] at hw
      obtain ⟨w, _, hw⟩ := hq_bind hw
      obtain ⟨h5, hw⟩ := hq_ok hw
      cases hw
      show i ≤ w.2.2
      omega
    · rw [if_neg h4] at hw
      cases hw
      exact Nat.le_refl _
  have hu6 : ev.2.2 + 2 ≤ u.2.2 := by
    by_cases h6 : rd_cd ta_codes k (ev.2.2 + 1) = 6
    · rw [if_pos h6] at hu
      obtain ⟨v, _, hu⟩ := hq_bind hu
      obtain ⟨h5, hu⟩ := hq_ok hu
      have := hWge _ _ _ hu
      omega
    · rw [if_neg h6] at hu
      obtain ⟨h5, hu⟩ := hq_ok hu
      have := hWge _ _ _ hu
      omega
  refine hq_ofn (by decide) ?_ (Nat.le_of_ble_eq_true rfl)
  intro p' e s m below meth c R args Q hRm hQ hx hb hr hml hts hown hlocks hnm hP hK hD hA hN ls hl hS
  have hl : lv_has ls 3 [(0, .ref (q 19)), (1, .int (nI dep))] := hl
  have hown : s.vm.findClass "HeapQueries$Reader" = some m.cls := hown
  have hRc : R.cells = u.2.2 - p := by rw [hRm]; rfl
  have hRs : R.slots = 4 * (u.2.2 - p) := by rw [hRm]; rfl
  have FIN : ∀ (mk : hd_X → Option Nat → hd_Y) (h i a : Nat) (y : va_W) (sc sw : Int32) (row nested : Option Nat) (dN : hd_Y) (dR : hd_X) (ls : Array Slot) (H : Heap) (locs : List Loc), i ≤ 41 → ev.2.2 + 2 ≤ i → lv_has ls 3 [(2, .ref a), (0, .ref (q 19))] → va_P D hq_cl (hx_w q cI cZ cL xq_query ha_parents hf_classCount ha_classes ha_sizes ha_fields hf_objectCount hf_roots hf_changed sa_linkedFrom sa_linkCounts sa_retainedSets sa_retainedSizes sa_dominators sa_immediateDominators sf_objectCount sf_roots sf_reachable ta_codes ta_numbers tf_count ta_brackets tf_bracketCount tf_place tf_inWhere tf_compared wa_rows wf_count wf_looks ++ (rd_c q (nI i) :: (z ++ ((a, .inr (6, [.int sD, .int sR, va_rf row, va_rf nested, .int sc, .int sw, .null, .null])) :: y)))) H → va_D A (hx_w q cI cZ cL xq_query ha_parents hf_classCount ha_classes ha_sizes ha_fields hf_objectCount hf_roots hf_changed sa_linkedFrom sa_linkCounts sa_retainedSets sa_retainedSizes sa_dominators sa_immediateDominators sf_objectCount sf_roots sf_reachable ta_codes ta_numbers tf_count ta_brackets tf_bracketCount tf_place tf_inWhere tf_compared wa_rows wf_count wf_looks ++ (rd_c q (nI i) :: (z ++ ((a, .inr (6, [.int sD, .int sR, va_rf row, va_rf nested, .int sc, .int sw, .null, .null])) :: y)))) → va_S A s.heap H locs →
      hd_E l D A q cI cZ cL (zp (z.length + 2) y) row 41 dR → hd_Q l D A q cI cZ cL (zp (z.length + 2) y) nested h dN → (∀ (dC : hd_X) (cond : Option Nat), mk dC (cond.map fun _ => 0) = hd_sel dN dC dR sD sR row nested sc sw cond) → rd_W (rd_cd ta_codes k) (rd_nu ta_numbers k) fe mk h i = some u → W p' l e R s m args below meth c H locs (i - p) (4 * (i - p)) Q (F0 m 121 ls []) := by
    intro mk h i a y sc sw row nested dN dR ls H locs hi hei hl hP hD hS hE hN2 hmk hw
    have hge := hWge _ _ _ hw
    unfold rd_W at hw
    refine lv_aload_n hx hb dxr_readSelect_121 rfl (lv_at hl 1 rfl) ?_
    refine lv_iconst (v := 4) hx hb dxr_readSelect_122 (by decide) ?_
    by_cases h4 : rd_cd ta_codes k i = 4
    · rw [if_pos h4] at hw
      obtain ⟨w, hw1, hw⟩ := hq_bind hw
      obtain ⟨h5, hw⟩ := hq_ok hw
      cases hw
      refine ksk_Y 4 hk (by omega) htc h4 hx hb hml hts hown hK hP hD hS wi_629 (by rw [hRm]; exact rd_roomS (by decide) (by decide)) hl.1 (Nat.le_of_ble_eq_true rfl) dxr_readSelect_123 (by rw [hRc, hRs]; show _ ∧ _; exact ⟨by show i - p + 0 ≤ w.2.2 - p; omega, by show 4 * (i - p) + 0 ≤ 4 * (w.2.2 - p); omega⟩) (fun H locs hP hD hS => ?_)
      refine lv_if_eq (tgt := 139) hx hb dxr_readSelect_126 (by decide) (fun hc => absurd hc (by decide)) (fun _ => ?_)
      refine lv_aload_n hx hb dxr_readSelect_129 rfl (lv_at hl 0 rfl) ?_
      refine lv_aload_n hx hb dxr_readSelect_130 rfl (lv_at hl 1 rfl) ?_
      refine lv_iconst (v := 1) hx hb dxr_readSelect_131 (by decide) ?_
      refine lv_iconst (v := 0) hx hb dxr_readSelect_132 (by decide) ?_
      refine hq_callVn (q0 := 19) (mc := w.2.2 - (i + 1)) (ms := 4 * (w.2.2 - (i + 1))) hx hb hml hown hts hK hA hN hP hD hS (cxr_readE hk htc fe 1 0 (i + 1) _ w hw1 (Nat.zero_le _)) rfl rfl wi_630 wi_631 wi_632 wi_598 wi_633 2 rfl (by decide +kernel) ⟨rfl, rfl⟩ (by rw [hRm]; exact rd_roomS (by show 2 * (42 - 0) + 5 + 1 ≤ 100; decide) (by show 8 + (6 + 11) + (60 * (42 - 0) + 100) ≤ 2700; decide)) hl.1 rfl (Nat.le_of_ble_eq_true rfl) dxr_readSelect_133 (by rw [hRc, hRs]; exact ⟨by show i - p + (w.2.2 - (i + 1)) ≤ w.2.2 - p; omega, by show 4 * (i - p) + 4 * (w.2.2 - (i + 1)) ≤ 4 * (w.2.2 - p); omega⟩) (fun o w1 H locs hpost hP hD hS => ?_)
      obtain ⟨ac, y2, rfl, rfl, hE2⟩ := hpost
      rw [hz_mv2] at hP hD
      refine W.widen (k := w.2.2 - p) (n := 4 * (w.2.2 - p)) (by omega) (by omega) ?_
      refine psl (k := 6) (ty := .object "HeapQueries$Node") (v := va_rf (some ac)) (rest := []) (fs' := [.int sD, .int sR, va_rf row, va_rf nested, .int sc, .int sw, va_rf (some ac), .null]) rfl hx hb hts hown hK hP hD hS (by decide) wi_670 rfl rfl (by decide +kernel) rfl rfl (Nat.le_of_ble_eq_true rfl) rfl dxr_readSelect_136 (fun H locs hP hD hS => ?_)
      refine lv_aload_n hx hb dxr_readSelect_139 rfl (lv_at hl 0 rfl) ?_
      refine hq_aretn (r := some a) hx hb hr hlocks hQ (Nat.le_refl _) (Nat.le_refl _) hK hP hD hS ⟨a, y ++ y2, sD, sR, sc, sw, row, nested, some ac, dN, w.1, dR, rfl, rfl, hE.more zp_app (Nat.le_refl _), hE2.more (zp_off (by simp only [List.length_append, List.length_cons]; omega)) h5.1, hN2.more zp_app (Nat.le_refl _), hmk w.1 (some ac)⟩ dxr_readSelect_140
    · rw [if_neg h4] at hw
      cases hw
      refine ksk_N 4 hk (by omega) htc h4 hx hb hml hts hown hK hP hD hS wi_629 (by rw [hRm]; exact rd_roomS (by decide) (by decide)) hl.1 (Nat.le_of_ble_eq_true rfl) dxr_readSelect_123 (by rw [hRc, hRs]; exact ⟨Nat.le_refl _, Nat.le_refl _⟩) (fun H locs hP hD hS => ?_)
      refine lv_if_eq (tgt := 139) hx hb dxr_readSelect_126 (by decide) (fun _ => ?_) (fun hc => absurd rfl hc)
      refine lv_aload_n hx hb dxr_readSelect_139 rfl (lv_at hl 0 rfl) ?_
      exact hq_aretn (r := some a) hx hb hr hlocks hQ (Nat.le_refl _) (Nat.le_refl _) hK hP hD hS ⟨a, y, sD, sR, sc, sw, row, nested, none, dN, hd_no, dR, rfl, rfl, hE, hd_E.none, hN2, hmk hd_no none⟩ dxr_readSelect_140
  refine va_new (ci := 6) (fs := [.int 0, .int 0, .null, .null, .int 0, .int 0, .null, .null]) hx hb hts hin_xl hty_xl hty_xl_ok hown (hts _ wi_671) (hts _ wi_672) (hts _ wi_673) hK hP hD hS hA rfl (fun j hj => by rcases (show j = 0 ∨ j = 1 ∨ j = 2 ∨ j = 3 ∨ j = 4 ∨ j = 5 ∨ j = 6 ∨ j = 7 by omega) with rfl | rfl | rfl | rfl | rfl | rfl | rfl | rfl <;> rfl) (by rw [hRc]; omega) (by rw [hRs]; omega) dxr_readSelect_0 (fun a H hP hD hS => ?_)
  rw [hz_as] at hP hD
  refine lv_dup hx hb dxr_readSelect_3 rfl ?_
  refine hq_callIN (host := "HeapQueries") hx hb hml hown hts hK hP hD hS (cxl_init (a := a)) hN.2.2.2.2 wi_674 wi_673 wi_675 rfl 0 rfl (by decide +kernel) ⟨rfl, rfl⟩ (by rw [hRm]; exact rd_roomS (by decide) (by decide)) hl.1 rfl (Nat.le_of_ble_eq_true rfl) dxr_readSelect_4 (by rw [hRc, hRs]; omega) (fun H locs hP hD hS => ?_)
  refine lv_astore_n (lv' := [(2, .ref a), (0, .ref (q 19)), (1, .int (nI dep))]) hx hb dxr_readSelect_7 rfl hl (by decide) rfl (fun ls hl => ?_)
  refine lv_aload_n hx hb dxr_readSelect_8 rfl (lv_at hl 1 rfl) ?_
  refine lv_iconst (v := 0) hx hb dxr_readSelect_9 (by decide) ?_
  refine ksk_Y 0 hk (by omega) htc hc0 hx hb hml hts hown hK hP hD hS wi_629 (by rw [hRm]; exact rd_roomS (by decide) (by decide)) hl.1 (Nat.le_of_ble_eq_true rfl) dxr_readSelect_10 (by rw [hRc, hRs]; omega) (fun H locs hP hD hS => ?_)
  refine lv_pop hx hb dxr_readSelect_13 rfl ?_
  refine lv_aload_n hx hb dxr_readSelect_14 rfl (lv_at hl 0 rfl) ?_
  refine lv_aload_n hx hb dxr_readSelect_15 rfl (lv_at hl 1 rfl) ?_
  refine lv_iconst (v := 1) hx hb dxr_readSelect_16 (by decide) ?_
  refine ksk_B 1 hk (by omega) htc hx hb hml hts hown hK hP hD hS wi_629 (by rw [hRm]; exact rd_roomS (by decide) (by decide)) hl.1 (Nat.le_of_ble_eq_true rfl) dxr_readSelect_17 (by rw [hRc, hRs]; omega) (fun H locs hP hD hS => ?_)
  rw [hgD]
  refine psl (k := 0) (ty := .boolean) (fs' := [.int sD, .int 0, .null, .null, .int 0, .int 0, .null, .null]) rfl hx hb hts hown hK hP hD hS (by decide) wi_676 rfl rfl (by decide +kernel) (by rcases bD with h | h <;> rw [h] <;> rfl) (by rcases bD with h | h <;> rw [h] <;> rfl) (Nat.le_of_ble_eq_true rfl) rfl dxr_readSelect_20 (fun H locs hP hD hS => ?_)
  refine lv_aload_n hx hb dxr_readSelect_23 rfl (lv_at hl 0 rfl) ?_
  refine lv_aload_n hx hb dxr_readSelect_24 rfl (lv_at hl 1 rfl) ?_
  refine lv_iconst (v := 2) hx hb dxr_readSelect_25 (by decide) ?_
  refine ksk_B 2 hk (by omega) htc hx hb hml hts hown hK hP hD hS wi_629 (by rw [hRm]; exact rd_roomS (by decide) (by decide)) hl.1 (Nat.le_of_ble_eq_true rfl) dxr_readSelect_26 (by rw [hRc, hRs]; omega) (fun H locs hP hD hS => ?_)
  rw [hgR]
  refine psl (k := 1) (ty := .boolean) (fs' := [.int sD, .int sR, .null, .null, .int 0, .int 0, .null, .null]) rfl hx hb hts hown hK hP hD hS (by decide) wi_677 rfl rfl (by decide +kernel) (by rcases bR with h | h <;> rw [h] <;> rfl) (by rcases bR with h | h <;> rw [h] <;> rfl) (Nat.le_of_ble_eq_true rfl) rfl dxr_readSelect_29 (fun H locs hP hD hS => ?_)
  refine lv_aload_n hx hb dxr_readSelect_32 rfl (lv_at hl 0 rfl) ?_
  refine lv_aload_n hx hb dxr_readSelect_33 rfl (lv_at hl 1 rfl) ?_
  refine lv_iconst (v := 1) hx hb dxr_readSelect_34 (by decide) ?_
  refine lv_iconst (v := 0) hx hb dxr_readSelect_35 (by decide) ?_
  refine hq_callVn (q0 := 19) (mc := ev.2.2 - (rd_sk (rd_cd ta_codes k) 2 (rd_sk (rd_cd ta_codes k) 1 (p + 1)))) (ms := 4 * (ev.2.2 - (rd_sk (rd_cd ta_codes k) 2 (rd_sk (rd_cd ta_codes k) 1 (p + 1))))) hx hb hml hown hts hK hA hN hP hD hS (cxr_readE hk htc fe 1 0 (rd_sk (rd_cd ta_codes k) 2 (rd_sk (rd_cd ta_codes k) 1 (p + 1))) _ ev hev (Nat.zero_le _)) rfl rfl wi_630 wi_631 wi_632 wi_598 wi_633 2 rfl (by decide +kernel) ⟨rfl, rfl⟩ (by rw [hRm]; exact rd_roomS (by show 2 * (42 - 0) + 5 + 1 ≤ 100; decide) (by show 8 + (6 + 11) + (60 * (42 - 0) + 100) ≤ 2700; decide)) hl.1 rfl (Nat.le_of_ble_eq_true rfl) dxr_readSelect_36 (by rw [hRc, hRs]; omega) (fun o w1 H locs hpost hP hD hS => ?_)
  obtain ⟨ar, y1, rfl, rfl, hE⟩ := hpost
  rw [hz_mv] at hP hD
  have hE := hE.more (z' := zp (z.length + 2) y1) (h' := 41) (by
    have hlen : ∀ c : Nat × va_E, List.length (z ++ [c]) + 1 = List.length z + 2 := fun c => by simp
    rw [hlen]
    exact hz_le.rf) hev1
  refine W.widen (k := ev.2.2 - p) (n := 8 + 4 * (ev.2.2 - (rd_sk (rd_cd ta_codes k) 2 (rd_sk (rd_cd ta_codes k) 1 (p + 1))))) (by omega) (by omega) ?_
  refine psl (k := 2) (ty := .object "HeapQueries$Node") (v := va_rf (some ar)) (rest := []) (fs' := [.int sD, .int sR, va_rf (some ar), .null, .int 0, .int 0, .null, .null]) rfl hx hb hts hown hK hP hD hS (by decide) wi_678 rfl rfl (by decide +kernel) rfl rfl (Nat.le_of_ble_eq_true rfl) rfl dxr_readSelect_39 (fun H locs hP hD hS => ?_)
  refine lv_aload_n hx hb dxr_readSelect_42 rfl (lv_at hl 1 rfl) ?_
  refine lv_iconst (v := 3) hx hb dxr_readSelect_43 (by decide) ?_
  refine ksk_Y 3 hk (by omega) htc hev3 hx hb hml hts hown hK hP hD hS wi_629 (by rw [hRm]; exact rd_roomS (by decide) (by decide)) hl.1 (Nat.le_of_ble_eq_true rfl) dxr_readSelect_44 (by rw [hRc, hRs]; omega) (fun H locs hP hD hS => ?_)
  refine lv_pop hx hb dxr_readSelect_47 rfl ?_
  refine lv_aload_n hx hb dxr_readSelect_48 rfl (lv_at hl 1 rfl) ?_
  refine lv_bipush (v := 6) hx hb dxr_readSelect_49 (by decide) ?_
  by_cases h6 : rd_cd ta_codes k (ev.2.2 + 1) = 6
  · rw [if_pos h6] at hu
    obtain ⟨v, hv, hu⟩ := hq_bind hu
    obtain ⟨⟨hv1, hv2, hv3⟩, hu⟩ := hq_ok hu
    have hge := hWge _ _ _ hu
    refine ksk_Y 6 hk (by omega) htc h6 hx hb hml hts hown hK hP hD hS wi_629 (by rw [hRm]; exact rd_roomS (by decide) (by decide)) hl.1 (Nat.le_of_ble_eq_true rfl) dxr_readSelect_51 (by rw [hRc, hRs]; omega) (fun H locs hP hD hS => ?_)
    refine lv_if_eq (tgt := 78) hx hb dxr_readSelect_54 (by decide) (fun hc => absurd hc (by decide)) (fun _ => ?_)
    refine lv_aload_n hx hb dxr_readSelect_57 rfl (lv_at hl 0 rfl) ?_
    refine lv_aload_n hx hb dxr_readSelect_58 rfl (lv_at hl 1 rfl) ?_
    refine lv_iload_n hx hb dxr_readSelect_59 rfl (lv_at hl 2 rfl) ?_
    refine lv_iconst (v := 1) hx hb dxr_readSelect_60 (by decide) ?_
    refine lv_iadd hx hb dxr_readSelect_61 ?_
    rw [nI_1]
    refine hq_callVn (q0 := 19) (mc := v.2.2 - (ev.2.2 + 2)) (ms := 4 * (v.2.2 - (ev.2.2 + 2))) hx hb hml hown hts hK hA hN hP hD hS (hrec (ev.2.2 + 2) _ v hv) rfl rfl wi_679 wi_680 wi_681 wi_598 wi_682 1 rfl (by decide +kernel) ⟨rfl, rfl⟩ (by rw [hRm]; exact ⟨by show 101 + 2 * (9 - (dep + 1)) + 1 ≤ 100 + 2 * (9 - dep); omega, by show 8 + (5 + 11) + (2730 + 60 * (9 - (dep + 1))) ≤ 2700 + 60 * (9 - dep); omega⟩) hl.1 rfl (Nat.le_of_ble_eq_true rfl) dxr_readSelect_62 (by rw [hRc, hRs]; omega) (fun o w1 H locs hpost hP hD hS => ?_)
    obtain ⟨aq, y2, rfl, rfl, hch⟩ := hpost
    rw [hz_mv2] at hP hD
    have hQ2 := hd_chain v.1 (some aq) hch
    refine W.widen (k := (v.2.2 + 1) - p) (n := 4 * ((v.2.2 + 1) - p)) (by omega) (by omega) ?_
    refine psl (k := 3) (ty := .object "HeapQueries$Select") (v := va_rf (some aq)) (rest := []) (fs' := [.int sD, .int sR, va_rf (some ar), va_rf (some aq), .int 0, .int 0, .null, .null]) rfl hx hb hts hown hK hP hD hS (by decide) wi_683 rfl rfl (by decide +kernel) rfl rfl (Nat.le_of_ble_eq_true rfl) rfl dxr_readSelect_65 (fun H locs hP hD hS => ?_)
    refine lv_aload_n hx hb dxr_readSelect_68 rfl (lv_at hl 1 rfl) ?_
    refine lv_bipush (v := 7) hx hb dxr_readSelect_69 (by decide) ?_
    refine ksk_Y 7 hk (by omega) htc hv2 hx hb hml hts hown hK hP hD hS wi_629 (by rw [hRm]; exact rd_roomS (by decide) (by decide)) hl.1 (Nat.le_of_ble_eq_true rfl) dxr_readSelect_71 (by rw [hRc, hRs]; omega) (fun H locs hP hD hS => ?_)
    refine lv_pop hx hb dxr_readSelect_74 rfl ?_
    refine lv_goto (tgt := 121) hx hb dxr_readSelect_75 (by decide) ?_
    exact FIN _ (v.2.1 + 1) (v.2.2 + 1) a (y1 ++ y2) 0 0 (some ar) (some aq) (hd_seq v.1) ev.1 ls H locs (by omega) (by omega) (lv_sub hl [0, 1] rfl) hP hD hS (hE.more zp_app (Nat.le_refl _)) (hQ2.more (zp_off (by simp only [List.length_append, List.length_cons]; omega)) (Nat.le_refl _)) (fun dC cond => (hd_sel_can (row := some ar) (nested := some aq) (cond := cond)).symm) hu
  · rw [if_neg h6] at hu
    obtain ⟨h89, hu⟩ := hq_ok hu
    have hge := hWge _ _ _ hu
    have hcode := rd_code (a := ta_codes) hk (show ev.2.2 + 1 < 2 ^ 31 by omega)
    have hnum := rd_numberAt (a := ta_numbers) hk (show ev.2.2 + 1 < 2 ^ 31 by omega)
    rw [← htc] at hcode hnum
    refine ksk_N 6 hk (by omega) htc h6 hx hb hml hts hown hK hP hD hS wi_629 (by rw [hRm]; exact rd_roomS (by decide) (by decide)) hl.1 (Nat.le_of_ble_eq_true rfl) dxr_readSelect_51 (by rw [hRc, hRs]; omega) (fun H locs hP hD hS => ?_)
    refine lv_if_eq (tgt := 78) hx hb dxr_readSelect_54 (by decide) (fun _ => ?_) (fun hc => absurd rfl hc)
    have C93 : ∀ (x : Int32) (H : Heap) (locs : List Loc), x = rd_b (rd_cd ta_codes k) 9 (ev.2.2 + 1) → va_P D hq_cl (hx_w q cI cZ cL xq_query ha_parents hf_classCount ha_classes ha_sizes ha_fields hf_objectCount hf_roots hf_changed sa_linkedFrom sa_linkCounts sa_retainedSets sa_retainedSizes sa_dominators sa_immediateDominators sf_objectCount sf_roots sf_reachable ta_codes ta_numbers tf_count ta_brackets tf_bracketCount tf_place tf_inWhere tf_compared wa_rows wf_count wf_looks ++ (rd_c q (nI (ev.2.2 + 1)) :: (z ++ ((a, .inr (6, [.int sD, .int sR, va_rf (some ar), .null, .int 0, .int 0, .null, .null])) :: y1)))) H → va_D A (hx_w q cI cZ cL xq_query ha_parents hf_classCount ha_classes ha_sizes ha_fields hf_objectCount hf_roots hf_changed sa_linkedFrom sa_linkCounts sa_retainedSets sa_retainedSizes sa_dominators sa_immediateDominators sf_objectCount sf_roots sf_reachable ta_codes ta_numbers tf_count ta_brackets tf_bracketCount tf_place tf_inWhere tf_compared wa_rows wf_count wf_looks ++ (rd_c q (nI (ev.2.2 + 1)) :: (z ++ ((a, .inr (6, [.int sD, .int sR, va_rf (some ar), .null, .int 0, .int 0, .null, .null])) :: y1)))) → va_S A s.heap H locs → W p' l e R s m args below meth c H locs (ev.2.2 - p) (8 + 4 * (ev.2.2 - (rd_sk (rd_cd ta_codes k) 2 (rd_sk (rd_cd ta_codes k) 1 (p + 1))))) Q (F0 m 93 ls [.int x, .ref a]) := by
      intro x H locs hx9 hP hD hS
      have b9 : x = 0 ∨ x = 1 := by rw [hx9]; exact rd_b01
      refine psl (k := 5) (ty := .boolean) (rest := []) (fs' := [.int sD, .int sR, va_rf (some ar), .null, .int 0, .int x, .null, .null]) rfl hx hb hts hown hK hP hD hS (by decide) wi_684 rfl rfl (by decide +kernel) (by rcases b9 with h | h <;> rw [h] <;> rfl) (by rcases b9 with h | h <;> rw [h] <;> rfl) (Nat.le_of_ble_eq_true rfl) rfl dxr_readSelect_93 (fun H locs hP hD hS => ?_)
      refine lv_aload_n hx hb dxr_readSelect_96 rfl (lv_at hl 0 rfl) ?_
      refine lv_aload_n hx hb dxr_readSelect_97 rfl (lv_at hl 1 rfl) ?_
      refine gr_19_text hx hb hts hown hK hP wi_600 dxr_readSelect_98 ?_
      refine lv_aload_n hx hb dxr_readSelect_101 rfl (lv_at hl 1 rfl) ?_
      refine gr_19_at hx hb hts hown hK hP wi_601 dxr_readSelect_102 ?_
      refine kxt_numberAt _ _ hnum hx hb hml hts hown hK hP hD hS wi_621 (by rw [hRm]; exact rd_roomS (by decide) (by decide)) hl.1 (Nat.le_of_ble_eq_true rfl) dxr_readSelect_105 (by rw [hRc, hRs]; omega) (fun H locs hP hD hS => ?_)
      refine psl (k := 4) (ty := .int) (fs' := [.int sD, .int sR, va_rf (some ar), .null, .int (rd_nu ta_numbers k (ev.2.2 + 1)), .int x, .null, .null]) rfl hx hb hts hown hK hP hD hS (by decide) wi_685 rfl rfl (by decide +kernel) rfl rfl (Nat.le_of_ble_eq_true rfl) rfl dxr_readSelect_108 (fun H locs hP hD hS => ?_)
      refine lv_aload_n hx hb dxr_readSelect_111 rfl (lv_at hl 1 rfl) ?_
      refine lv_dup hx hb dxr_readSelect_112 rfl ?_
      refine gr_19_at hx hb hts hown hK hP wi_601 dxr_readSelect_113 ?_
      refine lv_iconst (v := 1) hx hb dxr_readSelect_116 (by decide) ?_
      refine lv_iadd hx hb dxr_readSelect_117 ?_
      refine pr_19_at hx hb hts hown hK hP hD hS wi_601 dxr_readSelect_118 (fun H locs hP hD hS => ?_)
      rw [nI_1] at hP hD
      refine W.widen (k := (ev.2.2 + 2) - p) (n := 4 * ((ev.2.2 + 2) - p)) (by omega) (by omega) ?_
      exact FIN _ 0 (ev.2.2 + 2) a y1 (rd_nu ta_numbers k (ev.2.2 + 1)) x (some ar) none hd_noQ ev.1 ls H locs (by omega) (Nat.le_refl _) (lv_sub hl [0, 1] rfl) hP hD hS hE hd_Q.none (fun dC cond => by rw [hx9]; exact (hd_sel_can (row := some ar) (nested := none) (cond := cond)).symm) hu
    refine lv_aload_n hx hb dxr_readSelect_78 rfl (lv_at hl 0 rfl) ?_
    refine lv_aload_n hx hb dxr_readSelect_79 rfl (lv_at hl 1 rfl) ?_
    refine kxr_code _ hcode hx hb hml hts hown hK hP hD hS wi_606 (by rw [hRm]; exact rd_roomS (by decide) (by decide)) hl.1 (Nat.le_of_ble_eq_true rfl) dxr_readSelect_80 (by rw [hRc, hRs]; omega) (fun H locs hP hD hS => ?_)
    refine lv_bipush (v := 9) hx hb dxr_readSelect_83 (by decide) ?_
    refine lv_icmp_ne (tgt := 92) hx hb dxr_readSelect_85 (by decide) (fun hc => ?_) (fun hc => ?_)
    · refine lv_iconst (v := 0) hx hb dxr_readSelect_92 (by decide) ?_
      exact C93 0 H locs (if_neg hc).symm hP hD hS
    · refine lv_iconst (v := 1) hx hb dxr_readSelect_88 (by decide) ?_
      refine lv_goto (tgt := 93) hx hb dxr_readSelect_89 (by decide) ?_
      exact C93 1 H locs (if_pos hc).symm hP hD hS
end
