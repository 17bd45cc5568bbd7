/-! addQuery: a chain of selects -/
def hd_sel (dN : hd_Y) (dC dR : hd_X) (sD sR : Int32) (row nested : Option Nat) (sc sw : Int32) (cond : Option Nat) : hd_Y :=
  fun a1 a2 a3 a4 a5 a6 a7 a8 a9 a10 a11 a12 a13 a14 => sxw_addSelect dN dC dR 0 a1 a2 a3 a4 a5 a6 a7 a8 a9 a10 a11 a12 a13 a14 sD sR row nested sc sw cond
def hd_seq : List hd_Y → hd_Y
  | [] => fun _ _ _ _ _ _ _ _ _ _ _ r c k => some (0, r, c, k)
  | f :: fs => fun a1 a2 a3 a4 a5 a6 a7 a8 a9 a10 a11 r c k => (f a1 a2 a3 a4 a5 a6 a7 a8 a9 a10 a11 r c k).bind fun v => if v.1 = 0 then hd_seq fs a1 a2 a3 a4 a5 a6 a7 a8 a9 a10 a11 v.2.1 v.2.2.1 v.2.2.2 else some v
def hd_Q (l : Launch) (D : va_G) (A : Nat → Prop) (q : Nat → Nat) (cI cZ cL : ClassId) (z0 : va_W) (r : Option Nat) (h : Nat) (d : hd_Y) : Prop :=
  ∀ z, hz_le z0 z → ∀ (k : Nat), k + h ≤ 9 → ∀ (xq_query : Option Nat) (ha_parents : Nat → Int32) (hf_classCount : Int32) (ha_classes : Nat → Int32) (ha_sizes : Nat → Int32) (ha_fields : Nat → Int64) (hf_objectCount : Int32) (hf_roots : Int32) (hf_changed : Int32) (sa_linkedFrom : Nat → Int32) (sa_linkCounts : Nat → Int32) (sa_retainedSets : Nat → Int32) (sa_retainedSizes : Nat → Int32) (sa_dominators : Nat → Int32) (sa_immediateDominators : Nat → Int32) (sf_objectCount : Int32) (sf_roots : Int32) (sf_reachable : Int32) (ta_codes : Nat → Int32) (ta_numbers : Nat → Int32) (tf_count : Int32) (ta_brackets : Nat → Int32) (tf_bracketCount : Int32) (tf_place : Int32) (tf_inWhere : Int32) (tf_compared : Int32) (wa_rows : Nat → Int64) (wf_count : Int32) (wf_looks : Int32) (u : Int32 × (Nat → Int64) × Int32 × Int32), d ha_parents ha_classes ha_sizes ha_fields hf_objectCount sa_linkedFrom sa_linkCounts sa_retainedSizes sa_immediateDominators sf_roots sf_reachable wa_rows wf_count wf_looks = some u →
    hq_Ct l yxw_addQuery bxw_addQuery 6 (some .int) (hd_rq k) D (hq_tys cI cZ cL) A [.ref (q 4), .ref (q 1), va_rf r, .int (nI k)] (hx_w q cI cZ cL xq_query ha_parents hf_classCount ha_classes ha_sizes ha_fields hf_objectCount hf_roots hf_changed sa_linkedFrom sa_linkCounts sa_retainedSets sa_retainedSizes sa_dominators sa_immediateDominators sf_objectCount sf_roots sf_reachable ta_codes ta_numbers tf_count ta_brackets tf_bracketCount tf_place tf_inWhere tf_compared wa_rows wf_count wf_looks ++ z) (hx_w q cI cZ cL xq_query ha_parents hf_classCount ha_classes ha_sizes ha_fields hf_objectCount hf_roots hf_changed sa_linkedFrom sa_linkCounts sa_retainedSets sa_retainedSizes sa_dominators sa_immediateDominators sf_objectCount sf_roots sf_reachable ta_codes ta_numbers tf_count ta_brackets tf_bracketCount tf_place tf_inWhere tf_compared u.2.1 u.2.2.1 u.2.2.2 ++ z) (some (.int u.1)) 0 0
theorem hd_Q.more {l : Launch} {D : va_G} {A : Nat → Prop} {q : Nat → Nat} {cI cZ cL : ClassId} {z z' : va_W} {r : Option Nat} {h h' : Nat} {d : hd_Y} (hE : hd_Q l D A q cI cZ cL z r h d) (hz : hz_le z z') (hh : h ≤ h') : hd_Q l D A q cI cZ cL z' r h' d :=
  fun y hy k hk => hE y (hz.tr hy) k (by omega)
def hd_noQ : hd_Y := fun _ _ _ _ _ _ _ _ _ _ _ _ _ _ => none
theorem hd_Q.none {l : Launch} {D : va_G} {A : Nat → Prop} {q : Nat → Nat} {cI cZ cL : ClassId} {z : va_W} {h : Nat} : hd_Q l D A q cI cZ cL z none h hd_noQ := fun _ _ _ _ => by
  intros
  rename_i hu
  cases hu
def hd_ch (l : Launch) (D : va_G) (A : Nat → Prop) (q : Nat → Nat) (cI cZ cL : ClassId) (z0 : va_W) (h : Nat) : List hd_Y → Option Nat → Prop
  | [], r => r = none
  | f :: fs, r => ∃ (pk pa : Nat) (sD sR sc sw : Int32) (row nested cond next : Option Nat) (dN : hd_Y) (dC dR : hd_X), r = some pa ∧ z0[pk]? = some (pa, .inr (6, [.int sD, .int sR, va_rf row, va_rf nested, .int sc, .int sw, va_rf cond, va_rf next])) ∧
      hd_E l D A q cI cZ cL z0 row 41 dR ∧ hd_E l D A q cI cZ cL z0 cond 41 dC ∧ hd_Q l D A q cI cZ cL z0 nested h dN ∧ f = hd_sel dN dC dR sD sR row nested sc sw cond ∧ hd_ch l D A q cI cZ cL z0 h fs next
theorem hd_sel_dep {dN : hd_Y} {dC dR : hd_X} {x : Int32} {a1 a2 a3 : Nat → Int32} {a4 : Nat → Int64} {a5 : Int32} {a6 a7 a8 a9 : Nat → Int32} {a10 a11 : Int32} {a12 : Nat → Int64} {a13 a14 sD sR : Int32} {row nested : Option Nat} {sc sw : Int32} {cond : Option Nat} :
    sxw_addSelect dN dC dR x a1 a2 a3 a4 a5 a6 a7 a8 a9 a10 a11 a12 a13 a14 sD sR row nested sc sw cond = hd_sel dN dC dR sD sR row nested sc sw cond a1 a2 a3 a4 a5 a6 a7 a8 a9 a10 a11 a12 a13 a14 := rfl
theorem dxw_addQuery_0 : decode bxw_addQuery 0 = .ok (.iload_n 3, 1) := by decide +kernel
theorem dxw_addQuery_1 : decode bxw_addQuery 1 = .ok (.bipush 8, 2) := by decide +kernel
theorem dxw_addQuery_3 : decode bxw_addQuery 3 = .ok (.if_icmp .le 5, 3) := by decide +kernel
theorem dxw_addQuery_6 : decode bxw_addQuery 6 = .ok (.iconst 0, 1) := by decide +kernel
theorem dxw_addQuery_7 : decode bxw_addQuery 7 = .ok (.ireturn, 1) := by decide +kernel
theorem dxw_addQuery_8 : decode bxw_addQuery 8 = .ok (.iconst 0, 1) := by decide +kernel
theorem dxw_addQuery_9 : decode bxw_addQuery 9 = .ok (.istore 4, 2) := by decide +kernel
theorem dxw_addQuery_11 : decode bxw_addQuery 11 = .ok (.aload_n 2, 1) := by decide +kernel
theorem dxw_addQuery_12 : decode bxw_addQuery 12 = .ok (.astore 5, 2) := by decide +kernel
theorem dxw_addQuery_14 : decode bxw_addQuery 14 = .ok (.aload 5, 2) := by decide +kernel
theorem dxw_addQuery_16 : decode bxw_addQuery 16 = .ok (.ifnull 28, 3) := by decide +kernel
theorem dxw_addQuery_19 : decode bxw_addQuery 19 = .ok (.iload 4, 2) := by decide +kernel
theorem dxw_addQuery_21 : decode bxw_addQuery 21 = .ok (.ifCond .ne 23, 3) := by decide +kernel
theorem dxw_addQuery_24 : decode bxw_addQuery 24 = .ok (.aload_n 0, 1) := by decide +kernel
theorem dxw_addQuery_25 : decode bxw_addQuery 25 = .ok (.aload_n 1, 1) := by decide +kernel
theorem dxw_addQuery_26 : decode bxw_addQuery 26 = .ok (.aload 5, 2) := by decide +kernel
theorem dxw_addQuery_28 : decode bxw_addQuery 28 = .ok (.iload_n 3, 1) := by decide +kernel
theorem dxw_addQuery_29 : decode bxw_addQuery 29 = .ok (.invokevirtual 22, 3) := by decide +kernel
theorem dxw_addQuery_32 : decode bxw_addQuery 32 = .ok (.istore 4, 2) := by decide +kernel
theorem dxw_addQuery_34 : decode bxw_addQuery 34 = .ok (.aload 5, 2) := by decide +kernel
theorem dxw_addQuery_36 : decode bxw_addQuery 36 = .ok (.getfield 26, 3) := by decide +kernel
theorem dxw_addQuery_39 : decode bxw_addQuery 39 = .ok (.astore 5, 2) := by decide +kernel
theorem dxw_addQuery_41 : decode bxw_addQuery 41 = .ok (.goto (-27), 3) := by decide +kernel
theorem dxw_addQuery_44 : decode bxw_addQuery 44 = .ok (.iload 4, 2) := by decide +kernel
theorem dxw_addQuery_46 : decode bxw_addQuery 46 = .ok (.ireturn, 1) := by decide +kernel
section
variable {l : Launch} {D : va_G} {A : Nat → Prop} {z w : va_W} {q : Nat → Nat} {cI cZ cL : ClassId}
variable {hf_classCount hf_objectCount hf_roots hf_changed sf_objectCount sf_roots sf_reachable tf_count tf_bracketCount tf_place tf_inWhere tf_compared wf_count wf_looks n_code n_number s_isDistinct s_isRetained s_sourceClass s_withDescendants : Int32}
variable {ha_parents ha_classes ha_sizes sa_linkedFrom sa_linkCounts sa_retainedSets sa_retainedSizes sa_dominators sa_immediateDominators ta_codes ta_numbers ta_brackets : Nat → Int32}
variable {ha_fields wa_rows : Nat → Int64}
variable {xq_query n_left n_right s_row s_nested s_condition s_next : Option Nat}
variable {pa_n pk_n pa_s pk_s : Nat}
set_option maxHeartbeats 4000000 in
set_option maxRecDepth 100000 in
theorem hd_chain {z0 : va_W} {h : Nat} (fs : List hd_Y) (r : Option Nat) (hch : hd_ch l D A q cI cZ cL z0 h fs r) : hd_Q l D A q cI cZ cL z0 r (h + 1) (hd_seq fs) := by
  intro z hz k hk xq_query ha_parents hf_classCount ha_classes ha_sizes ha_fields hf_objectCount hf_roots hf_changed sa_linkedFrom sa_linkCounts sa_retainedSets sa_retainedSizes sa_dominators sa_immediateDominators sf_objectCount sf_roots sf_reachable ta_codes ta_numbers tf_count ta_brackets tf_bracketCount tf_place tf_inWhere tf_compared wa_rows wf_count wf_looks ur hu
  refine hq_of (by decide) ?_ (by cases r <;> exact Nat.le_of_ble_eq_true rfl)
  intro p e s m below meth c R args Q hRm hQ hx hb hr hml hts hown hlocks hnm hP hK hD ls hl hS
  have hla : lv_args 0 [.ref (q 4), .ref (q 1), va_rf r, .int (nI k)] = [(0, .ref (q 4)), (1, .ref (q 1)), (2, va_rf r), (3, .int (nI k))] := by cases r <;> rfl
  rw [hla] at hl
  have hown : s.vm.findClass "HeapQueries$Worker" = some m.cls := hown
  have hk8 : k ≤ 8 := by omega
  have EX : ∀ (e0 : Int32) (wa_rows : Nat → Int64) (wf_count wf_looks : Int32) (ls : Array Slot) (H : Heap) (locs : List Loc), lv_has ls 6 [(4, .int e0)] → va_P D hq_cl (hx_w q cI cZ cL xq_query ha_parents hf_classCount ha_classes ha_sizes ha_fields hf_objectCount hf_roots hf_changed sa_linkedFrom sa_linkCounts sa_retainedSets sa_retainedSizes sa_dominators sa_immediateDominators sf_objectCount sf_roots sf_reachable ta_codes ta_numbers tf_count ta_brackets tf_bracketCount tf_place tf_inWhere tf_compared wa_rows wf_count wf_looks ++ z) H → va_D A (hx_w q cI cZ cL xq_query ha_parents hf_classCount ha_classes ha_sizes ha_fields hf_objectCount hf_roots hf_changed sa_linkedFrom sa_linkCounts sa_retainedSets sa_retainedSizes sa_dominators sa_immediateDominators sf_objectCount sf_roots sf_reachable ta_codes ta_numbers tf_count ta_brackets tf_bracketCount tf_place tf_inWhere tf_compared wa_rows wf_count wf_looks ++ z) → va_S A s.heap H locs → ur = (e0, wa_rows, wf_count, wf_looks) → W p l e R s m args below meth c H locs 0 0 Q (F0 m 44 ls []) := by
    intro e0 wa_rows wf_count wf_looks ls H locs hl hP hD hS hur
    refine lv_iload hx hb dxw_addQuery_44 (lv_at hl 0 rfl) ?_
    exact hq_iret hx hb hr hlocks hQ hK hP hD hS (by rw [hur]) (by rw [hur]) dxw_addQuery_46
  have LP : ∀ (fs : List hd_Y) (r : Option Nat) (wa_rows : Nat → Int64) (wf_count wf_looks : Int32) (ls : Array Slot) (H : Heap) (locs : List Loc), hd_ch l D A q cI cZ cL z0 h fs r → hd_seq fs ha_parents ha_classes ha_sizes ha_fields hf_objectCount sa_linkedFrom sa_linkCounts sa_retainedSizes sa_immediateDominators sf_roots sf_reachable wa_rows wf_count wf_looks = some ur → lv_has ls 6 [(5, va_rf r), (4, .int 0), (0, .ref (q 4)), (1, .ref (q 1)), (3, .int (nI k))] → va_P D hq_cl (hx_w q cI cZ cL xq_query ha_parents hf_classCount ha_classes ha_sizes ha_fields hf_objectCount hf_roots hf_changed sa_linkedFrom sa_linkCounts sa_retainedSets sa_retainedSizes sa_dominators sa_immediateDominators sf_objectCount sf_roots sf_reachable ta_codes ta_numbers tf_count ta_brackets tf_bracketCount tf_place tf_inWhere tf_compared wa_rows wf_count wf_looks ++ z) H → va_D A (hx_w q cI cZ cL xq_query ha_parents hf_classCount ha_classes ha_sizes ha_fields hf_objectCount hf_roots hf_changed sa_linkedFrom sa_linkCounts sa_retainedSets sa_retainedSizes sa_dominators sa_immediateDominators sf_objectCount sf_roots sf_reachable ta_codes ta_numbers tf_count ta_brackets tf_bracketCount tf_place tf_inWhere tf_compared wa_rows wf_count wf_looks ++ z) → va_S A s.heap H locs → W p l e R s m args below meth c H locs 0 0 Q (F0 m 14 ls []) := by
    intro fs
    induction fs with
    | nil =>
      intro r wa_rows wf_count wf_looks ls H locs hch hu hl hP hD hS
      have hch : r = none := hch
      subst hch
      refine hq_aload hx hb dxw_addQuery_14 (lv_at hl 0 rfl) ?_
      refine hq_ifnull (tgt := 44) hx hb dxw_addQuery_16 (by decide) (fun _ => ?_) (fun hc => absurd rfl hc)
      exact EX 0 wa_rows wf_count wf_looks ls H locs (lv_sub hl [1] rfl) hP hD hS (Option.some.inj hu).symm
    | cons f fs ih =>
      intro r wa_rows wf_count wf_looks ls H locs hch hu hl hP hD hS
      obtain ⟨pk_s, pa_s, sD, sR, sc, sw, row, nested, cond, next, dN, dC, dR, rfl, hcell, hRd, hCd, hNd, rfl, hch⟩ := hch
      obtain ⟨v, hv, hu⟩ := hq_bind hu
      refine hq_aload hx hb dxw_addQuery_14 (lv_at hl 0 rfl) ?_
      refine hq_ifnull (tgt := 44) hx hb dxw_addQuery_16 (by decide) (fun hc => by cases hc) (fun _ => ?_)
      refine lv_iload hx hb dxw_addQuery_19 (lv_at hl 1 rfl) ?_
      refine lv_if_ne (tgt := 44) hx hb dxw_addQuery_21 (by decide) (fun hc => absurd rfl hc) (fun _ => ?_)
      refine lv_aload_n hx hb dxw_addQuery_24 rfl (lv_at hl 2 rfl) ?_
      refine lv_aload_n hx hb dxw_addQuery_25 rfl (lv_at hl 3 rfl) ?_
      refine hq_aload hx hb dxw_addQuery_26 (lv_at hl 0 rfl) ?_
      refine lv_iload_n hx hb dxw_addQuery_28 rfl (lv_at hl 4 rfl) ?_
      have hce := hz _ _ _ _ hcell (Or.inl rfl)
      refine kxw_addSelect k hk8 dN dC dR (nI k) v (hd_sel_dep.trans hv) hce (fun u hu => ?_) (hCd.more hz (Nat.le_refl _)) (hRd.more hz (Nat.le_refl _)) hx hb hml hts hown hK hP hD hS wi_668 (by rw [hRm]; exact ⟨by show 59 + 3 * (9 - k) + 1 ≤ 60 + 3 * (9 - k); omega, by show _ + (2170 + 100 * (9 - k)) ≤ 2200 + 100 * (9 - k); omega⟩) hl.1 (Nat.le_of_ble_eq_true rfl) dxw_addQuery_29 ⟨Nat.zero_le _, Nat.zero_le _⟩ (fun H locs hP hD hS => ?_)
      · rw [nI_1]
        exact hNd z hz (k + 1) (by omega) xq_query ha_parents hf_classCount ha_classes ha_sizes ha_fields hf_objectCount hf_roots hf_changed sa_linkedFrom sa_linkCounts sa_retainedSets sa_retainedSizes sa_dominators sa_immediateDominators sf_objectCount sf_roots sf_reachable ta_codes ta_numbers tf_count ta_brackets tf_bracketCount tf_place tf_inWhere tf_compared wa_rows wf_count wf_looks u hu
      · refine lv_istore (lv' := [(4, .int v.1), (5, .ref pa_s), (0, .ref (q 4)), (1, .ref (q 1)), (3, .int (nI k))]) hx hb dxw_addQuery_32 hl (by decide) rfl (fun ls hl => ?_)
        refine lv_aload hx hb dxw_addQuery_34 (lv_at hl 1 rfl) ?_
        refine gx_s_next hx hb hts hown hK hP hce wi_669 dxw_addQuery_36 ?_
        refine hq_astore (lv' := [(5, va_rf next), (4, .int v.1), (0, .ref (q 4)), (1, .ref (q 1)), (3, .int (nI k))]) hx hb dxw_addQuery_39 hl (by decide) rfl (fun ls hl => ?_)
        refine lv_goto (tgt := 14) hx hb dxw_addQuery_41 (by decide) ?_
        by_cases h0 : v.1 = 0
        · rw [if_pos h0] at hu
          rw [h0] at hl
          exact ih next v.2.1 v.2.2.1 v.2.2.2 ls H locs hch hu hl hP hD hS
        · rw [if_neg h0] at hu
          refine hq_aload hx hb dxw_addQuery_14 (lv_at hl 0 rfl) ?_
          refine hq_ifnull (tgt := 44) hx hb dxw_addQuery_16 (by decide) (fun _ => ?_) (fun _ => ?_)
          · exact EX v.1 v.2.1 v.2.2.1 v.2.2.2 ls H locs (lv_sub hl [1] rfl) hP hD hS (Option.some.inj hu).symm
          · refine lv_iload hx hb dxw_addQuery_19 (lv_at hl 1 rfl) ?_
            refine lv_if_ne (tgt := 44) hx hb dxw_addQuery_21 (by decide) (fun _ => ?_) (fun hc => absurd hc h0)
            exact EX v.1 v.2.1 v.2.2.1 v.2.2.2 ls H locs (lv_sub hl [1] rfl) hP hD hS (Option.some.inj hu).symm
  refine lv_iload_n hx hb dxw_addQuery_0 rfl (lv_at hl 3 rfl) ?_
  refine lv_bipush (v := 8) hx hb dxw_addQuery_1 (by decide) ?_
  refine lv_icmp_le (tgt := 8) hx hb dxw_addQuery_3 (by decide) (fun _ => ?_) (fun hc => absurd ((nI_leI (b := 8) (by omega) (by omega)).mpr hk8) hc)
  refine lv_iconst (v := 0) hx hb dxw_addQuery_8 (by decide) ?_
  refine lv_istore (lv' := [(4, .int 0), (0, .ref (q 4)), (1, .ref (q 1)), (2, va_rf r), (3, .int (nI k))]) hx hb dxw_addQuery_9 hl (by decide) (by cases r <;> rfl) (fun ls hl => ?_)
  refine hq_aload_n hx hb dxw_addQuery_11 rfl (lv_at hl 3 rfl) ?_
  refine hq_astore (lv' := [(5, va_rf r), (4, .int 0), (0, .ref (q 4)), (1, .ref (q 1)), (2, va_rf r), (3, .int (nI k))]) hx hb dxw_addQuery_12 hl (by decide) (by cases r <;> rfl) (fun ls hl => ?_)
  exact LP fs r wa_rows wf_count wf_looks ls _ _ hch hu (lv_sub hl [0, 1, 2, 3, 5] rfl) hP hD hS
end
