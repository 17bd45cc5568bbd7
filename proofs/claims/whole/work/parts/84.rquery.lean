/-! readQuery -/
def rd_lq (c : Nat → Int32) (recS : Nat → Option (hd_Y × Nat × Nat)) : Nat → Nat → Option (List hd_Y × Nat × Nat)
  | 0, _ => none
  | m + 1, p => if c p = 5 then (recS (p + 1)).bind fun f => if p + 2 ≤ f.2.2 ∧ f.2.2 ≤ 41 then (rd_lq c recS m f.2.2).bind fun r => some (f.1 :: r.1, max f.2.1 r.2.1, r.2.2) else none else some ([], 0, p)
def rd_Q1 (c : Nat → Int32) (recS : Nat → Option (hd_Y × Nat × Nat)) (dep p : Nat) : Option (List hd_Y × Nat × Nat) :=
  if dep ≤ 8 then (recS p).bind fun f => if p + 1 ≤ f.2.2 ∧ f.2.2 ≤ 41 then (rd_lq c recS 8 f.2.2).bind fun r => some (f.1 :: r.1, max f.2.1 r.2.1, r.2.2) else none else none
theorem rd_lq_ge {c : Nat → Int32} {recS : Nat → Option (hd_Y × Nat × Nat)} : ∀ (m p : Nat) (u : List hd_Y × Nat × Nat), rd_lq c recS m p = some u → p ≤ u.2.2 := by
  intro m
  induction m with
  | zero => intro p u hu; cases hu
  | succ m ih =>
    intro p u hu
    have hu : (if c p = 5 then (recS (p + 1)).bind fun f => if p + 2 ≤ f.2.2 ∧ f.2.2 ≤ 41 then (rd_lq c recS m f.2.2).bind fun r => some (f.1 :: r.1, max f.2.1 r.2.1, r.2.2) else none else some ([], 0, p)) = some u := hu
    by_cases h5 : c p = 5
    · rw [if_pos h5] at hu
      obtain ⟨f, _, hu⟩ := hq_bind hu
      obtain ⟨hf, hu⟩ := hq_ok hu
      obtain ⟨r, hr, hu⟩ := hq_bind hu
      cases hu
      have := ih _ _ hr
      show p ≤ r.2.2
      omega
    · rw [if_neg h5] at hu
      cases hu
      exact Nat.le_refl _
abbrev sl_c (a : Nat) (sD sR : Int32) (row nested : Option Nat) (sc sw : Int32) (cond next : Option Nat) : Nat × va_E := (a, .inr (6, [.int sD, .int sR, va_rf row, va_rf nested, .int sc, .int sw, va_rf cond, va_rf next]))
theorem hd_ch.more {l : Launch} {D : va_G} {A : Nat → Prop} {q : Nat → Nat} {cI cZ cL : ClassId} {z z' : va_W} {h h' : Nat} (hz : hz_le z z') (hh : h ≤ h') : ∀ {fs : List hd_Y} {r : Option Nat}, hd_ch l D A q cI cZ cL z h fs r → hd_ch l D A q cI cZ cL z' h' fs r
  | [], _, hc => hc
  | _ :: _, _, hc => by
    obtain ⟨pk, pa, sD, sR, sc, sw, row, nested, cond, next, dN, dC, dR, e1, e2, e3, e4, e5, e6, e7⟩ := hc
    exact ⟨pk, pa, sD, sR, sc, sw, row, nested, cond, next, dN, dC, dR, e1, hz _ _ _ _ e2 (Or.inl rfl), e3.more hz (Nat.le_refl _), e4.more hz (Nat.le_refl _), e5.more hz hh, e6, hd_ch.more hz hh e7⟩
theorem dxr_readQuery_0 : decode bxr_readQuery 0 = .ok (.iload_n 1, 1) := by decide +kernel
theorem dxr_readQuery_1 : decode bxr_readQuery 1 = .ok (.bipush 8, 2) := by decide +kernel
theorem dxr_readQuery_3 : decode bxr_readQuery 3 = .ok (.if_icmp .le 5, 3) := by decide +kernel
theorem dxr_readQuery_6 : decode bxr_readQuery 6 = .ok (.aconst_null, 1) := by decide +kernel
theorem dxr_readQuery_7 : decode bxr_readQuery 7 = .ok (.areturn, 1) := by decide +kernel
theorem dxr_readQuery_8 : decode bxr_readQuery 8 = .ok (.aload_n 0, 1) := by decide +kernel
theorem dxr_readQuery_9 : decode bxr_readQuery 9 = .ok (.iload_n 1, 1) := by decide +kernel
theorem dxr_readQuery_10 : decode bxr_readQuery 10 = .ok (.invokevirtual 15, 3) := by decide +kernel
theorem dxr_readQuery_13 : decode bxr_readQuery 13 = .ok (.astore_n 2, 1) := by decide +kernel
theorem dxr_readQuery_14 : decode bxr_readQuery 14 = .ok (.aload_n 2, 1) := by decide +kernel
theorem dxr_readQuery_15 : decode bxr_readQuery 15 = .ok (.astore_n 3, 1) := by decide +kernel
theorem dxr_readQuery_16 : decode bxr_readQuery 16 = .ok (.iconst 1, 1) := by decide +kernel
theorem dxr_readQuery_17 : decode bxr_readQuery 17 = .ok (.istore 4, 2) := by decide +kernel
theorem dxr_readQuery_19 : decode bxr_readQuery 19 = .ok (.iload 4, 2) := by decide +kernel
theorem dxr_readQuery_21 : decode bxr_readQuery 21 = .ok (.bipush 8, 2) := by decide +kernel
theorem dxr_readQuery_23 : decode bxr_readQuery 23 = .ok (.if_icmp .ge 31, 3) := by decide +kernel
theorem dxr_readQuery_26 : decode bxr_readQuery 26 = .ok (.aload_n 0, 1) := by decide +kernel
theorem dxr_readQuery_27 : decode bxr_readQuery 27 = .ok (.iconst 5, 1) := by decide +kernel
theorem dxr_readQuery_28 : decode bxr_readQuery 28 = .ok (.invokevirtual 19, 3) := by decide +kernel
theorem dxr_readQuery_31 : decode bxr_readQuery 31 = .ok (.ifCond .eq 23, 3) := by decide +kernel
theorem dxr_readQuery_34 : decode bxr_readQuery 34 = .ok (.aload_n 3, 1) := by decide +kernel
theorem dxr_readQuery_35 : decode bxr_readQuery 35 = .ok (.aload_n 0, 1) := by decide +kernel
theorem dxr_readQuery_36 : decode bxr_readQuery 36 = .ok (.iload_n 1, 1) := by decide +kernel
theorem dxr_readQuery_37 : decode bxr_readQuery 37 = .ok (.invokevirtual 15, 3) := by decide +kernel
theorem dxr_readQuery_40 : decode bxr_readQuery 40 = .ok (.putfield 23, 3) := by decide +kernel
theorem dxr_readQuery_43 : decode bxr_readQuery 43 = .ok (.aload_n 3, 1) := by decide +kernel
theorem dxr_readQuery_44 : decode bxr_readQuery 44 = .ok (.getfield 23, 3) := by decide +kernel
theorem dxr_readQuery_47 : decode bxr_readQuery 47 = .ok (.astore_n 3, 1) := by decide +kernel
theorem dxr_readQuery_48 : decode bxr_readQuery 48 = .ok (.iinc 4 1, 3) := by decide +kernel
theorem dxr_readQuery_51 : decode bxr_readQuery 51 = .ok (.goto (-32), 3) := by decide +kernel
theorem dxr_readQuery_54 : decode bxr_readQuery 54 = .ok (.aload_n 2, 1) := by decide +kernel
theorem dxr_readQuery_55 : decode bxr_readQuery 55 = .ok (.areturn, 1) := by decide +kernel
section
variable {p : Program} {l : Launch} {e : Env} {R : Room} {s : State} {m : MethodId} {args : Array Value} {below : List Frame} {meth : Method} {c : Code} {H H0 : Heap} {locs : List Loc} {cells slots : Nat} {Q : State → Prop}
variable {cc : ByteArray} {pc idx nC : Nat} {ls : Array Slot} {rest : List Value} {D : va_G} {A : Nat → Prop} {own : String} {q : Nat → Nat} {cI cZ cL : ClassId} {z w : va_W}
variable {hf_classCount hf_objectCount hf_roots hf_changed sf_objectCount sf_roots sf_reachable tf_count tf_bracketCount tf_place tf_inWhere tf_compared wf_count wf_looks rf_at n_code n_number s_isDistinct s_isRetained s_sourceClass s_withDescendants : Int32}
variable {ha_parents ha_classes ha_sizes sa_linkedFrom sa_linkCounts sa_retainedSets sa_retainedSizes sa_dominators sa_immediateDominators ta_codes ta_numbers ta_brackets : Nat → Int32}
variable {ha_fields wa_rows : Nat → Int64}
variable {xq_query n_left n_right s_row s_nested s_condition s_next : Option Nat}
variable {pa_n pk_n pa_s pk_s : Nat}
theorem gsl {X z1 y : va_W} {r : Nat × va_E} {a k : Nat} {fs : List Value} {v : Value} (hX : X.length = 19) (hx : p.tables.exec = Jvm.exec) (hb : c.code = cc) (hts : ∀ x ∈ hq_tbl, x.before args s = true) (hown : s.vm.findClass own = some m.cls) (hK : va_K D hq_cl (hq_tys cI cZ cL) s) (hP : va_P D hq_cl (X ++ (r :: (z1 ++ (a, .inr (6, fs)) :: y))) H) (hk : k < 8)
    (hw : Cond.fieldLink own idx "HeapQueries$Select" (hT_xl k).2.1 (hT_xl k).2.2.1 ∈ hq_tbl) (hsame : (hT_xl k).1 = "HeapQueries$Select") (hv : fs[k]? = some v) (hdg : decode cc pc = .ok (.getfield idx, 3))
    (kk : W p l e R s m args below meth c H locs cells slots Q (F0 m (pc + 3) ls (v :: rest))) : W p l e R s m args below meth c H locs cells slots Q (F0 m pc ls (.ref a :: rest)) := by
  exact va_get hx hb hts hin_xl hown hK hP (19 + (z1.length + 1)) (hz_mid hX) rfl k hk (hts _ hw) (fun x h9 => by rw [hsame] at h9; exact h9) hv hdg kk
end
section
variable {l : Launch} {D : va_G} {A : Nat → Prop} {z w : va_W} {q : Nat → Nat} {cI cZ cL : ClassId}
variable {hf_classCount hf_objectCount hf_roots hf_changed sf_objectCount sf_roots sf_reachable tf_count tf_bracketCount tf_place tf_inWhere tf_compared wf_count wf_looks rf_at n_code n_number s_isDistinct s_isRetained s_sourceClass s_withDescendants : Int32}
variable {ha_parents ha_classes ha_sizes sa_linkedFrom sa_linkCounts sa_retainedSets sa_retainedSizes sa_dominators sa_immediateDominators ta_codes ta_numbers ta_brackets : Nat → Int32}
variable {ha_fields wa_rows : Nat → Int64}
variable {xq_query n_left n_right s_row s_nested s_condition s_next : Option Nat}
variable {pa_n pk_n pa_s pk_s : Nat}
set_option maxHeartbeats 8000000 in
set_option maxRecDepth 100000 in
theorem cxr_readQuery {k p dep : Nat} (hk : k ≤ 40) (hp : p ≤ 40) (htc : tf_count = nI k) (recS : Nat → Option (hd_Y × Nat × Nat))
    (hrec : ∀ (p : Nat) (z : va_W) (u : hd_Y × Nat × Nat), recS p = some u → hq_Cn l yxr_readSelect bxr_readSelect 3 (some (.object "HeapQueries$Select")) (rd_rmS dep (u.2.2 - p)) D (hq_tys cI cZ cL) A [.ref (q 19), .int (nI dep)] (hx_w q cI cZ cL xq_query ha_parents hf_classCount ha_classes ha_sizes ha_fields hf_objectCount hf_roots hf_changed sa_linkedFrom sa_linkCounts sa_retainedSets sa_retainedSizes sa_dominators sa_immediateDominators sf_objectCount sf_roots sf_reachable ta_codes ta_numbers tf_count ta_brackets tf_bracketCount tf_place tf_inWhere tf_compared wa_rows wf_count wf_looks ++ (rd_c q (nI p) :: z)) (rd_PS l D A q cI cZ cL (hx_w q cI cZ cL xq_query ha_parents hf_classCount ha_classes ha_sizes ha_fields hf_objectCount hf_roots hf_changed sa_linkedFrom sa_linkCounts sa_retainedSets sa_retainedSizes sa_dominators sa_immediateDominators sf_objectCount sf_roots sf_reachable ta_codes ta_numbers tf_count ta_brackets tf_bracketCount tf_place tf_inWhere tf_compared wa_rows wf_count wf_looks) z u.1 u.2.1 u.2.2) (u.2.2 - p) (4 * (u.2.2 - p)))
    (u : List hd_Y × Nat × Nat) (hu : rd_Q1 (rd_cd ta_codes k) recS dep p = some u) :
    hq_Cn l yxr_readQuery bxr_readQuery 5 (some (.object "HeapQueries$Select")) (rd_rmQ dep (u.2.2 - p)) D (hq_tys cI cZ cL) A [.ref (q 19), .int (nI dep)] (hx_w q cI cZ cL xq_query ha_parents hf_classCount ha_classes ha_sizes ha_fields hf_objectCount hf_roots hf_changed sa_linkedFrom sa_linkCounts sa_retainedSets sa_retainedSizes sa_dominators sa_immediateDominators sf_objectCount sf_roots sf_reachable ta_codes ta_numbers tf_count ta_brackets tf_bracketCount tf_place tf_inWhere tf_compared wa_rows wf_count wf_looks ++ (rd_c q (nI p) :: z)) (rd_PQ l D A q cI cZ cL (hx_w q cI cZ cL xq_query ha_parents hf_classCount ha_classes ha_sizes ha_fields hf_objectCount hf_roots hf_changed sa_linkedFrom sa_linkCounts sa_retainedSets sa_retainedSizes sa_dominators sa_immediateDominators sf_objectCount sf_roots sf_reachable ta_codes ta_numbers tf_count ta_brackets tf_bracketCount tf_place tf_inWhere tf_compared wa_rows wf_count wf_looks) z u.1 u.2.1 u.2.2) (u.2.2 - p) (4 * (u.2.2 - p)) := by
  unfold rd_Q1 at hu
  obtain ⟨hd8, hu⟩ := hq_ok hu
  obtain ⟨f0, hf0, hu⟩ := hq_bind hu
  obtain ⟨⟨hf1, hf2⟩, hu⟩ := hq_ok hu
  obtain ⟨r0, hr0, hu⟩ := hq_bind hu
  have hge0 := rd_lq_ge _ _ _ hr0
  have hu1 : u.1 = f0.1 :: r0.1 ∧ u.2.1 = max f0.2.1 r0.2.1 ∧ u.2.2 = r0.2.2 := by cases hu; exact ⟨rfl, rfl, rfl⟩
  obtain ⟨hu1, hu2, hu3⟩ := hu1
  refine hq_ofn (by decide) ?_ (Nat.le_of_ble_eq_true rfl)
  intro p' e s m below meth c R args Q hRm hQ hx hb hr hml hts hown hlocks hnm hP hK hD hA hN ls hl hS
  have hl : lv_has ls 5 [(0, .ref (q 19)), (1, .int (nI dep))] := hl
  have hown : s.vm.findClass "HeapQueries$Reader" = some m.cls := hown
  have hRc : R.cells = u.2.2 - p := by rw [hRm]; rfl
  have hRs : R.slots = 4 * (u.2.2 - p) := by rw [hRm]; rfl
  have hRS : ∀ x : Nat, (rd_rmS dep x).frames + 1 ≤ R.frames ∧ 8 + (3 + 11) + (rd_rmS dep x).locals ≤ R.locals := fun x => by
    rw [hRm]
    exact ⟨by show 100 + 2 * (9 - dep) + 1 ≤ 101 + 2 * (9 - dep); omega, by show 8 + (3 + 11) + (2700 + 60 * (9 - dep)) ≤ 2730 + 60 * (9 - dep); omega⟩
  have hRk : ∀ {a b : Nat}, a ≤ 101 → b ≤ 2730 → a ≤ R.frames ∧ b ≤ R.locals := fun ha hb => by
    rw [hRm]
    exact ⟨by show _ ≤ 101 + 2 * (9 - dep); omega, by show _ ≤ 2730 + 60 * (9 - dep); omega⟩
  have LP : ∀ (n j p1 a0 al h1 : Nat) (gs : List hd_Y) (y1 y2 : va_W) (sD sR sc sw : Int32) (row nested cond : Option Nat) (rr : List hd_Y × Nat × Nat) (ls : Array Slot) (H : Heap) (locs : List Loc), n + j = 9 → p ≤ p1 → p1 ≤ 41 → rd_lq (rd_cd ta_codes k) recS n p1 = some rr → rr.2.2 = u.2.2 → gs ++ rr.1 = u.1 → max h1 rr.2.1 ≤ u.2.1 →
      (∀ (y3 : va_W) (r : Option Nat) (fs : List hd_Y), hd_ch l D A q cI cZ cL (zp (z.length + 1) (y1 ++ sl_c al sD sR row nested sc sw cond r :: (y2 ++ y3))) u.2.1 fs r → hd_ch l D A q cI cZ cL (zp (z.length + 1) (y1 ++ sl_c al sD sR row nested sc sw cond r :: (y2 ++ y3))) u.2.1 (gs ++ fs) (some a0)) →
      lv_has ls 5 [(4, .int (nI j)), (3, .ref al), (2, .ref a0), (0, .ref (q 19)), (1, .int (nI dep))] → va_P D hq_cl (hx_w q cI cZ cL xq_query ha_parents hf_classCount ha_classes ha_sizes ha_fields hf_objectCount hf_roots hf_changed sa_linkedFrom sa_linkCounts sa_retainedSets sa_retainedSizes sa_dominators sa_immediateDominators sf_objectCount sf_roots sf_reachable ta_codes ta_numbers tf_count ta_brackets tf_bracketCount tf_place tf_inWhere tf_compared wa_rows wf_count wf_looks ++ (rd_c q (nI p1) :: (z ++ (y1 ++ sl_c al sD sR row nested sc sw cond none :: y2)))) H → va_D A (hx_w q cI cZ cL xq_query ha_parents hf_classCount ha_classes ha_sizes ha_fields hf_objectCount hf_roots hf_changed sa_linkedFrom sa_linkCounts sa_retainedSets sa_retainedSizes sa_dominators sa_immediateDominators sf_objectCount sf_roots sf_reachable ta_codes ta_numbers tf_count ta_brackets tf_bracketCount tf_place tf_inWhere tf_compared wa_rows wf_count wf_looks ++ (rd_c q (nI p1) :: (z ++ (y1 ++ sl_c al sD sR row nested sc sw cond none :: y2)))) → va_S A s.heap H locs → W p' l e R s m args below meth c H locs (p1 - p) (4 * (p1 - p)) Q (F0 m 19 ls []) := by
    intro n
    induction n with
    | zero => intro j p1 a0 al h1 gs y1 y2 sD sR sc sw row nested cond rr ls H locs hnj hp1 hp41 hrr; cases hrr
    | succ n ih =>
      intro j p1 a0 al h1 gs y1 y2 sD sR sc sw row nested cond rr ls H locs hnj hp1 hp41 hrr hr2 hr1 hhm HC hl hP hD hS
      have hge := rd_lq_ge _ _ _ hrr
      have EX : rr = ([], 0, p1) → ∀ (ls : Array Slot) (H : Heap) (locs : List Loc), lv_has ls 5 [(2, .ref a0)] → va_P D hq_cl (hx_w q cI cZ cL xq_query ha_parents hf_classCount ha_classes ha_sizes ha_fields hf_objectCount hf_roots hf_changed sa_linkedFrom sa_linkCounts sa_retainedSets sa_retainedSizes sa_dominators sa_immediateDominators sf_objectCount sf_roots sf_reachable ta_codes ta_numbers tf_count ta_brackets tf_bracketCount tf_place tf_inWhere tf_compared wa_rows wf_count wf_looks ++ (rd_c q (nI p1) :: (z ++ (y1 ++ sl_c al sD sR row nested sc sw cond none :: y2)))) H → va_D A (hx_w q cI cZ cL xq_query ha_parents hf_classCount ha_classes ha_sizes ha_fields hf_objectCount hf_roots hf_changed sa_linkedFrom sa_linkCounts sa_retainedSets sa_retainedSizes sa_dominators sa_immediateDominators sf_objectCount sf_roots sf_reachable ta_codes ta_numbers tf_count ta_brackets tf_bracketCount tf_place tf_inWhere tf_compared wa_rows wf_count wf_looks ++ (rd_c q (nI p1) :: (z ++ (y1 ++ sl_c al sD sR row nested sc sw cond none :: y2)))) → va_S A s.heap H locs → W p' l e R s m args below meth c H locs (p1 - p) (4 * (p1 - p)) Q (F0 m 54 ls []) := by
        intro hrr0 ls H locs hl hP hD hS
        subst hrr0
        have hp1u : p1 = u.2.2 := hr2
        have hgs : gs = u.1 := by rw [← hr1]; exact (List.append_nil gs).symm
        refine lv_aload_n hx hb dxr_readQuery_54 rfl (lv_at hl 0 rfl) ?_
        refine hq_aretn (r := some a0) hx hb hr hlocks hQ (by omega) (by omega) hK hP hD hS ⟨a0, y1 ++ sl_c al sD sR row nested sc sw cond none :: y2, rfl, by rw [hp1u], ?_⟩ dxr_readQuery_55
        have := HC [] none [] rfl
        rw [List.append_nil, List.append_nil, hgs] at this
        exact this
      refine lv_iload hx hb dxr_readQuery_19 (lv_at hl 0 rfl) ?_
      refine lv_bipush (v := 8) hx hb dxr_readQuery_21 (by decide) ?_
      have hrr : (if rd_cd ta_codes k p1 = 5 then (recS (p1 + 1)).bind fun f => if p1 + 2 ≤ f.2.2 ∧ f.2.2 ≤ 41 then (rd_lq (rd_cd ta_codes k) recS n f.2.2).bind fun r => some (f.1 :: r.1, max f.2.1 r.2.1, r.2.2) else none else some ([], 0, p1)) = some rr := hrr
      refine lv_icmp_ge (tgt := 54) hx hb dxr_readQuery_23 (by decide) (fun hc => ?_) (fun hc => ?_)
      · have hj8 := (nI_leI (a := 8) (by omega) (by omega)).mp hc
        have hn0 : n = 0 := by omega
        subst hn0
        by_cases h5 : rd_cd ta_codes k p1 = 5
        · rw [if_pos h5] at hrr
          obtain ⟨f, _, hrr⟩ := hq_bind hrr
          obtain ⟨_, hrr⟩ := hq_ok hrr
          obtain ⟨r, hr9, _⟩ := hq_bind hrr
          cases hr9
        · rw [if_neg h5] at hrr
          exact EX (Option.some.inj hrr).symm ls H locs (lv_sub hl [2] rfl) hP hD hS
      · have hj8 : j < 8 := Nat.lt_of_not_le fun q => hc ((nI_leI (a := 8) (by omega) (by omega)).mpr q)
        refine lv_aload_n hx hb dxr_readQuery_26 rfl (lv_at hl 3 rfl) ?_
        refine lv_iconst (v := 5) hx hb dxr_readQuery_27 (by decide) ?_
        by_cases h5 : rd_cd ta_codes k p1 = 5
        · rw [if_pos h5] at hrr
          obtain ⟨f, hf, hrr⟩ := hq_bind hrr
          obtain ⟨⟨hf3, hf4⟩, hrr⟩ := hq_ok hrr
          obtain ⟨r, hr9, hrr⟩ := hq_bind hrr
          have hge9 := rd_lq_ge _ _ _ hr9
          have e1 : rr.1 = f.1 :: r.1 ∧ rr.2.1 = max f.2.1 r.2.1 ∧ rr.2.2 = r.2.2 := by cases hrr; exact ⟨rfl, rfl, rfl⟩
          obtain ⟨e1, e2, e3⟩ := e1
          refine ksk_Y 5 hk (by omega) htc h5 hx hb hml hts hown hK hP hD hS wi_629 (hRk (by decide) (by decide)) hl.1 (Nat.le_of_ble_eq_true rfl) dxr_readQuery_28 (by rw [hRc, hRs]; omega) (fun H locs hP hD hS => ?_)
          refine lv_if_eq (tgt := 54) hx hb dxr_readQuery_31 (by decide) (fun hc => absurd hc (by decide)) (fun _ => ?_)
          refine lv_aload_n hx hb dxr_readQuery_34 rfl (lv_at hl 1 rfl) ?_
          refine lv_aload_n hx hb dxr_readQuery_35 rfl (lv_at hl 3 rfl) ?_
          refine lv_iload_n hx hb dxr_readQuery_36 rfl (lv_at hl 4 rfl) ?_
          refine hq_callVn (q0 := 19) (mc := f.2.2 - (p1 + 1)) (ms := 4 * (f.2.2 - (p1 + 1))) hx hb hml hown hts hK hA hN hP hD hS (hrec (p1 + 1) _ f hf) rfl rfl wi_686 wi_687 wi_688 wi_598 wi_689 1 rfl (by decide +kernel) ⟨rfl, rfl⟩ (hRS _) hl.1 rfl (Nat.le_of_ble_eq_true rfl) dxr_readQuery_37 (by rw [hRc, hRs]; omega) (fun o w1 H locs hpost hP hD hS => ?_)
          obtain ⟨a2, y4, tD, tR, tc, tw, trow, tnested, tcond, dN, dC, dR, rfl, rfl, hE1, hE2, hE3, hfe⟩ := hpost
          refine W.widen (k := f.2.2 - p) (n := 4 * (f.2.2 - p)) (by omega) (by omega) ?_
          have ew : (z ++ (y1 ++ sl_c al sD sR row nested sc sw cond none :: y2)) ++ (sl_c a2 tD tR trow tnested tc tw tcond none :: y4) = (z ++ y1) ++ (sl_c al sD sR row nested sc sw cond none :: (y2 ++ (sl_c a2 tD tR trow tnested tc tw tcond none :: y4))) := by simp only [List.append_assoc, List.cons_append]
          rw [ew] at hP hD
          refine psl (z := z ++ y1) (k := 7) (ty := .object "HeapQueries$Select") (v := va_rf (some a2)) (rest := []) (fs' := [.int sD, .int sR, va_rf row, va_rf nested, .int sc, .int sw, va_rf cond, va_rf (some a2)]) rfl hx hb hts hown hK hP hD hS (by decide) wi_690 rfl rfl (by decide +kernel) rfl rfl (Nat.le_of_ble_eq_true rfl) rfl dxr_readQuery_40 (fun H locs hP hD hS => ?_)
          refine lv_aload_n hx hb dxr_readQuery_43 rfl (lv_at hl 1 rfl) ?_
          refine gsl (k := 7) (v := .ref a2) rfl hx hb hts hown hK hP (by decide) wi_690 rfl rfl dxr_readQuery_44 ?_
          refine lv_astore_n (lv' := [(3, .ref a2), (4, .int (nI j)), (2, .ref a0), (0, .ref (q 19)), (1, .int (nI dep))]) hx hb dxr_readQuery_47 rfl hl (by decide) rfl (fun ls hl => ?_)
          refine lv_iinc (k := 1) (v := nI j + 1) (lv' := [(4, .int (nI j + 1)), (3, .ref a2), (2, .ref a0), (0, .ref (q 19)), (1, .int (nI dep))]) hx hb dxr_readQuery_48 hl rfl (congrArg (fun x => nI j + x) (by decide)) (by decide) rfl (fun ls hl => ?_)
          refine lv_goto (tgt := 19) hx hb dxr_readQuery_51 (by decide) ?_
          rw [nI_1] at hl
          have ew2 : (z ++ y1) ++ (sl_c al sD sR row nested sc sw cond (some a2) :: (y2 ++ (sl_c a2 tD tR trow tnested tc tw tcond none :: y4))) = z ++ ((y1 ++ sl_c al sD sR row nested sc sw cond (some a2) :: y2) ++ (sl_c a2 tD tR trow tnested tc tw tcond none :: y4)) := by simp only [List.append_assoc, List.cons_append]
          rw [ew2] at hP hD
          refine ih (j + 1) f.2.2 a0 a2 0 (gs ++ [f.1]) (y1 ++ sl_c al sD sR row nested sc sw cond (some a2) :: y2) y4 tD tR tc tw trow tnested tcond r ls H locs (by omega) (by omega) (by omega) hr9 (by rw [← e3]; exact hr2) (by rw [← hr1, e1]; simp) (by omega) (fun y3 rn fs hch => ?_) hl hP hD hS
          have ez : (y1 ++ sl_c al sD sR row nested sc sw cond (some a2) :: y2) ++ sl_c a2 tD tR trow tnested tc tw tcond rn :: (y4 ++ y3) = y1 ++ sl_c al sD sR row nested sc sw cond (some a2) :: (y2 ++ (sl_c a2 tD tR trow tnested tc tw tcond rn :: (y4 ++ y3))) := by simp only [List.append_assoc, List.cons_append]
          have el : gs ++ [f.1] ++ fs = gs ++ (f.1 :: fs) := by simp
          have hz9 : hz_le (zp ((z ++ (y1 ++ sl_c al sD sR row nested sc sw cond none :: y2)).length + 2) y4) (zp (z.length + 1) ((y1 ++ sl_c al sD sR row nested sc sw cond (some a2) :: y2) ++ sl_c a2 tD tR trow tnested tc tw tcond rn :: (y4 ++ y3))) := zp_le fun i x hx9 => by
            have hlen : (z ++ (y1 ++ sl_c al sD sR row nested sc sw cond none :: y2)).length + 2 + i = (z.length + 1) + ((y1 ++ sl_c al sD sR row nested sc sw cond (some a2) :: y2).length + (i + 1)) := by
              simp only [List.length_append, List.length_cons]
              omega
            rw [hlen, zp_get, List.getElem?_append_right (Nat.le_add_right _ _), Nat.add_sub_cancel_left]
            show (y4 ++ y3)[i]? = some x
            rw [List.getElem?_append_left (List.getElem?_eq_some_iff.mp hx9).1]
            exact hx9
          rw [el, ez]
          rw [ez] at hch hz9
          exact HC _ (some a2) (f.1 :: fs) ⟨(z.length + 1) + (y1 ++ sl_c al sD sR row nested sc sw cond (some a2) :: y2).length, a2, tD, tR, tc, tw, trow, tnested, tcond, rn, dN, dC, dR, rfl, by rw [← ez]; exact zp_mid, hE1.more hz9 (Nat.le_refl _), hE2.more hz9 (Nat.le_refl _), hE3.more hz9 (by omega), hfe, hch⟩
        · rw [if_neg h5] at hrr
          refine ksk_N 5 hk (by omega) htc h5 hx hb hml hts hown hK hP hD hS wi_629 (hRk (by decide) (by decide)) hl.1 (Nat.le_of_ble_eq_true rfl) dxr_readQuery_28 (by rw [hRc, hRs]; omega) (fun H locs hP hD hS => ?_)
          refine lv_if_eq (tgt := 54) hx hb dxr_readQuery_31 (by decide) (fun _ => ?_) (fun hc => absurd rfl hc)
          exact EX (Option.some.inj hrr).symm ls H locs (lv_sub hl [2] rfl) hP hD hS
  refine lv_iload_n hx hb dxr_readQuery_0 rfl (lv_at hl 1 rfl) ?_
  refine lv_bipush (v := 8) hx hb dxr_readQuery_1 (by decide) ?_
  refine lv_icmp_le (tgt := 8) hx hb dxr_readQuery_3 (by decide) (fun _ => ?_) (fun hc => absurd ((nI_leI (b := 8) (by omega) (by omega)).mpr hd8) hc)
  refine lv_aload_n hx hb dxr_readQuery_8 rfl (lv_at hl 0 rfl) ?_
  refine lv_iload_n hx hb dxr_readQuery_9 rfl (lv_at hl 1 rfl) ?_
  refine hq_callVn (q0 := 19) (mc := f0.2.2 - p) (ms := 4 * (f0.2.2 - p)) hx hb hml hown hts hK hA hN hP hD hS (hrec p _ f0 hf0) rfl rfl wi_686 wi_687 wi_688 wi_598 wi_689 1 rfl (by decide +kernel) ⟨rfl, rfl⟩ (hRS _) hl.1 rfl (Nat.le_of_ble_eq_true rfl) dxr_readQuery_10 (by rw [hRc, hRs]; omega) (fun o w1 H locs hpost hP hD hS => ?_)
  obtain ⟨a2, y4, tD, tR, tc, tw, trow, tnested, tcond, dN, dC, dR, rfl, rfl, hE1, hE2, hE3, hfe⟩ := hpost
  refine W.widen (k := f0.2.2 - p) (n := 4 * (f0.2.2 - p)) (by omega) (by omega) ?_
  refine lv_astore_n (x := a2) (rest := []) (lv' := [(2, .ref a2), (0, .ref (q 19)), (1, .int (nI dep))]) hx hb dxr_readQuery_13 rfl hl (by decide) rfl (fun ls hl => ?_)
  refine lv_aload_n hx hb dxr_readQuery_14 rfl (lv_at hl 0 rfl) ?_
  refine lv_astore_n (lv' := [(3, .ref a2), (2, .ref a2), (0, .ref (q 19)), (1, .int (nI dep))]) hx hb dxr_readQuery_15 rfl hl (by decide) rfl (fun ls hl => ?_)
  refine lv_iconst (v := 1) hx hb dxr_readQuery_16 (by decide) ?_
  refine lv_istore (lv' := [(4, .int 1), (3, .ref a2), (2, .ref a2), (0, .ref (q 19)), (1, .int (nI dep))]) hx hb dxr_readQuery_17 hl (by decide) rfl (fun ls hl => ?_)
  refine LP 8 1 f0.2.2 a2 a2 f0.2.1 [f0.1] [] y4 tD tR tc tw trow tnested tcond r0 ls H locs rfl (by omega) hf2 hr0 hu3.symm (by rw [hu1]; rfl) (by omega) (fun y3 rn fs hch => ?_) hl hP hD hS
  have hz9 : hz_le (zp (z.length + 2) y4) (zp (z.length + 1) ([] ++ sl_c a2 tD tR trow tnested tc tw tcond rn :: (y4 ++ y3))) := zp_le fun i x hx9 => by
    rw [show z.length + 2 + i = (z.length + 1) + (i + 1) by omega, zp_get]
    show (y4 ++ y3)[i]? = some x
    rw [List.getElem?_append_left (List.getElem?_eq_some_iff.mp hx9).1]
    exact hx9
  exact ⟨(z.length + 1) + 0, a2, tD, tR, tc, tw, trow, tnested, tcond, rn, dN, dC, dR, rfl, zp_mid (y1 := []), hE1.more hz9 (Nat.le_refl _), hE2.more hz9 (Nat.le_refl _), hE3.more hz9 (by omega), hfe, hch⟩
end
