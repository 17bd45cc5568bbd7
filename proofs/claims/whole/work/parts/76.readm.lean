/-! skip, in two ways; readM, what readE gives being given -/
def rd_rmE (dep x : Nat) : Room := { frames := 2 * (42 - dep) + 5, cells := x, slots := 4 * x, locals := 60 * (42 - dep) + 100 }
def rd_rmM (dep x : Nat) : Room := { frames := 2 * (42 - dep) + 4, cells := x, slots := 4 * x, locals := 60 * (42 - dep) + 70 }
theorem rd_roomM {dep x a b : Nat} (hd : dep ≤ 40) (ha : a ≤ 8) (hb : b ≤ 190) : a ≤ (rd_rmM dep x).frames ∧ b ≤ (rd_rmM dep x).locals := by
  unfold rd_rmM
  exact ⟨by show a ≤ 2 * (42 - dep) + 4; omega, by show b ≤ 60 * (42 - dep) + 70; omega⟩
theorem rd_roomE {dep x a b : Nat} (hd : dep ≤ 40) (ha : a ≤ 8) (hb : b ≤ 190) : a ≤ (rd_rmE dep x).frames ∧ b ≤ (rd_rmE dep x).locals := by
  unfold rd_rmE
  exact ⟨by show a ≤ 2 * (42 - dep) + 5; omega, by show b ≤ 60 * (42 - dep) + 100; omega⟩
section
variable {p : Program} {l : Launch} {e : Env} {R : Room} {s : State} {m : MethodId} {args : Array Value} {below : List Frame} {meth : Method} {c : Code} {H H0 : Heap} {locs : List Loc} {cells slots : Nat} {Q : State → Prop}
variable {cc : ByteArray} {pc idx nC : Nat} {ls : Array Slot} {rest : List Value} {D : va_G} {A : Nat → Prop} {own : String} {q : Nat → Nat} {cI cZ cL : ClassId} {z w : va_W}
variable {hf_classCount hf_objectCount hf_roots hf_changed sf_objectCount sf_roots sf_reachable tf_count tf_bracketCount tf_place tf_inWhere tf_compared wf_count wf_looks rf_at n_code n_number s_isDistinct s_isRetained s_sourceClass s_withDescendants : Int32}
variable {ha_parents ha_classes ha_sizes sa_linkedFrom sa_linkCounts sa_retainedSets sa_retainedSizes sa_dominators sa_immediateDominators ta_codes ta_numbers ta_brackets : Nat → Int32}
variable {ha_fields wa_rows : Nat → Int64}
variable {xq_query n_left n_right s_row s_nested s_condition s_next : Option Nat}
variable {pa_n pk_n pa_s pk_s : Nat}
theorem ksk_Y {k i : Nat} (x : Int32) (hk : k ≤ 40) (hi : i < 2 ^ 31) (htc : tf_count = nI k) (h : rd_cd ta_codes k i = x) (hx : p.tables.exec = Jvm.exec) (hb : c.code = cc) (hml : c.maxLocals = nC) (hts : ∀ x ∈ hq_tbl, x.before args s = true) (hown : s.vm.findClass own = some m.cls) (hK : va_K D hq_cl (hq_tys cI cZ cL) s) (hP : va_P D hq_cl (hx_w q cI cZ cL xq_query ha_parents hf_classCount ha_classes ha_sizes ha_fields hf_objectCount hf_roots hf_changed sa_linkedFrom sa_linkCounts sa_retainedSets sa_retainedSizes sa_dominators sa_immediateDominators sf_objectCount sf_roots sf_reachable ta_codes ta_numbers tf_count ta_brackets tf_bracketCount tf_place tf_inWhere tf_compared wa_rows wf_count wf_looks ++ (rd_c q (nI i) :: z)) H) (hD : va_D A (hx_w q cI cZ cL xq_query ha_parents hf_classCount ha_classes ha_sizes ha_fields hf_objectCount hf_roots hf_changed sa_linkedFrom sa_linkCounts sa_retainedSets sa_retainedSizes sa_dominators sa_immediateDominators sf_objectCount sf_roots sf_reachable ta_codes ta_numbers tf_count ta_brackets tf_bracketCount tf_place tf_inWhere tf_compared wa_rows wf_count wf_looks ++ (rd_c q (nI i) :: z))) (hS : va_S A H0 H locs) (h1 : Cond.methodLink own idx yxr_skip ∈ hq_tbl) (hR : 2 + 1 ≤ R.frames ∧ 8 + (3 + 11) + 41 ≤ R.locals) (hls : ls.size = nC) (hW : (rest.map fun v => v.category).sum ≤ 8) (hdg : decode cc pc = .ok (.invokevirtual idx, 3)) (hf : cells + 0 ≤ R.cells ∧ slots + 0 ≤ R.slots)
    (kk : ∀ (H1 : Heap) (locs1 : List Loc), va_P D hq_cl (hx_w q cI cZ cL xq_query ha_parents hf_classCount ha_classes ha_sizes ha_fields hf_objectCount hf_roots hf_changed sa_linkedFrom sa_linkCounts sa_retainedSets sa_retainedSizes sa_dominators sa_immediateDominators sf_objectCount sf_roots sf_reachable ta_codes ta_numbers tf_count ta_brackets tf_bracketCount tf_place tf_inWhere tf_compared wa_rows wf_count wf_looks ++ (rd_c q (nI (i + 1)) :: z)) H1 → va_D A (hx_w q cI cZ cL xq_query ha_parents hf_classCount ha_classes ha_sizes ha_fields hf_objectCount hf_roots hf_changed sa_linkedFrom sa_linkCounts sa_retainedSets sa_retainedSizes sa_dominators sa_immediateDominators sf_objectCount sf_roots sf_reachable ta_codes ta_numbers tf_count ta_brackets tf_bracketCount tf_place tf_inWhere tf_compared wa_rows wf_count wf_looks ++ (rd_c q (nI (i + 1)) :: z)) → va_S A H0 H1 locs1 → W p l e R s m args below meth c H1 locs1 cells slots Q (F0 m (pc + 3) ls (.int 1 :: rest))) : W p l e R s m args below meth c H locs cells slots Q (F0 m pc ls (.int x :: .ref (q 19) :: rest)) :=
  kxr_skip x (1, nI (i + 1)) (by rw [htc]; exact rd_skipY hk hi h) hx hb hml hts hown hK hP hD hS h1 hR hls hW hdg hf kk
theorem ksk_N {k i : Nat} (x : Int32) (hk : k ≤ 40) (hi : i < 2 ^ 31) (htc : tf_count = nI k) (h : ¬ rd_cd ta_codes k i = x) (hx : p.tables.exec = Jvm.exec) (hb : c.code = cc) (hml : c.maxLocals = nC) (hts : ∀ x ∈ hq_tbl, x.before args s = true) (hown : s.vm.findClass own = some m.cls) (hK : va_K D hq_cl (hq_tys cI cZ cL) s) (hP : va_P D hq_cl (hx_w q cI cZ cL xq_query ha_parents hf_classCount ha_classes ha_sizes ha_fields hf_objectCount hf_roots hf_changed sa_linkedFrom sa_linkCounts sa_retainedSets sa_retainedSizes sa_dominators sa_immediateDominators sf_objectCount sf_roots sf_reachable ta_codes ta_numbers tf_count ta_brackets tf_bracketCount tf_place tf_inWhere tf_compared wa_rows wf_count wf_looks ++ (rd_c q (nI i) :: z)) H) (hD : va_D A (hx_w q cI cZ cL xq_query ha_parents hf_classCount ha_classes ha_sizes ha_fields hf_objectCount hf_roots hf_changed sa_linkedFrom sa_linkCounts sa_retainedSets sa_retainedSizes sa_dominators sa_immediateDominators sf_objectCount sf_roots sf_reachable ta_codes ta_numbers tf_count ta_brackets tf_bracketCount tf_place tf_inWhere tf_compared wa_rows wf_count wf_looks ++ (rd_c q (nI i) :: z))) (hS : va_S A H0 H locs) (h1 : Cond.methodLink own idx yxr_skip ∈ hq_tbl) (hR : 2 + 1 ≤ R.frames ∧ 8 + (3 + 11) + 41 ≤ R.locals) (hls : ls.size = nC) (hW : (rest.map fun v => v.category).sum ≤ 8) (hdg : decode cc pc = .ok (.invokevirtual idx, 3)) (hf : cells + 0 ≤ R.cells ∧ slots + 0 ≤ R.slots)
    (kk : ∀ (H1 : Heap) (locs1 : List Loc), va_P D hq_cl (hx_w q cI cZ cL xq_query ha_parents hf_classCount ha_classes ha_sizes ha_fields hf_objectCount hf_roots hf_changed sa_linkedFrom sa_linkCounts sa_retainedSets sa_retainedSizes sa_dominators sa_immediateDominators sf_objectCount sf_roots sf_reachable ta_codes ta_numbers tf_count ta_brackets tf_bracketCount tf_place tf_inWhere tf_compared wa_rows wf_count wf_looks ++ (rd_c q (nI i) :: z)) H1 → va_D A (hx_w q cI cZ cL xq_query ha_parents hf_classCount ha_classes ha_sizes ha_fields hf_objectCount hf_roots hf_changed sa_linkedFrom sa_linkCounts sa_retainedSets sa_retainedSizes sa_dominators sa_immediateDominators sf_objectCount sf_roots sf_reachable ta_codes ta_numbers tf_count ta_brackets tf_bracketCount tf_place tf_inWhere tf_compared wa_rows wf_count wf_looks ++ (rd_c q (nI i) :: z)) → va_S A H0 H1 locs1 → W p l e R s m args below meth c H1 locs1 cells slots Q (F0 m (pc + 3) ls (.int 0 :: rest))) : W p l e R s m args below meth c H locs cells slots Q (F0 m pc ls (.int x :: .ref (q 19) :: rest)) :=
  kxr_skip x (0, nI i) (by rw [htc]; exact rd_skipN hk hi h) hx hb hml hts hown hK hP hD hS h1 hR hls hW hdg hf kk
end
theorem rd_steps_ge {c n : Nat → Int32} : ∀ (m : Nat) (d : hd_X) (h p : Nat) (u : hd_X × Nat × Nat), rd_steps c n m d h p = some u → p ≤ u.2.2 ∧ u.2.2 ≤ 40 := by
  intro m
  induction m with
  | zero => intro d h p u hu; cases hu
  | succ m ih =>
    intro d h p u hu
    obtain ⟨hp, hu⟩ := hq_ok (show (if p ≤ 40 then (if c p = 13 ∨ c p = 14 then rd_steps c n m (hd_un (c p) (n p) d) (h + 1) (p + 1) else some (d, h, p)) else none) = some u from hu)
    by_cases hc : c p = 13 ∨ c p = 14
    · rw [if_pos hc] at hu
      have := ih _ _ _ _ hu
      exact ⟨by omega, this.2⟩
    · rw [if_neg hc] at hu
      cases hu
      exact ⟨Nat.le_refl _, hp⟩
theorem hz_at {z1 z2 : va_W} {r c : Nat × va_E} : (r :: (z1 ++ c :: z2))[z1.length + 1]? = some c := by
  show (z1 ++ c :: z2)[z1.length]? = some c
  rw [List.getElem?_append_right (Nat.le_refl _), Nat.sub_self]
  rfl
theorem hz_rd {q : Nat → Nat} {a b : Int32} {z z' : va_W} (h : hz_le z z') : hz_le (rd_c q a :: z) (rd_c q b :: z') := hz_le.cons (fun x ci fs hx hc => by
  have e : (rd_c q a) = (q 19, .inr (8, [.ref (q 3), .int a])) := rfl
  rw [e] at hx
  cases hx
  omega) h
/-- cells behind n others that nothing is said of -/
def zp (n : Nat) (y : va_W) : va_W := List.replicate n (0, .inr (8, [])) ++ y
theorem zp_get {n i : Nat} {y : va_W} : (zp n y)[n + i]? = y[i]? := by
  unfold zp
  rw [List.getElem?_append_right (by rw [List.length_replicate]; omega), List.length_replicate, Nat.add_sub_cancel_left]
theorem zp_le {n : Nat} {y z' : va_W} (h : ∀ (i : Nat) (x : Nat × va_E), y[i]? = some x → z'[n + i]? = some x) : hz_le (zp n y) z' := fun i a ci fs hi hc => by
  by_cases hn : i < n
  · unfold zp at hi
    rw [List.getElem?_append_left (by rw [List.length_replicate]; exact hn), List.getElem?_replicate, if_pos hn] at hi
    cases hi
    omega
  · obtain ⟨j, rfl⟩ : ∃ j, i = n + j := ⟨i - n, by omega⟩
    rw [zp_get] at hi
    exact h j _ hi
theorem zp_app {n : Nat} {y y2 : va_W} : hz_le (zp n y) (zp n (y ++ y2)) := zp_le fun i x hx => by
  rw [zp_get, List.getElem?_append_left (List.getElem?_eq_some_iff.mp hx).1]
  exact hx
theorem zp_cons {n : Nat} {c : Nat × va_E} {y : va_W} : hz_le (zp (n + 1) y) (zp n (c :: y)) := zp_le fun i x hx => by
  rw [Nat.add_assoc, zp_get, Nat.add_comm 1 i]
  exact hx
theorem zp_mid {n : Nat} {y1 y2 : va_W} {c : Nat × va_E} : (zp n (y1 ++ c :: y2))[n + y1.length]? = some c := by
  rw [zp_get, List.getElem?_append_right (Nat.le_refl _), Nat.sub_self]
  rfl
theorem zp_to {y z : va_W} {r : Nat × va_E} : hz_le (zp (z.length + 1) y) (r :: (z ++ y)) := zp_le fun i x hx => by
  rw [show z.length + 1 + i = (z.length + i) + 1 by omega]
  show (z ++ y)[z.length + i]? = some x
  rw [List.getElem?_append_right (Nat.le_add_right _ _), Nat.add_sub_cancel_left]
  exact hx
/-- what reading from p on gives: the address of the tree, at the world's end its new cells -/
def rd_Po (l : Launch) (D : va_G) (A : Nat → Prop) (q : Nat → Nat) (cI cZ cL : ClassId) (X z : va_W) (d : hd_X) (h p' : Nat) : Option Value → va_W → Prop :=
  fun o w1 => ∃ a y, o = some (va_rf (some a)) ∧ w1 = X ++ (rd_c q (nI p') :: (z ++ y)) ∧ hd_E l D A q cI cZ cL (zp (z.length + 1) y) (some a) h d
theorem dxr_readM_0 : decode bxr_readM 0 = .ok (.aload_n 0, 1) := by decide +kernel
theorem dxr_readM_1 : decode bxr_readM 1 = .ok (.bipush 6, 2) := by decide +kernel
theorem dxr_readM_3 : decode bxr_readM 3 = .ok (.invokevirtual 19, 3) := by decide +kernel
theorem dxr_readM_6 : decode bxr_readM 6 = .ok (.ifCond .eq 22, 3) := by decide +kernel
theorem dxr_readM_9 : decode bxr_readM 9 = .ok (.aload_n 0, 1) := by decide +kernel
theorem dxr_readM_10 : decode bxr_readM 10 = .ok (.iconst 1, 1) := by decide +kernel
theorem dxr_readM_11 : decode bxr_readM 11 = .ok (.iload_n 1, 1) := by decide +kernel
theorem dxr_readM_12 : decode bxr_readM 12 = .ok (.iconst 1, 1) := by decide +kernel
theorem dxr_readM_13 : decode bxr_readM 13 = .ok (.iadd, 1) := by decide +kernel
theorem dxr_readM_14 : decode bxr_readM 14 = .ok (.invokevirtual 37, 3) := by decide +kernel
theorem dxr_readM_17 : decode bxr_readM 17 = .ok (.astore_n 2, 1) := by decide +kernel
theorem dxr_readM_18 : decode bxr_readM 18 = .ok (.aload_n 0, 1) := by decide +kernel
theorem dxr_readM_19 : decode bxr_readM 19 = .ok (.bipush 7, 2) := by decide +kernel
theorem dxr_readM_21 : decode bxr_readM 21 = .ok (.invokevirtual 19, 3) := by decide +kernel
theorem dxr_readM_24 : decode bxr_readM 24 = .ok (.pop, 1) := by decide +kernel
theorem dxr_readM_25 : decode bxr_readM 25 = .ok (.goto 9, 3) := by decide +kernel
theorem dxr_readM_28 : decode bxr_readM 28 = .ok (.aload_n 0, 1) := by decide +kernel
theorem dxr_readM_29 : decode bxr_readM 29 = .ok (.aconst_null, 1) := by decide +kernel
theorem dxr_readM_30 : decode bxr_readM 30 = .ok (.invokevirtual 86, 3) := by decide +kernel
theorem dxr_readM_33 : decode bxr_readM 33 = .ok (.astore_n 2, 1) := by decide +kernel
theorem dxr_readM_34 : decode bxr_readM 34 = .ok (.iconst 0, 1) := by decide +kernel
theorem dxr_readM_35 : decode bxr_readM 35 = .ok (.istore_n 3, 1) := by decide +kernel
theorem dxr_readM_36 : decode bxr_readM 36 = .ok (.iload_n 3, 1) := by decide +kernel
theorem dxr_readM_37 : decode bxr_readM 37 = .ok (.bipush 40, 2) := by decide +kernel
theorem dxr_readM_39 : decode bxr_readM 39 = .ok (.if_icmp .ge 33, 3) := by decide +kernel
theorem dxr_readM_42 : decode bxr_readM 42 = .ok (.aload_n 0, 1) := by decide +kernel
theorem dxr_readM_43 : decode bxr_readM 43 = .ok (.invokevirtual 51, 3) := by decide +kernel
theorem dxr_readM_46 : decode bxr_readM 46 = .ok (.bipush 13, 2) := by decide +kernel
theorem dxr_readM_48 : decode bxr_readM 48 = .ok (.if_icmp .eq 12, 3) := by decide +kernel
theorem dxr_readM_51 : decode bxr_readM 51 = .ok (.aload_n 0, 1) := by decide +kernel
theorem dxr_readM_52 : decode bxr_readM 52 = .ok (.invokevirtual 51, 3) := by decide +kernel
theorem dxr_readM_55 : decode bxr_readM 55 = .ok (.bipush 14, 2) := by decide +kernel
theorem dxr_readM_57 : decode bxr_readM 57 = .ok (.if_icmp .ne 15, 3) := by decide +kernel
theorem dxr_readM_60 : decode bxr_readM 60 = .ok (.aload_n 0, 1) := by decide +kernel
theorem dxr_readM_61 : decode bxr_readM 61 = .ok (.aload_n 2, 1) := by decide +kernel
theorem dxr_readM_62 : decode bxr_readM 62 = .ok (.invokevirtual 86, 3) := by decide +kernel
theorem dxr_readM_65 : decode bxr_readM 65 = .ok (.astore_n 2, 1) := by decide +kernel
theorem dxr_readM_66 : decode bxr_readM 66 = .ok (.iinc 3 1, 3) := by decide +kernel
theorem dxr_readM_69 : decode bxr_readM 69 = .ok (.goto (-33), 3) := by decide +kernel
theorem dxr_readM_72 : decode bxr_readM 72 = .ok (.aload_n 2, 1) := by decide +kernel
theorem dxr_readM_73 : decode bxr_readM 73 = .ok (.areturn, 1) := by decide +kernel
section
variable {l : Launch} {D : va_G} {A : Nat → Prop} {z w : va_W} {q : Nat → Nat} {cI cZ cL : ClassId}
variable {hf_classCount hf_objectCount hf_roots hf_changed sf_objectCount sf_roots sf_reachable tf_count tf_bracketCount tf_place tf_inWhere tf_compared wf_count wf_looks rf_at n_code n_number s_isDistinct s_isRetained s_sourceClass s_withDescendants : Int32}
variable {ha_parents ha_classes ha_sizes sa_linkedFrom sa_linkCounts sa_retainedSets sa_retainedSizes sa_dominators sa_immediateDominators ta_codes ta_numbers ta_brackets : Nat → Int32}
variable {ha_fields wa_rows : Nat → Int64}
variable {xq_query n_left n_right s_row s_nested s_condition s_next : Option Nat}
variable {pa_n pk_n pa_s pk_s : Nat}
set_option maxHeartbeats 4000000 in
set_option maxRecDepth 100000 in
theorem cxr_readM {k p dep : Nat} (hk : k ≤ 40) (hp : p ≤ 40) (hdp : dep ≤ p) (htc : tf_count = nI k) (rec : Int32 → Nat → Option (hd_X × Nat × Nat))
    (hrec : ∀ (L : Int32) (dep p : Nat) (z : va_W) (u : hd_X × Nat × Nat), rec L p = some u → dep ≤ p → hq_Cn l yxr_readE bxr_readE 6 (some (.object "HeapQueries$Node")) (rd_rmE dep (u.2.2 - p)) D (hq_tys cI cZ cL) A [.ref (q 19), .int L, .int (nI dep)] (hx_w q cI cZ cL xq_query ha_parents hf_classCount ha_classes ha_sizes ha_fields hf_objectCount hf_roots hf_changed sa_linkedFrom sa_linkCounts sa_retainedSets sa_retainedSizes sa_dominators sa_immediateDominators sf_objectCount sf_roots sf_reachable ta_codes ta_numbers tf_count ta_brackets tf_bracketCount tf_place tf_inWhere tf_compared wa_rows wf_count wf_looks ++ (rd_c q (nI p) :: z)) (rd_Po l D A q cI cZ cL (hx_w q cI cZ cL xq_query ha_parents hf_classCount ha_classes ha_sizes ha_fields hf_objectCount hf_roots hf_changed sa_linkedFrom sa_linkCounts sa_retainedSets sa_retainedSizes sa_dominators sa_immediateDominators sf_objectCount sf_roots sf_reachable ta_codes ta_numbers tf_count ta_brackets tf_bracketCount tf_place tf_inWhere tf_compared wa_rows wf_count wf_looks) z u.1 u.2.1 u.2.2) (u.2.2 - p) (4 * (u.2.2 - p)))
    (u : hd_X × Nat × Nat) (hu : rd_M (rd_cd ta_codes k) (rd_nu ta_numbers k) rec p = some u) :
    hq_Cn l yxr_readM bxr_readM 4 (some (.object "HeapQueries$Node")) (rd_rmM dep (u.2.2 - p)) D (hq_tys cI cZ cL) A [.ref (q 19), .int (nI dep)] (hx_w q cI cZ cL xq_query ha_parents hf_classCount ha_classes ha_sizes ha_fields hf_objectCount hf_roots hf_changed sa_linkedFrom sa_linkCounts sa_retainedSets sa_retainedSizes sa_dominators sa_immediateDominators sf_objectCount sf_roots sf_reachable ta_codes ta_numbers tf_count ta_brackets tf_bracketCount tf_place tf_inWhere tf_compared wa_rows wf_count wf_looks ++ (rd_c q (nI p) :: z)) (rd_Po l D A q cI cZ cL (hx_w q cI cZ cL xq_query ha_parents hf_classCount ha_classes ha_sizes ha_fields hf_objectCount hf_roots hf_changed sa_linkedFrom sa_linkCounts sa_retainedSets sa_retainedSizes sa_dominators sa_immediateDominators sf_objectCount sf_roots sf_reachable ta_codes ta_numbers tf_count ta_brackets tf_bracketCount tf_place tf_inWhere tf_compared wa_rows wf_count wf_looks) z u.1 u.2.1 u.2.2) (u.2.2 - p) (4 * (u.2.2 - p)) := by
  have hd40 : dep ≤ 40 := by omega
  refine hq_ofn (by decide) ?_ (Nat.le_of_ble_eq_true rfl)
  intro p' e s m below meth c R args Q hRm hQ hx hb hr hml hts hown hlocks hnm hP hK hD hA hN ls hl hS
  have hl : lv_has ls 4 [(0, .ref (q 19)), (1, .int (nI dep))] := hl
  have hown : s.vm.findClass "HeapQueries$Reader" = some m.cls := hown
  have hRc : R.cells = u.2.2 - p := by rw [hRm]; rfl
  have hRs : R.slots = 4 * (u.2.2 - p) := by rw [hRm]; rfl
  have LP : ∀ (n : Nat) (p1 j a h1 : Nat) (d1 : hd_X) (y : va_W) (ls : Array Slot) (H : Heap) (locs : List Loc), lv_has ls 4 [(3, .int (nI j)), (2, .ref a), (0, .ref (q 19))] → va_P D hq_cl (hx_w q cI cZ cL xq_query ha_parents hf_classCount ha_classes ha_sizes ha_fields hf_objectCount hf_roots hf_changed sa_linkedFrom sa_linkCounts sa_retainedSets sa_retainedSizes sa_dominators sa_immediateDominators sf_objectCount sf_roots sf_reachable ta_codes ta_numbers tf_count ta_brackets tf_bracketCount tf_place tf_inWhere tf_compared wa_rows wf_count wf_looks ++ (rd_c q (nI p1) :: (z ++ y))) H → va_D A (hx_w q cI cZ cL xq_query ha_parents hf_classCount ha_classes ha_sizes ha_fields hf_objectCount hf_roots hf_changed sa_linkedFrom sa_linkCounts sa_retainedSets sa_retainedSizes sa_dominators sa_immediateDominators sf_objectCount sf_roots sf_reachable ta_codes ta_numbers tf_count ta_brackets tf_bracketCount tf_place tf_inWhere tf_compared wa_rows wf_count wf_looks ++ (rd_c q (nI p1) :: (z ++ y))) → va_S A s.heap H locs →
      hd_E l D A q cI cZ cL (zp (z.length + 1) y) (some a) h1 d1 → p ≤ p1 → j + 1 ≤ p1 → rd_steps (rd_cd ta_codes k) (rd_nu ta_numbers k) n d1 h1 p1 = some u → W p' l e R s m args below meth c H locs (p1 - p) (4 * (p1 - p)) Q (F0 m 36 ls []) := by
    intro n
    induction n with
    | zero => intro p1 j a h1 d1 y ls H locs hl hP hD hS hE hp1 hj hu; cases hu
    | succ n ih =>
      intro p1 j a h1 d1 y ls H locs hl hP hD hS hE hp1 hj hu
      obtain ⟨h40, hu⟩ := hq_ok (show (if p1 ≤ 40 then (if rd_cd ta_codes k p1 = 13 ∨ rd_cd ta_codes k p1 = 14 then rd_steps (rd_cd ta_codes k) (rd_nu ta_numbers k) n (hd_un (rd_cd ta_codes k p1) (rd_nu ta_numbers k p1) d1) (h1 + 1) (p1 + 1) else some (d1, h1, p1)) else none) = some u from hu)
      have hcode := rd_code (a := ta_codes) hk (show p1 < 2 ^ 31 by omega)
      rw [← htc] at hcode
      have hge := rd_steps_ge (n + 1) d1 h1 p1 u (show (if p1 ≤ 40 then (if rd_cd ta_codes k p1 = 13 ∨ rd_cd ta_codes k p1 = 14 then rd_steps (rd_cd ta_codes k) (rd_nu ta_numbers k) n (hd_un (rd_cd ta_codes k p1) (rd_nu ta_numbers k p1) d1) (h1 + 1) (p1 + 1) else some (d1, h1, p1)) else none) = some u from by rw [if_pos h40]; exact hu)
      have hf : (p1 - p) + 0 ≤ R.cells ∧ 4 * (p1 - p) + 0 ≤ R.slots := by rw [hRc, hRs]; omega
      have step : (rd_cd ta_codes k p1 = 13 ∨ rd_cd ta_codes k p1 = 14) → ∀ (ls : Array Slot) (H : Heap) (locs : List Loc), lv_has ls 4 [(3, .int (nI j)), (2, .ref a), (0, .ref (q 19))] → va_P D hq_cl (hx_w q cI cZ cL xq_query ha_parents hf_classCount ha_classes ha_sizes ha_fields hf_objectCount hf_roots hf_changed sa_linkedFrom sa_linkCounts sa_retainedSets sa_retainedSizes sa_dominators sa_immediateDominators sf_objectCount sf_roots sf_reachable ta_codes ta_numbers tf_count ta_brackets tf_bracketCount tf_place tf_inWhere tf_compared wa_rows wf_count wf_looks ++ (rd_c q (nI p1) :: (z ++ y))) H → va_D A (hx_w q cI cZ cL xq_query ha_parents hf_classCount ha_classes ha_sizes ha_fields hf_objectCount hf_roots hf_changed sa_linkedFrom sa_linkCounts sa_retainedSets sa_retainedSizes sa_dominators sa_immediateDominators sf_objectCount sf_roots sf_reachable ta_codes ta_numbers tf_count ta_brackets tf_bracketCount tf_place tf_inWhere tf_compared wa_rows wf_count wf_looks ++ (rd_c q (nI p1) :: (z ++ y))) → va_S A s.heap H locs → W p' l e R s m args below meth c H locs (p1 - p) (4 * (p1 - p)) Q (F0 m 60 ls []) := by
        intro hc ls H locs hl hP hD hS
        rw [if_pos hc] at hu
        have hge2 := rd_steps_ge n _ _ _ u hu
        refine lv_aload_n hx hb dxr_readM_60 rfl (lv_at hl 2 rfl) ?_
        refine lv_aload_n hx hb dxr_readM_61 rfl (lv_at hl 1 rfl) ?_
        refine hq_callVn (q0 := 19) hx hb hml hown hts hK hA hN hP hD hS (cxr_readStep (z := z ++ y) hk h40 (some a) htc) rfl rfl wi_625 wi_626 wi_627 wi_598 wi_628 1 rfl (by decide +kernel) ⟨rfl, rfl⟩ (by rw [hRm]; exact rd_roomM hd40 (by decide) (by decide)) hl.1 rfl (Nat.le_of_ble_eq_true rfl) dxr_readM_62 (by rw [hRc, hRs]; omega) (fun o w1 H locs hpost hP hD hS => ?_)
        obtain ⟨a2, rfl, rfl⟩ := hpost
        rw [List.append_assoc] at hP hD
        refine W.widen (k := (p1 + 1) - p) (n := 4 * ((p1 + 1) - p)) (by omega) (by omega) ?_
        refine lv_astore_n (x := a2) (rest := []) (lv' := [(2, .ref a2), (3, .int (nI j)), (0, .ref (q 19))]) hx hb dxr_readM_65 rfl hl (by decide) rfl (fun ls hl => ?_)
        refine lv_iinc (k := 1) (v := nI j + 1) (lv' := [(3, .int (nI j + 1)), (2, .ref a2), (0, .ref (q 19))]) hx hb dxr_readM_66 hl rfl (congrArg (fun x => nI j + x) (by decide)) (by decide) rfl (fun ls hl => ?_)
        refine lv_goto (tgt := 36) hx hb dxr_readM_69 (by decide) ?_
        rw [nI_1] at hl
        refine ih (p1 + 1) (j + 1) a2 (h1 + 1) (hd_un (rd_cd ta_codes k p1) (rd_nu ta_numbers k p1) d1) (y ++ [(a2, .inr (7, [.int (rd_cd ta_codes k p1), .int (rd_nu ta_numbers k p1), va_rf (some a), va_rf none]))]) ls H locs hl hP hD hS ?_ (by omega) (by omega) hu
        rw [← hd_mk_un (a := a)]
        exact hd_node (pk := (z.length + 1) + y.length) (zp_mid (y2 := [])) (hE.more zp_app (Nat.le_refl _)) hd_E.none
      refine lv_iload_n hx hb dxr_readM_36 rfl (lv_at hl 0 rfl) ?_
      refine lv_bipush (v := 40) hx hb dxr_readM_37 (by decide) ?_
      refine lv_icmp_ge (tgt := 72) hx hb dxr_readM_39 (by decide) (fun hc => ?_) (fun hc => ?_)
      · exact absurd ((nI_leI (a := 40) (by omega) (by omega)).mp hc) (by omega)
      · refine lv_aload_n hx hb dxr_readM_42 rfl (lv_at hl 2 rfl) ?_
        refine kxr_code _ hcode hx hb hml hts hown hK hP hD hS wi_606 (by rw [hRm]; exact rd_roomM hd40 (by decide) (by decide)) hl.1 (Nat.le_of_ble_eq_true rfl) dxr_readM_43 hf (fun H locs hP hD hS => ?_)
        refine lv_bipush (v := 13) hx hb dxr_readM_46 (by decide) ?_
        refine lv_icmp_eq (tgt := 60) hx hb dxr_readM_48 (by decide) (fun hc => step (Or.inl hc) ls H locs hl hP hD hS) (fun hc13 => ?_)
        refine lv_aload_n hx hb dxr_readM_51 rfl (lv_at hl 2 rfl) ?_
        refine kxr_code _ hcode hx hb hml hts hown hK hP hD hS wi_606 (by rw [hRm]; exact rd_roomM hd40 (by decide) (by decide)) hl.1 (Nat.le_of_ble_eq_true rfl) dxr_readM_52 hf (fun H locs hP hD hS => ?_)
        refine lv_bipush (v := 14) hx hb dxr_readM_55 (by decide) ?_
        refine lv_icmp_ne (tgt := 72) hx hb dxr_readM_57 (by decide) (fun hc14 => ?_) (fun hc => step (Or.inr hc) ls H locs hl hP hD hS)
        rw [if_neg (fun q => q.elim hc13 hc14)] at hu
        cases hu
        refine lv_aload_n hx hb dxr_readM_72 rfl (lv_at hl 1 rfl) ?_
        exact hq_aretn (r := some a) hx hb hr hlocks hQ (Nat.le_refl _) (Nat.le_refl _) hK hP hD hS ⟨a, y, rfl, rfl, hE⟩ dxr_readM_73
  unfold rd_M at hu
  refine lv_aload_n hx hb dxr_readM_0 rfl (lv_at hl 0 rfl) ?_
  refine lv_bipush (v := 6) hx hb dxr_readM_1 (by decide) ?_
  by_cases h6 : rd_cd ta_codes k p = 6
  · rw [if_pos h6] at hu
    obtain ⟨v, hv, hu⟩ := hq_bind hu
    obtain ⟨hv2, hu⟩ := hq_ok hu
    obtain ⟨h7, hu⟩ := hq_ok hu
    have hge := rd_steps_ge _ _ _ _ u hu
    refine ksk_Y 6 hk (by omega) htc h6 hx hb hml hts hown hK hP hD hS wi_629 (by rw [hRm]; exact rd_roomM hd40 (by decide) (by decide)) hl.1 (Nat.le_of_ble_eq_true rfl) dxr_readM_3 (by rw [hRc, hRs]; omega) (fun H locs hP hD hS => ?_)
    refine lv_if_eq (tgt := 28) hx hb dxr_readM_6 (by decide) (fun hc => absurd hc (by decide)) (fun hc => ?_)
    refine lv_aload_n hx hb dxr_readM_9 rfl (lv_at hl 0 rfl) ?_
    refine lv_iconst (v := 1) hx hb dxr_readM_10 (by decide) ?_
    refine lv_iload_n hx hb dxr_readM_11 rfl (lv_at hl 1 rfl) ?_
    refine lv_iconst (v := 1) hx hb dxr_readM_12 (by decide) ?_
    refine lv_iadd hx hb dxr_readM_13 ?_
    rw [nI_1]
    refine hq_callVn (q0 := 19) hx hb hml hown hts hK hA hN hP hD hS (hrec 1 (dep + 1) (p + 1) z v hv (by omega)) rfl rfl wi_630 wi_631 wi_632 wi_598 wi_633 2 rfl (by decide +kernel) ⟨rfl, rfl⟩ (by rw [hRm]; unfold rd_rmE rd_rmM; exact ⟨by show 2 * (42 - (dep + 1)) + 5 + 1 ≤ 2 * (42 - dep) + 4; omega, by show 8 + (6 + 11) + (60 * (42 - (dep + 1)) + 100) ≤ 60 * (42 - dep) + 70; omega⟩) hl.1 rfl (Nat.le_of_ble_eq_true rfl) dxr_readM_14 (by rw [hRc, hRs]; omega) (fun o w1 H locs hpost hP hD hS => ?_)
    obtain ⟨a, y, rfl, rfl, hE⟩ := hpost
    refine W.widen (k := (v.2.2 + 1) - p) (n := 4 * ((v.2.2 + 1) - p)) (by omega) (by omega) ?_
    refine lv_astore_n (x := a) (rest := []) (lv' := [(2, .ref a), (0, .ref (q 19)), (1, .int (nI dep))]) hx hb dxr_readM_17 rfl hl (by decide) rfl (fun ls hl => ?_)
    refine lv_aload_n hx hb dxr_readM_18 rfl (lv_at hl 1 rfl) ?_
    refine lv_bipush (v := 7) hx hb dxr_readM_19 (by decide) ?_
    refine ksk_Y 7 hk (by omega) htc h7 hx hb hml hts hown hK hP hD hS wi_629 (by rw [hRm]; exact rd_roomM hd40 (by decide) (by decide)) hl.1 (Nat.le_of_ble_eq_true rfl) dxr_readM_21 (by rw [hRc, hRs]; omega) (fun H locs hP hD hS => ?_)
    refine lv_pop hx hb dxr_readM_24 rfl ?_
    refine lv_goto (tgt := 34) hx hb dxr_readM_25 (by decide) ?_
    refine lv_iconst (v := 0) hx hb dxr_readM_34 (by decide) ?_
    refine lv_istore_n (lv' := [(3, .int 0), (2, .ref a), (0, .ref (q 19)), (1, .int (nI dep))]) hx hb dxr_readM_35 rfl hl (by decide) rfl (fun ls hl => ?_)
    exact LP 100 (v.2.2 + 1) 0 a v.2.1 v.1 y ls H locs (lv_sub hl [0, 1, 2] rfl) hP hD hS hE (by omega) (by omega) hu
  · rw [if_neg h6] at hu
    obtain ⟨hlf, hu⟩ := hq_ok hu
    have hge := rd_steps_ge _ _ _ _ u hu
    refine ksk_N 6 hk (by omega) htc h6 hx hb hml hts hown hK hP hD hS wi_629 (by rw [hRm]; exact rd_roomM hd40 (by decide) (by decide)) hl.1 (Nat.le_of_ble_eq_true rfl) dxr_readM_3 (by rw [hRc, hRs]; omega) (fun H locs hP hD hS => ?_)
    refine lv_if_eq (tgt := 28) hx hb dxr_readM_6 (by decide) (fun hc => ?_) (fun hc => absurd rfl hc)
    refine lv_aload_n hx hb dxr_readM_28 rfl (lv_at hl 0 rfl) ?_
    refine hq_null hx hb dxr_readM_29 ?_
    refine hq_callVn (q0 := 19) hx hb hml hown hts hK hA hN hP hD hS (cxr_readStep (z := z) hk hp none htc) rfl rfl wi_625 wi_626 wi_627 wi_598 wi_628 1 rfl (by decide +kernel) ⟨rfl, rfl⟩ (by rw [hRm]; exact rd_roomM hd40 (by decide) (by decide)) hl.1 rfl (Nat.le_of_ble_eq_true rfl) dxr_readM_30 (by rw [hRc, hRs]; omega) (fun o w1 H locs hpost hP hD hS => ?_)
    obtain ⟨a, rfl, rfl⟩ := hpost
    refine W.widen (k := (p + 1) - p) (n := 4 * ((p + 1) - p)) (by omega) (by omega) ?_
    refine lv_astore_n (x := a) (rest := []) (lv' := [(2, .ref a), (0, .ref (q 19)), (1, .int (nI dep))]) hx hb dxr_readM_33 rfl hl (by decide) rfl (fun ls hl => ?_)
    refine lv_iconst (v := 0) hx hb dxr_readM_34 (by decide) ?_
    refine lv_istore_n (lv' := [(3, .int 0), (2, .ref a), (0, .ref (q 19)), (1, .int (nI dep))]) hx hb dxr_readM_35 rfl hl (by decide) rfl (fun ls hl => ?_)
    refine LP 100 (p + 1) 0 a 1 (hd_leaf (rd_cd ta_codes k p) (rd_nu ta_numbers k p)) _ ls H locs (lv_sub hl [0, 1, 2] rfl) hP hD hS ?_ (by omega) (by omega) hu
    exact hd_node (h := 0) (pk := (z.length + 1) + 0) (zp_mid (y1 := []) (y2 := [])) hd_E.none hd_E.none
end
