/-! readSelect, what readQuery gives being given -/
def rd_sk (c : Nat → Int32) (x : Int32) (i : Nat) : Nat := if c i = x then i + 1 else i
def rd_b (c : Nat → Int32) (x : Int32) (i : Nat) : Int32 := if c i = x then 1 else 0
theorem rd_b01 {c : Nat → Int32} {x : Int32} {i : Nat} : rd_b c x i = 0 ∨ rd_b c x i = 1 := by
  unfold rd_b
  split
  · exact Or.inr rfl
  · exact Or.inl rfl
theorem rd_sk_ge {c : Nat → Int32} {x : Int32} {i : Nat} : i ≤ rd_sk c x i ∧ rd_sk c x i ≤ i + 1 := by
  unfold rd_sk
  split <;> omega
/-- the condition behind WHERE -/
def rd_W (c n : Nat → Int32) (fe : Nat) (mk : hd_X → Option Nat → hd_Y) (h i : Nat) : Option (hd_Y × Nat × Nat) :=
  if c i = 4 then (rd_E c n fe 1 (i + 1)).bind fun w => if w.2.1 ≤ 41 ∧ i + 2 ≤ w.2.2 then some (mk w.1 (some 0), h, w.2.2) else none
  else some (mk hd_no none, h, i)
def rd_S (c n : Nat → Int32) (fe : Nat) (recQ : Nat → Option (List hd_Y × Nat × Nat)) (p : Nat) : Option (hd_Y × Nat × Nat) :=
  if c p = 0 ∧ p ≤ 40 then
    (rd_E c n fe 1 (rd_sk c 2 (rd_sk c 1 (p + 1)))).bind fun e =>
      if e.2.1 ≤ 41 ∧ rd_sk c 2 (rd_sk c 1 (p + 1)) + 1 ≤ e.2.2 ∧ c e.2.2 = 3 ∧ e.2.2 ≤ 38 then
        if c (e.2.2 + 1) = 6 then
          (recQ (e.2.2 + 2)).bind fun u => if e.2.2 + 3 ≤ u.2.2 ∧ c u.2.2 = 7 ∧ u.2.2 ≤ 40 then rd_W c n fe (fun dC cond => hd_sel (hd_seq u.1) dC e.1 (rd_b c 1 (p + 1)) (rd_b c 2 (rd_sk c 1 (p + 1))) (some 0) (some 0) 0 0 cond) (u.2.1 + 1) (u.2.2 + 1) else none
        else if c (e.2.2 + 1) = 8 ∨ c (e.2.2 + 1) = 9 then
          rd_W c n fe (fun dC cond => hd_sel hd_noQ dC e.1 (rd_b c 1 (p + 1)) (rd_b c 2 (rd_sk c 1 (p + 1))) (some 0) none (n (e.2.2 + 1)) (rd_b c 9 (e.2.2 + 1)) cond) 0 (e.2.2 + 2)
        else none
      else none
  else none
section
variable {p : Program} {l : Launch} {e : Env} {R : Room} {s : State} {m : MethodId} {args : Array Value} {below : List Frame} {meth : Method} {c : Code} {H H0 : Heap} {locs : List Loc} {cells slots : Nat} {Q : State → Prop}
variable {cc : ByteArray} {pc idx nC : Nat} {ls : Array Slot} {rest : List Value} {D : va_G} {A : Nat → Prop} {own : String} {q : Nat → Nat} {cI cZ cL : ClassId} {z w : va_W}
variable {hf_classCount hf_objectCount hf_roots hf_changed sf_objectCount sf_roots sf_reachable tf_count tf_bracketCount tf_place tf_inWhere tf_compared wf_count wf_looks rf_at n_code n_number s_isDistinct s_isRetained s_sourceClass s_withDescendants : Int32}
variable {ha_parents ha_classes ha_sizes sa_linkedFrom sa_linkCounts sa_retainedSets sa_retainedSizes sa_dominators sa_immediateDominators ta_codes ta_numbers ta_brackets : Nat → Int32}
variable {ha_fields wa_rows : Nat → Int64}
variable {xq_query n_left n_right s_row s_nested s_condition s_next : Option Nat}
variable {pa_n pk_n pa_s pk_s : Nat}
theorem ksk_B {k i : Nat} (x : Int32) (hk : k ≤ 40) (hi : i < 2 ^ 31) (htc : tf_count = nI k) (hx : p.tables.exec = Jvm.exec) (hb : c.code = cc) (hml : c.maxLocals = nC) (hts : ∀ x ∈ hq_tbl, x.before args s = true) (hown : s.vm.findClass own = some m.cls) (hK : va_K D hq_cl (hq_tys cI cZ cL) s) (hP : va_P D hq_cl (hx_w q cI cZ cL xq_query ha_parents hf_classCount ha_classes ha_sizes ha_fields hf_objectCount hf_roots hf_changed sa_linkedFrom sa_linkCounts sa_retainedSets sa_retainedSizes sa_dominators sa_immediateDominators sf_objectCount sf_roots sf_reachable ta_codes ta_numbers tf_count ta_brackets tf_bracketCount tf_place tf_inWhere tf_compared wa_rows wf_count wf_looks ++ (rd_c q (nI i) :: z)) H) (hD : va_D A (hx_w q cI cZ cL xq_query ha_parents hf_classCount ha_classes ha_sizes ha_fields hf_objectCount hf_roots hf_changed sa_linkedFrom sa_linkCounts sa_retainedSets sa_retainedSizes sa_dominators sa_immediateDominators sf_objectCount sf_roots sf_reachable ta_codes ta_numbers tf_count ta_brackets tf_bracketCount tf_place tf_inWhere tf_compared wa_rows wf_count wf_looks ++ (rd_c q (nI i) :: z))) (hS : va_S A H0 H locs) (h1 : Cond.methodLink own idx yxr_skip ∈ hq_tbl) (hR : 2 + 1 ≤ R.frames ∧ 8 + (3 + 11) + 41 ≤ R.locals) (hls : ls.size = nC) (hW : (rest.map fun v => v.category).sum ≤ 8) (hdg : decode cc pc = .ok (.invokevirtual idx, 3)) (hf : cells + 0 ≤ R.cells ∧ slots + 0 ≤ R.slots)
    (kk : ∀ (H1 : Heap) (locs1 : List Loc), va_P D hq_cl (hx_w q cI cZ cL xq_query ha_parents hf_classCount ha_classes ha_sizes ha_fields hf_objectCount hf_roots hf_changed sa_linkedFrom sa_linkCounts sa_retainedSets sa_retainedSizes sa_dominators sa_immediateDominators sf_objectCount sf_roots sf_reachable ta_codes ta_numbers tf_count ta_brackets tf_bracketCount tf_place tf_inWhere tf_compared wa_rows wf_count wf_looks ++ (rd_c q (nI (rd_sk (rd_cd ta_codes k) x i)) :: z)) H1 → va_D A (hx_w q cI cZ cL xq_query ha_parents hf_classCount ha_classes ha_sizes ha_fields hf_objectCount hf_roots hf_changed sa_linkedFrom sa_linkCounts sa_retainedSets sa_retainedSizes sa_dominators sa_immediateDominators sf_objectCount sf_roots sf_reachable ta_codes ta_numbers tf_count ta_brackets tf_bracketCount tf_place tf_inWhere tf_compared wa_rows wf_count wf_looks ++ (rd_c q (nI (rd_sk (rd_cd ta_codes k) x i)) :: z)) → va_S A H0 H1 locs1 → W p l e R s m args below meth c H1 locs1 cells slots Q (F0 m (pc + 3) ls (.int (rd_b (rd_cd ta_codes k) x i) :: rest))) : W p l e R s m args below meth c H locs cells slots Q (F0 m pc ls (.int x :: .ref (q 19) :: rest)) := by
  by_cases h : rd_cd ta_codes k i = x
  · refine ksk_Y x hk hi htc h hx hb hml hts hown hK hP hD hS h1 hR hls hW hdg hf ?_
    have e1 : rd_sk (rd_cd ta_codes k) x i = i + 1 := if_pos h
    have e2 : rd_b (rd_cd ta_codes k) x i = 1 := if_pos h
    rw [e1, e2] at kk
    exact kk
  · refine ksk_N x hk hi htc h hx hb hml hts hown hK hP hD hS h1 hR hls hW hdg hf ?_
    have e1 : rd_sk (rd_cd ta_codes k) x i = i := if_neg h
    have e2 : rd_b (rd_cd ta_codes k) x i = 0 := if_neg h
    rw [e1, e2] at kk
    exact kk
/-- storing into the select that lies behind z: its fields before and after as lists -/
theorem psl {X y : va_W} {r : Nat × va_E} {a k : Nat} {fs fs' : List Value} {ty : FieldType} {v : Value} (hX : X.length = 19) (hx : p.tables.exec = Jvm.exec) (hb : c.code = cc) (hts : ∀ x ∈ hq_tbl, x.before args s = true) (hown : s.vm.findClass own = some m.cls) (hK : va_K D hq_cl (hq_tys cI cZ cL) s) (hP : va_P D hq_cl (X ++ (r :: (z ++ (a, .inr (6, fs)) :: y))) H) (hD : va_D A (X ++ (r :: (z ++ (a, .inr (6, fs)) :: y)))) (hS : va_S A H0 H locs) (hk : k < 8)
    (hw : Cond.fieldLink own idx "HeapQueries$Select" (hT_xl k).2.1 (hT_xl k).2.2.1 ∈ hq_tbl) (hsame : (hT_xl k).1 = "HeapQueries$Select") (hfin : (hT_xl k).2.2.2 = false) (hd : parseFieldDescriptor (hT_xl k).2.2.1 = some ty) (hn : narrow ty v = v) (hfit : fits ty v = true) (hl : k < fs.length) (hfs : fs.set k v = fs') (hdg : decode cc pc = .ok (.putfield idx, 3))
    (kk : ∀ (H1 : Heap) (locs1 : List Loc), va_P D hq_cl (X ++ (r :: (z ++ (a, .inr (6, fs')) :: y))) H1 → va_D A (X ++ (r :: (z ++ (a, .inr (6, fs')) :: y))) → va_S A H0 H1 locs1 → W p l e R s m args below meth c H1 locs1 cells slots Q (F0 m (pc + 3) ls rest)) : W p l e R s m args below meth c H locs cells slots Q (F0 m pc ls (v :: .ref a :: rest)) := by
  subst hfs
  refine va_put (ty := ty) hx hb hts hin_xl hty_xl hty_xl_ok hnm_xl hown hK hP hD hS (19 + (z.length + 1)) (hz_mid hX) rfl k hk (hts _ hw) (fun x h9 => by rw [hsame] at h9; exact h9) hfin hd hn hfit hl hdg (fun H locs hP hD hS => ?_)
  rw [hz_setm hX] at hP hD
  exact kk H locs hP hD hS
end
