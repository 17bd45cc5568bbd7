/-! the law's worlds and its invariant -/
theorem hz_mapP {D : va_G} {cl : List vw_C} {w w' : va_W} {H : Heap} (f : Nat → Nat) (hf : ∀ (k : Nat) (x : Nat × va_E), w'[k]? = some x → w[f k]? = some x) (h : va_P D cl w H) : va_P D cl w' H := fun k x hx => h (f k) x (hf k x hx)
theorem hz_mapD {A : Nat → Prop} {w w' : va_W} (f : Nat → Nat) (hf : ∀ (k : Nat) (x : Nat × va_E), w'[k]? = some x → w[f k]? = some x) (hi : ∀ i j, i < w'.length → j < w'.length → f i = f j → i = j) (h : va_D A w) : va_D A w' :=
  ⟨fun i j x y hx hy e => hi i j (List.getElem?_eq_some_iff.mp hx).1 (List.getElem?_eq_some_iff.mp hy).1 (h.1 _ _ x y (hf i x hx) (hf j y hy) e), fun k x hx => h.2 _ x (hf k x hx)⟩
def hz_fs (la lc k : Nat) : Nat := if k < lc then la + k else if k < lc + la then k - lc else k
theorem hz_fsg {a c d : va_W} : ∀ (k : Nat) (x : Nat × va_E), (c ++ (a ++ d))[k]? = some x → (a ++ (c ++ d))[hz_fs a.length c.length k]? = some x := by
  intro k x h
  unfold hz_fs
  by_cases h1 : k < c.length
  · rw [if_pos h1]
    rw [List.getElem?_append_left h1] at h
    rw [List.getElem?_append_right (by omega), Nat.add_sub_cancel_left, List.getElem?_append_left h1]
    exact h
  · rw [if_neg h1]
    rw [List.getElem?_append_right (by omega)] at h
    by_cases h2 : k < c.length + a.length
    · rw [if_pos h2]
      rw [List.getElem?_append_left (by omega)] at h
      rw [List.getElem?_append_left (by omega)]
      exact h
    · rw [if_neg h2]
      rw [List.getElem?_append_right (by omega)] at h
      rw [List.getElem?_append_right (by omega), List.getElem?_append_right (by omega), show k - a.length - c.length = k - c.length - a.length by omega]
      exact h
theorem hz_fsi {la lc : Nat} {i j : Nat} (h : hz_fs la lc i = hz_fs la lc j) : i = j := by
  unfold hz_fs at h
  by_cases a : i < lc <;> by_cases b : j < lc <;> by_cases a2 : i < lc + la <;> by_cases b2 : j < lc + la <;> simp only [a, b, a2, b2, if_true, if_false] at h <;> omega
theorem hz_toMP {D : va_G} {cl : List vw_C} {a b c d : va_W} {H : Heap} (h : va_P D cl (a ++ (b ++ (c ++ d))) H) : va_P D cl (c ++ ((a ++ b) ++ d)) H := by
  rw [← List.append_assoc a b] at h
  exact hz_mapP _ hz_fsg h
theorem hz_toMD {A : Nat → Prop} {a b c d : va_W} (h : va_D A (a ++ (b ++ (c ++ d)))) : va_D A (c ++ ((a ++ b) ++ d)) := by
  rw [← List.append_assoc a b] at h
  exact hz_mapD _ hz_fsg (fun _ _ _ _ e => hz_fsi e) h
theorem hz_toXP {D : va_G} {cl : List vw_C} {a b c d : va_W} {H : Heap} (h : va_P D cl (c ++ ((a ++ b) ++ d)) H) : va_P D cl (a ++ (b ++ (c ++ d))) H := by
  rw [← List.append_assoc a b]
  exact hz_mapP _ hz_fsg h
theorem hz_toXD {A : Nat → Prop} {a b c d : va_W} (h : va_D A (c ++ ((a ++ b) ++ d))) : va_D A (a ++ (b ++ (c ++ d))) := by
  rw [← List.append_assoc a b]
  exact hz_mapD _ hz_fsg (fun _ _ _ _ e => hz_fsi e) h
def hz_fd (la lb k : Nat) : Nat := if k < la then k else k + lb
theorem hz_fdg {a b c d : va_W} : ∀ (k : Nat) (x : Nat × va_E), (a ++ (c ++ []))[k]? = some x → (a ++ (b ++ (c ++ d)))[hz_fd a.length b.length k]? = some x := by
  intro k x h
  rw [List.append_nil] at h
  unfold hz_fd
  by_cases h1 : k < a.length
  · rw [if_pos h1]
    rw [List.getElem?_append_left h1] at h ⊢
    exact h
  · rw [if_neg h1]
    rw [List.getElem?_append_right (by omega)] at h
    have hl := (List.getElem?_eq_some_iff.mp h).1
    rw [List.getElem?_append_right (by omega), List.getElem?_append_right (by omega), List.getElem?_append_left (by omega), show k + b.length - a.length - b.length = k - a.length by omega]
    exact h
theorem hz_fdi {la lb i j : Nat} (h : hz_fd la lb i = hz_fd la lb j) : i = j := by
  unfold hz_fd at h
  by_cases a : i < la <;> by_cases b : j < la <;> simp only [a, b, if_true, if_false] at h <;> omega
theorem hz_drP {D : va_G} {cl : List vw_C} {a b c d : va_W} {H : Heap} (h : va_P D cl (a ++ (b ++ (c ++ d))) H) : va_P D cl (a ++ (c ++ [])) H := hz_mapP _ hz_fdg h
theorem hz_drD {A : Nat → Prop} {a b c d : va_W} (h : va_D A (a ++ (b ++ (c ++ d)))) : va_D A (a ++ (c ++ [])) := hz_mapD _ hz_fdg (fun _ _ _ _ e => hz_fdi e) h
theorem lw_in {t L : Nat} (h : 5 * t + 5 ≤ L) (hL : L ≤ 2560) (j : Nat) (y : Int32) (hy : y = nI j) (hj : j < 5) : vp_in (nI (5 * t) + y) L := by
  rw [hy, nI_add]
  exact pk_in (5 * t + j) L (by omega)
/-- place 8 is behind END alone -/
theorem hg_24 {c p : Nat} {cm : Bool} {st : List Nat} {p' : Nat} {cm' : Bool} {st' : List Nat} (h : hg_step c p cm st = some (p', cm', st')) : (p' = 8 ↔ c = 24) ∧ ¬ p = 8 := by
  have E : ∀ s : List Nat, hg_ends c cm s = some (p', cm', st') → (p' = 8 ↔ c = 24) := fun s h => by
    rcases hg_endsI h with ⟨_, ⟨a, b, _⟩ | ⟨a, b, _⟩ | ⟨a, b, _⟩⟩ <;> constructor <;> intro <;> omega
  refine ⟨?_, fun q => ?_⟩
  · rcases hg_stepI h with ⟨_, a, b, _⟩ | ⟨_, h⟩ | ⟨_, h⟩ | ⟨_, ⟨a, b, _⟩ | ⟨a, b, _⟩⟩ | ⟨_, ⟨a, b, _⟩ | ⟨_, h⟩⟩
    · constructor <;> intro <;> omega
    · rcases hg_operandI h with ⟨a, _, b, _⟩ | ⟨a, b, _⟩ | ⟨a, b, _⟩ | ⟨a, b, _⟩ <;> constructor <;> intro <;> omega
    · rcases hg_behindI h with ⟨a, b, _⟩ | ⟨a, b, _⟩ | ⟨a, b, _⟩ | ⟨a, b, _⟩ | ⟨a, b, _⟩ | ⟨a, b, _⟩ | ⟨s, _, h9⟩
      all_goals first | exact E s h9 | (constructor <;> intro <;> omega)
    · constructor <;> intro <;> omega
    · constructor <;> intro <;> omega
    · constructor <;> intro <;> omega
    · exact E st h
  · rcases hg_stepI h with ⟨a, _⟩ | ⟨a, _⟩ | ⟨a, _⟩ | ⟨a, _⟩ | ⟨a, _⟩ <;> omega
theorem ht_24 {cc k : Nat} {tk : Nat → Nat} {p : Nat} {cm : Bool} {st : List Nat} {mc mn xc xn brk : Nat → Int32} {bc pl iw cx : Int32} (h : ht_I cc k tk p cm st mc mn xc xn brk bc pl iw cx) : (k = 0 ∧ ¬ p = 8) ∨ ∃ j, k = j + 1 ∧ (p = 8 ↔ tk j = 24) := by
  have hr := h.2.2.1
  cases k with
  | zero =>
    cases hr
    exact Or.inl ⟨rfl, by decide⟩
  | succ j =>
    obtain ⟨u, _, h2⟩ := hq_bind (show (hg_run tk j).bind (fun u => hg_step (tk j) u.1 u.2.1 u.2.2) = some (p, cm, st) from hr)
    exact Or.inr ⟨j, rfl, (hg_24 h2).1⟩
theorem lw_addC {x r : Int32} {c c' : Nat} {mp mp' : Nat → Int32} (hc : c ≤ 8) (hc' : c' ≤ 8) (h : sm_addClass x (nI c) mp = some (r, nI c', mp')) : c ≤ c' := by
  unfold sm_addClass at h
  have e1 : ∀ {a : Int32} {b : Nat → Int32}, some (a, nI c, b) = some (r, nI c', mp') → c ≤ c' := fun h => by
    have := congrArg (fun o : Option (Int32 × Int32 × (Nat → Int32)) => o.map fun u => u.2.1) h
    have := Option.some.inj this
    have := (nI_eq (by omega) (by omega)).mp this
    omega
  have e2 : ∀ {a : Int32} {b : Nat → Int32}, some (a, nI c + 1, b) = some (r, nI c', mp') → c ≤ c' := fun h => by
    rw [nI_1] at h
    have := congrArg (fun o : Option (Int32 × Int32 × (Nat → Int32)) => o.map fun u => u.2.1) h
    have := Option.some.inj this
    have := (nI_eq (by omega) (by omega)).mp this
    omega
  repeat' split at h
  all_goals first | exact e1 h | exact e2 h | cases h
def lw_q (l : Launch) (D : va_G) (A : Nat → Prop) (q : Nat → Nat) (cI cZ cL : ClassId) (n0 : Nat) (y : va_W) (p k : Nat) (xc xn : Nat → Int32) (xq_query : Option Nat) : Prop :=
  (¬ p = 8 → xq_query = none) ∧ (p = 8 → ∃ us h i' b, rd_Q (rd_cd xc k) (rd_nu xn k) 100 100 0 0 = some (us, h, i') ∧ xq_query = some b ∧ hd_Q l D A q cI cZ cL (zp n0 y) (some b) 9 (hd_seq us))
def lw_J (l : Launch) (D : va_G) (A : Nat → Prop) (q : Nat → Nat) (cI cZ cL : ClassId) (n0 : Nat) (y : va_W) (xq_query : Option Nat) (ha_parents : Nat → Int32) (hf_classCount : Int32) (ha_classes : Nat → Int32) (ha_sizes : Nat → Int32) (ha_fields : Nat → Int64) (hf_objectCount : Int32) (hf_roots : Int32) (hf_changed : Int32) (sa_linkedFrom : Nat → Int32) (sa_linkCounts : Nat → Int32) (sa_retainedSets : Nat → Int32) (sa_retainedSizes : Nat → Int32) (sa_dominators : Nat → Int32) (sa_immediateDominators : Nat → Int32) (sf_objectCount : Int32) (sf_roots : Int32) (sf_reachable : Int32) (ta_codes : Nat → Int32) (ta_numbers : Nat → Int32) (tf_count : Int32) (ta_brackets : Nat → Int32) (tf_bracketCount : Int32) (tf_place : Int32) (tf_inWhere : Int32) (tf_compared : Int32) (wa_rows : Nat → Int64) (wf_count : Int32) (wf_looks : Int32) (f_classes : Int32) (a_parent : Nat → Int32) (f_objects : Int32) (a_kindOf : Nat → Int32) (a_size : Nat → Int32) (a_root : Nat → Int32) (a_slotKind : Nat → Int32) (a_slot : Nat → Int32) (a_kept : Nat → Int32) (f_count : Int32) (a_code : Nat → Int32) (a_number : Nat → Int32) (f_want : Int32) (f_compared : Int32) (f_open : Int32) (a_opened : Nat → Int32) (f_rowCount : Int32) (a_rowKind : Nat → Int32) (a_rowValue : Nat → Int32) (f_many : Int32) (a_list : Nat → Int32) (f_seen : Int32) (f_fail : Int32) (f_level : Int32) (a_from : Nat → Int32) (a_eAt : Nat → Int32) (a_whereAt : Nat → Int32) (a_source : Nat → Int32) (a_distinct : Nat → Int32) (a_keeps : Nat → Int32) (f_at : Int32) (f_self : Int32) (f_brackets : Int32) (f_values : Int32) (a_vKind : Nat → Int32) (a_v : Nat → Int32) (f_waiting : Int32) (a_waits : Nat → Int32) : Prop :=
  ∃ (cc n k : Nat) (tk : Nat → Nat) (p : Nat) (cm : Bool) (st : List Nat) (r : Nat), f_classes = nI cc ∧ hf_classCount = nI cc ∧ f_objects = nI n ∧ hf_objectCount = nI n ∧ f_count = nI k ∧ tf_count = nI k ∧ f_rowCount = nI r ∧ wf_count = nI r ∧ f_seen = wf_looks ∧
    hh_I cc n a_parent a_kindOf a_size a_root a_slotKind a_slot ha_parents ha_classes ha_sizes ha_fields hf_roots ∧ (hf_changed = 0 → hs_V n a_root a_slotKind a_slot ha_sizes hf_roots sa_linkedFrom sa_linkCounts sa_retainedSets sa_retainedSizes sa_immediateDominators sf_objectCount sf_roots sf_reachable) ∧
    ht_I cc k tk p cm st a_code a_number ta_codes ta_numbers ta_brackets tf_bracketCount tf_place tf_inWhere tf_compared ∧ hr_I r a_rowKind a_rowValue wa_rows ∧ lw_q l D A q cI cZ cL n0 y p k ta_codes ta_numbers xq_query
def lw_B (l : Launch) (D : va_G) (A : Nat → Prop) (cI cZ cL : ClassId) (x0 m0 : Nat) (H : Heap) : Prop :=
  ∃ (q qm : Nat → Nat) (c0 y : va_W) (xq_query : Option Nat) (ha_parents : Nat → Int32) (hf_classCount : Int32) (ha_classes : Nat → Int32) (ha_sizes : Nat → Int32) (ha_fields : Nat → Int64) (hf_objectCount : Int32) (hf_roots : Int32) (hf_changed : Int32) (sa_linkedFrom : Nat → Int32) (sa_linkCounts : Nat → Int32) (sa_retainedSets : Nat → Int32) (sa_retainedSizes : Nat → Int32) (sa_dominators : Nat → Int32) (sa_immediateDominators : Nat → Int32) (sf_objectCount : Int32) (sf_roots : Int32) (sf_reachable : Int32) (ta_codes : Nat → Int32) (ta_numbers : Nat → Int32) (tf_count : Int32) (ta_brackets : Nat → Int32) (tf_bracketCount : Int32) (tf_place : Int32) (tf_inWhere : Int32) (tf_compared : Int32) (wa_rows : Nat → Int64) (wf_count : Int32) (wf_looks : Int32) (f_classes : Int32) (a_parent : Nat → Int32) (f_objects : Int32) (a_kindOf : Nat → Int32) (a_size : Nat → Int32) (a_root : Nat → Int32) (a_slotKind : Nat → Int32) (a_slot : Nat → Int32) (a_kept : Nat → Int32) (f_count : Int32) (a_code : Nat → Int32) (a_number : Nat → Int32) (f_want : Int32) (f_compared : Int32) (f_open : Int32) (a_opened : Nat → Int32) (f_rowCount : Int32) (a_rowKind : Nat → Int32) (a_rowValue : Nat → Int32) (f_many : Int32) (a_list : Nat → Int32) (f_seen : Int32) (f_fail : Int32) (f_level : Int32) (a_from : Nat → Int32) (a_eAt : Nat → Int32) (a_whereAt : Nat → Int32) (a_source : Nat → Int32) (a_distinct : Nat → Int32) (a_keeps : Nat → Int32) (f_at : Int32) (f_self : Int32) (f_brackets : Int32) (f_values : Int32) (a_vKind : Nat → Int32) (a_v : Nat → Int32) (f_waiting : Int32) (a_waits : Nat → Int32), q 0 = x0 ∧ qm 0 = m0 ∧ lw_J l D A q cI cZ cL (c0.length + 23) y xq_query ha_parents hf_classCount ha_classes ha_sizes ha_fields hf_objectCount hf_roots hf_changed sa_linkedFrom sa_linkCounts sa_retainedSets sa_retainedSizes sa_dominators sa_immediateDominators sf_objectCount sf_roots sf_reachable ta_codes ta_numbers tf_count ta_brackets tf_bracketCount tf_place tf_inWhere tf_compared wa_rows wf_count wf_looks f_classes a_parent f_objects a_kindOf a_size a_root a_slotKind a_slot a_kept f_count a_code a_number f_want f_compared f_open a_opened f_rowCount a_rowKind a_rowValue f_many a_list f_seen f_fail f_level a_from a_eAt a_whereAt a_source a_distinct a_keeps f_at f_self f_brackets f_values a_vKind a_v f_waiting a_waits ∧ va_P D hq_cl (hx_w q cI cZ cL xq_query ha_parents hf_classCount ha_classes ha_sizes ha_fields hf_objectCount hf_roots hf_changed sa_linkedFrom sa_linkCounts sa_retainedSets sa_retainedSizes sa_dominators sa_immediateDominators sf_objectCount sf_roots sf_reachable ta_codes ta_numbers tf_count ta_brackets tf_bracketCount tf_place tf_inWhere tf_compared wa_rows wf_count wf_looks ++ (c0 ++ (hm_w qm cI cZ cL f_classes a_parent f_objects a_kindOf a_size a_root a_slotKind a_slot a_kept f_count a_code a_number f_want f_compared f_open a_opened f_rowCount a_rowKind a_rowValue f_many a_list f_seen f_fail f_level a_from a_eAt a_whereAt a_source a_distinct a_keeps f_at f_self f_brackets f_values a_vKind a_v f_waiting a_waits ++ y))) H ∧ va_D A (hx_w q cI cZ cL xq_query ha_parents hf_classCount ha_classes ha_sizes ha_fields hf_objectCount hf_roots hf_changed sa_linkedFrom sa_linkCounts sa_retainedSets sa_retainedSizes sa_dominators sa_immediateDominators sf_objectCount sf_roots sf_reachable ta_codes ta_numbers tf_count ta_brackets tf_bracketCount tf_place tf_inWhere tf_compared wa_rows wf_count wf_looks ++ (c0 ++ (hm_w qm cI cZ cL f_classes a_parent f_objects a_kindOf a_size a_root a_slotKind a_slot a_kept f_count a_code a_number f_want f_compared f_open a_opened f_rowCount a_rowKind a_rowValue f_many a_list f_seen f_fail f_level a_from a_eAt a_whereAt a_source a_distinct a_keeps f_at f_self f_brackets f_values a_vKind a_v f_waiting a_waits ++ y)))
