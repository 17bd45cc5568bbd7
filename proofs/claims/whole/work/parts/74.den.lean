/-! what a node means: hd_E z e h d: over every tail that holds what z holds of nodes and selects, and every state of the class, valueOf of e is d; h is e's height -/
def hz_le (z z' : va_W) : Prop := ∀ (i a ci : Nat) (fs : List Value), z[i]? = some (a, .inr (ci, fs)) → ci = 6 ∨ ci = 7 → z'[i]? = some (a, .inr (ci, fs))
theorem hz_le.rf {z : va_W} : hz_le z z := fun _ _ _ _ h _ => h
theorem hz_le.tr {z z' z'' : va_W} (h1 : hz_le z z') (h2 : hz_le z' z'') : hz_le z z'' := fun i a ci fs h hc => h2 i a ci fs (h1 i a ci fs h hc) hc
theorem hz_le.app {z y : va_W} : hz_le z (z ++ y) := fun i a ci fs h _ => by
  rw [List.getElem?_append_left (List.getElem?_eq_some_iff.mp h).1]
  exact h
theorem hz_le.cons {x x' : Nat × va_E} {z z' : va_W} (hx : ∀ a ci fs, x = (a, .inr (ci, fs)) → ci = 6 ∨ ci = 7 → x' = x) (h : hz_le z z') : hz_le (x :: z) (x' :: z') := fun i a ci fs hi hc => by
  cases i with
  | zero =>
    have hi : some x = some (a, .inr (ci, fs)) := hi
    have e := Option.some.inj hi
    show some x' = _
    rw [hx a ci fs e hc, e]
  | succ i => exact h i a ci fs hi hc
def hd_mk (code num : Int32) (lf rt : Option Nat) (dL dR : hd_X) : hd_X := fun l2 a1 a2 a3 a4 a5 a6 a7 => sxc_valueOf dL dR l2 0 a1 a2 a3 a4 a5 a6 a7 code num lf rt
def hd_no : hd_X := fun _ _ _ _ _ _ _ _ => none
def hd_leaf (code num : Int32) : hd_X := hd_mk code num none none hd_no hd_no
def hd_un (code num : Int32) (d : hd_X) : hd_X := hd_mk code num (some 0) none d hd_no
def hd_bin (code num : Int32) (d1 d2 : hd_X) : hd_X := hd_mk code num (some 0) (some 0) d1 d2
theorem hd_mk_un {code num : Int32} {a : Nat} {d : hd_X} : hd_mk code num (some a) none d hd_no = hd_un code num d := by
  funext l2 a1 a2 a3 a4 a5 a6 a7
  show sxc_valueOf d hd_no l2 0 a1 a2 a3 a4 a5 a6 a7 code num (some a) none = sxc_valueOf d hd_no l2 0 a1 a2 a3 a4 a5 a6 a7 code num (some 0) none
  unfold sxc_valueOf
  rw [if_neg (Option.some_ne_none a), if_neg (Option.some_ne_none 0)]
theorem hd_mk_bin {code num : Int32} {a b : Nat} {d1 d2 : hd_X} : hd_mk code num (some a) (some b) d1 d2 = hd_bin code num d1 d2 := by
  funext l2 a1 a2 a3 a4 a5 a6 a7
  show sxc_valueOf d1 d2 l2 0 a1 a2 a3 a4 a5 a6 a7 code num (some a) (some b) = sxc_valueOf d1 d2 l2 0 a1 a2 a3 a4 a5 a6 a7 code num (some 0) (some 0)
  first | rfl | simp [sxc_valueOf]
section
variable {l : Launch} {D : va_G} {A : Nat → Prop} {z : va_W} {q : Nat → Nat} {cI cZ cL : ClassId}
def hd_E (l : Launch) (D : va_G) (A : Nat → Prop) (q : Nat → Nat) (cI cZ cL : ClassId) (z0 : va_W) (e : Option Nat) (h : Nat) (d : hd_X) : Prop :=
  ∀ z, hz_le z0 z → ∀ (k : Nat) (l2 : Int32), k + h ≤ 41 → ∀ (xq_query : Option Nat) (ha_parents : Nat → Int32) (hf_classCount : Int32) (ha_classes : Nat → Int32) (ha_sizes : Nat → Int32) (ha_fields : Nat → Int64) (hf_objectCount : Int32) (hf_roots : Int32) (hf_changed : Int32) (sa_linkedFrom : Nat → Int32) (sa_linkCounts : Nat → Int32) (sa_retainedSets : Nat → Int32) (sa_retainedSizes : Nat → Int32) (sa_dominators : Nat → Int32) (sa_immediateDominators : Nat → Int32) (sf_objectCount : Int32) (sf_roots : Int32) (sf_reachable : Int32) (ta_codes : Nat → Int32) (ta_numbers : Nat → Int32) (tf_count : Int32) (ta_brackets : Nat → Int32) (tf_bracketCount : Int32) (tf_place : Int32) (tf_inWhere : Int32) (tf_compared : Int32) (wa_rows : Nat → Int64) (wf_count : Int32) (wf_looks : Int32) (u : Int64), d l2 ha_classes ha_sizes ha_fields hf_objectCount sa_linkCounts sa_retainedSizes sa_immediateDominators = some u →
    hq_Ct l yxc_valueOf bxc_valueOf 8 (some .long) (hd_rm k) D (hq_tys cI cZ cL) A [.ref (q 1), va_rf e, .int l2, .int (nI k)] (hx_w q cI cZ cL xq_query ha_parents hf_classCount ha_classes ha_sizes ha_fields hf_objectCount hf_roots hf_changed sa_linkedFrom sa_linkCounts sa_retainedSets sa_retainedSizes sa_dominators sa_immediateDominators sf_objectCount sf_roots sf_reachable ta_codes ta_numbers tf_count ta_brackets tf_bracketCount tf_place tf_inWhere tf_compared wa_rows wf_count wf_looks ++ z) (hx_w q cI cZ cL xq_query ha_parents hf_classCount ha_classes ha_sizes ha_fields hf_objectCount hf_roots hf_changed sa_linkedFrom sa_linkCounts sa_retainedSets sa_retainedSizes sa_dominators sa_immediateDominators sf_objectCount sf_roots sf_reachable ta_codes ta_numbers tf_count ta_brackets tf_bracketCount tf_place tf_inWhere tf_compared wa_rows wf_count wf_looks ++ z) (some (.long u)) 0 0
theorem hd_E.more {e : Option Nat} {h h' : Nat} {d : hd_X} {z' : va_W} (hE : hd_E l D A q cI cZ cL z e h d) (hz : hz_le z z') (hh : h ≤ h') : hd_E l D A q cI cZ cL z' e h' d :=
  fun y hy k l2 hk => hE y (hz.tr hy) k l2 (by omega)
theorem hd_E.none {h : Nat} : hd_E l D A q cI cZ cL z none h hd_no := fun _ _ _ _ _ => by
  intros
  rename_i hu
  cases hu
theorem hd_node {pk pa : Nat} {code num : Int32} {lf rt : Option Nat} {h : Nat} {dL dR : hd_X} (ph : z[pk]? = some (pa, .inr (7, [.int code, .int num, va_rf lf, va_rf rt]))) (hL : hd_E l D A q cI cZ cL z lf h dL) (hR : hd_E l D A q cI cZ cL z rt h dR) :
    hd_E l D A q cI cZ cL z (some pa) (h + 1) (hd_mk code num lf rt dL dR) := by
  intro z' hz k l2 hk xq_query ha_parents hf_classCount ha_classes ha_sizes ha_fields hf_objectCount hf_roots hf_changed sa_linkedFrom sa_linkCounts sa_retainedSets sa_retainedSizes sa_dominators sa_immediateDominators sf_objectCount sf_roots sf_reachable ta_codes ta_numbers tf_count ta_brackets tf_bracketCount tf_place tf_inWhere tf_compared wa_rows wf_count wf_looks u hu
  have e1 : nI k + 1 = nI (k + 1) := nI_1 k
  refine cxc_valueOf k (by omega) dL dR l2 (nI k) u ?_ (hz _ _ _ _ ph (Or.inr rfl)) (fun u hu => ?_) (fun u hu => ?_)
  · have hu : sxc_valueOf dL dR l2 0 ha_classes ha_sizes ha_fields hf_objectCount sa_linkCounts sa_retainedSizes sa_immediateDominators code num lf rt = some u := hu
    unfold sxc_valueOf at hu ⊢
    rw [if_pos (by decide)] at hu
    rw [if_pos (show nI k ≤ (40 : Int32) from (nI_leI (b := 40) (by omega) (by omega)).mpr (by omega))]
    exact hu
  · rw [e1]
    exact hL z' hz (k + 1) l2 (by omega) xq_query ha_parents hf_classCount ha_classes ha_sizes ha_fields hf_objectCount hf_roots hf_changed sa_linkedFrom sa_linkCounts sa_retainedSets sa_retainedSizes sa_dominators sa_immediateDominators sf_objectCount sf_roots sf_reachable ta_codes ta_numbers tf_count ta_brackets tf_bracketCount tf_place tf_inWhere tf_compared wa_rows wf_count wf_looks u hu
  · rw [e1]
    exact hR z' hz (k + 1) l2 (by omega) xq_query ha_parents hf_classCount ha_classes ha_sizes ha_fields hf_objectCount hf_roots hf_changed sa_linkedFrom sa_linkCounts sa_retainedSets sa_retainedSizes sa_dominators sa_immediateDominators sf_objectCount sf_roots sf_reachable ta_codes ta_numbers tf_count ta_brackets tf_bracketCount tf_place tf_inWhere tf_compared wa_rows wf_count wf_looks u hu
end
/-! the reading of an e: what is read from a place on, as readE, readM and readStep read it: the meaning, its height, the place behind it -/
section
variable (c n : Nat → Int32)
def rd_steps : Nat → hd_X → Nat → Nat → Option (hd_X × Nat × Nat)
  | 0, _, _, _ => none
  | m + 1, d, h, p => if p ≤ 40 then (if c p = 13 ∨ c p = 14 then rd_steps m (hd_un (c p) (n p) d) (h + 1) (p + 1) else some (d, h, p)) else none
def rd_M (rec : Int32 → Nat → Option (hd_X × Nat × Nat)) (p : Nat) : Option (hd_X × Nat × Nat) :=
  if c p = 6 then (rec 1 (p + 1)).bind fun u => if p + 2 ≤ u.2.2 then (if c u.2.2 = 7 then rd_steps c n 100 u.1 u.2.1 (u.2.2 + 1) else none) else none
  else if c p = 10 ∨ c p = 11 ∨ c p = 12 then rd_steps c n 100 (hd_leaf (c p) (n p)) 1 (p + 1) else none
def rd_loop (rec : Int32 → Nat → Option (hd_X × Nat × Nat)) (L : Int32) : Nat → hd_X → Nat → Nat → Option (hd_X × Nat × Nat)
  | 0, _, _, _ => none
  | m + 1, d, h, p => if p ≤ 40 then (if sxr_levelOf (c p) < L then some (d, h, p) else (rec (sxr_levelOf (c p) + 1) (p + 1)).bind fun u => if p + 2 ≤ u.2.2 then rd_loop rec L m (hd_bin (c p) 0 d u.1) (max h u.2.1 + 1) u.2.2 else none) else none
def rd_E : Nat → Int32 → Nat → Option (hd_X × Nat × Nat)
  | 0, _, _ => none
  | m + 1, L, p => if p ≤ 40 then
      (if c p = 17 then (if L ≤ 3 then (rd_E m 3 (p + 1)).bind fun u => if p + 2 ≤ u.2.2 then rd_loop c (rd_E m) L 100 (hd_un 17 0 u.1) (u.2.1 + 1) u.2.2 else none else none)
       else (rd_M c n (rd_E m) p).bind fun u => if p + 1 ≤ u.2.2 then rd_loop c (rd_E m) L 100 u.1 u.2.1 u.2.2 else none) else none
end
