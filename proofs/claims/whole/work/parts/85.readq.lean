/-! the reader as a whole: a query from a place on -/
def rd_Q (c n : Nat → Int32) (fe : Nat) : Nat → Nat → Nat → Option (List hd_Y × Nat × Nat)
  | 0, _, _ => none
  | m + 1, dep, p => if p ≤ 40 then rd_Q1 c (rd_S c n fe (rd_Q c n fe m (dep + 1))) dep p else none
section
variable {l : Launch} {D : va_G} {A : Nat → Prop} {z w : va_W} {q : Nat → Nat} {cI cZ cL : ClassId}
variable {hf_classCount hf_objectCount hf_roots hf_changed sf_objectCount sf_roots sf_reachable tf_count tf_bracketCount tf_place tf_inWhere tf_compared wf_count wf_looks rf_at n_code n_number s_isDistinct s_isRetained s_sourceClass s_withDescendants : Int32}
variable {ha_parents ha_classes ha_sizes sa_linkedFrom sa_linkCounts sa_retainedSets sa_retainedSizes sa_dominators sa_immediateDominators ta_codes ta_numbers ta_brackets : Nat → Int32}
variable {ha_fields wa_rows : Nat → Int64}
variable {xq_query n_left n_right s_row s_nested s_condition s_next : Option Nat}
variable {pa_n pk_n pa_s pk_s : Nat}
theorem cxr_readQ {k : Nat} (hk : k ≤ 40) (htc : tf_count = nI k) (fe : Nat) : ∀ (mm dep p : Nat) (z : va_W) (u : List hd_Y × Nat × Nat), rd_Q (rd_cd ta_codes k) (rd_nu ta_numbers k) fe mm dep p = some u →
    hq_Cn l yxr_readQuery bxr_readQuery 5 (some (.object "HeapQueries$Select")) (rd_rmQ dep (u.2.2 - p)) D (hq_tys cI cZ cL) A [.ref (q 19), .int (nI dep)] (hx_w q cI cZ cL xq_query ha_parents hf_classCount ha_classes ha_sizes ha_fields hf_objectCount hf_roots hf_changed sa_linkedFrom sa_linkCounts sa_retainedSets sa_retainedSizes sa_dominators sa_immediateDominators sf_objectCount sf_roots sf_reachable ta_codes ta_numbers tf_count ta_brackets tf_bracketCount tf_place tf_inWhere tf_compared wa_rows wf_count wf_looks ++ (rd_c q (nI p) :: z)) (rd_PQ l D A q cI cZ cL (hx_w q cI cZ cL xq_query ha_parents hf_classCount ha_classes ha_sizes ha_fields hf_objectCount hf_roots hf_changed sa_linkedFrom sa_linkCounts sa_retainedSets sa_retainedSizes sa_dominators sa_immediateDominators sf_objectCount sf_roots sf_reachable ta_codes ta_numbers tf_count ta_brackets tf_bracketCount tf_place tf_inWhere tf_compared wa_rows wf_count wf_looks) z u.1 u.2.1 u.2.2) (u.2.2 - p) (4 * (u.2.2 - p)) := by
  intro mm
  induction mm with
  | zero => intro dep p z u hu; cases hu
  | succ mm ih =>
    intro dep p z u hu
    obtain ⟨hp, hu⟩ := hq_ok (show (if p ≤ 40 then rd_Q1 (rd_cd ta_codes k) (rd_S (rd_cd ta_codes k) (rd_nu ta_numbers k) fe (rd_Q (rd_cd ta_codes k) (rd_nu ta_numbers k) fe mm (dep + 1))) dep p else none) = some u from hu)
    have hd8 : dep ≤ 8 := by
      have hu2 := hu
      unfold rd_Q1 at hu2
      exact (hq_ok hu2).1
    exact cxr_readQuery hk hp htc _ (fun p z u hu2 => cxr_readSelect hk hd8 htc fe _ (fun p z u hu3 => ih (dep + 1) p z u hu3) u hu2) u hu
end
