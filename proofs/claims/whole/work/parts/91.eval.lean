/-! AND, OR: the right operand is worked out, or passed over -/
def he_Sc (k : Nat) (mc : Nat → Int32) (c p dd : Nat) (r : Int32) : Prop := ∀ fuel, 41 ≤ fuel + p → dd ≤ p → sm_branch_L113 fuel (nI c) (nI dd) (nI k) mc (nI p) = some r
def he_lv (w : Nat) : Nat := if w = 15 then 1 else if w = 16 then 2 else if w = 18 ∨ w = 19 ∨ w = 20 then 3 else if w = 21 ∨ w = 22 then 4 else if w = 23 then 5 else 0
def he_r (lv : Nat) : Nat := if lv ≤ 2 then lv else lv + 1
def he_lo (lv : Nat) : Nat := if lv ≤ 3 then lv else lv + 1
theorem he_lvI : ∀ w, w < 25 → sxr_levelOf (nI w) = nI (he_lv w) := by decide +kernel
theorem he_lv_op : ∀ w, w < 25 → he_lv w = 0 ∨ ((15 ≤ w ∧ w ≤ 23) ∧ ¬ w = 17 ∧ he_lv w ≤ 5 ∧ he_rk w = he_r (he_lv w)) := by decide +kernel
theorem he_stp15 : ∀ w, w < 25 → 2 ≤ he_lv w ∨ (w = 6 ∨ w = 17 ∨ w = 10 ∨ w = 11 ∨ w = 12 ∨ w = 13 ∨ w = 14) → sm_stops (nI w) (nI 15) = 0 := by decide +kernel
theorem he_stp16 : ∀ w, w < 25 → 3 ≤ he_lv w ∨ (w = 6 ∨ w = 17 ∨ w = 10 ∨ w = 11 ∨ w = 12 ∨ w = 13 ∨ w = 14) → sm_stops (nI w) (nI 16) = 0 := by decide +kernel
theorem he_stq15 : ∀ w, w < 25 → w = 3 ∨ w = 5 ∨ w = 7 ∨ w = 24 ∨ (¬ he_lv w = 0 ∧ he_lv w < 2) → ¬ sm_stops (nI w) (nI 15) = 0 := by decide +kernel
theorem he_stq16 : ∀ w, w < 25 → w = 3 ∨ w = 5 ∨ w = 7 ∨ w = 24 ∨ (¬ he_lv w = 0 ∧ he_lv w < 3) → ¬ sm_stops (nI w) (nI 16) = 0 := by decide +kernel
theorem he_r_mono {a b : Nat} (h : a ≤ b) : he_r a ≤ he_r b := by
  unfold he_r
  split <;> split <;> omega
theorem he_r_lt {a : Nat} : he_r a < he_r (a + 1) := by
  unfold he_r
  split <;> split <;> omega
theorem he_lo_mono {a b : Nat} (h : a ≤ b) : he_lo a ≤ he_lo b := by
  unfold he_lo
  split <;> split <;> omega
theorem he_lo_r {a : Nat} : he_lo a ≤ he_r a := by
  unfold he_lo he_r
  split <;> split <;> omega
theorem he_stop_mono {a b : Nat} (h : a ≤ b) : ∀ ws : List Nat, he_stop a ws → he_stop b ws
  | [], _ => True.intro
  | w :: s, hs => by
    have hs : w = 6 ∨ ((15 ≤ w ∧ w ≤ 23) ∧ he_rk w < a) := hs
    rcases hs with h6 | ⟨h1, h2⟩
    · exact Or.inl h6
    · exact Or.inr ⟨h1, by omega⟩
section
variable {n k : Nat} {tk : Nat → Nat} {mc mn mk ms sk sl kp xk xs lc rz im C N : Nat → Int32} {xf : Nat → Int64} {self : Int32}
theorem he_sc0 {c p dd : Nat} {r : Int32} (hk : k ≤ 40) (hp : p < k) (ht : tk p < 25) (hm : mc p = nI (tk p)) (hst : 0 < dd ∨ sm_stops (nI (tk p)) (nI c) = 0)
    (h : ∀ fuel, 41 ≤ fuel + (p + 1) → dd ≤ p → sm_branch_J144 (sm_branch_L113 fuel) (nI c) (nI dd) (nI k) mc (nI p) = some r) : he_Sc k mc c p dd r := by
  intro fuel hf hd
  obtain ⟨m, rfl⟩ : ∃ m, fuel = m + 1 := ⟨fuel - 1, by omega⟩
  show sm_branch_L113_B (sm_branch_L113 m) (nI c) (nI dd) (nI k) mc (nI p) = some r
  unfold sm_branch_L113_B
  rw [if_neg (hh_nle hp (by omega))]
  by_cases d0 : 0 < dd
  · rw [if_pos (show 0 < nI dd from (nI_ltI (a := 0) (by omega) (by omega)).mpr d0)]
    exact h m (by omega) hd
  · rw [if_neg (show ¬ 0 < nI dd from fun q => d0 ((nI_ltI (a := 0) (by omega) (by omega)).mp q)), if_pos (hb_I (by omega) (by omega)), nI_clamp (by omega), hm, if_pos (hst.resolve_left d0)]
    exact h m (by omega) hd
theorem he_sc1 {c p dd : Nat} {r : Int32} (hk : k ≤ 40) (hp : p < k) (ht : tk p < 25) (hm : mc p = nI (tk p)) (h6 : ¬ tk p = 6) (h7 : ¬ tk p = 7) (hst : 0 < dd ∨ sm_stops (nI (tk p)) (nI c) = 0) (hS : he_Sc k mc c (p + 1) dd r) : he_Sc k mc c p dd r := by
  refine he_sc0 hk hp ht hm hst (fun fuel hf hd => ?_)
  unfold sm_branch_J144 sm_branch_J185
  rw [if_pos (hb_I (by omega) (by omega)), nI_clamp (by omega), hm, if_neg (show ¬ nI (tk p) = 6 from he_ne (d := 6) ht (by decide) h6), if_pos (hb_I (by omega) (by omega)), if_neg (show ¬ nI (tk p) = 7 from he_ne (d := 7) ht (by decide) h7), nI_1]
  exact hS fuel hf (by omega)
theorem he_sc6 {c p dd : Nat} {r : Int32} (hk : k ≤ 40) (hp : p < k) (hm : mc p = nI (tk p)) (h6 : tk p = 6) (hc : c = 15 ∨ c = 16) (hS : he_Sc k mc c (p + 1) (dd + 1) r) : he_Sc k mc c p dd r := by
  have hst : sm_stops (nI (tk p)) (nI c) = 0 := by
    rw [h6]
    rcases hc with rfl | rfl
    · decide
    · decide
  refine he_sc0 hk hp (by omega) hm (Or.inr hst) (fun fuel hf hd => ?_)
  unfold sm_branch_J144 sm_branch_J185
  rw [if_pos (hb_I (by omega) (by omega)), nI_clamp (by omega), hm, if_pos (show nI (tk p) = 6 by rw [h6]; rfl), nI_1, nI_1]
  exact hS fuel hf (by omega)
theorem he_sc7 {c p dd : Nat} {r : Int32} (hk : k ≤ 40) (hp : p < k) (hm : mc p = nI (tk p)) (h7 : tk p = 7) (hS : he_Sc k mc c (p + 1) dd r) : he_Sc k mc c p (dd + 1) r := by
  refine he_sc0 hk hp (by omega) hm (Or.inl (Nat.succ_pos _)) (fun fuel hf hd => ?_)
  unfold sm_branch_J144 sm_branch_J185
  rw [if_pos (hb_I (by omega) (by omega)), nI_clamp (by omega), hm, if_neg (show ¬ nI (tk p) = 6 by rw [h7]; decide), if_pos (hb_I (by omega) (by omega)), if_pos (show nI (tk p) = 7 by rw [h7]; rfl), nI_1, nI_pred]
  exact hS fuel hf (by omega)
theorem he_scE {c p : Nat} (hk : k ≤ 40) (hp : p < k) (hm : mc p = nI (tk p)) (hst : ¬ sm_stops (nI (tk p)) (nI c) = 0) : he_Sc k mc c p 0 (nI p) := by
  intro fuel hf _
  obtain ⟨m, rfl⟩ : ∃ m, fuel = m + 1 := ⟨fuel - 1, by omega⟩
  show sm_branch_L113_B (sm_branch_L113 m) (nI c) (nI 0) (nI k) mc (nI p) = some (nI p)
  unfold sm_branch_L113_B
  rw [if_neg (hh_nle hp (by omega)), if_neg (by decide : ¬ 0 < nI 0), if_pos (hb_I (by omega) (by omega)), nI_clamp (by omega), hm, if_neg hst]
/-- an operator's level -/
theorem he_lvof {p lv : Nat} (hK : he_K n k tk mc mn C N) (h1 : 1 ≤ lv) (h6 : lv ≤ 6) (h : ¬ sxr_levelOf (C p) < nI lv) : p < k ∧ lv ≤ he_lv (tk p) ∧ sxr_levelOf (C p) = nI (he_lv (tk p)) ∧ C p = nI (tk p) ∧ mc p = nI (tk p) ∧ tk p < 25 := by
  by_cases hp : p < k
  · obtain ⟨t, e, m, _⟩ := hK.2.2.1 p hp
    have hl := he_lvI (tk p) t
    have ho := he_lv_op (tk p) t
    refine ⟨hp, ?_, by rw [e, hl], e, m, t⟩
    rw [e, hl] at h
    apply Classical.byContradiction
    intro q
    exact h ((nI_ltI (by omega) (by omega)).mpr (by omega))
  · rw [hK.2.2.2 p (by omega)] at h
    exact absurd (show sxr_levelOf 24 < nI lv from (nI_ltI (a := 0) (by omega) (by omega)).mpr (by omega)) h
theorem he_lvlt {p lv : Nat} (hK : he_K n k tk mc mn C N) (h6 : lv ≤ 6) (hp : p < k) (h : sxr_levelOf (C p) < nI lv) : he_lv (tk p) < lv := by
  obtain ⟨t, e, m, _⟩ := hK.2.2.1 p hp
  have ho := he_lv_op (tk p) t
  rw [e, he_lvI (tk p) t] at h
  exact (nI_ltI (by omega) (by omega)).mp h
/-- where to pass over stops: what may stand outside brackets -/
def he_cd (c lv dd : Nat) : Prop := 0 < dd ∨ (c = 15 ∧ 2 ≤ lv) ∨ (c = 16 ∧ 3 ≤ lv)
theorem he_cd_st {c lv dd w : Nat} (h : he_cd c lv dd) (hw : w < 25) (hl : lv ≤ he_lv w ∨ (w = 6 ∨ w = 17 ∨ w = 10 ∨ w = 11 ∨ w = 12 ∨ w = 13 ∨ w = 14)) : 0 < dd ∨ sm_stops (nI w) (nI c) = 0 := by
  rcases h with h | ⟨rfl, h⟩ | ⟨rfl, h⟩
  · exact Or.inl h
  · exact Or.inr (he_stp15 w hw (hl.imp (fun q => by omega) id))
  · exact Or.inr (he_stp16 w hw (hl.imp (fun q => by omega) id))
def he_SC (k : Nat) (mc : Nat → Int32) (c : Nat) (rec : Int32 → Nat → Option (hd_X × Nat × Nat)) : Prop := ∀ (lv p : Nat) (res : hd_X × Nat × Nat), 1 ≤ lv → lv ≤ 6 → rec (nI lv) p = some res → ∀ (dd : Nat) (r : Int32), he_cd c lv dd → he_Sc k mc c res.2.2 dd r → he_Sc k mc c p dd r
theorem he_scS {c : Nat} (hK : he_K n k tk mc mn C N) : ∀ (m : Nat) (d : hd_X) (h p : Nat) (res : hd_X × Nat × Nat), rd_steps C N m d h p = some res → ∀ (lv dd : Nat) (r : Int32), he_cd c lv dd → he_Sc k mc c res.2.2 dd r → he_Sc k mc c p dd r := by
  intro m
  induction m with
  | zero => intro d h p res hu; cases hu
  | succ m ih =>
    intro d h p res hu lv dd r hcd hS
    obtain ⟨hp, hu⟩ := hq_ok (show (if p ≤ 40 then (if C p = 13 ∨ C p = 14 then rd_steps C N m (hd_un (C p) (N p) d) (h + 1) (p + 1) else some (d, h, p)) else none) = some res from hu)
    by_cases hc : C p = 13 ∨ C p = 14
    · rw [if_pos hc] at hu
      have ht : p < k ∧ (tk p = 13 ∨ tk p = 14) ∧ mc p = nI (tk p) := by
        rcases hc with hc | hc
        · obtain ⟨a, b, e⟩ := he_is (c := 13) hK hc (by decide)
          exact ⟨a, Or.inl b, by rw [e, b]⟩
        · obtain ⟨a, b, e⟩ := he_is (c := 14) hK hc (by decide)
          exact ⟨a, Or.inr b, by rw [e, b]⟩
      refine he_sc1 hK.2.1 ht.1 (by omega) ht.2.2 (by omega) (by omega) (he_cd_st hcd (by omega) (Or.inr (by omega))) ?_
      exact ih _ _ _ _ hu lv dd r hcd hS
    · rw [if_neg hc] at hu
      cases hu
      exact hS
theorem he_scM {c : Nat} {rec : Int32 → Nat → Option (hd_X × Nat × Nat)} (hc : c = 15 ∨ c = 16) (hK : he_K n k tk mc mn C N) (hrec : he_SC k mc c rec) {p : Nat} {res : hd_X × Nat × Nat} (hu : rd_M C N rec p = some res) {lv dd : Nat} {r : Int32} (hcd : he_cd c lv dd) (hS : he_Sc k mc c res.2.2 dd r) : he_Sc k mc c p dd r := by
  unfold rd_M at hu
  by_cases h6 : C p = 6
  · rw [if_pos h6] at hu
    obtain ⟨u, h1, hu⟩ := hq_bind hu
    obtain ⟨hle, hu⟩ := hq_ok hu
    obtain ⟨h7, hu⟩ := hq_ok hu
    obtain ⟨a, b, e⟩ := he_is (c := 6) hK h6 (by decide)
    obtain ⟨a7, b7, e7⟩ := he_is (c := 7) hK h7 (by decide)
    refine he_sc6 hK.2.1 a (by rw [e, b]) b hc ?_
    refine hrec 1 (p + 1) u (by decide) (by decide) h1 (dd + 1) r (Or.inl (Nat.succ_pos _)) ?_
    refine he_sc7 hK.2.1 a7 (by rw [e7, b7]) b7 ?_
    exact he_scS hK _ _ _ _ _ hu lv dd r hcd hS
  · rw [if_neg h6] at hu
    obtain ⟨hl, hu⟩ := hq_ok hu
    have ht : p < k ∧ (tk p = 10 ∨ tk p = 11 ∨ tk p = 12) ∧ mc p = nI (tk p) := by
      rcases hl with hl | hl | hl
      · obtain ⟨a, b, e⟩ := he_is (c := 10) hK hl (by decide)
        exact ⟨a, Or.inl b, by rw [e, b]⟩
      · obtain ⟨a, b, e⟩ := he_is (c := 11) hK hl (by decide)
        exact ⟨a, Or.inr (Or.inl b), by rw [e, b]⟩
      · obtain ⟨a, b, e⟩ := he_is (c := 12) hK hl (by decide)
        exact ⟨a, Or.inr (Or.inr b), by rw [e, b]⟩
    refine he_sc1 hK.2.1 ht.1 (by omega) ht.2.2 (by omega) (by omega) (he_cd_st hcd (by omega) (Or.inr (by omega))) ?_
    exact he_scS hK _ _ _ _ _ hu lv dd r hcd hS
theorem he_scL {c lv : Nat} {rec : Int32 → Nat → Option (hd_X × Nat × Nat)} (hK : he_K n k tk mc mn C N) (hrec : he_SC k mc c rec) (h1 : 1 ≤ lv) (h6 : lv ≤ 6) : ∀ (m : Nat) (d : hd_X) (h p : Nat) (res : hd_X × Nat × Nat), rd_loop C rec (nI lv) m d h p = some res → ∀ (dd : Nat) (r : Int32), he_cd c lv dd → he_Sc k mc c res.2.2 dd r → he_Sc k mc c p dd r := by
  intro m
  induction m with
  | zero => intro d h p res hu; cases hu
  | succ m ih =>
    intro d h p res hu dd r hcd hS
    obtain ⟨hp, hu⟩ := hq_ok (show (if p ≤ 40 then (if sxr_levelOf (C p) < nI lv then some (d, h, p) else (rec (sxr_levelOf (C p) + 1) (p + 1)).bind fun u => if p + 2 ≤ u.2.2 then rd_loop C rec (nI lv) m (hd_bin (C p) 0 d u.1) (max h u.2.1 + 1) u.2.2 else none) else none) = some res from hu)
    by_cases hl : sxr_levelOf (C p) < nI lv
    · rw [if_pos hl] at hu
      cases hu
      exact hS
    · rw [if_neg hl] at hu
      obtain ⟨a1, a2, a3, a4, a5, a6⟩ := he_lvof hK h1 h6 hl
      obtain ⟨u, hr, hu⟩ := hq_bind hu
      obtain ⟨hle, hu⟩ := hq_ok hu
      rw [a3, nI_1] at hr
      have ho := (he_lv_op (tk p) a6).resolve_left (by omega)
      refine he_sc1 hK.2.1 a1 a6 a5 (by omega) (by omega) (he_cd_st hcd a6 (Or.inl a2)) ?_
      refine hrec (he_lv (tk p) + 1) (p + 1) u (by omega) (by omega) hr dd r ?_ ?_
      · rcases hcd with q | ⟨q1, q2⟩ | ⟨q1, q2⟩
        · exact Or.inl q
        · exact Or.inr (Or.inl ⟨q1, by omega⟩)
        · exact Or.inr (Or.inr ⟨q1, by omega⟩)
      · exact ih _ _ _ _ hu dd r hcd hS
theorem he_scan {c : Nat} (hc : c = 15 ∨ c = 16) (hK : he_K n k tk mc mn C N) : ∀ m, he_SC k mc c (rd_E C N m) := by
  intro m
  induction m with
  | zero => intro lv p res _ _ hu; cases hu
  | succ m ih =>
    intro lv p res h1 h6 hu dd r hcd hS
    obtain ⟨hp, hu⟩ := hq_ok (show (if p ≤ 40 then (if C p = 17 then (if nI lv ≤ 3 then (rd_E C N m 3 (p + 1)).bind fun u => if p + 2 ≤ u.2.2 then rd_loop C (rd_E C N m) (nI lv) 100 (hd_un 17 0 u.1) (u.2.1 + 1) u.2.2 else none else none) else (rd_M C N (rd_E C N m) p).bind fun u => if p + 1 ≤ u.2.2 then rd_loop C (rd_E C N m) (nI lv) 100 u.1 u.2.1 u.2.2 else none) else none) = some res from hu)
    by_cases h17 : C p = 17
    · rw [if_pos h17] at hu
      obtain ⟨h3, hu⟩ := hq_ok hu
      obtain ⟨u, hr, hu⟩ := hq_bind hu
      obtain ⟨hle, hu⟩ := hq_ok hu
      obtain ⟨a, b, e⟩ := he_is (c := 17) hK h17 (by decide)
      have h3 : lv ≤ 3 := (nI_leI (b := 3) (by omega) (by omega)).mp h3
      refine he_sc1 (tk := tk) hK.2.1 a (by omega) (by rw [e, b]) (by omega) (by omega) (he_cd_st hcd (by omega) (Or.inr (by omega))) ?_
      refine ih 3 (p + 1) u (by decide) (by decide) hr dd r ?_ ?_
      · rcases hcd with q | ⟨q1, q2⟩ | ⟨q1, q2⟩
        · exact Or.inl q
        · exact Or.inr (Or.inl ⟨q1, by decide⟩)
        · exact Or.inr (Or.inr ⟨q1, by decide⟩)
      · exact he_scL hK ih h1 h6 _ _ _ _ _ hu dd r hcd hS
    · rw [if_neg h17] at hu
      obtain ⟨u, hr, hu⟩ := hq_bind hu
      obtain ⟨hle, hu⟩ := hq_ok hu
      exact he_scM hc hK ih hr hcd (he_scL hK ih h1 h6 _ _ _ _ _ hu dd r hcd hS)
/-! branch -/
theorem he_br0 {c : Nat} {a vals wa : Int32} {vk va wt : Nat → Int32} (hc : c = 15 ∨ c = 16) : sm_branch (nI c) (nI k) mc 0 a vals vk va wa wt = sm_branch_J12 (nI c) (nI (he_rk c)) (nI k) mc 0 a vals vk va wa wt := by
  unfold sm_branch
  rcases hc with rfl | rfl
  · rw [if_neg (by decide : ¬ nI 15 = 16)]
    rfl
  · rw [if_pos (by decide : nI 16 = 16)]
    rfl
theorem he_brC {c : Nat} {a wa vals0 wa0 : Int32} {vs : List (Nat × Int32)} {v : Nat × Int32} {vk va vk0 va0 wt : Nat → Int32} (hl : vs.length < 41) (hV : he_V n (v :: vs) vk va) (e : sm_apply (nI (he_rk c)) 0 vals0 vk0 va0 wa0 wt = some (0, nI (vs.length + 1), vk, va, wa)) :
    sm_branch_J12 (nI c) (nI (he_rk c)) (nI k) mc 0 a vals0 vk0 va0 wa0 wt = if v.1 = 2 then some (-3, a, nI (vs.length + 1), vk, va, wa, wt) else sm_branch_J64 (nI c) (if v.2 = 0 then 0 else 1) (nI k) mc 0 a (nI (vs.length + 1)) vk va wa wt := by
  obtain ⟨v3, _, hvk, hva, _⟩ : v.1 < 3 ∧ he_v n v ∧ vk vs.length = nI v.1 ∧ va vs.length = v.2 ∧ he_V n vs vk va := hV
  unfold sm_branch_J12
  rw [e, Option.bind_some]
  show (if (0 : Int32) = 0 then (if hq_I (nI (vs.length + 1) - 1) 41 = true then (if vk (nI (vs.length + 1) - 1).toNatClampNeg = 2 then some (-3, a, nI (vs.length + 1), vk, va, wa, wt) else (if hq_I (nI (vs.length + 1) - 1) 41 = true then (if va (nI (vs.length + 1) - 1).toNatClampNeg = 0 then sm_branch_J64 (nI c) 0 (nI k) mc 0 a (nI (vs.length + 1)) vk va wa wt else sm_branch_J64 (nI c) 1 (nI k) mc 0 a (nI (vs.length + 1)) vk va wa wt) else none)) else none) else some (0, a, nI (vs.length + 1), vk, va, wa, wt)) = _
  rw [if_pos (rfl : (0 : Int32) = 0), nI_pred, if_pos (hb_I hl (by omega)), nI_clamp (by omega), hvk, hva, if_pos (hb_I hl (by omega))]
  by_cases e2 : v.1 = 2
  · rw [if_pos e2, if_pos (show nI v.1 = 2 by rw [e2]; rfl)]
  · rw [if_neg e2, if_neg (show ¬ nI v.1 = 2 from he_ne (d := 2) (by omega) (by decide) e2)]
    by_cases x0 : v.2 = 0
    · rw [if_pos x0, if_pos x0]
    · rw [if_neg x0, if_neg x0]
section
variable {i c : Nat} {pend ws : List Nat} {vs2 vs : List (Nat × Int32)} {r v : Nat × Int32}
theorem he_brA (hk : k ≤ 40) (hi : i < k) (hc : c = 15 ∨ c = 16) (hC : he_C pend vs2 v vs) (hp : ∀ w ∈ pend, (15 ≤ w ∧ w ≤ 23) ∧ he_rk c ≤ he_rk w) (hs : he_stop (he_rk c) ws) (hvl : vs2.length ≤ i) (hwl : (pend ++ ws).length ≤ i) {vk va wt : Nat → Int32} (hV : he_V n vs2 vk va) (hM : hg_M (pend ++ ws) wt) :
    ∃ f vals vk' va' wa, sm_apply (nI (he_rk c)) 0 (nI vs2.length) vk va (nI (pend ++ ws).length) wt = some (f, vals, vk', va', wa) ∧ ((v.1 = 3 ∧ f = v.2 ∧ ¬ f = 0 ∧ ∃ j, j < 41 ∧ wa = nI j) ∨ (v.1 < 3 ∧ f = 0 ∧ vals = nI (vs.length + 1) ∧ he_V n (v :: vs) vk' va' ∧ wa = nI ws.length)) := by
  have hrk := he_rk7 (w := c) (by omega)
  exact he_apply (r := he_rk c) (by omega) (by omega) (by omega) hM hV hp hs hC
theorem he_brF (hk : k ≤ 40) (hi : i < k) (hm : mc i = nI c) (hc : c = 15 ∨ c = 16) (hC : he_C pend vs2 v vs) (hp : ∀ w ∈ pend, (15 ≤ w ∧ w ≤ 23) ∧ he_rk c ≤ he_rk w) (hs : he_stop (he_rk c) ws) (h3 : v.1 = 3) (hv3 : ¬ v.2 = 0) : he_Run n k mc mn mk ms sk sl kp self i vs2 (pend ++ ws) v := by
  have e0 : v = (3, v.2) := by rw [← h3]
  rw [e0]
  refine he_S3 hk hi hv3 (fun hvl hwl vk va wt hV hM => ?_)
  obtain ⟨f, vals, vk', va', wa, e, hres⟩ := he_brA hk hi hc hC hp hs hvl hwl hV hM
  rcases hres with ⟨_, fu, f0, _⟩ | ⟨q, _⟩
  · refine ⟨nI (i + 1), nI (he_n6 (pend ++ ws)), vals, vk', va', wa, wt, ?_⟩
    rw [hm, he_t15 hc, he_br0 hc]
    unfold sm_branch_J12
    rw [e, Option.bind_some]
    show (Option.bind (if f = 0 then _ else some (f, nI (i + 1), vals, vk', va', wa, wt)) _) = _
    rw [if_neg f0, Option.bind_some, fu]
  · omega
theorem he_br2 (hk : k ≤ 40) (hi : i < k) (hm : mc i = nI c) (hc : c = 15 ∨ c = 16) (hC : he_C pend vs2 v vs) (hp : ∀ w ∈ pend, (15 ≤ w ∧ w ≤ 23) ∧ he_rk c ≤ he_rk w) (hs : he_stop (he_rk c) ws) (h2 : v.1 = 2) : he_Run n k mc mn mk ms sk sl kp self i vs2 (pend ++ ws) (3, -3) := by
  refine he_S3 hk hi (by decide) (fun hvl hwl vk va wt hV hM => ?_)
  obtain ⟨f, vals, vk', va', wa, e, hres⟩ := he_brA hk hi hc hC hp hs hvl hwl hV hM
  rcases hres with ⟨q, _⟩ | ⟨_, f0, hvals, hV', hwa⟩
  · omega
  · have hlen := he_C_len (by omega) pend vs2 hC
    subst f0 hvals
    rw [hm, he_t15 hc, he_br0 hc, he_brC (by omega) hV' e, if_pos h2, Option.bind_some]
    exact ⟨_, _, _, _, _, _, _, rfl⟩
theorem he_brH (hk : k ≤ 40) (hi : i < k) (hm : mc i = nI c) (hc : c = 15 ∨ c = 16) (hC : he_C pend vs2 v vs) (hp : ∀ w ∈ pend, (15 ≤ w ∧ w ≤ 23) ∧ he_rk c ≤ he_rk w) (hs : he_stop (he_rk c) ws) (h2 : v.1 < 2) (hh : (c = 16 ∧ ¬ v.2 = 0) ∨ (c = 15 ∧ v.2 = 0)) (hR : he_Run n k mc mn mk ms sk sl kp self (i + 1) vs (c :: ws) r) : he_Run n k mc mn mk ms sk sl kp self i vs2 (pend ++ ws) r := by
  have hlen := he_C_len (by omega) pend vs2 hC
  refine he_S1 hk hi (Nat.lt_succ_self i) (fun hvl hwl vk va wt hV hM => ?_) (fun hvl hwl => ?_) hR
  · obtain ⟨f, vals, vk', va', wa, e, hres⟩ := he_brA hk hi hc hC hp hs hvl hwl hV hM
    rcases hres with ⟨q, _⟩ | ⟨_, f0, hvals, hV', hwa⟩
    · omega
    · subst f0 hvals hwa
      have hn6 : he_n6 (pend ++ ws) = he_n6 ws := he_n6_app pend (fun w hw => (hp w hw).1.1)
      have hwl2 : ws.length < 41 := by rw [List.length_append] at hwl; omega
      have hJ : sm_branch_J64 (nI c) (if v.2 = 0 then 0 else 1) (nI k) mc 0 (nI (i + 1)) (nI (vs.length + 1)) vk' va' (nI ws.length) wt = (sm_hold (nI c) (nI ws.length) wt).bind fun v92 => some (0, nI (i + 1), nI (vs.length + 1) - 1, vk', va', v92.1, v92.2) := by
        unfold sm_branch_J64 sm_branch_J77
        rcases hh with ⟨rfl, x0⟩ | ⟨rfl, x0⟩
        · rw [if_neg x0, if_pos (by decide : nI 16 = 16), if_pos (rfl : (1 : Int32) = 1)]
        · rw [if_pos x0, if_neg (by decide : ¬ nI 15 = 16), if_pos (rfl : (0 : Int32) = 0)]
      refine ⟨vk', va', upd wt ws.length (nI c), ?_, hV'.2.2.2.2, pk_us, hg_M_upd ws (Nat.le_refl _) (he_hM hM)⟩
      rw [hm, he_t15 hc, he_br0 hc, he_brC (by omega) hV' e, if_neg (by omega), hJ, he_hold hwl2, Option.bind_some, Option.bind_some, hn6, show he_n6 (c :: ws) = he_n6 ws from if_neg (by omega), nI_pred]
      rfl
  · rw [List.length_append] at hwl
    simp only [List.length_cons]
    exact ⟨by omega, by omega⟩
theorem he_brS {i' : Nat} (hk : k ≤ 40) (hi : i < k) (hm : mc i = nI c) (hc : c = 15 ∨ c = 16) (hC : he_C pend vs2 v vs) (hp : ∀ w ∈ pend, (15 ≤ w ∧ w ≤ 23) ∧ he_rk c ≤ he_rk w) (hs : he_stop (he_rk c) ws) (h2 : v.1 < 2) (hh : (c = 16 ∧ v.2 = 0) ∨ (c = 15 ∧ ¬ v.2 = 0)) (hii : i < i') (hsc : he_Sc k mc c (i + 1) 0 (nI i')) (hR : he_Run n k mc mn mk ms sk sl kp self i' (he_tr v :: vs) ws r) : he_Run n k mc mn mk ms sk sl kp self i vs2 (pend ++ ws) r := by
  have hlen := he_C_len (by omega) pend vs2 hC
  refine he_S1 hk hi hii (fun hvl hwl vk va wt hV hM => ?_) (fun hvl hwl => ?_) hR
  · obtain ⟨f, vals, vk', va', wa, e, hres⟩ := he_brA hk hi hc hC hp hs hvl hwl hV hM
    rcases hres with ⟨q, _⟩ | ⟨_, f0, hvals, hV', hwa⟩
    · omega
    · subst f0 hvals hwa
      have hn6 : he_n6 (pend ++ ws) = he_n6 ws := he_n6_app pend (fun w hw => (hp w hw).1.1)
      have sc : sm_branch_L113 kF (nI c) 0 (nI k) mc (nI (i + 1)) = some (nI i') := hsc kF (by have : 41 < kF := hb_kF (by decide); omega) (Nat.zero_le _)
      have htr : he_tr v = (1, if v.2 = 0 then 0 else 1) := by
        unfold he_tr
        rw [if_neg (by omega)]
        split <;> rfl
      obtain ⟨vk2, va2, eg, hV2⟩ := he_give (n := n) (u := he_tr v) (x := if v.2 = 0 then 0 else 1) (d := 1) (vals := nI (vs.length + 1)) (by omega) (by rw [htr]; exact (by decide : (1 : Nat) < 3)) (he_tr_v v) (Or.inr (by rw [htr])) (nI_pred _) hV'.2.2.2.2
      rw [show nI (he_tr v).1 = 1 by rw [htr]; rfl] at eg
      have hJ : sm_branch_J64 (nI c) (if v.2 = 0 then 0 else 1) (nI k) mc 0 (nI (i + 1)) (nI (vs.length + 1)) vk' va' (nI ws.length) wt = some (0, nI i', nI (vs.length + 1), vk2, va2, nI ws.length, wt) := by
        unfold sm_branch_J64 sm_branch_J77
        rcases hh with ⟨rfl, x0⟩ | ⟨rfl, x0⟩
        · rw [if_pos x0] at eg ⊢
          rw [if_pos (by decide : nI 16 = 16), if_neg (by decide : ¬ (0 : Int32) = 1), if_pos (rfl : (0 : Int32) = 0), eg, Option.bind_some, sc, Option.bind_some]
        · rw [if_neg x0] at eg ⊢
          rw [if_neg (by decide : ¬ nI 15 = 16), if_neg (by decide : ¬ (1 : Int32) = 0), if_neg (by decide : ¬ (1 : Int32) = 0), eg, Option.bind_some, sc, Option.bind_some]
      refine ⟨vk2, va2, wt, ?_, hV2, he_hM hM⟩
      rw [hm, he_t15 hc, he_br0 hc, he_brC (by omega) hV' e, if_neg (by omega), hJ, Option.bind_some, hn6]
      rfl
  · rw [List.length_append] at hwl
    simp only [List.length_cons]
    exact ⟨by omega, by omega⟩
/-- the end of an e -/
theorem he_end (hk : k ≤ 40) (hi : i < k) (hm : mc i = nI c) (hc : c = 3 ∨ c = 5 ∨ c = 24 ∨ c = 7) (hC : he_C pend vs2 v []) (hp : ∀ w ∈ pend, 15 ≤ w ∧ w ≤ 23) : he_Run n k mc mn mk ms sk sl kp self i vs2 (pend ++ []) v := by
  refine he_S0 hk hi (fun hvl hwl vk va wt hV hM => ?_)
  have hn6 : he_n6 (pend ++ []) = 0 := he_n6_app pend (fun w hw => (hp w hw).1)
  obtain ⟨f, vals, vk', va', wa, e, hres⟩ := he_apply (n := n) (r := 0) (pend := pend) (ws := []) (by decide) (by omega) (by omega) hM hV (fun w hw => ⟨hp w hw, Nat.zero_le _⟩) True.intro hC
  have e : sm_apply 0 0 (nI vs2.length) vk va (nI (pend ++ []).length) wt = some (f, vals, vk', va', wa) := e
  refine ⟨f, nI (i + 1), nI (he_n6 (pend ++ [])), vals, vk', va', wa, wt, ?_, ?_⟩
  · rw [hm]
    rcases hc with hc | hc | hc | hc
    · rw [he_tE (Or.inl hc), e, Option.bind_some]
    · rw [he_tE (Or.inr (Or.inl hc)), e, Option.bind_some]
    · rw [he_tE (Or.inr (Or.inr hc)), e, Option.bind_some]
    · rw [hc, he_tE7 (by rw [hn6]; rfl), e, Option.bind_some]
  · rcases hres with ⟨a, b, d, _⟩ | ⟨a, b, _, hV', _⟩
    · exact Or.inl ⟨a, b, d⟩
    · exact Or.inr ⟨a, b, hV'.2.2.1, hV'.2.2.2.1⟩
end
end
