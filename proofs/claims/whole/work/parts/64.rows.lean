/-! depth; rows, kind, value -/
theorem ht_depthL {k : Nat} {tk : Nat → Nat} {mc : Nat → Int32} (hk : k ≤ 40) (ht : ∀ i, i < k → tk i < 25 ∧ mc i = nI (tk i)) {p : Nat} {cm : Bool} {st : List Nat} (hr : hg_run tk k = some (p, cm, st)) :
    ∀ (d j fuel : Nat) (p0 : Nat) (cm0 : Bool) (st0 : List Nat), j + d = k → d < fuel → hg_run tk j = some (p0, cm0, st0) → sm_depth_L4 fuel (nI (hg_pr st0).length) (nI j) (nI k) mc = some (nI (hg_pr st).length) := by
  intro d
  induction d with
  | zero =>
    intro j fuel p0 cm0 st0 hj hfu h
    obtain ⟨m, rfl⟩ : ∃ m, fuel = m + 1 := ⟨fuel - 1, by omega⟩
    have : j = k := by omega
    subst this
    rw [hr] at h
    cases h
    show sm_depth_L4_B _ _ (nI j) (nI j) mc = _
    unfold sm_depth_L4_B
    rw [if_pos ((nI_leI (by omega) (by omega)).mpr (Nat.le_refl _))]
  | succ d ih =>
    intro j fuel p0 cm0 st0 hj hfu h
    obtain ⟨m, rfl⟩ : ∃ m, fuel = m + 1 := ⟨fuel - 1, by omega⟩
    obtain ⟨⟨p1, cm1, st1⟩, h1⟩ := hg_run_some hr (j + 1) (by omega)
    have er : hg_run tk (j + 1) = hg_step (tk j) p0 cm0 st0 := by
      show (hg_run tk j).bind _ = _
      rw [h]; rfl
    have hd := (hg_dep (er.symm.trans h1)).2
    have g := ih (j + 1) m p1 cm1 st1 (by omega) (by omega) h1
    have e0 : sm_depth_L4 (m + 1) (nI (hg_pr st0).length) (nI j) (nI k) mc = sm_depth_L4_B (sm_depth_L4 m) (nI (hg_pr st0).length) (nI j) (nI k) mc := rfl
    have hI : hq_I (nI j) 40 = true := hb_I (by omega) (by omega)
    obtain ⟨t1, t2⟩ := ht j (by omega)
    rw [e0]
    unfold sm_depth_L4_B
    rw [if_neg (hh_nle (by omega) (by omega)), if_pos hI, if_pos hI, nI_clamp (by omega), t2, nI_1, nI_1]
    rcases hd with ⟨a, b⟩ | ⟨a, b⟩ | ⟨a, a2, b⟩
    · rw [a, if_pos (show nI 6 = (6 : Int32) from rfl), ← b]
      exact g
    · rw [a, if_neg (by decide), if_pos (show nI 7 = (7 : Int32) from rfl), b, nI_pred]
      exact g
    · rw [if_neg (show ¬ nI (tk j) = (6 : Int32) from fun q => a ((nI_eq (b := 6) (by omega) (by omega)).mp q)), if_neg (show ¬ nI (tk j) = (7 : Int32) from fun q => a2 ((nI_eq (b := 7) (by omega) (by omega)).mp q)), ← b]
      exact g
theorem ht_depth {cc k : Nat} {tk : Nat → Nat} {p : Nat} {cm : Bool} {st : List Nat} {mc mn xc xn brk : Nat → Int32} {bc pl iw cx : Int32} (h : ht_I cc k tk p cm st mc mn xc xn brk bc pl iw cx) : sm_depth (nI k) mc = some bc := by
  obtain ⟨h1, h2, h3, h4, h5⟩ := h
  have g := ht_depthL h1 (fun i hi => ⟨(h2 i hi).1, (h2 i hi).2.1⟩) h3 k 0 kF 0 false [] (by omega) (hb_kF (by omega)) rfl
  have g : sm_depth_L4 kF 0 0 (nI k) mc = some (nI (hg_pr st).length) := g
  unfold sm_depth
  rw [g, h5.2.1]
  rfl
theorem ht_clear {cc k : Nat} {tk : Nat → Nat} {p : Nat} {cm : Bool} {st : List Nat} {mc mn xc xn brk : Nat → Int32} {bc pl iw cx : Int32} (h : ht_I cc k tk p cm st mc mn xc xn brk bc pl iw cx) : ht_I cc 0 tk 0 false [] mc mn xc xn brk 0 0 iw cx := by
  obtain ⟨h1, h2, h3, h4, h5⟩ := h
  exact ⟨by omega, fun i hi => by omega, rfl, rfl, True.intro, rfl, h5.2.2.1, h5.2.2.2.1, fun q => by omega, fun _ t ht => by cases ht⟩
def hr_I (r : Nat) (rk rv : Nat → Int32) (xr : Nat → Int64) : Prop := r ≤ 192 ∧ ∀ i, i < r → ∃ b, b < 3 ∧ rk i = nI b ∧ xr i = hv b (rv i) ∧ (b = 0 → rv i = 0)
theorem hr_row (x k : Int32) : sm_row x k = sxh_hasObject x k := rfl
theorem hr_hasRow (x k : Int32) : sxw_hasRow x k = sxh_hasObject x k := rfl
theorem hr_kind {r : Nat} {rk rv : Nat → Int32} {xr : Nat → Int64} (h : hr_I r rk rv xr) (x : Int32) : ∃ v, sm_kind x (nI r) rk = some v ∧ sxq_kind x xr (nI r) = some v := by
  unfold sm_kind sxq_kind
  rw [hr_row, hr_hasRow]
  have hr := h.1
  rcases hh_has (x := x) (n := r) (by omega) with ⟨w, _⟩ | ⟨w, i, hi, rfl⟩
  · rw [w, if_pos (rfl : (0 : Int32) = 0), if_pos (rfl : (0 : Int32) = 0)]
    exact ⟨-1, rfl, rfl⟩
  · obtain ⟨b, h1, h2, h3, _⟩ := h.2 i hi
    rw [w, if_neg (by decide : ¬ (1 : Int32) = 0), if_neg (by decide : ¬ (1 : Int32) = 0), if_pos (hb_I (by omega) (by omega)), nI_clamp (by omega)]
    refine ⟨nI b, by rw [h2], ?_⟩
    unfold sxw_row
    rw [if_pos (hb_I (by omega) (by omega)), nI_clamp (by omega), Option.bind_some, h3, hv_kindOf (by omega)]
theorem hr_value {r : Nat} {rk rv : Nat → Int32} {xr : Nat → Int64} (h : hr_I r rk rv xr) (x : Int32) : ∃ v, sm_value x (nI r) rv = some v ∧ sxq_value x xr (nI r) = some v := by
  unfold sm_value sxq_value
  rw [hr_row, hr_hasRow]
  have hr := h.1
  rcases hh_has (x := x) (n := r) (by omega) with ⟨w, _⟩ | ⟨w, i, hi, rfl⟩
  · rw [w, if_pos (rfl : (0 : Int32) = 0), if_pos (rfl : (0 : Int32) = 0)]
    exact ⟨0, rfl, rfl⟩
  · obtain ⟨b, h1, h2, h3, _⟩ := h.2 i hi
    rw [w, if_neg (by decide : ¬ (1 : Int32) = 0), if_neg (by decide : ¬ (1 : Int32) = 0), if_pos (hb_I (by omega) (by omega)), nI_clamp (by omega)]
    refine ⟨rv i, rfl, ?_⟩
    unfold sxw_row
    rw [if_pos (hb_I (by omega) (by omega)), nI_clamp (by omega), Option.bind_some, h3, hv_contentOf]
