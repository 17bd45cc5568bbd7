/-! the class's survey -/
def hs_lc (sk sl : Nat → Int32) (o : Nat) : Nat → Int32
  | 0 => 0
  | j + 1 => if sk j = 2 ∧ sl j = nI o then hs_lc sk sl o j + 1 else hs_lc sk sl o j
def hs_L (n : Nat) (sk sl lf lc : Nat → Int32) (j : Nat) : Prop :=
  (∀ i, i < n → ∀ t, t < 32 → (bt (lf i) t = true ↔ ∃ f, f < 4 ∧ 4 * i + f < j ∧ sk (4 * i + f) = 2 ∧ sl (4 * i + f) = nI t)) ∧ ∀ i, i < n → lc i = hs_lc sk sl i j
def hs_F (n : Nat) (sk sl : Nat → Int32) (xf : Nat → Int64) : Prop := ∀ i, i < 96 → ∃ b, b < 3 ∧ sk i = nI b ∧ xf i = hv b (sl i) ∧ (b = 0 → sl i = 0) ∧ (b = 2 → ∃ t, t < n ∧ sl i = nI t) ∧ (4 * n ≤ i → b = 0)
theorem hs_F_V {n : Nat} {sk sl : Nat → Int32} {xf : Nat → Int64} (hn : n ≤ 24) (h : hs_F n sk sl xf) : hb_V n sk sl := fun j hj hk => by
  obtain ⟨b, h1, h2, _, _, h5, _⟩ := h j (by omega)
  rw [h2] at hk
  exact h5 ((nI_eq (b := 2) (by omega) (by omega)).mp hk)
theorem qx_L42 {n o : Nat} {sk sl : Nat → Int32} {xf : Nat → Int64} (hn : n ≤ 24) (ho : o < n) (hF : hs_F n sk sl xf) :
    ∀ (k f fuel : Nat) (lf lc : Nat → Int32), f + k = 4 → k < fuel → hs_L n sk sl lf lc (4 * o + f) → ∃ lf' lc', sxs_findLinks_L42 fuel (nI o) (nI f) xf lf lc = some (lf', lc') ∧ hs_L n sk sl lf' lc' (4 * o + 4) := by
  intro k
  induction k with
  | zero =>
    intro f fuel lf lc he hfu h
    obtain ⟨m, rfl⟩ : ∃ m, fuel = m + 1 := ⟨fuel - 1, by omega⟩
    refine ⟨lf, lc, ?_, ?_⟩
    · show sxs_findLinks_L42_B _ (nI o) (nI f) xf lf lc = _
      unfold sxs_findLinks_L42_B
      rw [if_pos (show (4 : Int32) ≤ nI f from (nI_leI (a := 4) (by omega) (by omega)).mpr (by omega))]
    · have : f = 4 := by omega
      subst this
      exact h
  | succ k ih =>
    intro f fuel lf lc he hfu h
    obtain ⟨m, rfl⟩ : ∃ m, fuel = m + 1 := ⟨fuel - 1, by omega⟩
    have e0 : sxs_findLinks_L42 (m + 1) (nI o) (nI f) xf lf lc = sxs_findLinks_L42_B (sxs_findLinks_L42 m) (nI o) (nI f) xf lf lc := rfl
    obtain ⟨b, hb, hk, hx, h0, h2, _⟩ := hF (4 * o + f) (by omega)
    have ix2 : (nI o * 4) + nI f = nI (4 * o + f) := by rw [show (4 : Int32) = nI 4 from rfl, pk_mul, nI_add, Nat.mul_comm]
    have hf : sxh_fieldOf (nI o) (nI f) xf = some (hv b (sl (4 * o + f))) := by
      unfold sxh_fieldOf
      rw [ix2, if_pos (hb_I (by omega) (by omega)), nI_clamp (by omega), hx]
    rw [e0]
    unfold sxs_findLinks_L42_B
    rw [if_neg (fun q => by have := (nI_leI (a := 4) (by omega) (by omega)).mp q; omega), hf, nI_1]
    rw [Option.bind_some]
    rw [hv_isLink (by omega), hv_contentOf]
    by_cases hb2 : b = 2
    · obtain ⟨t0, ht0, es⟩ := h2 hb2
      rw [if_pos hb2, if_neg (by decide), if_pos (hb_I (by omega) (by omega)), if_pos (hb_I (by omega) (by omega)), es, if_pos (hb_I (by omega) (by omega)), if_pos (hb_I (by omega) (by omega)), nI_clamp (by omega), nI_clamp (by omega)]
      have hk2 : sk (4 * o + f) = 2 := by rw [hk, hb2]; rfl
      refine ih (f + 1) m _ _ (by omega) (by omega) ⟨fun i hi t ht => ?_, fun i hi => ?_⟩
      · by_cases e : i = o
        · subst e
          rw [pk_us, b_or, hb_one (by omega) ht, Bool.or_eq_true, h.1 i hi t ht, decide_eq_true_eq]
          constructor
          · rintro (⟨f', q1, q2, q3⟩ | q)
            · exact ⟨f', q1, by omega, q3⟩
            · subst q; exact ⟨f, by omega, by omega, hk2, es⟩
          · rintro ⟨f', q1, q2, q3, q4⟩
            by_cases w : f' = f
            · subst w
              rw [es] at q4
              exact Or.inr ((nI_eq (by omega) (by omega)).mp q4).symm
            · exact Or.inl ⟨f', q1, by omega, q3, q4⟩
        · rw [pk_un e, h.1 i hi t ht]
          constructor
          · rintro ⟨f', q1, q2, q3⟩
            exact ⟨f', q1, by omega, q3⟩
          · rintro ⟨f', q1, q2, q3⟩
            exact ⟨f', q1, by omega, q3⟩
      · show _ = if sk (4 * o + f) = 2 ∧ sl (4 * o + f) = nI i then hs_lc sk sl i (4 * o + f) + 1 else hs_lc sk sl i (4 * o + f)
        by_cases e : i = t0
        · subst e
          rw [pk_us, if_pos ⟨hk2, es⟩, h.2 i hi]
        · rw [pk_un e, if_neg (fun q => e ((nI_eq (by omega) (by omega)).mp (es.symm.trans q.2)).symm), h.2 i hi]
    · rw [if_neg hb2, if_pos rfl]
      have hk2 : ¬ sk (4 * o + f) = 2 := fun q => hb2 ((nI_eq (b := 2) (by omega) (by omega)).mp (hk.symm.trans q))
      refine ih (f + 1) m _ _ (by omega) (by omega) ⟨fun i hi t ht => ?_, fun i hi => ?_⟩
      · rw [h.1 i hi t ht]
        constructor
        · rintro ⟨f', q1, q2, q3⟩
          exact ⟨f', q1, by omega, q3⟩
        · rintro ⟨f', q1, q2, q3, q4⟩
          refine ⟨f', q1, ?_, q3, q4⟩
          apply Classical.byContradiction
          intro w
          have : 4 * i + f' = 4 * o + f := by omega
          rw [this] at q3
          exact hk2 q3
      · show _ = if sk (4 * o + f) = 2 ∧ sl (4 * o + f) = nI i then hs_lc sk sl i (4 * o + f) + 1 else hs_lc sk sl i (4 * o + f)
        rw [if_neg (fun q => hk2 q.1), h.2 i hi]
theorem qx_L32 {n : Nat} {sk sl : Nat → Int32} {xf : Nat → Int64} (hn : n ≤ 24) (hF : hs_F n sk sl xf) :
    ∀ (k o fuel : Nat) (lf lc : Nat → Int32), o + k = n → k < fuel → hs_L n sk sl lf lc (4 * o) → ∃ lf' lc', sxs_findLinks_L32 fuel (nI o) xf lf lc (nI n) = some (lf', lc') ∧ hs_L n sk sl lf' lc' (4 * n) := by
  intro k
  induction k with
  | zero =>
    intro o fuel lf lc he hfu h
    obtain ⟨m, rfl⟩ : ∃ m, fuel = m + 1 := ⟨fuel - 1, by omega⟩
    have : o = n := by omega
    subst this
    refine ⟨lf, lc, ?_, h⟩
    show sxs_findLinks_L32_B _ (nI o) xf lf lc (nI o) = _
    unfold sxs_findLinks_L32_B
    rw [if_pos ((nI_leI (by omega) (by omega)).mpr (Nat.le_refl _))]
  | succ k ih =>
    intro o fuel lf lc he hfu h
    obtain ⟨m, rfl⟩ : ∃ m, fuel = m + 1 := ⟨fuel - 1, by omega⟩
    have e0 : sxs_findLinks_L32 (m + 1) (nI o) xf lf lc (nI n) = sxs_findLinks_L32_B (sxs_findLinks_L32 m) (nI o) xf lf lc (nI n) := rfl
    obtain ⟨lf1, lc1, g1, g2⟩ := qx_L42 (o := o) hn (by omega) hF 4 0 kF lf lc rfl (hb_kF (by decide)) h
    have g1 : sxs_findLinks_L42 kF (nI o) 0 xf lf lc = some (lf1, lc1) := g1
    rw [e0]
    unfold sxs_findLinks_L32_B
    rw [if_neg (hh_nle (by omega) (by omega)), g1, nI_1]
    exact ih (o + 1) m lf1 lc1 (by omega) (by omega) g2
theorem qx_L2 {n : Nat} (hn : n ≤ 24) : ∀ (k o fuel : Nat) (lf lc : Nat → Int32), o + k = n → k < fuel → (∀ i, i < o → lf i = 0 ∧ lc i = 0) → ∃ lf' lc', sxs_findLinks_L2 fuel (nI o) lf lc (nI n) = some (lf', lc') ∧ ∀ i, i < n → lf' i = 0 ∧ lc' i = 0 := by
  intro k
  induction k with
  | zero =>
    intro o fuel lf lc he hfu h
    obtain ⟨m, rfl⟩ : ∃ m, fuel = m + 1 := ⟨fuel - 1, by omega⟩
    have : o = n := by omega
    subst this
    refine ⟨lf, lc, ?_, h⟩
    show sxs_findLinks_L2_B _ (nI o) lf lc (nI o) = _
    unfold sxs_findLinks_L2_B
    rw [if_pos ((nI_leI (by omega) (by omega)).mpr (Nat.le_refl _))]
  | succ k ih =>
    intro o fuel lf lc he hfu h
    obtain ⟨m, rfl⟩ : ∃ m, fuel = m + 1 := ⟨fuel - 1, by omega⟩
    have e0 : sxs_findLinks_L2 (m + 1) (nI o) lf lc (nI n) = sxs_findLinks_L2_B (sxs_findLinks_L2 m) (nI o) lf lc (nI n) := rfl
    rw [e0]
    unfold sxs_findLinks_L2_B
    rw [if_neg (hh_nle (by omega) (by omega)), if_pos (hb_I (by omega) (by omega)), if_pos (hb_I (by omega) (by omega)), nI_clamp (by omega), nI_1]
    refine ih (o + 1) m _ _ (by omega) (by omega) (fun i hi => ?_)
    by_cases e : i = o
    · subst e; exact ⟨pk_us, pk_us⟩
    · rw [pk_un e, pk_un e]; exact h i (by omega)
theorem qx_findLinks {n : Nat} {sk sl : Nat → Int32} {xf : Nat → Int64} (lf lc : Nat → Int32) (hn : n ≤ 24) (hF : hs_F n sk sl xf) :
    ∃ lf' lc', sxs_findLinks xf lf lc (nI n) = some (lf', lc') ∧ (∀ o, o < n → ∀ t, t < 32 → (bt (lf' o) t = true ↔ hb_E sk sl o t)) ∧ ∀ o, o < n → lc' o = hs_lc sk sl o (4 * n) := by
  obtain ⟨lf1, lc1, h1, h2⟩ := qx_L2 hn n 0 kF lf lc (by omega) (hb_kF (by omega)) (fun i h => by omega)
  have h1 : sxs_findLinks_L2 kF 0 lf lc (nI n) = some (lf1, lc1) := h1
  obtain ⟨lf2, lc2, g1, g2⟩ := qx_L32 hn hF n 0 kF lf1 lc1 (by omega) (hb_kF (by omega)) ⟨fun i hi t ht => by
    rw [(h2 i hi).1, b_0]
    exact ⟨fun q => (by cases q), fun ⟨f, q1, q2, _⟩ => by omega⟩, fun i hi => (h2 i hi).2⟩
  have g1 : sxs_findLinks_L32 kF 0 xf lf1 lc1 (nI n) = some (lf2, lc2) := g1
  refine ⟨lf2, lc2, ?_, fun o ho t ht => (g2.1 o ho t ht).trans ⟨?_, ?_⟩, g2.2⟩
  · unfold sxs_findLinks
    rw [h1]
    rw [Option.bind_some]
    rw [g1]
    rfl
  · rintro ⟨f, q1, q2, q3⟩; exact ⟨f, q1, q3⟩
  · rintro ⟨f, q1, q3⟩; exact ⟨f, q1, by omega, q3⟩
theorem qx_retainedBy {n : Nat} {rt sk sl lf : Nat → Int32} (wo ro re : Int32) (hn : n ≤ 24) (hv : hb_V n sk sl) (hlf : ∀ o, o < n → ∀ t, t < 32 → (bt (lf o) t = true ↔ hb_E sk sl o t)) (hro : ∀ o, o < 32 → (bt ro o = true ↔ o < n ∧ ¬ rt o = 0)) :
    ∃ S, sxs_retainedBy wo lf ro re = some (re &&& (S ^^^ (-1))) ∧ hb_R n rt sk sl wo S := by
  obtain ⟨S, h1, h2⟩ := qx_reach (rt := rt) wo ro hn hv hlf hro
  refine ⟨S, ?_, h2⟩
  unfold sxs_retainedBy
  rw [h1]
  rfl
theorem qx_T32 {n : Nat} {rt sk sl lf ms : Nat → Int32} {ro re : Int32} (hn : n ≤ 24) (hv : hb_V n sk sl) (hlf : ∀ o, o < n → ∀ t, t < 32 → (bt (lf o) t = true ↔ hb_E sk sl o t)) (hro : ∀ o, o < 32 → (bt ro o = true ↔ o < n ∧ ¬ rt o = 0)) (hre : hb_R n rt sk sl 0 re) :
    ∀ (k o fuel : Nat) (rs rz : Nat → Int32), o + k = n → k < fuel → (∀ i, i < o → hs_K n rt sk sl rs i ∧ rz i = hs_sum ms (rs i) n) → ∃ rs' rz', sxs_takeOf_L32 fuel (nI o) ms lf rs rz (nI n) ro re = some (rs', rz') ∧ ∀ i, i < n → hs_K n rt sk sl rs' i ∧ rz' i = hs_sum ms (rs' i) n := by
  intro k
  induction k with
  | zero =>
    intro o fuel rs rz he hfu h
    obtain ⟨m, rfl⟩ : ∃ m, fuel = m + 1 := ⟨fuel - 1, by omega⟩
    have : o = n := by omega
    subst this
    refine ⟨rs, rz, ?_, h⟩
    show sxs_takeOf_L32_B _ (nI o) ms lf rs rz (nI o) ro re = _
    unfold sxs_takeOf_L32_B
    rw [if_pos ((nI_leI (by omega) (by omega)).mpr (Nat.le_refl _))]
  | succ k ih =>
    intro o fuel rs rz he hfu h
    obtain ⟨m, rfl⟩ : ∃ m, fuel = m + 1 := ⟨fuel - 1, by omega⟩
    have e0 : sxs_takeOf_L32 (m + 1) (nI o) ms lf rs rz (nI n) ro re = sxs_takeOf_L32_B (sxs_takeOf_L32 m) (nI o) ms lf rs rz (nI n) ro re := rfl
    obtain ⟨S, g1, g2⟩ := qx_retainedBy (rt := rt) ((1 : Int32) <<< (nI o &&& 31)) ro re hn hv hlf hro
    have hI : hq_I (nI o) 24 = true := hb_I (by omega) (by omega)
    rw [e0]
    unfold sxs_takeOf_L32_B
    rw [if_neg (hh_nle (by omega) (by omega)), g1, nI_clamp (by omega), nI_1]
    rw [Option.bind_some]
    rw [if_pos hI, if_pos hI, qx_sum _ hn]
    rw [Option.bind_some]
    rw [if_pos hI]
    refine ih (o + 1) m _ _ (by omega) (by omega) (fun i hi => ?_)
    by_cases e : i = o
    · subst e
      exact ⟨⟨re, S, hre, g2, pk_us⟩, pk_us⟩
    · obtain ⟨⟨A, S', q1, q2, q3⟩, q4⟩ := h i (by omega)
      refine ⟨⟨A, S', q1, q2, (pk_un e).trans q3⟩, ?_⟩
      rw [pk_un e, pk_un e]
      exact q4
/-! dominators as masks -/
theorem qx_domL {n o : Nat} {rs : Nat → Int32} (hn : n ≤ 24) (ho : o < n) : ∀ (k i fuel : Nat) (acc : Int32), i + k = n → k < fuel → (∀ t, t < 32 → (bt acc t = true ↔ t < i ∧ hs_D rs t o)) → ∃ r, sxs_findDominators_L4 fuel (nI o) acc (nI i) rs (nI n) = some r ∧ ∀ t, t < 32 → (bt r t = true ↔ t < n ∧ hs_D rs t o) := by
  intro k
  induction k with
  | zero =>
    intro i fuel acc he hfu h
    obtain ⟨m, rfl⟩ : ∃ m, fuel = m + 1 := ⟨fuel - 1, by omega⟩
    have : i = n := by omega
    subst this
    refine ⟨acc, ?_, h⟩
    show sxs_findDominators_L4_B _ (nI o) acc (nI i) rs (nI i) = _
    unfold sxs_findDominators_L4_B
    rw [if_pos ((nI_leI (by omega) (by omega)).mpr (Nat.le_refl _))]
  | succ k ih =>
    intro i fuel acc he hfu h
    obtain ⟨m, rfl⟩ : ∃ m, fuel = m + 1 := ⟨fuel - 1, by omega⟩
    have e0 : sxs_findDominators_L4 (m + 1) (nI o) acc (nI i) rs (nI n) = sxs_findDominators_L4_B (sxs_findDominators_L4 m) (nI o) acc (nI i) rs (nI n) := rfl
    have skip : ¬ hs_D rs i o → ∃ r, sxs_findDominators_L4 m (nI o) acc (nI (i + 1)) rs (nI n) = some r ∧ ∀ t, t < 32 → (bt r t = true ↔ t < n ∧ hs_D rs t o) := fun hd => by
      refine ih (i + 1) m acc (by omega) (by omega) (fun t ht => (h t ht).trans ⟨fun q => ⟨by omega, q.2⟩, fun q => ⟨?_, q.2⟩⟩)
      apply Classical.byContradiction
      intro w
      have : t = i := by omega
      subst this
      exact hd q.2
    rw [e0]
    unfold sxs_findDominators_L4_B
    rw [if_neg (hh_nle (by omega) (by omega)), nI_1]
    by_cases e : i = o
    · rw [if_pos (by rw [e])]
      exact skip (fun q => q.1 e)
    · rw [if_neg (fun q => e ((nI_eq (by omega) (by omega)).mp q)), if_pos (hb_I (by omega) (by omega)), nI_clamp (by omega)]
      cases b : bt (rs i) o with
      | false =>
        rw [if_pos ((hb_a0 _ (by omega)).mpr b)]
        exact skip (fun q => by rw [q.2] at b; cases b)
      | true =>
        rw [if_neg (fun q => by rw [(hb_a0 _ (by omega)).mp q] at b; cases b)]
        refine ih (i + 1) m _ (by omega) (by omega) (fun t ht => ?_)
        rw [b_or, hb_one (by omega) ht, Bool.or_eq_true, h t ht, decide_eq_true_eq]
        constructor
        · rintro (q | q)
          · exact ⟨by omega, q.2⟩
          · subst q; exact ⟨by omega, e, b⟩
        · rintro ⟨q1, q2⟩
          by_cases w : t = i
          · exact Or.inr w
          · exact Or.inl ⟨by omega, q2⟩
theorem qx_T78 {n : Nat} {rs : Nat → Int32} (hn : n ≤ 24) : ∀ (k o fuel : Nat) (dm : Nat → Int32), o + k = n → k < fuel → (∀ i, i < o → ∀ t, t < 32 → (bt (dm i) t = true ↔ t < n ∧ hs_D rs t i)) → ∃ dm', sxs_takeOf_L78 fuel (nI o) rs dm (nI n) = some dm' ∧ ∀ i, i < n → ∀ t, t < 32 → (bt (dm' i) t = true ↔ t < n ∧ hs_D rs t i) := by
  intro k
  induction k with
  | zero =>
    intro o fuel dm he hfu h
    obtain ⟨m, rfl⟩ : ∃ m, fuel = m + 1 := ⟨fuel - 1, by omega⟩
    have : o = n := by omega
    subst this
    refine ⟨dm, ?_, h⟩
    show sxs_takeOf_L78_B _ (nI o) rs dm (nI o) = _
    unfold sxs_takeOf_L78_B
    rw [if_pos ((nI_leI (by omega) (by omega)).mpr (Nat.le_refl _))]
  | succ k ih =>
    intro o fuel dm he hfu h
    obtain ⟨m, rfl⟩ : ∃ m, fuel = m + 1 := ⟨fuel - 1, by omega⟩
    have e0 : sxs_takeOf_L78 (m + 1) (nI o) rs dm (nI n) = sxs_takeOf_L78_B (sxs_takeOf_L78 m) (nI o) rs dm (nI n) := rfl
    obtain ⟨r, g1, g2⟩ := qx_domL (o := o) (rs := rs) hn (by omega) n 0 kF 0 (by omega) (hb_kF (by omega)) (fun t ht => by rw [b_0]; exact ⟨fun q => (by cases q), fun q => by omega⟩)
    have g1 : sxs_findDominators_L4 kF (nI o) 0 0 rs (nI n) = some r := g1
    have g3 : sxs_findDominators (nI o) rs (nI n) = some r := by
      unfold sxs_findDominators
      rw [g1]; rfl
    rw [e0]
    unfold sxs_takeOf_L78_B
    rw [if_neg (hh_nle (by omega) (by omega)), g3, nI_1]
    rw [Option.bind_some]
    rw [if_pos (hb_I (by omega) (by omega)), nI_clamp (by omega)]
    refine ih (o + 1) m _ (by omega) (by omega) (fun i hi t ht => ?_)
    by_cases e : i = o
    · subst e
      rw [pk_us]
      exact g2 t ht
    · rw [pk_un e]
      exact h i (by omega) t ht
theorem qx_immL {n o : Nat} {rs dm : Nat → Int32} (hn : n ≤ 24) (ho : o < n) (hdm : ∀ i, i < n → ∀ t, t < 32 → (bt (dm i) t = true ↔ t < n ∧ hs_D rs t i)) :
    ∀ (k d fuel : Nat), d + k = n → k < fuel → (∀ d', d' < d → ¬ hs_ok n rs o d') → ∃ r, sxs_findImmediateDominator_L9 fuel (dm o) (nI d) dm (nI n) = some r ∧ hs_imm n rs o r := by
  intro k
  induction k with
  | zero =>
    intro d fuel he hfu hp
    obtain ⟨m, rfl⟩ : ∃ m, fuel = m + 1 := ⟨fuel - 1, by omega⟩
    refine ⟨-1, ?_, Or.inr ⟨rfl, fun d' hd' => hp d' (by omega)⟩⟩
    show sxs_findImmediateDominator_L9_B _ (dm o) (nI d) dm (nI n) = some (-1)
    unfold sxs_findImmediateDominator_L9_B
    rw [if_pos ((nI_leI (by omega) (by omega)).mpr (by omega))]
  | succ k ih =>
    intro d fuel he hfu hp
    obtain ⟨m, rfl⟩ : ∃ m, fuel = m + 1 := ⟨fuel - 1, by omega⟩
    have e0 : sxs_findImmediateDominator_L9 (m + 1) (dm o) (nI d) dm (nI n) = sxs_findImmediateDominator_L9_B (sxs_findImmediateDominator_L9 m) (dm o) (nI d) dm (nI n) := rfl
    have skip : ¬ hs_ok n rs o d → ∃ r, sxs_findImmediateDominator_L9 m (dm o) (nI (d + 1)) dm (nI n) = some r ∧ hs_imm n rs o r := fun hd => by
      refine ih (d + 1) m (by omega) (by omega) (fun d' hd' => ?_)
      by_cases w : d' = d
      · subst w; exact hd
      · exact hp d' (by omega)
    have bo : ∀ i, i < 32 → bt (dm o &&& (((1 : Int32) <<< (nI d &&& 31)) ^^^ (-1))) i = (bt (dm o) i && !decide (i = d)) := fun i hi => by rw [b_and, hb_not _ hi, hb_one (by omega) hi]
    rw [e0]
    unfold sxs_findImmediateDominator_L9_B
    rw [if_neg (hh_nle (by omega) (by omega)), nI_1]
    by_cases c1 : dm o &&& (((1 : Int32) <<< (nI d &&& 31)) ^^^ (-1)) = dm o
    · rw [if_pos c1]
      refine skip (fun q => ?_)
      have h1 := (hdm o ho d (by omega)).mpr ⟨by omega, q.1⟩
      have h2 := bo d (by omega)
      rw [c1, h1] at h2
      simp at h2
    · have hd : hs_D rs d o := by
        apply Classical.byContradiction
        intro q
        apply c1
        apply b_ext
        intro i hi
        rw [bo i hi]
        by_cases w : i = d
        · subst w
          cases b : bt (dm o) i with
          | false => rfl
          | true => exact absurd ((hdm o ho i hi).mp b).2 q
        · simp [w]
      rw [if_neg c1, if_pos (hb_I (by omega) (by omega)), nI_clamp (by omega)]
      have b2 : ∀ i, i < 32 → bt (dm o &&& (((1 : Int32) <<< (nI d &&& 31)) ^^^ (-1)) &&& (dm d ^^^ (-1))) i = ((bt (dm o) i && !decide (i = d)) && !bt (dm d) i) := fun i hi => by rw [b_and, bo i hi, hb_not _ hi]
      by_cases c2 : dm o &&& (((1 : Int32) <<< (nI d &&& 31)) ^^^ (-1)) &&& (dm d ^^^ (-1)) = 0
      · rw [if_pos c2]
        refine ⟨nI d, rfl, Or.inl ⟨d, by omega, rfl, ⟨hd, fun e he => ?_⟩, hp⟩⟩
        by_cases w : e = d
        · exact Or.inl w
        · by_cases q : hs_D rs e o
          · have h1 := b2 e (by omega)
            rw [c2, b_0, (hdm o ho e (by omega)).mpr ⟨he, q⟩] at h1
            have h2 : bt (dm d) e = true := by
              cases b : bt (dm d) e with
              | true => rfl
              | false => rw [b] at h1; simp [w] at h1
            exact Or.inr (Or.inr ((hdm d (by omega) e (by omega)).mp h2).2)
          · exact Or.inr (Or.inl q)
      · rw [if_neg c2]
        refine skip (fun q => c2 (b_ext fun i hi => ?_))
        rw [b2 i hi, b_0]
        cases b : bt (dm o) i with
        | false => rfl
        | true =>
          obtain ⟨hi2, h3⟩ := (hdm o ho i hi).mp b
          rcases q.2 i hi2 with w | w | w
          · simp [w]
          · exact absurd h3 w
          · rw [(hdm d (by omega) i hi).mpr ⟨hi2, w⟩]; simp
theorem qx_T105 {n : Nat} {rs dm : Nat → Int32} (hn : n ≤ 24) (hdm : ∀ i, i < n → ∀ t, t < 32 → (bt (dm i) t = true ↔ t < n ∧ hs_D rs t i)) : ∀ (k o fuel : Nat) (im : Nat → Int32), o + k = n → k < fuel → (∀ i, i < o → hs_imm n rs i (im i)) → ∃ im', sxs_takeOf_L105 fuel (nI o) dm im (nI n) = some im' ∧ ∀ i, i < n → hs_imm n rs i (im' i) := by
  intro k
  induction k with
  | zero =>
    intro o fuel im he hfu h
    obtain ⟨m, rfl⟩ : ∃ m, fuel = m + 1 := ⟨fuel - 1, by omega⟩
    have : o = n := by omega
    subst this
    refine ⟨im, ?_, h⟩
    show sxs_takeOf_L105_B _ (nI o) dm im (nI o) = _
    unfold sxs_takeOf_L105_B
    rw [if_pos ((nI_leI (by omega) (by omega)).mpr (Nat.le_refl _))]
  | succ k ih =>
    intro o fuel im he hfu h
    obtain ⟨m, rfl⟩ : ∃ m, fuel = m + 1 := ⟨fuel - 1, by omega⟩
    have e0 : sxs_takeOf_L105 (m + 1) (nI o) dm im (nI n) = sxs_takeOf_L105_B (sxs_takeOf_L105 m) (nI o) dm im (nI n) := rfl
    obtain ⟨r, g1, g2⟩ := qx_immL (o := o) hn (by omega) hdm n 0 kF (by omega) (hb_kF (by omega)) (fun _ h => by omega)
    have g1 : sxs_findImmediateDominator_L9 kF (dm o) 0 dm (nI n) = some r := g1
    have g3 : sxs_findImmediateDominator (nI o) dm (nI n) = some r := by
      unfold sxs_findImmediateDominator
      rw [if_pos (hb_I (by omega) (by omega)), nI_clamp (by omega), g1]
    rw [e0]
    unfold sxs_takeOf_L105_B
    rw [if_neg (hh_nle (by omega) (by omega)), g3, nI_1]
    rw [Option.bind_some]
    rw [if_pos (hb_I (by omega) (by omega)), nI_clamp (by omega)]
    refine ih (o + 1) m _ (by omega) (by omega) (fun i hi => ?_)
    by_cases e : i = o
    · subst e
      rw [pk_us]
      exact g2
    · rw [pk_un e]
      exact h i (by omega)
/-- the survey is that of the snapshot -/
def hs_V (n : Nat) (rt sk sl ms : Nat → Int32) (xr : Int32) (lf lc rs rz im : Nat → Int32) (so sr re : Int32) : Prop :=
  so = nI n ∧ sr = xr ∧ (∀ o, o < n → ∀ t, t < 32 → (bt (lf o) t = true ↔ hb_E sk sl o t)) ∧ (∀ o, o < n → lc o = hs_lc sk sl o (4 * n)) ∧ hb_R n rt sk sl 0 re ∧ (∀ o, o < n → hs_K n rt sk sl rs o ∧ rz o = hs_sum ms (rs o) n) ∧ ∀ o, o < n → hs_imm n rs o (im o)
theorem qx_takeOf {n : Nat} {rt sk sl ms : Nat → Int32} {xf : Nat → Int64} {xr : Int32} (hn : n ≤ 24) (hF : hs_F n sk sl xf) (hro : ∀ o, o < 32 → (bt xr o = true ↔ o < n ∧ ¬ rt o = 0)) (lf lc rs rz dm im : Nat → Int32) (so sr re : Int32) :
    ∃ lf' lc' rs' rz' dm' im' re', sxs_takeOf ms xf (nI n) xr lf lc rs rz dm im so sr re = some (lf', lc', rs', rz', dm', im', nI n, xr, re') ∧ hs_V n rt sk sl ms xr lf' lc' rs' rz' im' (nI n) xr re' := by
  have hv := hs_F_V hn hF
  obtain ⟨lf', lc', a1, a2, a3⟩ := qx_findLinks lf lc hn hF
  obtain ⟨re', b1, b2⟩ := qx_reach (rt := rt) 0 xr hn hv a2 hro
  obtain ⟨rs', rz', c1, c2⟩ := qx_T32 (ms := ms) hn hv a2 hro b2 n 0 kF rs rz (by omega) (hb_kF (by omega)) (fun _ h => by omega)
  obtain ⟨dm', d1, d2⟩ := qx_T78 (rs := rs') hn n 0 kF dm (by omega) (hb_kF (by omega)) (fun _ h => by omega)
  obtain ⟨im', e1, e2⟩ := qx_T105 hn d2 n 0 kF im (by omega) (hb_kF (by omega)) (fun _ h => by omega)
  have c1 : sxs_takeOf_L32 kF 0 ms lf' rs rz (nI n) xr re' = some (rs', rz') := c1
  have d1 : sxs_takeOf_L78 kF 0 rs' dm (nI n) = some dm' := d1
  have e1 : sxs_takeOf_L105 kF 0 dm' im (nI n) = some im' := e1
  refine ⟨lf', lc', rs', rz', dm', im', re', ?_, rfl, rfl, a2, a3, b2, c2, e2⟩
  unfold sxs_takeOf sxh_size sxh_roots
  rw [a1]
  rw [Option.bind_some]
  rw [b1]
  rw [Option.bind_some]
  rw [c1]
  rw [Option.bind_some]
  rw [d1]
  rw [Option.bind_some]
  rw [e1]
  rfl
