/-! rows: class and reference side by side -/
def hw_R (n r : Nat) (rk rv : Nat → Int32) (xr : Nat → Int64) : Prop := ∀ i, i < r → ∃ u : Nat × Int32, u.1 < 3 ∧ he_v n u ∧ rk i = nI u.1 ∧ rv i = u.2 ∧ xr i = hv u.1 u.2
def hw_L (n s a : Nat) (ls : Nat → Int32) (xr : Nat → Int64) : Prop := ∀ j, j < a → ∃ t, t < n ∧ ls j = nI t ∧ xr (s + j) = hv 2 (nI t)
theorem hw_add {xr : Nat → Int64} {c : Nat} {v : Int64} (hc : c < 192) : sxw_add v xr (nI c) = some (vp_updL xr c v, nI (c + 1)) := by
  unfold sxw_add
  rw [if_neg (show ¬ (192 : Int32) ≤ nI c from nI_ge (a := c) (b := 192) hc (by omega)), if_pos (hb_I hc (by omega)), nI_clamp (by omega), nI_1]
theorem hw_L_add {n s a t : Nat} {ls : Nat → Int32} {xr : Nat → Int64} (ht : t < n) (h : hw_L n s a ls xr) : hw_L n s (a + 1) (upd ls a (nI t)) (vp_updL xr (s + a) (hv 2 (nI t))) := fun j hj => by
  by_cases e : j = a
  · subst e
    exact ⟨t, ht, pk_us, pk_uLs⟩
  · obtain ⟨x, h1, h2, h3⟩ := h j (by omega)
    exact ⟨x, h1, (pk_un e).trans h2, (pk_uLn (by omega)).trans h3⟩
theorem hw_L_keep {n s a : Nat} {ls : Nat → Int32} {xr : Nat → Int64} {x : Int32} (h : hw_L n s a ls xr) : hw_L n s a (upd ls a x) xr := fun j hj => by
  obtain ⟨t, h1, h2, h3⟩ := h j hj
  exact ⟨t, h1, (pk_un (by omega)).trans h2, h3⟩
section
variable {cc n : Nat} {mp mk ms mr sk sl xp xk xs : Nat → Int32} {xf : Nat → Int64} {xr0 : Int32}
/-- instances of a class and of its descendants -/
theorem hw_inst (h : hh_I cc n mp mk ms mr sk sl xp xk xs xf xr0) {j : Nat} (hj : j < cc) : ∀ (q turn fuel fuel' : Nat) (kx : Int32), turn + q = 8 → q < fuel → q < fuel' → (kx = -1 ∨ ∃ x, x + turn ≤ 7 ∧ x < cc ∧ kx = nI x) →
    ∃ u b, sm_under_L5 fuel (nI j) kx (nI turn) mp = some u ∧ sxh_isInstance_L10 fuel' (nI j) kx (nI turn) xp xk = some b ∧ ((b = 1 ∧ u = nI j) ∨ (b = 0 ∧ ¬ u = nI j)) := by
  have hcc := h.1
  intro q
  induction q with
  | zero =>
    intro turn fuel fuel' kx ht hf hf' hkx
    obtain ⟨m, rfl⟩ : ∃ m, fuel = m + 1 := ⟨fuel - 1, by omega⟩
    obtain ⟨m', rfl⟩ : ∃ m', fuel' = m' + 1 := ⟨fuel' - 1, by omega⟩
    have e : turn = 8 := by omega
    subst e
    have hk : kx = -1 := by
      rcases hkx with hk | ⟨x, hx, _⟩
      · exact hk
      · omega
    subst hk
    refine ⟨-1, 0, ?_, ?_, Or.inr ⟨rfl, fun w => hh_ne1 (by omega) w.symm⟩⟩
    · show sm_under_L5_B (sm_under_L5 m) (nI j) (-1) (nI 8) mp = _
      unfold sm_under_L5_B
      rw [if_pos (by decide)]
    · show sxh_isInstance_L10_B (sxh_isInstance_L10 m') (nI j) (-1) (nI 8) xp xk = _
      unfold sxh_isInstance_L10_B
      rw [if_pos (by decide)]
  | succ q ih =>
    intro turn fuel fuel' kx ht hf hf' hkx
    obtain ⟨m, rfl⟩ : ∃ m, fuel = m + 1 := ⟨fuel - 1, by omega⟩
    obtain ⟨m', rfl⟩ : ∃ m', fuel' = m' + 1 := ⟨fuel' - 1, by omega⟩
    have n8 : ¬ (8 : Int32) ≤ nI turn := nI_ge (a := turn) (b := 8) (by omega) (by omega)
    show ∃ u b, sm_under_L5_B (sm_under_L5 m) (nI j) kx (nI turn) mp = some u ∧ sxh_isInstance_L10_B (sxh_isInstance_L10 m') (nI j) kx (nI turn) xp xk = some b ∧ _
    unfold sm_under_L5_B sxh_isInstance_L10_B
    rw [if_neg n8, if_neg n8]
    rcases hkx with hk | ⟨x, hx, hxc, hk⟩
    · subst hk
      refine ⟨-1, 0, ?_, ?_, Or.inr ⟨rfl, fun w => hh_ne1 (by omega) w.symm⟩⟩
      · rw [if_pos (by decide : (-1 : Int32) < 0)]
      · rw [if_pos rfl]
    · subst hk
      rw [if_neg (nI_pos (by omega)), if_neg (hh_ne1 (by omega))]
      by_cases e : x = j
      · subst e
        rw [if_pos rfl, if_pos rfl]
        exact ⟨nI x, 1, rfl, rfl, Or.inl ⟨rfl, rfl⟩⟩
      · have ne : ¬ nI x = nI j := fun w => e ((nI_eq (by omega) (by omega)).mp w)
        rw [if_neg ne, if_neg ne, if_pos (hb_I (by omega) (by omega)), if_pos (hb_I (by omega) (by omega)), nI_clamp (by omega), nI_1]
        obtain ⟨p1, p2⟩ := h.2.2.1 x hxc
        rw [← p1]
        refine ih (turn + 1) m m' (mp x) (by omega) (by omega) (by omega) ?_
        rcases p2 with p2 | ⟨y, p2, p3⟩
        · exact Or.inl p2
        · exact Or.inr ⟨y, by omega, by omega, p3⟩
theorem hw_under (h : hh_I cc n mp mk ms mr sk sl xp xk xs xf xr0) {j o : Nat} (hj : j < cc) (ho : o < n) : ∃ b, (b = 0 ∨ b = 1) ∧ sm_under (mk o) (nI j) mp = some b ∧ sxh_isInstance (nI o) (nI j) xp xk = some b := by
  have hn := h.2.1
  have hcc := h.1
  obtain ⟨e1, ⟨x, hx, e2⟩, _⟩ := h.2.2.2.1 o ho
  obtain ⟨u, b, h1, h2, h3⟩ := hw_inst h hj 8 0 kF kF (mk o) (by decide) (hb_kF (by decide)) (hb_kF (by decide)) (Or.inr ⟨x, by omega, hx, e2⟩)
  have h1 : sm_under_L5 kF (nI j) (mk o) 0 mp = some u := h1
  have h2 : sxh_isInstance_L10 kF (nI j) (mk o) 0 xp xk = some b := h2
  refine ⟨b, by rcases h3 with ⟨a, _⟩ | ⟨a, _⟩ <;> simp [a], ?_, ?_⟩
  · unfold sm_under sm_under_J34
    rw [h1, Option.bind_some]
    rcases h3 with ⟨a, c⟩ | ⟨a, c⟩
    · rw [if_pos c, a]
    · rw [if_neg c, a]
  · unfold sxh_isInstance
    rw [if_pos (hb_I (by omega) (by omega)), nI_clamp (by omega), ← e1, h2]
theorem hw_G1 (h : hh_I cc n mp mk ms mr sk sl xp xk xs xf xr0) {s j pos t : Nat} {mc mn : Nat → Int32} {sw : Int32} (hp : pos < 40) (hm : mc pos = nI t) (hj : j < cc) (hmn : mn pos = nI j) (ht : (t = 8 ∧ sw = 0) ∨ (t = 9 ∧ sw = 1)) :
    ∀ (q o fuel fuel' a : Nat) (ls : Nat → Int32) (xr : Nat → Int64), o + q = n → q < fuel → q < fuel' → a ≤ o → s + a + q ≤ 192 → hw_L n s a ls xr →
      ∃ a' ls' xr', sm_gather_L105 fuel (nI pos) (nI o) mp (nI n) mk mc mn (nI a) ls = some (nI a', ls') ∧ sxw_addObjectsOfClass_L8 fuel' (nI j) (nI o) xp xk (nI n) xr (nI (s + a)) sw = some (xr', nI (s + a')) ∧ hw_L n s a' ls' xr' ∧ a' ≤ n ∧ s + a' ≤ 192 ∧ ∀ i, i < s → xr' i = xr i := by
  have hn := h.2.1
  intro q
  induction q with
  | zero =>
    intro o fuel fuel' a ls xr ho hf hf' ha hs hL
    obtain ⟨m, rfl⟩ : ∃ m, fuel = m + 1 := ⟨fuel - 1, by omega⟩
    obtain ⟨m', rfl⟩ : ∃ m', fuel' = m' + 1 := ⟨fuel' - 1, by omega⟩
    have le : nI n ≤ nI o := (nI_leI (by omega) (by omega)).mpr (by omega)
    refine ⟨a, ls, xr, ?_, ?_, hL, by omega, by omega, fun i hi => rfl⟩
    · show sm_gather_L105_B (sm_gather_L105 m) (nI pos) (nI o) mp (nI n) mk mc mn (nI a) ls = _
      unfold sm_gather_L105_B
      rw [if_pos le]
    · show sxw_addObjectsOfClass_L8_B (sxw_addObjectsOfClass_L8 m') (nI j) (nI o) xp xk (nI n) xr (nI (s + a)) sw = _
      unfold sxw_addObjectsOfClass_L8_B sxh_size
      rw [if_pos le]
  | succ q ih =>
    intro o fuel fuel' a ls xr ho hf hf' ha hs hL
    obtain ⟨m, rfl⟩ : ∃ m, fuel = m + 1 := ⟨fuel - 1, by omega⟩
    obtain ⟨m', rfl⟩ : ∃ m', fuel' = m' + 1 := ⟨fuel' - 1, by omega⟩
    have nle : ¬ nI n ≤ nI o := hh_nle (by omega) (by omega)
    have i40 : hq_I (nI pos) 40 = true := hb_I hp (by omega)
    have i24 : hq_I (nI o) 24 = true := hb_I (by omega) (by omega)
    obtain ⟨e1, ⟨x, hx, e2⟩, _⟩ := h.2.2.2.1 o (by omega)
    have yes : ∀ b : Int32, ¬ b = 0 → ∃ a' ls' xr', sm_gather_J163 (sm_gather_L105 m) (nI pos) (nI o) b mp (nI n) mk mc mn (nI a) ls = some (nI a', ls') ∧ sxw_addObjectsOfClass_J47 (sxw_addObjectsOfClass_L8 m') (nI j) (nI o) xp xk (nI n) xr (nI (s + a)) sw = some (xr', nI (s + a')) ∧ hw_L n s a' ls' xr' ∧ a' ≤ n ∧ s + a' ≤ 192 ∧ ∀ i, i < s → xr' i = xr i := fun b hb => by
      unfold sm_gather_J163 sxw_addObjectsOfClass_J47
      rw [if_pos (hb_I (by omega) (by omega)), if_neg hb, nI_clamp (by omega), hw_add (by omega), Option.bind_some, hv_link]
      obtain ⟨a', ls', xr', r1, r2, r3, r4, r5, r6⟩ := ih (o + 1) m m' (a + 1) (upd ls a (nI o)) (vp_updL xr (s + a) (hv 2 (nI o))) (by omega) (by omega) (by omega) (by omega) (by omega) (hw_L_add (by omega) hL)
      rw [nI_1, nI_1]
      exact ⟨a', ls', xr', r1, r2, r3, r4, r5, fun i hi => (r6 i hi).trans (pk_uLn (by omega))⟩
    have no : ∃ a' ls' xr', sm_gather_J163 (sm_gather_L105 m) (nI pos) (nI o) 0 mp (nI n) mk mc mn (nI a) ls = some (nI a', ls') ∧ sxw_addObjectsOfClass_L8 m' (nI j) (nI o + 1) xp xk (nI n) xr (nI (s + a)) sw = some (xr', nI (s + a')) ∧ hw_L n s a' ls' xr' ∧ a' ≤ n ∧ s + a' ≤ 192 ∧ ∀ i, i < s → xr' i = xr i := by
      unfold sm_gather_J163
      rw [if_pos (hb_I (by omega) (by omega)), if_pos rfl, nI_clamp (by omega), nI_1]
      exact ih (o + 1) m m' a (upd ls a (nI o)) xr (by omega) (by omega) (by omega) (by omega) (by omega) (hw_L_keep hL)
    show ∃ a' ls' xr', sm_gather_L105_B (sm_gather_L105 m) (nI pos) (nI o) mp (nI n) mk mc mn (nI a) ls = some (nI a', ls') ∧ sxw_addObjectsOfClass_L8_B (sxw_addObjectsOfClass_L8 m') (nI j) (nI o) xp xk (nI n) xr (nI (s + a)) sw = some (xr', nI (s + a')) ∧ _
    unfold sm_gather_L105_B sxw_addObjectsOfClass_L8_B sxh_size
    rw [if_neg nle, if_neg nle, if_pos i40, nI_clamp (show pos < 2 ^ 31 by omega), hm, hmn, if_pos i24, if_pos i40, nI_clamp (show o < 2 ^ 31 by omega)]
    rcases ht with ⟨rfl, rfl⟩ | ⟨rfl, rfl⟩
    · rw [if_pos (by decide : nI 8 = 8), if_pos (rfl : (0 : Int32) = 0)]
      unfold sxh_classOf
      rw [if_pos i24, nI_clamp (show o < 2 ^ 31 by omega), Option.bind_some, ← e1]
      by_cases e : mk o = nI j
      · rw [if_pos e, if_pos e]
        exact yes 1 (by decide)
      · rw [if_neg e, if_neg e]
        exact no
    · rw [if_neg (by decide : ¬ nI 9 = 8), if_pos i24, if_pos i40, if_neg (by decide : ¬ (1 : Int32) = 0)]
      obtain ⟨b, hb, u1, u2⟩ := hw_under h hj (show o < n by omega)
      rw [u1, u2, Option.bind_some, Option.bind_some]
      rcases hb with rfl | rfl
      · rw [if_pos (rfl : (0 : Int32) = 0)]
        exact no
      · rw [if_neg (by decide : ¬ (1 : Int32) = 0)]
        exact yes 1 (by decide)
end
/-- numbers among the rows -/
theorem hw_N {n r : Nat} {rk rv : Nat → Int32} {xr : Nat → Int64} (hr : r ≤ 192) (hR : hw_R n r rk rv xr) : ∀ (q i fuel fuel' : Nat), i + q = r → q < fuel → q < fuel' → ∃ f b, sm_numbers_L2 fuel (nI i) (nI r) rk 0 = some f ∧ sxw_hasNumber_L2 fuel' (nI i) xr (nI r) = some b ∧ ((b = 0 ∧ f = 0 ∧ ∀ i', i ≤ i' → i' < r → ¬ rk i' = 1) ∨ (b = 1 ∧ f = -4)) := by
  intro q
  induction q with
  | zero =>
    intro i fuel fuel' hi hf hf'
    obtain ⟨m, rfl⟩ : ∃ m, fuel = m + 1 := ⟨fuel - 1, by omega⟩
    obtain ⟨m', rfl⟩ : ∃ m', fuel' = m' + 1 := ⟨fuel' - 1, by omega⟩
    have le : nI r ≤ nI i := (nI_leI (by omega) (by omega)).mpr (by omega)
    refine ⟨0, 0, ?_, ?_, Or.inl ⟨rfl, rfl, fun i' h1 h2 => by omega⟩⟩
    · show sm_numbers_L2_B (sm_numbers_L2 m) (nI i) (nI r) rk 0 = _
      unfold sm_numbers_L2_B
      rw [if_pos le]
    · show sxw_hasNumber_L2_B (sxw_hasNumber_L2 m') (nI i) xr (nI r) = _
      unfold sxw_hasNumber_L2_B
      rw [if_pos le]
  | succ q ih =>
    intro i fuel fuel' hi hf hf'
    obtain ⟨m, rfl⟩ : ∃ m, fuel = m + 1 := ⟨fuel - 1, by omega⟩
    obtain ⟨m', rfl⟩ : ∃ m', fuel' = m' + 1 := ⟨fuel' - 1, by omega⟩
    have nle : ¬ nI r ≤ nI i := hh_nle (by omega) (by omega)
    obtain ⟨u, u3, hu, k1, k2, k3⟩ := hR i (by omega)
    show ∃ f b, sm_numbers_L2_B (sm_numbers_L2 m) (nI i) (nI r) rk 0 = some f ∧ sxw_hasNumber_L2_B (sxw_hasNumber_L2 m') (nI i) xr (nI r) = some b ∧ _
    unfold sm_numbers_L2_B sxw_hasNumber_L2_B
    rw [if_neg nle, if_neg nle, if_pos (rfl : (0 : Int32) = 0), if_pos (hb_I (show i < 200 by omega) (by omega)), if_pos (hb_I (show i < 192 by omega) (by omega)), nI_clamp (by omega), k3, hv_isNumber (by omega), nI_1]
    by_cases e : u.1 = 1
    · rw [if_pos (show rk i = 1 by rw [k1, e]; rfl), if_pos e, if_neg (by decide : ¬ (1 : Int32) = 0)]
      obtain ⟨m2, rfl⟩ : ∃ m2, m = m2 + 1 := ⟨m - 1, by omega⟩
      refine ⟨-4, 1, ?_, rfl, Or.inr ⟨rfl, rfl⟩⟩
      show sm_numbers_L2_B (sm_numbers_L2 m2) (nI (i + 1)) (nI r) rk (-4) = _
      unfold sm_numbers_L2_B
      by_cases g : nI r ≤ nI (i + 1)
      · rw [if_pos g]
      · rw [if_neg g, if_neg (by decide)]
    · have ne : ¬ rk i = 1 := fun w => by
        rw [k1] at w
        exact e ((nI_eq (b := 1) (by omega) (by omega)).mp w)
      rw [if_neg ne, if_neg e, if_pos (rfl : (0 : Int32) = 0)]
      obtain ⟨f, b, r1, r2, r3⟩ := ih (i + 1) m m' (by omega) (by omega) (by omega)
      refine ⟨f, b, r1, r2, ?_⟩
      rcases r3 with ⟨a1, a2, a3⟩ | r3
      · refine Or.inl ⟨a1, a2, fun i' h1 h2 => ?_⟩
        by_cases g : i' = i
        · subst g; exact ne
        · exact a3 i' (by omega) h2
      · exact Or.inr r3
theorem hw_numbers {n r s : Nat} {rk rv : Nat → Int32} {xr : Nat → Int64} (hr : r ≤ 192) (hs : s ≤ r) (hR : hw_R n r rk rv xr) : ∃ f b, sm_numbers (nI s) (nI r) rk 0 = some f ∧ sxw_hasNumber (nI s) xr (nI r) = some b ∧ ((b = 0 ∧ f = 0 ∧ ∀ i', s ≤ i' → i' < r → ¬ rk i' = 1) ∨ (b = 1 ∧ f = -4)) := by
  obtain ⟨f, b, h1, h2, h3⟩ := hw_N hr hR (r - s) s kF kF (by omega) (hb_kF (by omega)) (hb_kF (by omega))
  refine ⟨f, b, ?_, h2, h3⟩
  unfold sm_numbers
  rw [h1, Option.bind_some]
/-- links of a nested query's rows -/
theorem hw_G2 {n r s : Nat} {rk rv : Nat → Int32} (hr : r ≤ 192) : ∀ (q i fuel fuel' a : Nat) (ls : Nat → Int32) (xr : Nat → Int64), i + q = r → q < fuel → q < fuel' → s + a ≤ i → hw_L n s a ls xr → (∀ i', i ≤ i' → i' < r → ∃ u : Nat × Int32, (u.1 = 0 ∨ u.1 = 2) ∧ he_v n u ∧ rk i' = nI u.1 ∧ rv i' = u.2 ∧ xr i' = hv u.1 u.2) →
    ∃ a' ls' xr', sm_gather_L31 fuel (nI i) (nI r) rk rv (nI a) ls = some (nI a', ls') ∧ sxw_leaveOutEmpty_L12 fuel' (nI r) (nI i) xr (nI (s + a)) = some (xr', nI (s + a')) ∧ hw_L n s a' ls' xr' ∧ s + a' ≤ r ∧ ∀ i, i < s → xr' i = xr i := by
  intro q
  induction q with
  | zero =>
    intro i fuel fuel' a ls xr hi hf hf' ha hL hR
    obtain ⟨m, rfl⟩ : ∃ m, fuel = m + 1 := ⟨fuel - 1, by omega⟩
    obtain ⟨m', rfl⟩ : ∃ m', fuel' = m' + 1 := ⟨fuel' - 1, by omega⟩
    have le : nI r ≤ nI i := (nI_leI (by omega) (by omega)).mpr (by omega)
    refine ⟨a, ls, xr, ?_, ?_, hL, by omega, fun i hi => rfl⟩
    · show sm_gather_L31_B (sm_gather_L31 m) (nI i) (nI r) rk rv (nI a) ls = _
      unfold sm_gather_L31_B
      rw [if_pos le]
    · show sxw_leaveOutEmpty_L12_B (sxw_leaveOutEmpty_L12 m') (nI r) (nI i) xr (nI (s + a)) = _
      unfold sxw_leaveOutEmpty_L12_B
      rw [if_pos le]
  | succ q ih =>
    intro i fuel fuel' a ls xr hi hf hf' ha hL hR
    obtain ⟨m, rfl⟩ : ∃ m, fuel = m + 1 := ⟨fuel - 1, by omega⟩
    obtain ⟨m', rfl⟩ : ∃ m', fuel' = m' + 1 := ⟨fuel' - 1, by omega⟩
    have nle : ¬ nI r ≤ nI i := hh_nle (by omega) (by omega)
    have i200 : hq_I (nI i) 200 = true := hb_I (by omega) (by omega)
    have i192 : hq_I (nI i) 192 = true := hb_I (by omega) (by omega)
    obtain ⟨u, u02, hu, k1, k2, k3⟩ := hR i (Nat.le_refl _) (by omega)
    show ∃ a' ls' xr', sm_gather_L31_B (sm_gather_L31 m) (nI i) (nI r) rk rv (nI a) ls = some (nI a', ls') ∧ sxw_leaveOutEmpty_L12_B (sxw_leaveOutEmpty_L12 m') (nI r) (nI i) xr (nI (s + a)) = some (xr', nI (s + a')) ∧ _
    unfold sm_gather_L31_B sxw_leaveOutEmpty_L12_B
    rw [if_neg nle, if_neg nle, if_pos i200, if_pos (hb_I (show a < 200 by omega) (by omega)), if_pos i200, if_pos i192, if_pos i192, nI_clamp (show i < 2 ^ 31 by omega), nI_clamp (show a < 2 ^ 31 by omega), k1, k2, k3, hv_isEmpty (by omega), nI_1, nI_1]
    rcases u02 with u0 | u2
    · rw [if_neg (show ¬ nI u.1 = 2 from fun w => by have := (nI_eq (b := 2) (by omega) (by omega)).mp w; omega), if_pos (show u.1 = 0 ∧ u.2 = 0 from ⟨u0, hu.2.1 u0⟩), if_neg (by decide : ¬ (1 : Int32) = 0)]
      exact ih (i + 1) m m' a (upd ls a u.2) xr (by omega) (by omega) (by omega) (by omega) (hw_L_keep hL) (fun i' h1 h2 => hR i' (by omega) h2)
    · obtain ⟨t, ht, hx⟩ := hu.2.2.1 u2
      rw [if_pos (show nI u.1 = 2 by rw [u2]; rfl), if_neg (show ¬ (u.1 = 0 ∧ u.2 = 0) from fun w => by omega), if_pos (rfl : (0 : Int32) = 0), hw_add (by omega), Option.bind_some, hx, u2]
      obtain ⟨a', ls', xr', r1, r2, r3, r4, r5⟩ := ih (i + 1) m m' (a + 1) (upd ls a (nI t)) (vp_updL xr (s + a) (hv 2 (nI t))) (by omega) (by omega) (by omega) (by omega) (hw_L_add ht hL) (fun i' h1 h2 => by
        obtain ⟨w, w1, w2, w3, w4, w5⟩ := hR i' (by omega) h2
        exact ⟨w, w1, w2, w3, w4, (pk_uLn (by omega)).trans w5⟩)
      exact ⟨a', ls', xr', r1, r2, r3, r4, fun i hi => (r5 i hi).trans (pk_uLn (by omega))⟩
/-- the set of what rows link to -/
theorem hw_mask {n r s : Nat} {rk rv : Nat → Int32} {xr : Nat → Int64} (hr : r ≤ 192) (hR : hw_R n r rk rv xr) : ∀ (q i fuel fuel' : Nat) (acc : Int32), i + q = r → q < fuel → q < fuel' → ∃ v, sm_retain_L4 fuel (nI s) acc (nI i) (nI r) rk rv = some v ∧ sxw_turnIntoRetained_L16 fuel' (nI s) acc (nI i) xr (nI r) = some v := by
  intro q
  induction q with
  | zero =>
    intro i fuel fuel' acc hi hf hf'
    obtain ⟨m, rfl⟩ : ∃ m, fuel = m + 1 := ⟨fuel - 1, by omega⟩
    obtain ⟨m', rfl⟩ : ∃ m', fuel' = m' + 1 := ⟨fuel' - 1, by omega⟩
    have le : nI r ≤ nI i := (nI_leI (by omega) (by omega)).mpr (by omega)
    refine ⟨acc, ?_, ?_⟩
    · show sm_retain_L4_B (sm_retain_L4 m) (nI s) acc (nI i) (nI r) rk rv = _
      unfold sm_retain_L4_B
      rw [if_pos le]
    · show sxw_turnIntoRetained_L16_B (sxw_turnIntoRetained_L16 m') (nI s) acc (nI i) xr (nI r) = _
      unfold sxw_turnIntoRetained_L16_B
      rw [if_pos le]
  | succ q ih =>
    intro i fuel fuel' acc hi hf hf'
    obtain ⟨m, rfl⟩ : ∃ m, fuel = m + 1 := ⟨fuel - 1, by omega⟩
    obtain ⟨m', rfl⟩ : ∃ m', fuel' = m' + 1 := ⟨fuel' - 1, by omega⟩
    have nle : ¬ nI r ≤ nI i := hh_nle (by omega) (by omega)
    have i200 : hq_I (nI i) 200 = true := hb_I (by omega) (by omega)
    have i192 : hq_I (nI i) 192 = true := hb_I (by omega) (by omega)
    obtain ⟨u, u3, hu, k1, k2, k3⟩ := hR i (by omega)
    show ∃ v, sm_retain_L4_B (sm_retain_L4 m) (nI s) acc (nI i) (nI r) rk rv = some v ∧ sxw_turnIntoRetained_L16_B (sxw_turnIntoRetained_L16 m') (nI s) acc (nI i) xr (nI r) = some v
    unfold sm_retain_L4_B sxw_turnIntoRetained_L16_B
    rw [if_neg nle, if_neg nle, if_pos i200, if_pos i192, nI_clamp (show i < 2 ^ 31 by omega), k1, k2, k3, hv_isLink (by omega), hv_contentOf, nI_1]
    by_cases u2 : u.1 = 2
    · rw [if_pos (show nI u.1 = 2 by rw [u2]; rfl), if_pos u2, if_neg (by decide : ¬ (1 : Int32) = 0), if_pos i200, if_pos i192]
      exact ih (i + 1) m m' _ (by omega) (by omega) (by omega)
    · rw [if_neg (show ¬ nI u.1 = 2 from fun w => u2 ((nI_eq (b := 2) (by omega) (by omega)).mp w)), if_neg u2, if_pos (rfl : (0 : Int32) = 0)]
      exact ih (i + 1) m m' _ (by omega) (by omega) (by omega)
/-- a set's objects as rows -/
theorem hw_fill {n s : Nat} {S : Int32} (hn : n ≤ 24) (hs : s + n ≤ 192) : ∀ (q o fuel fuel' r : Nat) (rk rv : Nat → Int32) (xr : Nat → Int64), o + q = n → q < fuel → q < fuel' → r ≤ s + o → hw_R n r rk rv xr → ∃ r' rk' rv' xr', sm_retain_L65 fuel S (nI o) (nI n) (nI r) rk rv = some (nI r', rk', rv') ∧ sxw_turnIntoRetained_L77 fuel' S (nI o) (nI n) xr (nI r) = some (xr', nI r') ∧ r' ≤ s + n ∧ r ≤ r' ∧ hw_R n r' rk' rv' xr' := by
  intro q
  induction q with
  | zero =>
    intro o fuel fuel' r rk rv xr ho hf hf' hrs hR
    obtain ⟨m, rfl⟩ : ∃ m, fuel = m + 1 := ⟨fuel - 1, by omega⟩
    obtain ⟨m', rfl⟩ : ∃ m', fuel' = m' + 1 := ⟨fuel' - 1, by omega⟩
    have le : nI n ≤ nI o := (nI_leI (by omega) (by omega)).mpr (by omega)
    refine ⟨r, rk, rv, xr, ?_, ?_, by omega, Nat.le_refl _, hR⟩
    · show sm_retain_L65_B (sm_retain_L65 m) S (nI o) (nI n) (nI r) rk rv = _
      unfold sm_retain_L65_B
      rw [if_pos le]
    · show sxw_turnIntoRetained_L77_B (sxw_turnIntoRetained_L77 m') S (nI o) (nI n) xr (nI r) = _
      unfold sxw_turnIntoRetained_L77_B sxh_size
      rw [if_pos le]
  | succ q ih =>
    intro o fuel fuel' r rk rv xr ho hf hf' hrs hR
    obtain ⟨m, rfl⟩ : ∃ m, fuel = m + 1 := ⟨fuel - 1, by omega⟩
    obtain ⟨m', rfl⟩ : ∃ m', fuel' = m' + 1 := ⟨fuel' - 1, by omega⟩
    have nle : ¬ nI n ≤ nI o := hh_nle (by omega) (by omega)
    have i200 : hq_I (nI r) 200 = true := hb_I (by omega) (by omega)
    show ∃ r' rk' rv' xr', sm_retain_L65_B (sm_retain_L65 m) S (nI o) (nI n) (nI r) rk rv = some (nI r', rk', rv') ∧ sxw_turnIntoRetained_L77_B (sxw_turnIntoRetained_L77 m') S (nI o) (nI n) xr (nI r) = some (xr', nI r') ∧ _
    unfold sm_retain_L65_B sxw_turnIntoRetained_L77_B sxh_size
    rw [if_neg nle, if_neg nle, nI_1]
    by_cases b : bt S o = true
    · have hz : ¬ S &&& ((1 : Int32) <<< (nI o &&& 31)) = 0 := fun w => by
        rw [(hb_a0 S (by omega)).mp w] at b
        cases b
      rw [if_pos ((hb_t1 S (by omega)).mpr b), if_neg hz, if_pos i200, if_pos i200, nI_clamp (by omega), hw_add (by omega), Option.bind_some, hv_link, nI_1]
      obtain ⟨r', rk', rv', xr', e1, e2, e3, e4, e5⟩ := ih (o + 1) m m' (r + 1) (upd rk r 2) (upd rv r (nI o)) (vp_updL xr r (hv 2 (nI o))) (by omega) (by omega) (by omega) (by omega) (fun i hi => by
        by_cases e : i = r
        · subst e
          exact ⟨(2, nI o), (by decide : (2 : Nat) < 3), he_v2 (by omega), pk_us, pk_us, pk_uLs⟩
        · obtain ⟨u, a1, a2, a3, a4, a5⟩ := hR i (by omega)
          exact ⟨u, a1, a2, (pk_un e).trans a3, (pk_un e).trans a4, (pk_uLn e).trans a5⟩)
      exact ⟨r', rk', rv', xr', e1, e2, e3, by omega, e5⟩
    · rw [if_neg (fun w => b ((hb_t1 S (by omega)).mp w)), if_pos ((hb_a0 S (by omega)).mpr (by simpa using b))]
      exact ih (o + 1) m m' r rk rv xr (by omega) (by omega) (by omega) (by omega) hR
