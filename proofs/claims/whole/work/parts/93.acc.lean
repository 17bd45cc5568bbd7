/-! what the grammar takes, the reader reads -/
def he_Ac (k : Nat) (tk : Nat → Nat) : Prop := ∃ cm st, hg_run tk k = some (8, cm, st)
/-- places within an e -/
def ha_In (tk : Nat → Nat) (a b : Nat) : Prop := ∀ j, a ≤ j → j ≤ b → ∃ q cm st, hg_run tk j = some (q, cm, st) ∧ 3 ≤ q ∧ q ≤ 5
theorem ha_In1 {tk : Nat → Nat} {a q : Nat} {cm : Bool} {st : List Nat} (h : hg_run tk a = some (q, cm, st)) (h3 : 3 ≤ q) (h5 : q ≤ 5) : ha_In tk a a := fun j h1 h2 => by
  have e : j = a := by omega
  subst e
  exact ⟨q, cm, st, h, h3, h5⟩
theorem ha_In2 {tk : Nat → Nat} {a b b' c : Nat} (h1 : ha_In tk a b) (h2 : ha_In tk b' c) (hb : b' ≤ b + 1) : ha_In tk a c := fun j x y => by
  by_cases e : j ≤ b
  · exact h1 j x e
  · exact h2 j (by omega) y
section
variable {n k : Nat} {tk : Nat → Nat} {mc mn mk ms sk sl kp xk xs lc rz im C N : Nat → Int32} {xf : Nat → Int64} {self : Int32}
theorem ha_nx (hA : he_Ac k tk) {i q : Nat} {cm : Bool} {st : List Nat} (hi : i ≤ k) (h : hg_run tk i = some (q, cm, st)) (hq : ¬ q = 8) : i < k ∧ ∃ q' cm' st', hg_step (tk i) q cm st = some (q', cm', st') ∧ hg_run tk (i + 1) = some (q', cm', st') := by
  obtain ⟨cm8, st8, hA⟩ := hA
  have hlt : i < k := by
    rcases Nat.lt_or_ge i k with a | a
    · exact a
    · have e : i = k := by omega
      rw [e, hA] at h
      cases h
      exact absurd rfl hq
  obtain ⟨⟨q', cm', st'⟩, hv⟩ := hg_run_some hA (i + 1) (by omega)
  have e : hg_run tk (i + 1) = hg_step (tk i) q cm st := by
    show (hg_run tk i).bind (fun u => hg_step (tk i) u.1 u.2.1 u.2.2) = _
    rw [h]
    rfl
  exact ⟨hlt, q', cm', st', by rw [← e]; exact hv, hv⟩
/-- behind an operand: what may follow -/
theorem ha_behind (hA : he_Ac k tk) {i : Nat} {cm : Bool} {st : List Nat} (hi : i ≤ k) (h : hg_run tk i = some (5, cm, st)) : i < k ∧
    ((tk i = 13 ∨ tk i = 14) ∧ hg_run tk (i + 1) = some (5, cm, st) ∨ (¬ he_lv (tk i) = 0 ∧ (3 ≤ he_lv (tk i) → ∃ cm', hg_run tk (i + 1) = some (4, cm', st)) ∧ (he_lv (tk i) < 3 → hg_run tk (i + 1) = some (3, false, st))) ∨
     (tk i = 7 ∧ ∃ t cm' st', st = t :: st' ∧ (t = 2 ∨ t = 4) ∧ hg_run tk (i + 1) = some (5, cm', st')) ∨ (tk i = 3 ∧ ∃ st', st = 0 :: st' ∧ hg_run tk (i + 1) = some (6, cm, st')) ∨ ((tk i = 5 ∨ tk i = 7 ∨ tk i = 24) ∧ ∃ s q' cm' st', st = 1 :: s ∧ hg_ends (tk i) cm s = some (q', cm', st') ∧ hg_run tk (i + 1) = some (q', cm', st'))) := by
  obtain ⟨hlt, q', cm', st', hs, hr⟩ := ha_nx hA hi h (by decide)
  refine ⟨hlt, ?_⟩
  have hs : hg_behind (tk i) cm st = some (q', cm', st') := hs
  rcases hg_behindI hs with ⟨a, b, c, d⟩ | ⟨a, b, c, d⟩ | ⟨a, b, c, d⟩ | ⟨a, b, c, d⟩ | ⟨a, b, c⟩ | ⟨a, b, c, d⟩ | ⟨s, b, h9⟩
  · subst b c d
    exact Or.inl ⟨a, hr⟩
  · subst b c d
    refine Or.inr (Or.inl ?_)
    rcases a with a | a | a <;> rw [a] <;> exact ⟨by decide, fun _ => ⟨cm', hr⟩, fun q => absurd q (by decide)⟩
  · subst b c d
    refine Or.inr (Or.inl ?_)
    rcases a with a | a | a <;> rw [a] <;> exact ⟨by decide, fun _ => ⟨true, hr⟩, fun q => absurd q (by decide)⟩
  · subst b c d
    refine Or.inr (Or.inl ?_)
    rcases a with a | a <;> rw [a] <;> exact ⟨by decide, fun q => absurd q (by decide), fun _ => hr⟩
  · subst b
    rcases c with ⟨c, _⟩ | ⟨c, _⟩
    · exact Or.inr (Or.inr (Or.inl ⟨a, 2, cm', st', c, Or.inl rfl, hr⟩))
    · exact Or.inr (Or.inr (Or.inl ⟨a, 4, cm', st', c, Or.inr rfl, hr⟩))
  · subst b c
    exact Or.inr (Or.inr (Or.inr (Or.inl ⟨a, st', d, hr⟩)))
  · refine Or.inr (Or.inr (Or.inr (Or.inr ⟨?_, s, q', cm', st', b, h9, hr⟩)))
    rcases hg_endsI h9 with ⟨_, ⟨a, _⟩ | ⟨a, _⟩ | ⟨a, _⟩⟩ <;> omega
theorem ha_C (hK : he_K n k tk mc mn C N) {i c : Nat} (hi : i < k) (h : tk i = c) : C i = nI c := by rw [(hK.2.2.1 i hi).2.1, h]
theorem ha_Cn (hK : he_K n k tk mc mn C N) {i c : Nat} (hi : i < k) (hc : c < 25) (h : ¬ tk i = c) : ¬ C i = nI c := fun q => by
  rw [(hK.2.2.1 i hi).2.1] at q
  exact h ((nI_eq (by have := (hK.2.2.1 i hi).1; omega) (by omega)).mp q)
theorem ha_Cl (y : Int32) (c : Nat) (hy : y = nI c) (hK : he_K n k tk mc mn C N) {i : Nat} (hi : i < k) (h : tk i = c) : C i = y := (ha_C hK hi h).trans hy.symm
theorem ha_Cln (y : Int32) (c : Nat) (hy : y = nI c) (hK : he_K n k tk mc mn C N) {i : Nat} (hi : i < k) (hc : c < 25) (h : ¬ tk i = c) : ¬ C i = y := fun q => ha_Cn hK hi hc h (q.trans hy)
theorem ha_lv (hK : he_K n k tk mc mn C N) {i lv : Nat} (hi : i < k) (h6 : lv ≤ 6) : (sxr_levelOf (C i) < nI lv ↔ he_lv (tk i) < lv) ∧ sxr_levelOf (C i) = nI (he_lv (tk i)) := by
  obtain ⟨t, e, _⟩ := hK.2.2.1 i hi
  have ho := he_lv_op (tk i) t
  rw [e, he_lvI (tk i) t]
  exact ⟨nI_ltI (by omega) (by omega), rfl⟩
theorem ha_steps (hK : he_K n k tk mc mn C N) (hA : he_Ac k tk) : ∀ (m : Nat) (d : hd_X) (h i : Nat) (cm : Bool) (st : List Nat), k < m + i → i ≤ k → hg_run tk i = some (5, cm, st) → ∃ d' h' i', rd_steps C N m d h i = some (d', h', i') ∧ i ≤ i' ∧ h' = h + (i' - i) ∧ hg_run tk i' = some (5, cm, st) ∧ i' < k ∧ ¬ tk i' = 13 ∧ ¬ tk i' = 14 ∧ ha_In tk i i' := by
  intro m
  induction m with
  | zero => intro d h i cm st hm hi; omega
  | succ m ih =>
    intro d h i cm st hm hi hr
    have hk := hK.2.1
    obtain ⟨hlt, hb⟩ := ha_behind hA hi hr
    show ∃ d' h' i', (if i ≤ 40 then (if C i = 13 ∨ C i = 14 then rd_steps C N m (hd_un (C i) (N i) d) (h + 1) (i + 1) else some (d, h, i)) else none) = some (d', h', i') ∧ _
    rw [if_pos (by omega)]
    by_cases hc : tk i = 13 ∨ tk i = 14
    · have hc' : C i = 13 ∨ C i = 14 := hc.imp (fun q => ha_C hK hlt q) (fun q => ha_C hK hlt q)
      rw [if_pos hc']
      have hr2 : hg_run tk (i + 1) = some (5, cm, st) := by
        rcases hb with ⟨_, hb⟩ | ⟨q, _⟩ | ⟨q, _⟩ | ⟨q, _⟩ | ⟨q, _⟩
        · exact hb
        · exfalso
          rcases hc with hc | hc <;> rw [hc] at q <;> exact q (by decide)
        · omega
        · omega
        · omega
      obtain ⟨d', h', i', e, a1, a2, a3, a4, a5, a6, a7⟩ := ih (hd_un (C i) (N i) d) (h + 1) (i + 1) cm st (by omega) (by omega) hr2
      exact ⟨d', h', i', e, by omega, by omega, a3, a4, a5, a6, ha_In2 (ha_In1 hr (by decide) (by decide)) a7 (Nat.le_refl _)⟩
    · rw [if_neg (fun q => hc (q.imp (fun q => Classical.byContradiction fun w => ha_Cn (c := 13) hK hlt (by decide) w q) (fun q => Classical.byContradiction fun w => ha_Cn (c := 14) hK hlt (by decide) w q)))]
      exact ⟨d, h, i, rfl, Nat.le_refl _, by omega, hr, hlt, fun q => hc (Or.inl q), fun q => hc (Or.inr q), ha_In1 hr (by decide) (by decide)⟩
/-- what reading an e at a level gives -/
def ha_E (k : Nat) (tk : Nat → Nat) (rec : Int32 → Nat → Option (hd_X × Nat × Nat)) (b : Nat) : Prop :=
  ∀ (lv i q : Nat) (cm : Bool) (st : List Nat), 1 ≤ lv → lv ≤ 6 → k < b + i → i ≤ k → hg_run tk i = some (q, cm, st) → 1 ≤ q → q ≤ 4 → ¬ tk i = 1 → ¬ tk i = 2 → (q ≤ 3 → lv ≤ 3) →
    ∃ d h i' cm', rec (nI lv) i = some (d, h, i') ∧ i < i' ∧ h ≤ i' - i ∧ hg_run tk i' = some (5, cm', st) ∧ i' < k ∧ ¬ tk i' = 13 ∧ ¬ tk i' = 14 ∧ he_lv (tk i') < lv ∧ ha_In tk (i + 1) i'
theorem ha_M (hK : he_K n k tk mc mn C N) (hA : he_Ac k tk) {rec : Int32 → Nat → Option (hd_X × Nat × Nat)} {b : Nat} (hrec : ha_E k tk rec b) {i q : Nat} {cm : Bool} {st : List Nat} (hb : k < b + (i + 1)) (hi : i ≤ k) (hr : hg_run tk i = some (q, cm, st)) (q1 : 1 ≤ q) (q4 : q ≤ 4) (n1 : ¬ tk i = 1) (n2 : ¬ tk i = 2) (n17 : ¬ tk i = 17) :
    ∃ d h i' cm', rd_M C N rec i = some (d, h, i') ∧ i < i' ∧ h ≤ i' - i ∧ hg_run tk i' = some (5, cm', st) ∧ i' < k ∧ ¬ tk i' = 13 ∧ ¬ tk i' = 14 ∧ ha_In tk (i + 1) i' := by
  have hk := hK.2.1
  obtain ⟨hlt, q', cm', st', hs, hr2⟩ := ha_nx hA hi hr (by omega)
  have hs : hg_operand (tk i) q cm st = some (q', cm', st') := by
    unfold hg_step at hs
    rw [if_neg (by omega), if_pos q4] at hs
    exact hs
  unfold rd_M
  rcases hg_operandI hs with ⟨a, _⟩ | ⟨⟨a, _⟩ | ⟨a, _⟩, _⟩ | ⟨a, e1, e2, e3⟩ | ⟨a, e1, e2, e3⟩
  · exact absurd a n1
  · exact absurd a n2
  · exact absurd a n17
  · subst e1 e2 e3
    have hl : C i = 10 ∨ C i = 11 ∨ C i = 12 := a.imp (fun q => ha_C hK hlt q) (fun q => q.imp (fun q => ha_C hK hlt q) (fun q => ha_C hK hlt q))
    rw [if_neg (ha_Cln 6 6 rfl hK hlt (by decide) (by omega)), if_pos hl]
    obtain ⟨d', h', i', e, a1, a2, a3, a4⟩ := ha_steps hK hA 100 (hd_leaf (C i) (N i)) 1 (i + 1) cm' st' (by omega) (by omega) hr2
    exact ⟨d', h', i', cm', e, by omega, by omega, a3, a4⟩
  · subst e1 e2
    rw [if_pos (ha_Cl 6 6 rfl hK hlt a)]
    obtain ⟨t, ht, hst⟩ : ∃ t, (t = 2 ∨ t = 4) ∧ st' = t :: st := by
      rcases e3 with ⟨_, e3⟩ | ⟨_, e3⟩
      · exact ⟨4, Or.inr rfl, e3⟩
      · exact ⟨2, Or.inl rfl, e3⟩
    subst hst
    by_cases t12 : tk (i + 1) = 1 ∨ tk (i + 1) = 2
    · exfalso
      obtain ⟨_, q9, cm9, st9, hs9, _⟩ := ha_nx hA (by omega) hr2 (by decide)
      have hs9 : hg_operand (tk (i + 1)) 3 false (t :: st) = some (q9, cm9, st9) := hs9
      rcases hg_operandI hs9 with ⟨w, w2, _⟩ | ⟨⟨w, w2⟩ | ⟨w, _⟩, _⟩ | ⟨w, _⟩ | ⟨w, _⟩ <;> omega
    · obtain ⟨d1, h1, i1, cm1, r1, r2, r3, r4, r5, r6, r7, r8, r9⟩ := hrec 1 (i + 1) 3 false (t :: st) (by decide) (by decide) hb (by omega) hr2 (by decide) (by decide) (fun q => t12 (Or.inl q)) (fun q => t12 (Or.inr q)) (fun _ => by decide)
      have r1 : rec 1 (i + 1) = some (d1, h1, i1) := r1
      obtain ⟨_, hb1⟩ := ha_behind hA (by omega) r4
      have h7 : tk i1 = 7 ∧ ∃ cm2, hg_run tk (i1 + 1) = some (5, cm2, st) := by
        rcases hb1 with ⟨w | w, _⟩ | ⟨w, _⟩ | ⟨w, t2, cm2, st2, w2, w3, w4⟩ | ⟨w, st2, w2, _⟩ | ⟨w, s, _, _, _, w2, _⟩
        · exact absurd w r6
        · exact absurd w r7
        · omega
        · cases w2
          exact ⟨w, cm2, w4⟩
        · cases w2
          omega
        · cases w2
          omega
      obtain ⟨h7, cm2, h8⟩ := h7
      clear hb1
      rw [r1, Option.bind_some]
      show ∃ d h i' cm', (if i + 2 ≤ i1 then (if C i1 = 7 then rd_steps C N 100 d1 h1 (i1 + 1) else none) else none) = some (d, h, i') ∧ _
      rw [if_pos (by omega), if_pos (ha_Cl 7 7 rfl hK r5 h7)]
      obtain ⟨d', h', i', e, a1, a2, a3, a4, a5, a6, a7⟩ := ha_steps hK hA 100 d1 h1 (i1 + 1) cm2 st (by omega) (by omega) h8
      exact ⟨d', h', i', cm2, e, by omega, by omega, a3, a4, a5, a6, ha_In2 (ha_In2 (ha_In1 hr2 (by decide) (by decide)) r9 (Nat.le_refl _)) a7 (Nat.le_refl _)⟩
theorem ha_L (hK : he_K n k tk mc mn C N) (hA : he_Ac k tk) {rec : Int32 → Nat → Option (hd_X × Nat × Nat)} {b : Nat} (hrec : ha_E k tk rec b) {lv i0 : Nat} (h1 : 1 ≤ lv) (h6 : lv ≤ 6) {st : List Nat} (hb : k < b + (i0 + 1)) : ∀ (m : Nat) (d : hd_X) (h i : Nat) (cm : Bool), k < m + i → i < k → i0 ≤ i → h ≤ i - i0 → hg_run tk i = some (5, cm, st) → ¬ tk i = 13 → ¬ tk i = 14 →
    ∃ d' h' i' cm', rd_loop C rec (nI lv) m d h i = some (d', h', i') ∧ i ≤ i' ∧ h' ≤ i' - i0 ∧ hg_run tk i' = some (5, cm', st) ∧ i' < k ∧ ¬ tk i' = 13 ∧ ¬ tk i' = 14 ∧ he_lv (tk i') < lv ∧ ha_In tk i i' := by
  intro m
  induction m with
  | zero => intro d h i cm hm hi; omega
  | succ m ih =>
    intro d h i cm hm hi h0 hh hr n13 n14
    have hk := hK.2.1
    show ∃ d' h' i' cm', (if i ≤ 40 then (if sxr_levelOf (C i) < nI lv then some (d, h, i) else (rec (sxr_levelOf (C i) + 1) (i + 1)).bind fun u => if i + 2 ≤ u.2.2 then rd_loop C rec (nI lv) m (hd_bin (C i) 0 d u.1) (max h u.2.1 + 1) u.2.2 else none) else none) = some (d', h', i') ∧ _
    rw [if_pos (by omega)]
    obtain ⟨hl, hle⟩ := ha_lv hK hi h6
    by_cases hc : he_lv (tk i) < lv
    · rw [if_pos (hl.mpr hc)]
      exact ⟨d, h, i, cm, rfl, Nat.le_refl _, by omega, hr, hi, n13, n14, hc, ha_In1 hr (by decide) (by decide)⟩
    · rw [if_neg (fun q => hc (hl.mp q)), hle, nI_1]
      obtain ⟨_, hbh⟩ := ha_behind hA (by omega) hr
      have ho := (he_lv_op (tk i) (hK.2.2.1 i hi).1).resolve_left (by omega)
      obtain ⟨q, cm2, hr2, q34, q3⟩ : ∃ q cm2, hg_run tk (i + 1) = some (q, cm2, st) ∧ (q = 3 ∨ q = 4) ∧ (q ≤ 3 → he_lv (tk i) + 1 ≤ 3) := by
        rcases hbh with ⟨w, _⟩ | ⟨_, w3, w4⟩ | ⟨w, _⟩ | ⟨w, _⟩ | ⟨w, _⟩
        · omega
        · by_cases g : 3 ≤ he_lv (tk i)
          · obtain ⟨cm', w3⟩ := w3 g
            exact ⟨4, cm', w3, Or.inr rfl, fun q => by omega⟩
          · exact ⟨3, false, w4 (by omega), Or.inl rfl, fun _ => by omega⟩
        · omega
        · omega
        · omega
      clear hbh
      have n12 : ¬ tk (i + 1) = 1 ∧ ¬ tk (i + 1) = 2 := by
        obtain ⟨_, q9, cm9, st9, hs9, _⟩ := ha_nx hA (by omega) hr2 (by omega)
        have hs9 : hg_operand (tk (i + 1)) q cm2 st = some (q9, cm9, st9) := by
          unfold hg_step at hs9
          rw [if_neg (by omega), if_pos (by omega)] at hs9
          exact hs9
        rcases hg_operandI hs9 with ⟨w, w2, _⟩ | ⟨⟨w, w2⟩ | ⟨w, _⟩, _⟩ | ⟨w, _⟩ | ⟨w, _⟩ <;> omega
      obtain ⟨d1, hh1, i1, cm1, r1, r2, r3, r4, r5, r6, r7, r8, r9⟩ := hrec (he_lv (tk i) + 1) (i + 1) q cm2 st (by omega) (by omega) (by omega) (by omega) hr2 (by omega) (by omega) n12.1 n12.2 q3
      rw [r1, Option.bind_some]
      show ∃ d' h' i' cm', (if i + 2 ≤ i1 then rd_loop C rec (nI lv) m (hd_bin (C i) 0 d d1) (max h hh1 + 1) i1 else none) = some (d', h', i') ∧ _
      rw [if_pos (by omega)]
      obtain ⟨d', h', i', cm', e, a1, a2, a3, a4, a5, a6, a7, a8⟩ := ih (hd_bin (C i) 0 d d1) (max h hh1 + 1) i1 cm1 (by omega) r5 (by omega) (by omega) r4 r6 r7
      exact ⟨d', h', i', cm', e, by omega, a2, a3, a4, a5, a6, a7, ha_In2 (ha_In2 (ha_In2 (ha_In1 hr (by decide) (by decide)) (ha_In1 hr2 (by omega) (by omega)) (Nat.le_refl _)) r9 (Nat.le_refl _)) a8 (by omega)⟩
theorem ha_acc (hK : he_K n k tk mc mn C N) (hA : he_Ac k tk) : ∀ m, ha_E k tk (rd_E C N m) m := by
  intro m
  induction m with
  | zero => intro lv i q cm st _ _ hb hi; omega
  | succ m ih =>
    intro lv i q cm st h1 h6 hb hi hr q1 q4 n1 n2 hq3
    have hk := hK.2.1
    obtain ⟨hlt, q', cm', st', hs, hr2⟩ := ha_nx hA hi hr (by omega)
    show ∃ d h i' cm', (if i ≤ 40 then (if C i = 17 then (if nI lv ≤ 3 then (rd_E C N m 3 (i + 1)).bind fun u => if i + 2 ≤ u.2.2 then rd_loop C (rd_E C N m) (nI lv) 100 (hd_un 17 0 u.1) (u.2.1 + 1) u.2.2 else none else none) else (rd_M C N (rd_E C N m) i).bind fun u => if i + 1 ≤ u.2.2 then rd_loop C (rd_E C N m) (nI lv) 100 u.1 u.2.1 u.2.2 else none) else none) = some (d, h, i') ∧ _
    rw [if_pos (by omega)]
    by_cases h17 : tk i = 17
    · rw [if_pos (ha_Cl 17 17 rfl hK hlt h17)]
      have hs : hg_operand (tk i) q cm st = some (q', cm', st') := by
        unfold hg_step at hs
        rw [if_neg (by omega), if_pos q4] at hs
        exact hs
      obtain ⟨hq, e1, e2, e3⟩ : q ≤ 3 ∧ q' = 3 ∧ cm' = cm ∧ st' = st := by
        rcases hg_operandI hs with ⟨a, _⟩ | ⟨⟨a, _⟩ | ⟨a, a2⟩, e1, e2, e3⟩ | ⟨a, _⟩ | ⟨a, _⟩
        · omega
        · omega
        · exact ⟨a2, e1, e2, e3⟩
        · omega
        · omega
      subst e1 e2 e3
      rw [if_pos (show nI lv ≤ 3 from (nI_leI (b := 3) (by omega) (by omega)).mpr (hq3 hq))]
      have n12 : ¬ tk (i + 1) = 1 ∧ ¬ tk (i + 1) = 2 := by
        obtain ⟨_, q9, cm9, st9, hs9, _⟩ := ha_nx hA (by omega) hr2 (by decide)
        have hs9 : hg_operand (tk (i + 1)) 3 cm' st' = some (q9, cm9, st9) := hs9
        rcases hg_operandI hs9 with ⟨w, w2, _⟩ | ⟨⟨w, w2⟩ | ⟨w, _⟩, _⟩ | ⟨w, _⟩ | ⟨w, _⟩ <;> omega
      obtain ⟨d1, hh1, i1, cm1, r1, r2, r3, r4, r5, r6, r7, r8, r9⟩ := ih 3 (i + 1) 3 cm' st' (by decide) (by decide) (by omega) (by omega) hr2 (by decide) (by decide) n12.1 n12.2 (fun _ => by decide)
      have r1 : rd_E C N m 3 (i + 1) = some (d1, hh1, i1) := r1
      rw [r1, Option.bind_some]
      show ∃ d h i' cm', (if i + 2 ≤ i1 then rd_loop C (rd_E C N m) (nI lv) 100 (hd_un 17 0 d1) (hh1 + 1) i1 else none) = some (d, h, i') ∧ _
      rw [if_pos (by omega)]
      obtain ⟨d', h', i', cm2, e, a1, a2, a3, a4, a5, a6, a7, a8⟩ := ha_L hK hA ih (i0 := i) h1 h6 (by omega) 100 (hd_un 17 0 d1) (hh1 + 1) i1 cm1 (by omega) r5 (by omega) (by omega) r4 r6 r7
      exact ⟨d', h', i', cm2, e, by omega, a2, a3, a4, a5, a6, a7, ha_In2 (ha_In2 (ha_In1 hr2 (by decide) (by decide)) r9 (Nat.le_refl _)) a8 (by omega)⟩
    · rw [if_neg (ha_Cln 17 17 rfl hK hlt (by decide) h17)]
      obtain ⟨d1, hh1, i1, cm1, r1, r2, r3, r4, r5, r6, r7, r8⟩ := ha_M hK hA ih (by omega) hi hr q1 q4 n1 n2 h17
      rw [r1, Option.bind_some]
      show ∃ d h i' cm', (if i + 1 ≤ i1 then rd_loop C (rd_E C N m) (nI lv) 100 d1 hh1 i1 else none) = some (d, h, i') ∧ _
      rw [if_pos (by omega)]
      obtain ⟨d', h', i', cm2, e, a1, a2, a3, a4, a5, a6, a7, a8⟩ := ha_L hK hA ih (i0 := i) h1 h6 (by omega) 100 d1 hh1 i1 cm1 (by omega) r5 (by omega) (by omega) r4 r6 r7
      exact ⟨d', h', i', cm2, e, by omega, a2, a3, a4, a5, a6, a7, ha_In2 r8 a8 (by omega)⟩
end
