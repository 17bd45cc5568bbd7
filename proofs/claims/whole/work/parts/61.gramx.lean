/-! the class's way: places, and brackets without the marks of SELECT and WHERE -/
def hg_pr : List Nat → List Nat
  | [] => []
  | t :: s => if t = 0 ∨ t = 1 then hg_pr s else (if t = 3 then 0 else if t = 2 then 1 else 2) :: hg_pr s
def hg_q (st : List Nat) : Prop := ∀ t ∈ st, t = 3
def hg_e (m : Nat) : List Nat → Prop
  | [] => False
  | t :: s => ((t = 2 ∨ t = 4) ∧ hg_e m s) ∨ (t = m ∧ hg_q s)
def hg_X (p : Nat) (cm : Bool) (st : List Nat) (brk : Nat → Int32) (bc iw cx : Int32) : Prop :=
  hg_M (hg_pr st) brk ∧ bc = nI (hg_pr st).length ∧ (iw = 0 ∨ iw = 1) ∧ (cx = 0 ∨ cx = 1) ∧ ((1 ≤ p ∧ p ≤ 5) → cx = hg_b cm ∧ hg_e (if iw = 1 then 1 else 0) st) ∧ (¬ (1 ≤ p ∧ p ≤ 5) → hg_q st)
def hg_Rx (c p : Nat) (cm : Bool) (st : List Nat) (brk : Nat → Int32) (bc iw cx : Int32) : Prop :=
  (hg_step c p cm st = none ∧ sxt_placeAfter (nI c) brk bc (nI p) iw cx = some (-1)) ∨
  ∃ p' cm' st' brk' bc' iw' cx', hg_step c p cm st = some (p', cm', st') ∧ p' < 9 ∧ sxt_placeAfter (nI c) brk bc (nI p) iw cx = some (nI p') ∧ sxt_remember (nI c) brk bc (nI p) iw cx = some (brk', bc', iw', cx') ∧ hg_X p' cm' st' brk' bc' iw' cx'
theorem hg_open {brk : Nat → Int32} {k : Nat} {pl : Int32} {cm : Bool} (hk : k < 40) (hp : ¬ pl = 6) : sxt_openBracket brk (nI k) pl (hg_b cm) = some (upd brk k (nI (if cm = true then 2 else 1)), nI (k + 1), 0) := by
  have j : ∀ v : Int32, sxt_openBracket_J45 (nI k) v brk (nI k) pl (hg_b cm) = some (upd brk k v, nI (k + 1), 0) := fun v => by
    unfold sxt_openBracket_J45
    rw [if_pos (hb_I hk (by omega)), nI_clamp (by omega), nI_1]
  unfold sxt_openBracket sxt_openBracket_J22
  rw [if_pos (show nI k < 40 from (nI_ltI (b := 40) (by omega) (by omega)).mpr hk), if_neg hp, if_neg hp, j, j]
  cases cm
  · exact if_pos rfl
  · exact if_neg (by decide)
theorem hg_open6 {brk : Nat → Int32} {k : Nat} {cx : Int32} (hk : k < 40) : sxt_openBracket brk (nI k) (nI 6) cx = some (upd brk k (nI 0), nI (k + 1), 0) := by
  have j : sxt_openBracket_J45 (nI k) 0 brk (nI k) (nI 6) cx = some (upd brk k (nI 0), nI (k + 1), 0) := by
    unfold sxt_openBracket_J45
    rw [if_pos (hb_I hk (by omega)), nI_clamp (by omega), nI_1]
    rfl
  unfold sxt_openBracket sxt_openBracket_J22
  rw [if_pos (show nI k < 40 from (nI_ltI (b := 40) (by omega) (by omega)).mpr hk), if_pos (show nI 6 = (6 : Int32) from rfl), if_pos (show nI 6 = (6 : Int32) from rfl), j]
  by_cases h : cx = 0
  · exact if_pos h
  · exact if_neg h
theorem hg_close {brk : Nat → Int32} {k x : Nat} {cx : Int32} (hk : k < 40) (hx : x < 3) (hb : brk k = nI x) : sxt_closeBracket brk (nI (k + 1)) cx = some (nI k, hg_b (decide (x = 2))) := by
  unfold sxt_closeBracket
  rw [if_pos (show 0 < nI (k + 1) from (nI_ltI (a := 0) (by omega) (by omega)).mpr (by omega)), nI_pred, if_pos (hb_I hk (by omega)), nI_clamp (by omega), hb]
  rcases (by omega : x = 0 ∨ x = 1 ∨ x = 2) with rfl | rfl | rfl
  · rfl
  · rfl
  · rfl
theorem hg_inside {brk : Nat → Int32} {k x : Nat} (hk : k < 40) (hx : x < 3) (hb : brk k = nI x) : sxt_isInsideE brk (nI (k + 1)) = some (if x = 0 then 0 else 1) := by
  unfold sxt_isInsideE
  rw [if_neg (nI_nle (by omega) (by omega)), nI_pred, if_pos (hb_I hk (by omega)), nI_clamp (by omega), hb]
  rcases (by omega : x = 0 ∨ x = 1 ∨ x = 2) with rfl | rfl | rfl
  · rfl
  · rfl
  · rfl
theorem hg_outside {brk : Nat → Int32} {s : List Nat} (hq : hg_q s) (hl : (hg_pr s).length ≤ 40) (hM : hg_M (hg_pr s) brk) : sxt_isInsideE brk (nI (hg_pr s).length) = some 0 := by
  cases s with
  | nil => rfl
  | cons t s =>
    have ht : t = 3 := hq t List.mem_cons_self
    subst ht
    have hl : (hg_pr s).length + 1 ≤ 40 := hl
    exact hg_inside (x := 0) (by omega) (by omega) hM.1
def hg_W (c : Nat) (s : List Nat) (brk : Nat → Int32) (bc : Int32) : Prop :=
  ((∀ cm, hg_ends c cm s = none) ∧ sxt_placeAfterWholeSelect (nI c) bc = -1) ∨
  ∃ p' s' bc', (∀ cm, hg_ends c cm s = some (p', cm, s')) ∧ p' < 9 ∧ ¬ (1 ≤ p' ∧ p' ≤ 5) ∧ sxt_placeAfterWholeSelect (nI c) bc = nI p' ∧ hg_q s' ∧ bc' = nI (hg_pr s').length ∧ hg_M (hg_pr s') brk ∧
    ∀ pl iw cx, (cx = 0 ∨ cx = 1) → ∃ cx', sxt_remember (nI c) brk bc pl iw cx = some (brk, bc', iw, cx') ∧ (cx' = 0 ∨ cx' = 1)
theorem hg_wx {c : Nat} {s : List Nat} {brk : Nat → Int32} (hc : c < 25) (hq : hg_q s) (hl : (hg_pr s).length ≤ 40) (hM : hg_M (hg_pr s) brk) : hg_W c s brk (nI (hg_pr s).length) := by
  cases s with
  | nil =>
    rcases hg_c hc with rfl | rfl | rfl | rfl | rfl | rfl | rfl | rfl | rfl | rfl | rfl | rfl | rfl | rfl | rfl | rfl | rfl | rfl | rfl | rfl | rfl | rfl | rfl | rfl | rfl
    · exact Or.inl ⟨fun _ => rfl, rfl⟩
    · exact Or.inl ⟨fun _ => rfl, rfl⟩
    · exact Or.inl ⟨fun _ => rfl, rfl⟩
    · exact Or.inl ⟨fun _ => rfl, rfl⟩
    · exact Or.inl ⟨fun _ => rfl, rfl⟩
    · exact Or.inr ⟨0, [], _, fun _ => rfl, by decide, by decide, rfl, hq, rfl, hM, fun pl iw cx h => ⟨cx, rfl, h⟩⟩
    · exact Or.inl ⟨fun _ => rfl, rfl⟩
    · exact Or.inl ⟨fun _ => rfl, rfl⟩
    · exact Or.inl ⟨fun _ => rfl, rfl⟩
    · exact Or.inl ⟨fun _ => rfl, rfl⟩
    · exact Or.inl ⟨fun _ => rfl, rfl⟩
    · exact Or.inl ⟨fun _ => rfl, rfl⟩
    · exact Or.inl ⟨fun _ => rfl, rfl⟩
    · exact Or.inl ⟨fun _ => rfl, rfl⟩
    · exact Or.inl ⟨fun _ => rfl, rfl⟩
    · exact Or.inl ⟨fun _ => rfl, rfl⟩
    · exact Or.inl ⟨fun _ => rfl, rfl⟩
    · exact Or.inl ⟨fun _ => rfl, rfl⟩
    · exact Or.inl ⟨fun _ => rfl, rfl⟩
    · exact Or.inl ⟨fun _ => rfl, rfl⟩
    · exact Or.inl ⟨fun _ => rfl, rfl⟩
    · exact Or.inl ⟨fun _ => rfl, rfl⟩
    · exact Or.inl ⟨fun _ => rfl, rfl⟩
    · exact Or.inl ⟨fun _ => rfl, rfl⟩
    · exact Or.inr ⟨8, [], _, fun _ => rfl, by decide, by decide, rfl, hq, rfl, hM, fun pl iw cx h => ⟨cx, rfl, h⟩⟩
  | cons t s =>
    have ht : t = 3 := hq t List.mem_cons_self
    subst ht
    have hl : (hg_pr s).length + 1 ≤ 40 := hl
    have hq2 : hg_q s := fun x hx => hq x (List.mem_cons_of_mem _ hx)
    show hg_W c (3 :: s) brk (nI ((hg_pr s).length + 1))
    have hb : brk (hg_pr s).length = nI 0 := hM.1
    have e0 : ¬ nI ((hg_pr s).length + 1) ≤ 0 := nI_nle (by omega) (by omega)
    have e1 : ¬ nI ((hg_pr s).length + 1) = 0 := nI_ne0 (by omega) (by omega)
    rcases hg_c hc with rfl | rfl | rfl | rfl | rfl | rfl | rfl | rfl | rfl | rfl | rfl | rfl | rfl | rfl | rfl | rfl | rfl | rfl | rfl | rfl | rfl | rfl | rfl | rfl | rfl
    · exact Or.inl ⟨fun _ => rfl, rfl⟩
    · exact Or.inl ⟨fun _ => rfl, rfl⟩
    · exact Or.inl ⟨fun _ => rfl, rfl⟩
    · exact Or.inl ⟨fun _ => rfl, rfl⟩
    · exact Or.inl ⟨fun _ => rfl, rfl⟩
    · exact Or.inr ⟨0, 3 :: s, _, fun _ => rfl, by decide, by decide, rfl, hq, rfl, hM, fun pl iw cx h => ⟨cx, rfl, h⟩⟩
    · exact Or.inl ⟨fun _ => rfl, rfl⟩
    · refine Or.inr ⟨7, s, nI (hg_pr s).length, fun _ => rfl, by decide, by decide, ?_, hq2, rfl, hM.2, fun pl iw cx h => ⟨0, ?_, Or.inl rfl⟩⟩
      · show (if nI ((hg_pr s).length + 1) ≤ 0 then (-1 : Int32) else 7) = 7
        exact if_neg e0
      · show ((sxt_closeBracket brk (nI ((hg_pr s).length + 1)) cx).bind fun v => some (brk, v.1, iw, v.2)) = _
        rw [hg_close (x := 0) (by omega) (by omega) hb]
        rfl
    · exact Or.inl ⟨fun _ => rfl, rfl⟩
    · exact Or.inl ⟨fun _ => rfl, rfl⟩
    · exact Or.inl ⟨fun _ => rfl, rfl⟩
    · exact Or.inl ⟨fun _ => rfl, rfl⟩
    · exact Or.inl ⟨fun _ => rfl, rfl⟩
    · exact Or.inl ⟨fun _ => rfl, rfl⟩
    · exact Or.inl ⟨fun _ => rfl, rfl⟩
    · exact Or.inl ⟨fun _ => rfl, rfl⟩
    · exact Or.inl ⟨fun _ => rfl, rfl⟩
    · exact Or.inl ⟨fun _ => rfl, rfl⟩
    · exact Or.inl ⟨fun _ => rfl, rfl⟩
    · exact Or.inl ⟨fun _ => rfl, rfl⟩
    · exact Or.inl ⟨fun _ => rfl, rfl⟩
    · exact Or.inl ⟨fun _ => rfl, rfl⟩
    · exact Or.inl ⟨fun _ => rfl, rfl⟩
    · exact Or.inl ⟨fun _ => rfl, rfl⟩
    · refine Or.inl ⟨fun _ => rfl, ?_⟩
      show (if nI ((hg_pr s).length + 1) = 0 then (8 : Int32) else -1) = -1
      exact if_neg e1
theorem hg_x0 {c : Nat} {cm : Bool} {st : List Nat} {brk : Nat → Int32} {bc iw cx : Int32} (hc : c < 25) (hl : (hg_pr st).length < 40) (hX : hg_X 0 cm st brk bc iw cx) : hg_Rx c 0 cm st brk bc iw cx := by
  obtain ⟨hM, hbc, hiw, hcx, h1, h2⟩ := hX
  have hq := h2 (by decide)
  rcases hg_c hc with rfl | rfl | rfl | rfl | rfl | rfl | rfl | rfl | rfl | rfl | rfl | rfl | rfl | rfl | rfl | rfl | rfl | rfl | rfl | rfl | rfl | rfl | rfl | rfl | rfl
  · exact Or.inr ⟨1, false, 0 :: st, brk, bc, 0, 0, rfl, by decide, rfl, rfl, hM, hbc, Or.inl rfl, Or.inl rfl, fun _ => ⟨rfl, Or.inr ⟨rfl, hq⟩⟩, fun h => absurd ⟨by decide, by decide⟩ h⟩
  · exact Or.inl ⟨rfl, rfl⟩
  · exact Or.inl ⟨rfl, rfl⟩
  · exact Or.inl ⟨rfl, rfl⟩
  · exact Or.inl ⟨rfl, rfl⟩
  · exact Or.inl ⟨rfl, rfl⟩
  · exact Or.inl ⟨rfl, rfl⟩
  · exact Or.inl ⟨rfl, rfl⟩
  · exact Or.inl ⟨rfl, rfl⟩
  · exact Or.inl ⟨rfl, rfl⟩
  · exact Or.inl ⟨rfl, rfl⟩
  · exact Or.inl ⟨rfl, rfl⟩
  · exact Or.inl ⟨rfl, rfl⟩
  · exact Or.inl ⟨rfl, rfl⟩
  · exact Or.inl ⟨rfl, rfl⟩
  · exact Or.inl ⟨rfl, rfl⟩
  · exact Or.inl ⟨rfl, rfl⟩
  · exact Or.inl ⟨rfl, rfl⟩
  · exact Or.inl ⟨rfl, rfl⟩
  · exact Or.inl ⟨rfl, rfl⟩
  · exact Or.inl ⟨rfl, rfl⟩
  · exact Or.inl ⟨rfl, rfl⟩
  · exact Or.inl ⟨rfl, rfl⟩
  · exact Or.inl ⟨rfl, rfl⟩
  · exact Or.inl ⟨rfl, rfl⟩
theorem hg_x1 {c : Nat} {cm : Bool} {st : List Nat} {brk : Nat → Int32} {bc iw cx : Int32} (hc : c < 25) (hl : (hg_pr st).length < 40) (hX : hg_X 1 cm st brk bc iw cx) : hg_Rx c 1 cm st brk bc iw cx := by
  obtain ⟨hM, hbc, hiw, hcx, h1, h2⟩ := hX
  have he := h1 ⟨by decide, by decide⟩
  rcases hg_c hc with rfl | rfl | rfl | rfl | rfl | rfl | rfl | rfl | rfl | rfl | rfl | rfl | rfl | rfl | rfl | rfl | rfl | rfl | rfl | rfl | rfl | rfl | rfl | rfl | rfl
  · exact Or.inl ⟨rfl, rfl⟩
  · exact Or.inr ⟨2, cm, st, brk, bc, iw, cx, rfl, by decide, rfl, rfl, hM, hbc, hiw, hcx, fun _ => he, fun h => absurd ⟨by decide, by decide⟩ h⟩
  · exact Or.inr ⟨3, cm, st, brk, bc, iw, cx, rfl, by decide, rfl, rfl, hM, hbc, hiw, hcx, fun _ => he, fun h => absurd ⟨by decide, by decide⟩ h⟩
  · exact Or.inl ⟨rfl, rfl⟩
  · exact Or.inl ⟨rfl, rfl⟩
  · exact Or.inl ⟨rfl, rfl⟩
  · obtain ⟨hc1, he⟩ := he
    subst hc1; subst hbc
    refine Or.inr ⟨3, false, (if cm = true then 4 else 2) :: st, upd brk (hg_pr st).length (nI (if cm = true then 2 else 1)), nI ((hg_pr st).length + 1), iw, 0, rfl, by decide, rfl, ?_, ?_, ?_, hiw, Or.inl rfl, fun _ => ⟨rfl, Or.inl ⟨?_, he⟩⟩, fun h => absurd ⟨by decide, by decide⟩ h⟩
    · show ((sxt_openBracket brk (nI (hg_pr st).length) (nI 1) (hg_b cm)).bind fun v => some (v.1, v.2.1, iw, v.2.2)) = _
      rw [hg_open hl (by decide)]
      rfl
    · cases cm
      · exact ⟨pk_us, hg_M_upd _ (Nat.le_refl _) hM⟩
      · exact ⟨pk_us, hg_M_upd _ (Nat.le_refl _) hM⟩
    · cases cm <;> rfl
    · cases cm
      · exact Or.inl rfl
      · exact Or.inr rfl
  · exact Or.inl ⟨rfl, rfl⟩
  · exact Or.inl ⟨rfl, rfl⟩
  · exact Or.inl ⟨rfl, rfl⟩
  · exact Or.inr ⟨5, cm, st, brk, bc, iw, cx, rfl, by decide, rfl, rfl, hM, hbc, hiw, hcx, fun _ => he, fun h => absurd ⟨by decide, by decide⟩ h⟩
  · exact Or.inr ⟨5, cm, st, brk, bc, iw, cx, rfl, by decide, rfl, rfl, hM, hbc, hiw, hcx, fun _ => he, fun h => absurd ⟨by decide, by decide⟩ h⟩
  · exact Or.inr ⟨5, cm, st, brk, bc, iw, cx, rfl, by decide, rfl, rfl, hM, hbc, hiw, hcx, fun _ => he, fun h => absurd ⟨by decide, by decide⟩ h⟩
  · exact Or.inl ⟨rfl, rfl⟩
  · exact Or.inl ⟨rfl, rfl⟩
  · exact Or.inl ⟨rfl, rfl⟩
  · exact Or.inl ⟨rfl, rfl⟩
  · exact Or.inr ⟨3, cm, st, brk, bc, iw, cx, rfl, by decide, rfl, rfl, hM, hbc, hiw, hcx, fun _ => he, fun h => absurd ⟨by decide, by decide⟩ h⟩
  · exact Or.inl ⟨rfl, rfl⟩
  · exact Or.inl ⟨rfl, rfl⟩
  · exact Or.inl ⟨rfl, rfl⟩
  · exact Or.inl ⟨rfl, rfl⟩
  · exact Or.inl ⟨rfl, rfl⟩
  · exact Or.inl ⟨rfl, rfl⟩
  · exact Or.inl ⟨rfl, rfl⟩
theorem hg_x2 {c : Nat} {cm : Bool} {st : List Nat} {brk : Nat → Int32} {bc iw cx : Int32} (hc : c < 25) (hl : (hg_pr st).length < 40) (hX : hg_X 2 cm st brk bc iw cx) : hg_Rx c 2 cm st brk bc iw cx := by
  obtain ⟨hM, hbc, hiw, hcx, h1, h2⟩ := hX
  have he := h1 ⟨by decide, by decide⟩
  rcases hg_c hc with rfl | rfl | rfl | rfl | rfl | rfl | rfl | rfl | rfl | rfl | rfl | rfl | rfl | rfl | rfl | rfl | rfl | rfl | rfl | rfl | rfl | rfl | rfl | rfl | rfl
  · exact Or.inl ⟨rfl, rfl⟩
  · exact Or.inl ⟨rfl, rfl⟩
  · exact Or.inr ⟨3, cm, st, brk, bc, iw, cx, rfl, by decide, rfl, rfl, hM, hbc, hiw, hcx, fun _ => he, fun h => absurd ⟨by decide, by decide⟩ h⟩
  · exact Or.inl ⟨rfl, rfl⟩
  · exact Or.inl ⟨rfl, rfl⟩
  · exact Or.inl ⟨rfl, rfl⟩
  · obtain ⟨hc1, he⟩ := he
    subst hc1; subst hbc
    refine Or.inr ⟨3, false, (if cm = true then 4 else 2) :: st, upd brk (hg_pr st).length (nI (if cm = true then 2 else 1)), nI ((hg_pr st).length + 1), iw, 0, rfl, by decide, rfl, ?_, ?_, ?_, hiw, Or.inl rfl, fun _ => ⟨rfl, Or.inl ⟨?_, he⟩⟩, fun h => absurd ⟨by decide, by decide⟩ h⟩
    · show ((sxt_openBracket brk (nI (hg_pr st).length) (nI 2) (hg_b cm)).bind fun v => some (v.1, v.2.1, iw, v.2.2)) = _
      rw [hg_open hl (by decide)]
      rfl
    · cases cm
      · exact ⟨pk_us, hg_M_upd _ (Nat.le_refl _) hM⟩
      · exact ⟨pk_us, hg_M_upd _ (Nat.le_refl _) hM⟩
    · cases cm <;> rfl
    · cases cm
      · exact Or.inl rfl
      · exact Or.inr rfl
  · exact Or.inl ⟨rfl, rfl⟩
  · exact Or.inl ⟨rfl, rfl⟩
  · exact Or.inl ⟨rfl, rfl⟩
  · exact Or.inr ⟨5, cm, st, brk, bc, iw, cx, rfl, by decide, rfl, rfl, hM, hbc, hiw, hcx, fun _ => he, fun h => absurd ⟨by decide, by decide⟩ h⟩
  · exact Or.inr ⟨5, cm, st, brk, bc, iw, cx, rfl, by decide, rfl, rfl, hM, hbc, hiw, hcx, fun _ => he, fun h => absurd ⟨by decide, by decide⟩ h⟩
  · exact Or.inr ⟨5, cm, st, brk, bc, iw, cx, rfl, by decide, rfl, rfl, hM, hbc, hiw, hcx, fun _ => he, fun h => absurd ⟨by decide, by decide⟩ h⟩
  · exact Or.inl ⟨rfl, rfl⟩
  · exact Or.inl ⟨rfl, rfl⟩
  · exact Or.inl ⟨rfl, rfl⟩
  · exact Or.inl ⟨rfl, rfl⟩
  · exact Or.inr ⟨3, cm, st, brk, bc, iw, cx, rfl, by decide, rfl, rfl, hM, hbc, hiw, hcx, fun _ => he, fun h => absurd ⟨by decide, by decide⟩ h⟩
  · exact Or.inl ⟨rfl, rfl⟩
  · exact Or.inl ⟨rfl, rfl⟩
  · exact Or.inl ⟨rfl, rfl⟩
  · exact Or.inl ⟨rfl, rfl⟩
  · exact Or.inl ⟨rfl, rfl⟩
  · exact Or.inl ⟨rfl, rfl⟩
  · exact Or.inl ⟨rfl, rfl⟩
theorem hg_x3 {c : Nat} {cm : Bool} {st : List Nat} {brk : Nat → Int32} {bc iw cx : Int32} (hc : c < 25) (hl : (hg_pr st).length < 40) (hX : hg_X 3 cm st brk bc iw cx) : hg_Rx c 3 cm st brk bc iw cx := by
  obtain ⟨hM, hbc, hiw, hcx, h1, h2⟩ := hX
  have he := h1 ⟨by decide, by decide⟩
  rcases hg_c hc with rfl | rfl | rfl | rfl | rfl | rfl | rfl | rfl | rfl | rfl | rfl | rfl | rfl | rfl | rfl | rfl | rfl | rfl | rfl | rfl | rfl | rfl | rfl | rfl | rfl
  · exact Or.inl ⟨rfl, rfl⟩
  · exact Or.inl ⟨rfl, rfl⟩
  · exact Or.inl ⟨rfl, rfl⟩
  · exact Or.inl ⟨rfl, rfl⟩
  · exact Or.inl ⟨rfl, rfl⟩
  · exact Or.inl ⟨rfl, rfl⟩
  · obtain ⟨hc1, he⟩ := he
    subst hc1; subst hbc
    refine Or.inr ⟨3, false, (if cm = true then 4 else 2) :: st, upd brk (hg_pr st).length (nI (if cm = true then 2 else 1)), nI ((hg_pr st).length + 1), iw, 0, rfl, by decide, rfl, ?_, ?_, ?_, hiw, Or.inl rfl, fun _ => ⟨rfl, Or.inl ⟨?_, he⟩⟩, fun h => absurd ⟨by decide, by decide⟩ h⟩
    · show ((sxt_openBracket brk (nI (hg_pr st).length) (nI 3) (hg_b cm)).bind fun v => some (v.1, v.2.1, iw, v.2.2)) = _
      rw [hg_open hl (by decide)]
      rfl
    · cases cm
      · exact ⟨pk_us, hg_M_upd _ (Nat.le_refl _) hM⟩
      · exact ⟨pk_us, hg_M_upd _ (Nat.le_refl _) hM⟩
    · cases cm <;> rfl
    · cases cm
      · exact Or.inl rfl
      · exact Or.inr rfl
  · exact Or.inl ⟨rfl, rfl⟩
  · exact Or.inl ⟨rfl, rfl⟩
  · exact Or.inl ⟨rfl, rfl⟩
  · exact Or.inr ⟨5, cm, st, brk, bc, iw, cx, rfl, by decide, rfl, rfl, hM, hbc, hiw, hcx, fun _ => he, fun h => absurd ⟨by decide, by decide⟩ h⟩
  · exact Or.inr ⟨5, cm, st, brk, bc, iw, cx, rfl, by decide, rfl, rfl, hM, hbc, hiw, hcx, fun _ => he, fun h => absurd ⟨by decide, by decide⟩ h⟩
  · exact Or.inr ⟨5, cm, st, brk, bc, iw, cx, rfl, by decide, rfl, rfl, hM, hbc, hiw, hcx, fun _ => he, fun h => absurd ⟨by decide, by decide⟩ h⟩
  · exact Or.inl ⟨rfl, rfl⟩
  · exact Or.inl ⟨rfl, rfl⟩
  · exact Or.inl ⟨rfl, rfl⟩
  · exact Or.inl ⟨rfl, rfl⟩
  · exact Or.inr ⟨3, cm, st, brk, bc, iw, cx, rfl, by decide, rfl, rfl, hM, hbc, hiw, hcx, fun _ => he, fun h => absurd ⟨by decide, by decide⟩ h⟩
  · exact Or.inl ⟨rfl, rfl⟩
  · exact Or.inl ⟨rfl, rfl⟩
  · exact Or.inl ⟨rfl, rfl⟩
  · exact Or.inl ⟨rfl, rfl⟩
  · exact Or.inl ⟨rfl, rfl⟩
  · exact Or.inl ⟨rfl, rfl⟩
  · exact Or.inl ⟨rfl, rfl⟩
theorem hg_x4 {c : Nat} {cm : Bool} {st : List Nat} {brk : Nat → Int32} {bc iw cx : Int32} (hc : c < 25) (hl : (hg_pr st).length < 40) (hX : hg_X 4 cm st brk bc iw cx) : hg_Rx c 4 cm st brk bc iw cx := by
  obtain ⟨hM, hbc, hiw, hcx, h1, h2⟩ := hX
  have he := h1 ⟨by decide, by decide⟩
  rcases hg_c hc with rfl | rfl | rfl | rfl | rfl | rfl | rfl | rfl | rfl | rfl | rfl | rfl | rfl | rfl | rfl | rfl | rfl | rfl | rfl | rfl | rfl | rfl | rfl | rfl | rfl
  · exact Or.inl ⟨rfl, rfl⟩
  · exact Or.inl ⟨rfl, rfl⟩
  · exact Or.inl ⟨rfl, rfl⟩
  · exact Or.inl ⟨rfl, rfl⟩
  · exact Or.inl ⟨rfl, rfl⟩
  · exact Or.inl ⟨rfl, rfl⟩
  · obtain ⟨hc1, he⟩ := he
    subst hc1; subst hbc
    refine Or.inr ⟨3, false, (if cm = true then 4 else 2) :: st, upd brk (hg_pr st).length (nI (if cm = true then 2 else 1)), nI ((hg_pr st).length + 1), iw, 0, rfl, by decide, rfl, ?_, ?_, ?_, hiw, Or.inl rfl, fun _ => ⟨rfl, Or.inl ⟨?_, he⟩⟩, fun h => absurd ⟨by decide, by decide⟩ h⟩
    · show ((sxt_openBracket brk (nI (hg_pr st).length) (nI 4) (hg_b cm)).bind fun v => some (v.1, v.2.1, iw, v.2.2)) = _
      rw [hg_open hl (by decide)]
      rfl
    · cases cm
      · exact ⟨pk_us, hg_M_upd _ (Nat.le_refl _) hM⟩
      · exact ⟨pk_us, hg_M_upd _ (Nat.le_refl _) hM⟩
    · cases cm <;> rfl
    · cases cm
      · exact Or.inl rfl
      · exact Or.inr rfl
  · exact Or.inl ⟨rfl, rfl⟩
  · exact Or.inl ⟨rfl, rfl⟩
  · exact Or.inl ⟨rfl, rfl⟩
  · exact Or.inr ⟨5, cm, st, brk, bc, iw, cx, rfl, by decide, rfl, rfl, hM, hbc, hiw, hcx, fun _ => he, fun h => absurd ⟨by decide, by decide⟩ h⟩
  · exact Or.inr ⟨5, cm, st, brk, bc, iw, cx, rfl, by decide, rfl, rfl, hM, hbc, hiw, hcx, fun _ => he, fun h => absurd ⟨by decide, by decide⟩ h⟩
  · exact Or.inr ⟨5, cm, st, brk, bc, iw, cx, rfl, by decide, rfl, rfl, hM, hbc, hiw, hcx, fun _ => he, fun h => absurd ⟨by decide, by decide⟩ h⟩
  · exact Or.inl ⟨rfl, rfl⟩
  · exact Or.inl ⟨rfl, rfl⟩
  · exact Or.inl ⟨rfl, rfl⟩
  · exact Or.inl ⟨rfl, rfl⟩
  · exact Or.inl ⟨rfl, rfl⟩
  · exact Or.inl ⟨rfl, rfl⟩
  · exact Or.inl ⟨rfl, rfl⟩
  · exact Or.inl ⟨rfl, rfl⟩
  · exact Or.inl ⟨rfl, rfl⟩
  · exact Or.inl ⟨rfl, rfl⟩
  · exact Or.inl ⟨rfl, rfl⟩
  · exact Or.inl ⟨rfl, rfl⟩
theorem hg_x6 {c : Nat} {cm : Bool} {st : List Nat} {brk : Nat → Int32} {bc iw cx : Int32} (hc : c < 25) (hl : (hg_pr st).length < 40) (hX : hg_X 6 cm st brk bc iw cx) : hg_Rx c 6 cm st brk bc iw cx := by
  obtain ⟨hM, hbc, hiw, hcx, h1, h2⟩ := hX
  have hq := h2 (by decide)
  rcases hg_c hc with rfl | rfl | rfl | rfl | rfl | rfl | rfl | rfl | rfl | rfl | rfl | rfl | rfl | rfl | rfl | rfl | rfl | rfl | rfl | rfl | rfl | rfl | rfl | rfl | rfl
  · exact Or.inl ⟨rfl, rfl⟩
  · exact Or.inl ⟨rfl, rfl⟩
  · exact Or.inl ⟨rfl, rfl⟩
  · exact Or.inl ⟨rfl, rfl⟩
  · exact Or.inl ⟨rfl, rfl⟩
  · exact Or.inl ⟨rfl, rfl⟩
  · subst hbc
    refine Or.inr ⟨0, cm, 3 :: st, upd brk (hg_pr st).length (nI 0), nI ((hg_pr st).length + 1), iw, 0, rfl, by decide, rfl, ?_, ⟨pk_us, hg_M_upd _ (Nat.le_refl _) hM⟩, rfl, hiw, Or.inl rfl, fun h => absurd h (by decide), fun _ t ht => ?_⟩
    · show ((sxt_openBracket brk (nI (hg_pr st).length) (nI 6) cx).bind fun v => some (v.1, v.2.1, iw, v.2.2)) = _
      rw [hg_open6 hl]
      rfl
    · rcases List.mem_cons.mp ht with h | h
      · exact h
      · exact hq t h
  · exact Or.inl ⟨rfl, rfl⟩
  · exact Or.inr ⟨7, cm, st, brk, bc, iw, cx, rfl, by decide, rfl, rfl, hM, hbc, hiw, hcx, fun h => absurd h (by decide), fun _ => hq⟩
  · exact Or.inr ⟨7, cm, st, brk, bc, iw, cx, rfl, by decide, rfl, rfl, hM, hbc, hiw, hcx, fun h => absurd h (by decide), fun _ => hq⟩
  · exact Or.inl ⟨rfl, rfl⟩
  · exact Or.inl ⟨rfl, rfl⟩
  · exact Or.inl ⟨rfl, rfl⟩
  · exact Or.inl ⟨rfl, rfl⟩
  · exact Or.inl ⟨rfl, rfl⟩
  · exact Or.inl ⟨rfl, rfl⟩
  · exact Or.inl ⟨rfl, rfl⟩
  · exact Or.inl ⟨rfl, rfl⟩
  · exact Or.inl ⟨rfl, rfl⟩
  · exact Or.inl ⟨rfl, rfl⟩
  · exact Or.inl ⟨rfl, rfl⟩
  · exact Or.inl ⟨rfl, rfl⟩
  · exact Or.inl ⟨rfl, rfl⟩
  · exact Or.inl ⟨rfl, rfl⟩
  · exact Or.inl ⟨rfl, rfl⟩
theorem hg_x8 {c : Nat} {cm : Bool} {st : List Nat} {brk : Nat → Int32} {bc iw cx : Int32} (hc : c < 25) (hl : (hg_pr st).length < 40) (hX : hg_X 8 cm st brk bc iw cx) : hg_Rx c 8 cm st brk bc iw cx := by
  obtain ⟨hM, hbc, hiw, hcx, h1, h2⟩ := hX
  have hq := h2 (by decide)
  rcases hg_c hc with rfl | rfl | rfl | rfl | rfl | rfl | rfl | rfl | rfl | rfl | rfl | rfl | rfl | rfl | rfl | rfl | rfl | rfl | rfl | rfl | rfl | rfl | rfl | rfl | rfl
  · exact Or.inl ⟨rfl, rfl⟩
  · exact Or.inl ⟨rfl, rfl⟩
  · exact Or.inl ⟨rfl, rfl⟩
  · exact Or.inl ⟨rfl, rfl⟩
  · exact Or.inl ⟨rfl, rfl⟩
  · exact Or.inl ⟨rfl, rfl⟩
  · exact Or.inl ⟨rfl, rfl⟩
  · exact Or.inl ⟨rfl, rfl⟩
  · exact Or.inl ⟨rfl, rfl⟩
  · exact Or.inl ⟨rfl, rfl⟩
  · exact Or.inl ⟨rfl, rfl⟩
  · exact Or.inl ⟨rfl, rfl⟩
  · exact Or.inl ⟨rfl, rfl⟩
  · exact Or.inl ⟨rfl, rfl⟩
  · exact Or.inl ⟨rfl, rfl⟩
  · exact Or.inl ⟨rfl, rfl⟩
  · exact Or.inl ⟨rfl, rfl⟩
  · exact Or.inl ⟨rfl, rfl⟩
  · exact Or.inl ⟨rfl, rfl⟩
  · exact Or.inl ⟨rfl, rfl⟩
  · exact Or.inl ⟨rfl, rfl⟩
  · exact Or.inl ⟨rfl, rfl⟩
  · exact Or.inl ⟨rfl, rfl⟩
  · exact Or.inl ⟨rfl, rfl⟩
  · exact Or.inl ⟨rfl, rfl⟩
theorem hg_x7 {c : Nat} {cm : Bool} {st : List Nat} {brk : Nat → Int32} {bc iw cx : Int32} (hc : c < 25) (hl : (hg_pr st).length < 40) (hX : hg_X 7 cm st brk bc iw cx) : hg_Rx c 7 cm st brk bc iw cx := by
  obtain ⟨hM, hbc, hiw, hcx, h1, h2⟩ := hX
  have hq := h2 (by decide)
  by_cases h4 : c = 4
  · subst h4
    exact Or.inr ⟨3, false, 1 :: st, brk, bc, 1, 0, rfl, by decide, rfl, rfl, hM, hbc, Or.inr rfl, Or.inl rfl, fun _ => ⟨rfl, Or.inr ⟨rfl, hq⟩⟩, fun h => absurd ⟨by decide, by decide⟩ h⟩
  · have e : hg_step c 7 cm st = hg_ends c cm st := if_neg h4
    have e4 : ¬ nI c = 4 := fun q => h4 ((nI_eq (b := 4) (by omega) (by omega)).mp q)
    have g : sxt_placeAfter (nI c) brk bc (nI 7) iw cx = some (sxt_placeAfterWholeSelect (nI c) bc) := by
      show (if nI c = 4 then some (3 : Int32) else some (sxt_placeAfterWholeSelect (nI c) bc)) = _
      exact if_neg e4
    subst hbc
    rcases hg_wx (brk := brk) hc hq (by omega) hM with ⟨a, b⟩ | ⟨p', s', bc', a1, a2, a3, a4, a5, a6, a7, a8⟩
    · exact Or.inl ⟨e.trans (a cm), by rw [g, b]⟩
    · obtain ⟨cx', b1, b2⟩ := a8 (nI 7) iw cx hcx
      exact Or.inr ⟨p', cm, s', brk, bc', iw, cx', e.trans (a1 cm), a2, by rw [g, a4], b1, a7, a6, hiw, b2, fun h => absurd h a3, fun _ => a5⟩
theorem hg_x5 {c : Nat} {cm : Bool} {st : List Nat} {brk : Nat → Int32} {bc iw cx : Int32} (hc : c < 25) (hl : (hg_pr st).length < 40) (hX : hg_X 5 cm st brk bc iw cx) : hg_Rx c 5 cm st brk bc iw cx := by
  obtain ⟨hM, hbc, hiw, hcx, h1, h2⟩ := hX
  have he := h1 ⟨by decide, by decide⟩
  obtain ⟨hc1, he0⟩ := he
  cases st with
  | nil => exact absurd he0 (fun h => h)
  | cons t s =>
    have pa : ∀ v : Int32, sxt_placeAfterE (nI c) brk bc iw = some v → (c < 13 ∨ c = 17 ∨ c = 24) → sxt_placeAfter (nI c) brk bc (nI 5) iw cx = some v := fun v hv hcc => by
      have g : (c < 13 ∨ c = 17 ∨ c = 24) → sxt_placeAfter (nI c) brk bc (nI 5) iw cx = (((sxt_placeAfterE (nI c) brk bc iw).bind fun v => some v).bind fun v => some v) := fun hcc => by
        rcases hg_c hc with rfl | rfl | rfl | rfl | rfl | rfl | rfl | rfl | rfl | rfl | rfl | rfl | rfl | rfl | rfl | rfl | rfl | rfl | rfl | rfl | rfl | rfl | rfl | rfl | rfl
        all_goals first | rfl | (exfalso; omega)
      rw [g hcc, hv]
      rfl
    rcases he0 with ⟨ht, he1⟩ | ⟨ht, hq⟩
    · obtain ⟨x, hx, hpr, hx2, hs⟩ : ∃ x, x < 3 ∧ hg_pr (t :: s) = x :: hg_pr s ∧ ¬ x = 0 ∧ ((t = 2 ∧ x = 1) ∨ (t = 4 ∧ x = 2)) := by
        rcases ht with rfl | rfl
        · exact ⟨1, by decide, rfl, by decide, Or.inl ⟨rfl, rfl⟩⟩
        · exact ⟨2, by decide, rfl, by decide, Or.inr ⟨rfl, rfl⟩⟩
      rw [hpr] at hM hl hbc
      have hl : (hg_pr s).length + 1 < 40 := hl
      have hbc2 : bc = nI ((hg_pr s).length + 1) := hbc
      have hbc3 : bc = nI (hg_pr (t :: s)).length := by rw [hpr]; exact hbc
      have hM3 : hg_M (hg_pr (t :: s)) brk := by rw [hpr]; exact hM
      have pe : ∀ v : Int32, (if nI c = 7 then some (5 : Int32) else some (-1)) = some v → sxt_placeAfterE (nI c) brk bc iw = some v := fun v hv => by
        unfold sxt_placeAfterE
        rw [hbc2, hg_inside (by omega) hx hM.1, if_neg hx2]
        exact hv
      rcases hg_c hc with rfl | rfl | rfl | rfl | rfl | rfl | rfl | rfl | rfl | rfl | rfl | rfl | rfl | rfl | rfl | rfl | rfl | rfl | rfl | rfl | rfl | rfl | rfl | rfl | rfl
      · refine Or.inl ⟨?_, pa _ (pe _ rfl) (by decide)⟩
        rcases ht with rfl | rfl <;> rfl
      · refine Or.inl ⟨?_, pa _ (pe _ rfl) (by decide)⟩
        rcases ht with rfl | rfl <;> rfl
      · refine Or.inl ⟨?_, pa _ (pe _ rfl) (by decide)⟩
        rcases ht with rfl | rfl <;> rfl
      · refine Or.inl ⟨?_, pa _ (pe _ rfl) (by decide)⟩
        rcases ht with rfl | rfl <;> rfl
      · refine Or.inl ⟨?_, pa _ (pe _ rfl) (by decide)⟩
        rcases ht with rfl | rfl <;> rfl
      · refine Or.inl ⟨?_, pa _ (pe _ rfl) (by decide)⟩
        rcases ht with rfl | rfl <;> rfl
      · refine Or.inl ⟨?_, pa _ (pe _ rfl) (by decide)⟩
        rcases ht with rfl | rfl <;> rfl
      · refine Or.inr ⟨5, decide (x = 2), s, brk, nI (hg_pr s).length, iw, hg_b (decide (x = 2)), ?_, by decide, pa _ (pe _ rfl) (by decide), ?_, hM.2, rfl, hiw, ?_, fun _ => ⟨rfl, he1⟩, fun h => absurd ⟨by decide, by decide⟩ h⟩
        · rcases hs with ⟨rfl, rfl⟩ | ⟨rfl, rfl⟩ <;> rfl
        · show ((sxt_closeBracket brk bc cx).bind fun v => some (brk, v.1, iw, v.2)) = _
          rw [hbc2, hg_close (by omega) hx hM.1]
          rfl
        · cases decide (x = 2)
          · exact Or.inl rfl
          · exact Or.inr rfl
      · refine Or.inl ⟨?_, pa _ (pe _ rfl) (by decide)⟩
        rcases ht with rfl | rfl <;> rfl
      · refine Or.inl ⟨?_, pa _ (pe _ rfl) (by decide)⟩
        rcases ht with rfl | rfl <;> rfl
      · refine Or.inl ⟨?_, pa _ (pe _ rfl) (by decide)⟩
        rcases ht with rfl | rfl <;> rfl
      · refine Or.inl ⟨?_, pa _ (pe _ rfl) (by decide)⟩
        rcases ht with rfl | rfl <;> rfl
      · refine Or.inl ⟨?_, pa _ (pe _ rfl) (by decide)⟩
        rcases ht with rfl | rfl <;> rfl
      · exact Or.inr ⟨5, cm, t :: s, brk, bc, iw, cx, rfl, by decide, rfl, rfl, hM3, hbc3, hiw, hcx, fun _ => ⟨hc1, Or.inl ⟨ht, he1⟩⟩, fun h => absurd ⟨by decide, by decide⟩ h⟩
      · exact Or.inr ⟨5, cm, t :: s, brk, bc, iw, cx, rfl, by decide, rfl, rfl, hM3, hbc3, hiw, hcx, fun _ => ⟨hc1, Or.inl ⟨ht, he1⟩⟩, fun h => absurd ⟨by decide, by decide⟩ h⟩
      · exact Or.inr ⟨3, false, t :: s, brk, bc, iw, 0, rfl, by decide, rfl, rfl, hM3, hbc3, hiw, Or.inl rfl, fun _ => ⟨rfl, Or.inl ⟨ht, he1⟩⟩, fun h => absurd ⟨by decide, by decide⟩ h⟩
      · exact Or.inr ⟨3, false, t :: s, brk, bc, iw, 0, rfl, by decide, rfl, rfl, hM3, hbc3, hiw, Or.inl rfl, fun _ => ⟨rfl, Or.inl ⟨ht, he1⟩⟩, fun h => absurd ⟨by decide, by decide⟩ h⟩
      · refine Or.inl ⟨?_, pa _ (pe _ rfl) (by decide)⟩
        rcases ht with rfl | rfl <;> rfl
      · cases cm
        · subst hc1
          exact Or.inr ⟨4, true, t :: s, brk, bc, iw, 1, rfl, by decide, rfl, rfl, hM3, hbc3, hiw, Or.inr rfl, fun _ => ⟨rfl, Or.inl ⟨ht, he1⟩⟩, fun h => absurd ⟨by decide, by decide⟩ h⟩
        · subst hc1
          refine Or.inl ⟨?_, rfl⟩
          rcases ht with rfl | rfl <;> rfl
      · cases cm
        · subst hc1
          exact Or.inr ⟨4, true, t :: s, brk, bc, iw, 1, rfl, by decide, rfl, rfl, hM3, hbc3, hiw, Or.inr rfl, fun _ => ⟨rfl, Or.inl ⟨ht, he1⟩⟩, fun h => absurd ⟨by decide, by decide⟩ h⟩
        · subst hc1
          refine Or.inl ⟨?_, rfl⟩
          rcases ht with rfl | rfl <;> rfl
      · cases cm
        · subst hc1
          exact Or.inr ⟨4, true, t :: s, brk, bc, iw, 1, rfl, by decide, rfl, rfl, hM3, hbc3, hiw, Or.inr rfl, fun _ => ⟨rfl, Or.inl ⟨ht, he1⟩⟩, fun h => absurd ⟨by decide, by decide⟩ h⟩
        · subst hc1
          refine Or.inl ⟨?_, rfl⟩
          rcases ht with rfl | rfl <;> rfl
      · exact Or.inr ⟨4, cm, t :: s, brk, bc, iw, cx, rfl, by decide, rfl, rfl, hM3, hbc3, hiw, hcx, fun _ => ⟨hc1, Or.inl ⟨ht, he1⟩⟩, fun h => absurd ⟨by decide, by decide⟩ h⟩
      · exact Or.inr ⟨4, cm, t :: s, brk, bc, iw, cx, rfl, by decide, rfl, rfl, hM3, hbc3, hiw, hcx, fun _ => ⟨hc1, Or.inl ⟨ht, he1⟩⟩, fun h => absurd ⟨by decide, by decide⟩ h⟩
      · exact Or.inr ⟨4, cm, t :: s, brk, bc, iw, cx, rfl, by decide, rfl, rfl, hM3, hbc3, hiw, hcx, fun _ => ⟨hc1, Or.inl ⟨ht, he1⟩⟩, fun h => absurd ⟨by decide, by decide⟩ h⟩
      · refine Or.inl ⟨?_, pa _ (pe _ rfl) (by decide)⟩
        rcases ht with rfl | rfl <;> rfl
    · have hm : (t = 0 ∧ iw = 0) ∨ (t = 1 ∧ iw = 1) := by
        rcases hiw with h | h
        · rw [h] at ht; exact Or.inl ⟨ht, h⟩
        · rw [h] at ht; exact Or.inr ⟨ht, h⟩
      have hpr : hg_pr (t :: s) = hg_pr s := by
        rcases hm with ⟨rfl, _⟩ | ⟨rfl, _⟩ <;> rfl
      have hM2 : hg_M (hg_pr s) brk := by rw [← hpr]; exact hM
      have hbc2 : bc = nI (hg_pr s).length := by rw [← hpr]; exact hbc
      have hl2 : (hg_pr s).length < 40 := by rw [← hpr]; exact hl
      have pe : sxt_placeAfterE (nI c) brk bc iw = if iw = 0 then if nI c = 3 then some 6 else some (-1) else some (sxt_placeAfterWholeSelect (nI c) bc) := by
        unfold sxt_placeAfterE
        rw [hbc2, hg_outside hq (by omega) hM2]
        rfl
      have A0 : t = 0 → iw = 0 → (c < 13 ∨ c = 17 ∨ c = 24 ∨ ((c = 18 ∨ c = 19 ∨ c = 20) ∧ cm = true)) → hg_step c 5 cm (t :: s) = if c = 3 then some (6, cm, s) else none := fun h0 _ hcc => by
        subst h0
        rcases hg_c hc with rfl | rfl | rfl | rfl | rfl | rfl | rfl | rfl | rfl | rfl | rfl | rfl | rfl | rfl | rfl | rfl | rfl | rfl | rfl | rfl | rfl | rfl | rfl | rfl | rfl
        all_goals first | rfl | (exfalso; omega) | (rcases hcc with h | h | h | ⟨_, h⟩ <;> first | omega | (subst h; rfl))
      have A1 : t = 1 → (c < 13 ∨ c = 17 ∨ c = 24 ∨ ((c = 18 ∨ c = 19 ∨ c = 20) ∧ cm = true)) → hg_step c 5 cm (t :: s) = hg_ends c cm s := fun h0 hcc => by
        subst h0
        rcases hg_c hc with rfl | rfl | rfl | rfl | rfl | rfl | rfl | rfl | rfl | rfl | rfl | rfl | rfl | rfl | rfl | rfl | rfl | rfl | rfl | rfl | rfl | rfl | rfl | rfl | rfl
        all_goals first | rfl | (exfalso; omega) | (rcases hcc with h | h | h | ⟨_, h⟩ <;> first | omega | (subst h; rfl))
      by_cases hcc : c < 13 ∨ c = 17 ∨ c = 24
      · have hcc4 : c < 13 ∨ c = 17 ∨ c = 24 ∨ ((c = 18 ∨ c = 19 ∨ c = 20) ∧ cm = true) := by omega
        rcases hm with ⟨h0, h9⟩ | ⟨h0, h9⟩
        · by_cases h3 : c = 3
          · subst h3
            refine Or.inr ⟨6, cm, s, brk, bc, iw, cx, A0 h0 h9 hcc4, by decide, pa _ (by rw [pe, if_pos h9]; rfl) hcc, rfl, hM2, hbc2, hiw, hcx, fun h => absurd h (by decide), fun _ => hq⟩
          · have e3 : ¬ nI c = 3 := fun q => h3 ((nI_eq (b := 3) (by omega) (by omega)).mp q)
            exact Or.inl ⟨(A0 h0 h9 hcc4).trans (if_neg h3), pa _ (by rw [pe, if_pos h9, if_neg e3]) hcc⟩
        · have h8 : ¬ iw = 0 := by rw [h9]; decide
          rcases hg_wx (brk := brk) hc hq (by omega) hM2 with ⟨a, b⟩ | ⟨p', s', bc', a1, a2, a3, a4, a5, a6, a7, a8⟩
          · exact Or.inl ⟨(A1 h0 hcc4).trans (a cm), pa _ (by rw [pe, if_neg h8, hbc2, b]) hcc⟩
          · obtain ⟨cx', b1, b2⟩ := a8 (nI 5) iw cx hcx
            exact Or.inr ⟨p', cm, s', brk, bc', iw, cx', (A1 h0 hcc4).trans (a1 cm), a2, pa _ (by rw [pe, if_neg h8, hbc2, a4]) hcc, by rw [hbc2]; exact b1, a7, a6, hiw, b2, fun h => absurd h a3, fun _ => a5⟩
      · rcases hg_c hc with rfl | rfl | rfl | rfl | rfl | rfl | rfl | rfl | rfl | rfl | rfl | rfl | rfl | rfl | rfl | rfl | rfl | rfl | rfl | rfl | rfl | rfl | rfl | rfl | rfl
        · exact absurd (by omega) hcc
        · exact absurd (by omega) hcc
        · exact absurd (by omega) hcc
        · exact absurd (by omega) hcc
        · exact absurd (by omega) hcc
        · exact absurd (by omega) hcc
        · exact absurd (by omega) hcc
        · exact absurd (by omega) hcc
        · exact absurd (by omega) hcc
        · exact absurd (by omega) hcc
        · exact absurd (by omega) hcc
        · exact absurd (by omega) hcc
        · exact absurd (by omega) hcc
        · exact Or.inr ⟨5, cm, t :: s, brk, bc, iw, cx, rfl, by decide, rfl, rfl, hM, hbc, hiw, hcx, fun _ => ⟨hc1, Or.inr ⟨ht, hq⟩⟩, fun h => absurd ⟨by decide, by decide⟩ h⟩
        · exact Or.inr ⟨5, cm, t :: s, brk, bc, iw, cx, rfl, by decide, rfl, rfl, hM, hbc, hiw, hcx, fun _ => ⟨hc1, Or.inr ⟨ht, hq⟩⟩, fun h => absurd ⟨by decide, by decide⟩ h⟩
        · exact Or.inr ⟨3, false, t :: s, brk, bc, iw, 0, rfl, by decide, rfl, rfl, hM, hbc, hiw, Or.inl rfl, fun _ => ⟨rfl, Or.inr ⟨ht, hq⟩⟩, fun h => absurd ⟨by decide, by decide⟩ h⟩
        · exact Or.inr ⟨3, false, t :: s, brk, bc, iw, 0, rfl, by decide, rfl, rfl, hM, hbc, hiw, Or.inl rfl, fun _ => ⟨rfl, Or.inr ⟨ht, hq⟩⟩, fun h => absurd ⟨by decide, by decide⟩ h⟩
        · exact absurd (by omega) hcc
        · cases cm
          · subst hc1
            exact Or.inr ⟨4, true, t :: s, brk, bc, iw, 1, rfl, by decide, rfl, rfl, hM, hbc, hiw, Or.inr rfl, fun _ => ⟨rfl, Or.inr ⟨ht, hq⟩⟩, fun h => absurd ⟨by decide, by decide⟩ h⟩
          · subst hc1
            refine Or.inl ⟨?_, rfl⟩
            rcases hm with ⟨h0, h9⟩ | ⟨h0, h9⟩
            · exact (A0 h0 h9 (by simp)).trans rfl
            · exact (A1 h0 (by simp)).trans rfl
        · cases cm
          · subst hc1
            exact Or.inr ⟨4, true, t :: s, brk, bc, iw, 1, rfl, by decide, rfl, rfl, hM, hbc, hiw, Or.inr rfl, fun _ => ⟨rfl, Or.inr ⟨ht, hq⟩⟩, fun h => absurd ⟨by decide, by decide⟩ h⟩
          · subst hc1
            refine Or.inl ⟨?_, rfl⟩
            rcases hm with ⟨h0, h9⟩ | ⟨h0, h9⟩
            · exact (A0 h0 h9 (by simp)).trans rfl
            · exact (A1 h0 (by simp)).trans rfl
        · cases cm
          · subst hc1
            exact Or.inr ⟨4, true, t :: s, brk, bc, iw, 1, rfl, by decide, rfl, rfl, hM, hbc, hiw, Or.inr rfl, fun _ => ⟨rfl, Or.inr ⟨ht, hq⟩⟩, fun h => absurd ⟨by decide, by decide⟩ h⟩
          · subst hc1
            refine Or.inl ⟨?_, rfl⟩
            rcases hm with ⟨h0, h9⟩ | ⟨h0, h9⟩
            · exact (A0 h0 h9 (by simp)).trans rfl
            · exact (A1 h0 (by simp)).trans rfl
        · exact Or.inr ⟨4, cm, t :: s, brk, bc, iw, cx, rfl, by decide, rfl, rfl, hM, hbc, hiw, hcx, fun _ => ⟨hc1, Or.inr ⟨ht, hq⟩⟩, fun h => absurd ⟨by decide, by decide⟩ h⟩
        · exact Or.inr ⟨4, cm, t :: s, brk, bc, iw, cx, rfl, by decide, rfl, rfl, hM, hbc, hiw, hcx, fun _ => ⟨hc1, Or.inr ⟨ht, hq⟩⟩, fun h => absurd ⟨by decide, by decide⟩ h⟩
        · exact Or.inr ⟨4, cm, t :: s, brk, bc, iw, cx, rfl, by decide, rfl, rfl, hM, hbc, hiw, hcx, fun _ => ⟨hc1, Or.inr ⟨ht, hq⟩⟩, fun h => absurd ⟨by decide, by decide⟩ h⟩
        · exact absurd (by omega) hcc
theorem hg_x {c p : Nat} {cm : Bool} {st : List Nat} {brk : Nat → Int32} {bc iw cx : Int32} (hc : c < 25) (hp : p < 9) (hl : (hg_pr st).length < 40) (hX : hg_X p cm st brk bc iw cx) : hg_Rx c p cm st brk bc iw cx := by
  rcases (by omega : p = 0 ∨ p = 1 ∨ p = 2 ∨ p = 3 ∨ p = 4 ∨ p = 5 ∨ p = 6 ∨ p = 7 ∨ p = 8) with rfl | rfl | rfl | rfl | rfl | rfl | rfl | rfl | rfl
  · exact hg_x0 hc hl hX
  · exact hg_x1 hc hl hX
  · exact hg_x2 hc hl hX
  · exact hg_x3 hc hl hX
  · exact hg_x4 hc hl hX
  · exact hg_x5 hc hl hX
  · exact hg_x6 hc hl hX
  · exact hg_x7 hc hl hX
  · exact hg_x8 hc hl hX
