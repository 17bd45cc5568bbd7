/-! reachability: the least set that holds the roots and is closed under links, both without a set that is gone -/
def hb_E (sk sl : Nat → Int32) (o t : Nat) : Prop := ∃ f, f < 4 ∧ sk (4 * o + f) = 2 ∧ sl (4 * o + f) = nI t
def hb_C (n : Nat) (rt sk sl : Nat → Int32) (wo : Int32) (C : Nat → Prop) : Prop :=
  (∀ o, o < n → ¬ rt o = 0 → bt wo o = false → C o) ∧ ∀ o t, o < n → C o → hb_E sk sl o t → t < n → bt wo t = false → C t
def hb_Av (n : Nat) (wo S : Int32) : Prop := ∀ i, i < 32 → bt S i = true → i < n ∧ bt wo i = false
def hb_So (n : Nat) (rt sk sl : Nat → Int32) (wo S : Int32) : Prop := ∀ C, hb_C n rt sk sl wo C → ∀ i, i < 32 → bt S i = true → C i
def hb_R (n : Nat) (rt sk sl : Nat → Int32) (wo S : Int32) : Prop :=
  hb_Av n wo S ∧ hb_C n rt sk sl wo (fun i => bt S i = true) ∧ hb_So n rt sk sl wo S
def hb_V (n : Nat) (sk sl : Nat → Int32) : Prop := ∀ j, j < 4 * n → sk j = 2 → ∃ t, t < n ∧ sl j = nI t
theorem hb_R_eq {n : Nat} {rt sk sl : Nat → Int32} {wo S S' : Int32} (h : hb_R n rt sk sl wo S) (h' : hb_R n rt sk sl wo S') : S = S' := by
  apply b_ext
  intro i hi
  have a : bt S i = true → bt S' i = true := h.2.2 _ h'.2.1 i hi
  have b : bt S' i = true → bt S i = true := h'.2.2 _ h.2.1 i hi
  cases h1 : bt S i <;> cases h2 : bt S' i
  · rfl
  · exact absurd (b h2) (by rw [h1]; decide)
  · exact absurd (a h1) (by rw [h2]; decide)
  · rfl
theorem hb_i4 (o : Nat) : (4 * nI o) + 4 = nI (4 * o + 4) := by
  rw [show (4 : Int32) = nI 4 from rfl, pk_mul, nI_add]
theorem hb_4 (o : Nat) : 4 * nI o = nI (4 * o + 0) := by
  rw [show (4 : Int32) = nI 4 from rfl, pk_mul]; rfl
theorem hb_kF {n : Nat} (h : n < 100000) : n < kF := h
theorem qm_L87 {n o : Nat} {sk sl : Nat → Int32} {wo l4 l5 : Int32} (ho : o < n) (hn : n ≤ 24) (hv : hb_V n sk sl) :
    ∀ (d f fuel : Nat) (S : Int32), f + d = 4 → d < fuel → ∃ S', sm_reach_L87 fuel wo S l4 l5 (nI o) (nI (4 * o + f)) sk sl = some S' ∧
      ∀ i, i < 32 → (bt S' i = true ↔ bt S i = true ∨ (bt wo i = false ∧ ∃ f', f ≤ f' ∧ f' < 4 ∧ sk (4 * o + f') = 2 ∧ sl (4 * o + f') = nI i)) := by
  intro d
  induction d with
  | zero =>
    intro f fuel S hf hfu
    obtain ⟨m, rfl⟩ : ∃ m, fuel = m + 1 := ⟨fuel - 1, by omega⟩
    refine ⟨S, ?_, fun i hi => ⟨Or.inl, ?_⟩⟩
    · show sm_reach_L87_B _ wo S l4 l5 (nI o) (nI (4 * o + f)) sk sl = some S
      unfold sm_reach_L87_B
      rw [hb_i4, if_pos ((nI_leI (by omega) (by omega)).mpr (by omega))]
    · rintro (h | ⟨_, f', h1, h2, _⟩)
      · exact h
      · omega
  | succ d ih =>
    intro f fuel S hf hfu
    obtain ⟨m, rfl⟩ : ∃ m, fuel = m + 1 := ⟨fuel - 1, by omega⟩
    have e0 : sm_reach_L87 (m + 1) wo S l4 l5 (nI o) (nI (4 * o + f)) sk sl = sm_reach_L87_B (sm_reach_L87 m) wo S l4 l5 (nI o) (nI (4 * o + f)) sk sl := rfl
    have e1 : ¬ nI (4 * o + 4) ≤ nI (4 * o + f) := fun h => by have := (nI_leI (by omega) (by omega)).mp h; omega
    have e2 : hq_I (nI (4 * o + f)) 96 = true := hb_I (by omega) (by omega)
    have e3 : nI (4 * o + f) + 1 = nI (4 * o + (f + 1)) := nI_1 _
    rw [e0]
    unfold sm_reach_L87_B
    rw [hb_i4, if_neg e1, if_pos e2, nI_clamp (by omega), e3]
    by_cases hk : sk (4 * o + f) = 2
    · obtain ⟨t, ht, hs⟩ := hv (4 * o + f) (by omega) hk
      rw [if_pos hk, if_pos e2, hs]
      by_cases hw : bt wo t = false
      · rw [if_pos ((hb_t0 wo (by omega)).mpr hw), if_pos e2]
        obtain ⟨S', h1, h2⟩ := ih (f + 1) m (S ||| ((1 : Int32) <<< (nI t &&& 31))) (by omega) (by omega)
        refine ⟨S', h1, fun i hi => ?_⟩
        rw [h2 i hi, b_or, hb_one (by omega) hi]
        simp only [Bool.or_eq_true, decide_eq_true_eq]
        constructor
        · rintro ((h | h) | ⟨h3, f', h4, h5⟩)
          · exact Or.inl h
          · subst h; exact Or.inr ⟨hw, f, Nat.le_refl _, by omega, hk, hs⟩
          · exact Or.inr ⟨h3, f', by omega, h5⟩
        · rintro (h | ⟨h3, f', h4, h5, h6, h7⟩)
          · exact Or.inl (Or.inl h)
          · by_cases e : f' = f
            · subst e; rw [hs] at h7; exact Or.inl (Or.inr ((nI_eq (by omega) (by omega)).mp h7).symm)
            · exact Or.inr ⟨h3, f', by omega, h5, h6, h7⟩
      · rw [if_neg (fun h => hw ((hb_t0 wo (by omega)).mp h))]
        obtain ⟨S', h1, h2⟩ := ih (f + 1) m S (by omega) (by omega)
        refine ⟨S', h1, fun i hi => ?_⟩
        rw [h2 i hi]
        constructor
        · rintro (h | ⟨h3, f', h4, h5⟩)
          · exact Or.inl h
          · exact Or.inr ⟨h3, f', by omega, h5⟩
        · rintro (h | ⟨h3, f', h4, h5, h6, h7⟩)
          · exact Or.inl h
          · by_cases e : f' = f
            · subst e; rw [hs] at h7
              have := (nI_eq (by omega) (by omega)).mp h7
              subst this
              exact absurd h3 hw
            · exact Or.inr ⟨h3, f', by omega, h5, h6, h7⟩
    · rw [if_neg hk]
      obtain ⟨S', h1, h2⟩ := ih (f + 1) m S (by omega) (by omega)
      refine ⟨S', h1, fun i hi => ?_⟩
      rw [h2 i hi]
      constructor
      · rintro (h | ⟨h3, f', h4, h5⟩)
        · exact Or.inl h
        · exact Or.inr ⟨h3, f', by omega, h5⟩
      · rintro (h | ⟨h3, f', h4, h5, h6, h7⟩)
        · exact Or.inl h
        · by_cases e : f' = f
          · subst e; exact absurd h6 hk
          · exact Or.inr ⟨h3, f', by omega, h5, h6, h7⟩
/-- one object of a pass -/
theorem qm_obj {n o : Nat} {rt sk sl : Nat → Int32} {wo l4 l5 S : Int32} (ho : o < n) (hn : n ≤ 24) (hv : hb_V n sk sl) :
    ∃ S1, (∀ rec, sm_reach_L24_B rec wo S l4 l5 (nI o) (nI n) rt sk sl = rec wo S1 l4 l5 (nI (o + 1)) (nI n) rt sk sl) ∧
      ((S1 = S ∧ ¬ ((¬ rt o = 0 ∨ bt S o = true) ∧ bt wo o = false)) ∨ (((¬ rt o = 0 ∨ bt S o = true) ∧ bt wo o = false) ∧
        ∀ i, i < 32 → (bt S1 i = true ↔ (bt S i = true ∨ i = o) ∨ (bt wo i = false ∧ ∃ f', 0 ≤ f' ∧ f' < 4 ∧ sk (4 * o + f') = 2 ∧ sl (4 * o + f') = nI i)))) := by
  have e1 : ¬ nI n ≤ nI o := fun h => by have := (nI_leI (by omega) (by omega)).mp h; omega
  have e2 : hq_I (nI o) 24 = true := hb_I (by omega) (by omega)
  by_cases hw : bt wo o = false
  · by_cases hin : ¬ rt o = 0 ∨ bt S o = true
    · obtain ⟨S1, h1, h2⟩ := qm_L87 (l4 := l4) (l5 := l5) (wo := wo) ho hn hv 4 0 kF (S ||| ((1 : Int32) <<< (nI o &&& 31))) rfl (hb_kF (by decide))
      refine ⟨S1, fun rec => ?_, Or.inr ⟨⟨hin, hw⟩, fun i hi => ?_⟩⟩
      · have j : sm_reach_J58 rec wo S l4 l5 (nI o) 1 (nI n) rt sk sl = rec wo S1 l4 l5 (nI (o + 1)) (nI n) rt sk sl := by
          unfold sm_reach_J58
          rw [if_neg (by decide), if_pos ((hb_t0 wo (by omega)).mpr hw), hb_4, h1, nI_1]
          rfl
        unfold sm_reach_L24_B sm_reach_J53
        rw [if_neg e1, if_pos e2, nI_clamp (by omega)]
        by_cases hr : rt o = 0
        · rcases hin with hin | hin
          · exact absurd hr hin
          · rw [if_pos hr, if_pos ((hb_t1 S (by omega)).mpr hin)]; exact j
        · rw [if_neg hr]; exact j
      · rw [h2 i hi, b_or, hb_one (by omega) hi]
        simp only [Bool.or_eq_true, decide_eq_true_eq]
    · refine ⟨S, fun rec => ?_, Or.inl ⟨rfl, fun h => hin h.1⟩⟩
      have hr : rt o = 0 := Classical.byContradiction fun h => hin (Or.inl h)
      have hs : ¬ bt S o = true := fun h => hin (Or.inr h)
      unfold sm_reach_L24_B sm_reach_J58
      rw [if_neg e1, if_pos e2, nI_clamp (by omega), if_pos hr, if_neg (fun h => hs ((hb_t1 S (by omega)).mp h)), if_pos rfl, nI_1]
  · refine ⟨S, fun rec => ?_, Or.inl ⟨rfl, fun h => hw h.2⟩⟩
    have j : ∀ b : Int32, sm_reach_J58 rec wo S l4 l5 (nI o) b (nI n) rt sk sl = rec wo S l4 l5 (nI (o + 1)) (nI n) rt sk sl := by
      intro b
      unfold sm_reach_J58
      rw [if_neg (fun h => hw ((hb_t0 wo (by omega)).mp h)), nI_1]
      by_cases hb : b = 0
      · rw [if_pos hb]
      · rw [if_neg hb]
    unfold sm_reach_L24_B sm_reach_J53
    rw [if_neg e1, if_pos e2, nI_clamp (by omega), j 1, j 0]
    by_cases hr : rt o = 0
    · rw [if_pos hr]
      by_cases hs : (S >>> (nI o &&& 31)) &&& 1 = 1
      · rw [if_pos hs]
      · rw [if_neg hs]
    · rw [if_neg hr]
def hb_Fix (o n : Nat) (rt sk sl : Nat → Int32) (wo S : Int32) : Prop := ∀ o', o ≤ o' → o' < n → (¬ rt o' = 0 ∨ bt S o' = true) → bt wo o' = false → bt S o' = true ∧ ∀ t, t < n → hb_E sk sl o' t → bt wo t = false → bt S t = true
theorem qm_L24 {n : Nat} {rt sk sl : Nat → Int32} {wo l4 l5 : Int32} (hn : n ≤ 24) (hv : hb_V n sk sl) :
    ∀ (d o fuel : Nat) (S : Int32), o + d = n → d < fuel → ∃ S', sm_reach_L24 fuel wo S l4 l5 (nI o) (nI n) rt sk sl = some S' ∧
      (∀ i, i < 32 → bt S i = true → bt S' i = true) ∧ (hb_Av n wo S → hb_Av n wo S') ∧ (hb_Av n wo S → hb_So n rt sk sl wo S → hb_So n rt sk sl wo S') ∧ (S' = S → hb_Fix o n rt sk sl wo S) := by
  intro d
  induction d with
  | zero =>
    intro o fuel S hf hfu
    obtain ⟨m, rfl⟩ : ∃ m, fuel = m + 1 := ⟨fuel - 1, by omega⟩
    refine ⟨S, ?_, fun _ _ h => h, id, fun _ h => h, fun _ o' h1 h2 => by omega⟩
    show sm_reach_L24_B _ wo S l4 l5 (nI o) (nI n) rt sk sl = some S
    unfold sm_reach_L24_B
    rw [if_pos ((nI_leI (by omega) (by omega)).mpr (by omega))]
  | succ d ih =>
    intro o fuel S hf hfu
    obtain ⟨m, rfl⟩ : ∃ m, fuel = m + 1 := ⟨fuel - 1, by omega⟩
    obtain ⟨S1, h1, h2⟩ := qm_obj (n := n) (o := o) (rt := rt) (wo := wo) (l4 := l4) (l5 := l5) (S := S) (by omega) hn hv
    obtain ⟨S', h3, h4, h5, h6, h7⟩ := ih (o + 1) m S1 (by omega) (by omega)
    refine ⟨S', ?_, ?_, ?_, ?_, ?_⟩
    · show sm_reach_L24_B (sm_reach_L24 m) wo S l4 l5 (nI o) (nI n) rt sk sl = some S'
      rw [h1]; exact h3
    · intro i hi hb
      apply h4 i hi
      rcases h2 with ⟨rfl, _⟩ | ⟨_, h2⟩
      · exact hb
      · exact (h2 i hi).mpr (Or.inl (Or.inl hb))
    · intro hA
      apply h5
      rcases h2 with ⟨rfl, _⟩ | ⟨⟨hc, hw⟩, h2⟩
      · exact hA
      · intro i hi hb
        rcases (h2 i hi).mp hb with (h | h) | ⟨h, f', _, q2, q3, q4⟩
        · exact hA i hi h
        · subst h; exact ⟨by omega, hw⟩
        · refine ⟨?_, h⟩
          obtain ⟨t, ht, hs⟩ := hv (4 * o + f') (by omega) q3
          rw [hs] at q4
          have := (nI_eq (by omega) (by omega)).mp q4
          omega
    · intro hA hS
      rcases h2 with ⟨rfl, _⟩ | ⟨⟨hc, hw⟩, h2⟩
      · exact h6 hA hS
      · have hA1 : hb_Av n wo S1 := by
          intro i hi hb
          rcases (h2 i hi).mp hb with (h | h) | ⟨h, f', _, q2, q3, q4⟩
          · exact hA i hi h
          · subst h; exact ⟨by omega, hw⟩
          · refine ⟨?_, h⟩
            obtain ⟨t, ht, hs⟩ := hv (4 * o + f') (by omega) q3
            rw [hs] at q4
            have := (nI_eq (by omega) (by omega)).mp q4
            omega
        apply h6 hA1
        intro C hC i hi hb
        have hCo : C o := by
          rcases hc with hc | hc
          · exact hC.1 o (by omega) hc hw
          · exact hS C hC o (by omega) hc
        rcases (h2 i hi).mp hb with (h | h) | ⟨h, f', q1, q2, q3, q4⟩
        · exact hS C hC i hi h
        · subst h; exact hCo
        · exact hC.2 o i (by omega) hCo ⟨f', q2, q3, q4⟩ (hA1 i hi hb).1 h
    · intro e o' ho1 ho2 hc hw
      have e1 : S1 = S := by
        apply b_ext
        intro i hi
        have a : bt S1 i = true → bt S i = true := fun h => by rw [← e]; exact h4 i hi h
        have b : bt S i = true → bt S1 i = true := fun h => by
          rcases h2 with ⟨rfl, _⟩ | ⟨_, h2⟩
          · exact h
          · exact (h2 i hi).mpr (Or.inl (Or.inl h))
        cases q1 : bt S1 i <;> cases q2 : bt S i
        · rfl
        · exact absurd (b q2) (by rw [q1]; decide)
        · exact absurd (a q1) (by rw [q2]; decide)
        · rfl
      subst e1
      by_cases eo : o' = o
      · subst eo
        rcases h2 with ⟨_, h2⟩ | ⟨_, h2⟩
        · exact absurd ⟨hc, hw⟩ h2
        · refine ⟨(h2 o' (by omega)).mpr (Or.inl (Or.inr rfl)), fun t ht hE hwt => (h2 t (by omega)).mpr (Or.inr ⟨hwt, ?_⟩)⟩
          obtain ⟨f, q1, q2, q3⟩ := hE
          exact ⟨f, Nat.zero_le _, q1, q2, q3⟩
      · exact h7 e o' (by omega) ho2 hc hw
theorem hb_R_of {n : Nat} {rt sk sl : Nat → Int32} {wo S : Int32} (hn : n ≤ 24) (hA : hb_Av n wo S) (hS : hb_So n rt sk sl wo S) (hF : hb_Fix 0 n rt sk sl wo S) : hb_R n rt sk sl wo S :=
  ⟨hA, ⟨fun o ho hr hw => (hF o (Nat.zero_le _) ho (Or.inl hr) hw).1, fun o t ho hC hE ht hw => (hF o (Nat.zero_le _) ho (Or.inr hC) (hA o (by omega) hC).2).2 t ht hE hw⟩, hS⟩
theorem qm_L7 {n : Nat} {rt sk sl : Nat → Int32} {wo : Int32} (hn : n ≤ 24) (hv : hb_V n sk sl) :
    ∀ (d k fuel : Nat) (S l3 : Int32), k + d = 25 → d < fuel → hb_Av n wo S → hb_So n rt sk sl wo S → ((l3 = 0 ∧ hb_Fix 0 n rt sk sl wo S) ∨ (l3 = 1 ∧ k ≤ hb_cnt (bt S) 24)) →
      ∃ S', sm_reach_L7 fuel wo S l3 (nI k) (nI n) rt sk sl = some S' ∧ hb_R n rt sk sl wo S' := by
  intro d
  induction d with
  | zero =>
    intro k fuel S l3 hk hfu hA hS h
    obtain ⟨m, rfl⟩ : ∃ m, fuel = m + 1 := ⟨fuel - 1, by omega⟩
    rcases h with ⟨_, h⟩ | ⟨_, h⟩
    · refine ⟨S, ?_, hb_R_of hn hA hS h⟩
      show sm_reach_L7_B _ wo S l3 (nI k) (nI n) rt sk sl = some S
      unfold sm_reach_L7_B
      rw [if_pos (show (24 : Int32) < nI k from (nI_ltI (a := 24) (by omega) (by omega)).mpr (by omega))]
    · have := hb_cnt_le (bt S) 24
      omega
  | succ d ih =>
    intro k fuel S l3 hk hfu hA hS h
    obtain ⟨m, rfl⟩ : ∃ m, fuel = m + 1 := ⟨fuel - 1, by omega⟩
    have e1 : ¬ (24 : Int32) < nI k := fun h => by have := (nI_ltI (a := 24) (by omega) (by omega)).mp h; omega
    have e0 : sm_reach_L7 (m + 1) wo S l3 (nI k) (nI n) rt sk sl = sm_reach_L7_B (sm_reach_L7 m) wo S l3 (nI k) (nI n) rt sk sl := rfl
    rw [e0]
    unfold sm_reach_L7_B
    rw [if_neg e1]
    rcases h with ⟨h0, h⟩ | ⟨h0, h⟩
    · rw [if_pos h0]
      exact ⟨S, rfl, hb_R_of hn hA hS h⟩
    · subst h0
      obtain ⟨S1, g1, g2, g3, g4, g5⟩ := qm_L24 (rt := rt) (wo := wo) (l4 := nI k) (l5 := S) hn hv n 0 kF S (by omega) (hb_kF (by omega))
      have g1 : sm_reach_L24 kF wo S (nI k) S 0 (nI n) rt sk sl = some S1 := g1
      rw [if_neg (by decide), g1, nI_1]
      show ∃ S', (if S1 = S then sm_reach_L7 m wo S1 0 (nI (k + 1)) (nI n) rt sk sl else sm_reach_L7 m wo S1 1 (nI (k + 1)) (nI n) rt sk sl) = some S' ∧ hb_R n rt sk sl wo S'
      by_cases e : S1 = S
      · rw [if_pos e]
        refine ih (k + 1) m S1 0 (by omega) (by omega) (g3 hA) (g4 hA hS) (Or.inl ⟨rfl, ?_⟩)
        rw [e]
        exact g5 e
      · rw [if_neg e]
        refine ih (k + 1) m S1 1 (by omega) (by omega) (g3 hA) (g4 hA hS) (Or.inr ⟨rfl, ?_⟩)
        obtain ⟨i, hi, h1, h2⟩ : ∃ i, i < 32 ∧ bt S i = false ∧ bt S1 i = true := by
          apply Classical.byContradiction
          intro hne
          apply e
          apply b_ext
          intro i hi
          have a := g2 i hi
          cases q1 : bt S1 i <;> cases q2 : bt S i
          · rfl
          · exact absurd (a q2) (by rw [q1]; decide)
          · exact absurd ⟨i, hi, q2, q1⟩ hne
          · rfl
        have hi2 := (g3 hA i hi h2).1
        have := hb_cnt_lt (f := bt S) (g := bt S1) h1 h2 24 (by omega) (fun j hj => g2 j (by omega))
        omega
theorem qm_reach {n : Nat} {rt sk sl : Nat → Int32} (wo : Int32) (hn : n ≤ 24) (hv : hb_V n sk sl) : ∃ S, sm_reach wo (nI n) rt sk sl = some S ∧ hb_R n rt sk sl wo S := by
  obtain ⟨S, h1, h2⟩ := qm_L7 (rt := rt) (wo := wo) hn hv 25 0 kF 0 1 rfl (hb_kF (by decide)) (fun i _ h => by rw [b_0] at h; cases h) (fun _ _ i _ h => by rw [b_0] at h; cases h) (Or.inr ⟨rfl, Nat.zero_le _⟩)
  have h1 : sm_reach_L7 kF wo 0 1 0 (nI n) rt sk sl = some S := h1
  refine ⟨S, ?_, h2⟩
  unfold sm_reach
  rw [h1]
  rfl
/-! the class's way: a worklist -/
theorem hb_cnt_full {f : Nat → Bool} {n : Nat} (h : n ≤ hb_cnt f n) {i : Nat} (hi : i < n) : f i = true := by
  cases hf : f i with
  | true => rfl
  | false =>
    have h1 := hb_cnt_lt (f := f) (g := fun _ => true) hf rfl n hi (fun _ _ _ => rfl)
    have h2 := hb_cnt_le (fun _ => true) n
    omega
def hb_W (n : Nat) (rt sk sl : Nat → Int32) (wo fo w : Int32) (pb : Nat → Bool) : Prop :=
  hb_Av n wo fo ∧ hb_So n rt sk sl wo fo ∧ (∀ i, i < 32 → bt w i = true → bt fo i = true) ∧ (∀ i, i < 32 → pb i = true → bt fo i = true ∧ bt w i = false) ∧ (∀ i, i < 32 → bt fo i = true → pb i = true ∨ bt w i = true) ∧
  (∀ o, o < n → ¬ rt o = 0 → bt wo o = false → bt fo o = true) ∧ ∀ o t, o < n → t < n → pb o = true → hb_E sk sl o t → bt wo t = false → bt fo t = true
theorem hb_W_end {n : Nat} {rt sk sl : Nat → Int32} {wo fo w : Int32} {pb : Nat → Bool} (hn : n ≤ 24) (h : hb_W n rt sk sl wo fo w pb) (hw : ∀ i, i < 32 → bt w i = false) : hb_R n rt sk sl wo fo := by
  obtain ⟨h1, h2, h3, h4, h5, h6, h7⟩ := h
  refine ⟨h1, ⟨h6, fun o t ho hC hE ht hwt => h7 o t ho ht ?_ hE hwt⟩, h2⟩
  rcases h5 o (by omega) hC with h | h
  · exact h
  · rw [hw o (by omega)] at h; cases h
theorem qx_L14 {n : Nat} {rt sk sl lf : Nat → Int32} {wo : Int32} (hn : n ≤ 24) (hv : hb_V n sk sl) (hlf : ∀ o, o < n → ∀ t, t < 32 → (bt (lf o) t = true ↔ hb_E sk sl o t)) :
    ∀ (d k fuel : Nat) (fo w : Int32) (pb : Nat → Bool), k + d = 24 → d < fuel → hb_W n rt sk sl wo fo w pb → k ≤ hb_cnt pb 24 →
      ∃ S', sxs_reachableWithout_L14 fuel wo fo w (nI k) lf = some S' ∧ hb_R n rt sk sl wo S' := by
  intro d
  induction d with
  | zero =>
    intro k fuel fo w pb hk hfu hW hc
    obtain ⟨m, rfl⟩ : ∃ m, fuel = m + 1 := ⟨fuel - 1, by omega⟩
    refine ⟨fo, ?_, hb_W_end hn hW fun i hi => ?_⟩
    · show sxs_reachableWithout_L14_B _ wo fo w (nI k) lf = some fo
      unfold sxs_reachableWithout_L14_B
      rw [if_pos (show (24 : Int32) ≤ nI k from (nI_leI (a := 24) (by omega) (by omega)).mpr (by omega))]
    · cases hb : bt w i with
      | false => rfl
      | true =>
        have h1 := hW.2.2.1 i hi hb
        have h2 := (hW.1 i hi h1).1
        have h3 := hb_cnt_full (f := pb) (n := 24) (by omega) (i := i) (by omega)
        have h4 := (hW.2.2.2.1 i hi h3).2
        rw [hb] at h4
        cases h4
  | succ d ih =>
    intro k fuel fo w pb hk hfu hW hc
    obtain ⟨m, rfl⟩ : ∃ m, fuel = m + 1 := ⟨fuel - 1, by omega⟩
    have e0 : sxs_reachableWithout_L14 (m + 1) wo fo w (nI k) lf = sxs_reachableWithout_L14_B (sxs_reachableWithout_L14 m) wo fo w (nI k) lf := rfl
    have e1 : ¬ (24 : Int32) ≤ nI k := fun h => by have := (nI_leI (a := 24) (by omega) (by omega)).mp h; omega
    rw [e0]
    unfold sxs_reachableWithout_L14_B
    rw [if_neg e1]
    by_cases hz : w = 0
    · rw [if_pos hz]
      exact ⟨fo, rfl, hb_W_end hn hW fun i hi => by rw [hz, b_0]⟩
    · obtain ⟨o, ho, eo, hb⟩ := hb_ntz hz
      obtain ⟨hA, hS, h3, h4, h5, h6, h7⟩ := hW
      have hfo := h3 o ho hb
      have hon := (hA o ho hfo).1
      rw [if_neg hz, eo, if_pos (hb_I (by omega) (by omega)), nI_clamp (by omega), nI_1]
      have fr : ∀ i, i < 32 → bt (lf o &&& (wo ^^^ (-1)) &&& (fo ^^^ (-1))) i = ((bt (lf o) i && !bt wo i) && !bt fo i) := fun i hi => by rw [b_and, b_and, hb_not wo hi, hb_not fo hi]
      generalize hfr : lf o &&& (wo ^^^ (-1)) &&& (fo ^^^ (-1)) = g at fr
      have fr1 : ∀ i, i < 32 → bt g i = true → hb_E sk sl o i ∧ i < n ∧ bt wo i = false ∧ bt fo i = false := fun i hi h => by
        rw [fr i hi] at h
        simp only [Bool.and_eq_true, Bool.not_eq_true'] at h
        have hE := (hlf o hon i hi).mp h.1.1
        refine ⟨hE, ?_, h.1.2, h.2⟩
        obtain ⟨f, q1, q2, q3⟩ := hE
        obtain ⟨t, ht, hs⟩ := hv (4 * o + f) (by omega) q2
        rw [hs] at q3
        have := (nI_eq (by omega) (by omega)).mp q3
        omega
      have pk : pb o = false := by
        cases hp : pb o with
        | false => rfl
        | true => rw [(h4 o ho hp).2] at hb; cases hb
      have wb : ∀ i, i < 32 → bt (w &&& (((1 : Int32) <<< (nI o &&& 31)) ^^^ (-1)) ||| g) i = ((bt w i && !decide (i = o)) || bt g i) := fun i hi => by rw [b_or, b_and, hb_not _ hi, hb_one ho hi]
      refine ih (k + 1) m (fo ||| g) (w &&& (((1 : Int32) <<< (nI o &&& 31)) ^^^ (-1)) ||| g) (fun i => pb i || decide (i = o)) (by omega) (by omega) ⟨?_, ?_, ?_, ?_, ?_, ?_, ?_⟩ ?_
      · intro i hi h
        rw [b_or, Bool.or_eq_true] at h
        rcases h with h | h
        · exact hA i hi h
        · exact ⟨(fr1 i hi h).2.1, (fr1 i hi h).2.2.1⟩
      · intro C hC i hi h
        rw [b_or, Bool.or_eq_true] at h
        rcases h with h | h
        · exact hS C hC i hi h
        · obtain ⟨q1, q2, q3, q4⟩ := fr1 i hi h
          exact hC.2 o i hon (hS C hC o ho hfo) q1 q2 q3
      · intro i hi h
        rw [wb i hi] at h
        simp only [Bool.or_eq_true, Bool.and_eq_true] at h
        rw [b_or, Bool.or_eq_true]
        rcases h with h | h
        · exact Or.inl (h3 i hi h.1)
        · exact Or.inr h
      · intro i hi h
        have h : pb i = true ∨ i = o := by simpa using h
        have gf : bt g i = false := by
          cases hg : bt g i with
          | false => rfl
          | true =>
            have q := (fr1 i hi hg).2.2.2
            rcases h with h | h
            · rw [(h4 i hi h).1] at q; cases q
            · subst h; rw [hfo] at q; cases q
        rw [wb i hi, b_or, gf]
        rcases h with h | h
        · rw [(h4 i hi h).1, (h4 i hi h).2]; exact ⟨rfl, rfl⟩
        · subst h; rw [hfo]; simp
      · intro i hi h
        rw [b_or, Bool.or_eq_true] at h
        rw [wb i hi]
        simp only [Bool.or_eq_true, Bool.and_eq_true, Bool.not_eq_true', decide_eq_true_eq, decide_eq_false_iff_not]
        rcases h with h | h
        · rcases h5 i hi h with h | h
          · exact Or.inl (Or.inl h)
          · by_cases e : i = o
            · exact Or.inl (Or.inr e)
            · exact Or.inr (Or.inl ⟨h, e⟩)
        · exact Or.inr (Or.inr h)
      · intro o' a b c
        rw [b_or, h6 o' a b c]; rfl
      · intro o' t a b c hE hw
        have c : pb o' = true ∨ o' = o := by simpa using c
        rw [b_or, Bool.or_eq_true]
        rcases c with c | c
        · exact Or.inl (h7 o' t a b c hE hw)
        · subst c
          cases hf : bt fo t with
          | true => exact Or.inl rfl
          | false =>
            refine Or.inr ?_
            rw [fr t (by omega), (hlf o' a t (by omega)).mpr hE, hw, hf]; rfl
      · have := hb_cnt_lt (f := pb) (g := fun i => pb i || decide (i = o)) (k := o) pk (by simp) 24 (by omega) (fun i _ h => by simp [h])
        omega
theorem qx_reach {n : Nat} {rt sk sl lf : Nat → Int32} (wo ro : Int32) (hn : n ≤ 24) (hv : hb_V n sk sl) (hlf : ∀ o, o < n → ∀ t, t < 32 → (bt (lf o) t = true ↔ hb_E sk sl o t)) (hro : ∀ o, o < 32 → (bt ro o = true ↔ o < n ∧ ¬ rt o = 0)) :
    ∃ S, sxs_reachableWithout wo lf ro = some S ∧ hb_R n rt sk sl wo S := by
  have hb : ∀ i, i < 32 → (bt (ro &&& (wo ^^^ (-1))) i = true ↔ (i < n ∧ ¬ rt i = 0) ∧ bt wo i = false) := fun i hi => by
    rw [b_and, hb_not wo hi, Bool.and_eq_true, hro i hi, Bool.not_eq_true']
  obtain ⟨S, h1, h2⟩ := qx_L14 (rt := rt) (wo := wo) hn hv hlf 24 0 kF (ro &&& (wo ^^^ (-1))) (ro &&& (wo ^^^ (-1))) (fun _ => false) rfl (hb_kF (by decide))
    ⟨fun i hi h => ⟨((hb i hi).mp h).1.1, ((hb i hi).mp h).2⟩, fun C hC i hi h => hC.1 i ((hb i hi).mp h).1.1 ((hb i hi).mp h).1.2 ((hb i hi).mp h).2, fun _ _ h => h, fun _ _ h => (by cases h), fun _ _ h => Or.inr h, fun o ho hr hw => (hb o (by omega)).mpr ⟨⟨ho, hr⟩, hw⟩, fun _ _ _ _ h => by cases h⟩ (Nat.zero_le _)
  have h1 : sxs_reachableWithout_L14 kF wo (ro &&& (wo ^^^ (-1))) (ro &&& (wo ^^^ (-1))) 0 lf = some S := h1
  refine ⟨S, ?_, h2⟩
  unfold sxs_reachableWithout
  rw [h1]
  rfl
