/-! the automaton over the tokens taken; token, tokens, depth, clear -/
def hg_run (tk : Nat → Nat) : Nat → Option (Nat × Bool × List Nat)
  | 0 => some (0, false, [])
  | k + 1 => (hg_run tk k).bind fun u => hg_step (tk k) u.1 u.2.1 u.2.2
theorem hg_run_to {tk tk' : Nat → Nat} : ∀ k, (∀ i, i < k → tk i = tk' i) → hg_run tk k = hg_run tk' k := by
  intro k
  induction k with
  | zero => intro _; rfl
  | succ k ih =>
    intro h
    unfold hg_run
    rw [ih (fun i hi => h i (by omega)), h k (by omega)]
theorem hg_run_some {tk : Nat → Nat} {k : Nat} {u : Nat × Bool × List Nat} (h : hg_run tk k = some u) : ∀ j, j ≤ k → ∃ v, hg_run tk j = some v := by
  induction k generalizing u with
  | zero =>
    intro j hj
    have : j = 0 := by omega
    subst this
    exact ⟨u, h⟩
  | succ k ih =>
    intro j hj
    by_cases e : j = k + 1
    · subst e; exact ⟨u, h⟩
    · obtain ⟨v, hv, _⟩ := hq_bind (show (hg_run tk k).bind (fun u => hg_step (tk k) u.1 u.2.1 u.2.2) = some u from h)
      exact ih hv j (by omega)
theorem hg_endsI {c : Nat} {cm : Bool} {st : List Nat} {p' : Nat} {cm' : Bool} {st' : List Nat} (h : hg_ends c cm st = some (p', cm', st')) : cm' = cm ∧ ((c = 5 ∧ p' = 0 ∧ st' = st) ∨ (c = 7 ∧ p' = 7 ∧ st = 3 :: st') ∨ (c = 24 ∧ p' = 8 ∧ st = [] ∧ st' = [])) := by
  unfold hg_ends at h
  by_cases h5 : c = 5
  · rw [if_pos h5] at h; cases h; exact ⟨rfl, Or.inl ⟨h5, rfl, rfl⟩⟩
  · rw [if_neg h5] at h
    by_cases h7 : c = 7
    · rw [if_pos h7] at h
      cases st with
      | nil => cases h
      | cons t s =>
        have h : (if t = 3 then some (7, cm, s) else none) = some (p', cm', st') := h
        obtain ⟨h3, h⟩ := hq_ok h
        cases h; subst h3
        exact ⟨rfl, Or.inr (Or.inl ⟨h7, rfl, rfl⟩)⟩
    · rw [if_neg h7] at h
      by_cases h24 : c = 24
      · rw [if_pos h24] at h
        cases st with
        | nil => cases h; exact ⟨rfl, Or.inr (Or.inr ⟨h24, rfl, rfl, rfl⟩)⟩
        | cons t s => cases h
      · rw [if_neg h24] at h; cases h
theorem hg_operandI {c p : Nat} {cm : Bool} {st : List Nat} {p' : Nat} {cm' : Bool} {st' : List Nat} (h : hg_operand c p cm st = some (p', cm', st')) :
    (c = 1 ∧ p = 1 ∧ p' = 2 ∧ cm' = cm ∧ st' = st) ∨ (((c = 2 ∧ p ≤ 2) ∨ (c = 17 ∧ p ≤ 3)) ∧ p' = 3 ∧ cm' = cm ∧ st' = st) ∨ ((c = 10 ∨ c = 11 ∨ c = 12) ∧ p' = 5 ∧ cm' = cm ∧ st' = st) ∨ (c = 6 ∧ p' = 3 ∧ cm' = false ∧ ((cm = true ∧ st' = 4 :: st) ∨ (cm = false ∧ st' = 2 :: st))) := by
  unfold hg_operand at h
  by_cases h1 : c = 1 ∧ p = 1
  · rw [if_pos h1] at h; cases h; exact Or.inl ⟨h1.1, h1.2, rfl, rfl, rfl⟩
  · rw [if_neg h1] at h
    by_cases h2 : (c = 2 ∧ p ≤ 2) ∨ (c = 17 ∧ p ≤ 3)
    · rw [if_pos h2] at h; cases h; exact Or.inr (Or.inl ⟨h2, rfl, rfl, rfl⟩)
    · rw [if_neg h2] at h
      by_cases h3 : c = 10 ∨ c = 11 ∨ c = 12
      · rw [if_pos h3] at h; cases h; exact Or.inr (Or.inr (Or.inl ⟨h3, rfl, rfl, rfl⟩))
      · rw [if_neg h3] at h
        obtain ⟨h4, h⟩ := hq_ok h
        cases h
        refine Or.inr (Or.inr (Or.inr ⟨h4, rfl, rfl, ?_⟩))
        cases cm
        · exact Or.inr ⟨rfl, rfl⟩
        · exact Or.inl ⟨rfl, rfl⟩
theorem hg_behindI {c : Nat} {cm : Bool} {st : List Nat} {p' : Nat} {cm' : Bool} {st' : List Nat} (h : hg_behind c cm st = some (p', cm', st')) :
    ((c = 13 ∨ c = 14) ∧ p' = 5 ∧ cm' = cm ∧ st' = st) ∨ ((c = 21 ∨ c = 22 ∨ c = 23) ∧ p' = 4 ∧ cm' = cm ∧ st' = st) ∨ ((c = 18 ∨ c = 19 ∨ c = 20) ∧ p' = 4 ∧ cm' = true ∧ st' = st) ∨ ((c = 15 ∨ c = 16) ∧ p' = 3 ∧ cm' = false ∧ st' = st) ∨
    (c = 7 ∧ p' = 5 ∧ ((st = 2 :: st' ∧ cm' = false) ∨ (st = 4 :: st' ∧ cm' = true))) ∨ (c = 3 ∧ p' = 6 ∧ cm' = cm ∧ st = 0 :: st') ∨ ∃ s, st = 1 :: s ∧ hg_ends c cm s = some (p', cm', st') := by
  unfold hg_behind at h
  by_cases h1 : c = 13 ∨ c = 14
  · rw [if_pos h1] at h; cases h; exact Or.inl ⟨h1, rfl, rfl, rfl⟩
  · rw [if_neg h1] at h
    by_cases h2 : c = 21 ∨ c = 22 ∨ c = 23
    · rw [if_pos h2] at h; cases h; exact Or.inr (Or.inl ⟨h2, rfl, rfl, rfl⟩)
    · rw [if_neg h2] at h
      by_cases h3 : (c = 18 ∨ c = 19 ∨ c = 20) ∧ cm = false
      · rw [if_pos h3] at h; cases h; exact Or.inr (Or.inr (Or.inl ⟨h3.1, rfl, rfl, rfl⟩))
      · rw [if_neg h3] at h
        by_cases h4 : c = 15 ∨ c = 16
        · rw [if_pos h4] at h; cases h; exact Or.inr (Or.inr (Or.inr (Or.inl ⟨h4, rfl, rfl, rfl⟩)))
        · rw [if_neg h4] at h
          cases st with
          | nil => cases h
          | cons t s =>
            have h : (if t = 2 then (if c = 7 then some (5, false, s) else none) else if t = 4 then (if c = 7 then some (5, true, s) else none) else if t = 0 then (if c = 3 then some (6, cm, s) else none) else if t = 1 then hg_ends c cm s else none) = some (p', cm', st') := h
            by_cases t2 : t = 2
            · rw [if_pos t2] at h
              obtain ⟨h7, h⟩ := hq_ok h
              cases h; subst t2
              exact Or.inr (Or.inr (Or.inr (Or.inr (Or.inl ⟨h7, rfl, Or.inl ⟨rfl, rfl⟩⟩))))
            · rw [if_neg t2] at h
              by_cases t4 : t = 4
              · rw [if_pos t4] at h
                obtain ⟨h7, h⟩ := hq_ok h
                cases h; subst t4
                exact Or.inr (Or.inr (Or.inr (Or.inr (Or.inl ⟨h7, rfl, Or.inr ⟨rfl, rfl⟩⟩))))
              · rw [if_neg t4] at h
                by_cases t0 : t = 0
                · rw [if_pos t0] at h
                  obtain ⟨h7, h⟩ := hq_ok h
                  cases h; subst t0
                  exact Or.inr (Or.inr (Or.inr (Or.inr (Or.inr (Or.inl ⟨h7, rfl, rfl, rfl⟩)))))
                · rw [if_neg t0] at h
                  obtain ⟨t1, h⟩ := hq_ok h
                  subst t1
                  exact Or.inr (Or.inr (Or.inr (Or.inr (Or.inr (Or.inr ⟨s, rfl, h⟩)))))
theorem hg_stepI {c p : Nat} {cm : Bool} {st : List Nat} {p' : Nat} {cm' : Bool} {st' : List Nat} (h : hg_step c p cm st = some (p', cm', st')) :
    (p = 0 ∧ c = 0 ∧ p' = 1 ∧ cm' = false ∧ st' = 0 :: st) ∨ ((1 ≤ p ∧ p ≤ 4) ∧ hg_operand c p cm st = some (p', cm', st')) ∨ (p = 5 ∧ hg_behind c cm st = some (p', cm', st')) ∨ (p = 6 ∧ ((c = 6 ∧ p' = 0 ∧ cm' = cm ∧ st' = 3 :: st) ∨ ((c = 8 ∨ c = 9) ∧ p' = 7 ∧ cm' = cm ∧ st' = st))) ∨
    (p = 7 ∧ ((c = 4 ∧ p' = 3 ∧ cm' = false ∧ st' = 1 :: st) ∨ (¬ c = 4 ∧ hg_ends c cm st = some (p', cm', st')))) := by
  unfold hg_step at h
  by_cases h0 : p = 0
  · rw [if_pos h0] at h
    obtain ⟨h1, h⟩ := hq_ok h
    cases h
    exact Or.inl ⟨h0, h1, rfl, rfl, rfl⟩
  · rw [if_neg h0] at h
    by_cases h4 : p ≤ 4
    · rw [if_pos h4] at h
      exact Or.inr (Or.inl ⟨⟨by omega, h4⟩, h⟩)
    · rw [if_neg h4] at h
      by_cases h5 : p = 5
      · rw [if_pos h5] at h
        exact Or.inr (Or.inr (Or.inl ⟨h5, h⟩))
      · rw [if_neg h5] at h
        by_cases h6 : p = 6
        · rw [if_pos h6] at h
          refine Or.inr (Or.inr (Or.inr (Or.inl ⟨h6, ?_⟩)))
          by_cases c6 : c = 6
          · rw [if_pos c6] at h; cases h; exact Or.inl ⟨c6, rfl, rfl, rfl⟩
          · rw [if_neg c6] at h
            obtain ⟨c8, h⟩ := hq_ok h
            cases h; exact Or.inr ⟨c8, rfl, rfl, rfl⟩
        · rw [if_neg h6] at h
          obtain ⟨h7, h⟩ := hq_ok h
          refine Or.inr (Or.inr (Or.inr (Or.inr ⟨h7, ?_⟩)))
          by_cases c4 : c = 4
          · rw [if_pos c4] at h; cases h; exact Or.inl ⟨c4, rfl, rfl, rfl⟩
          · rw [if_neg c4] at h
            exact Or.inr ⟨c4, h⟩
theorem hg_dep {c p : Nat} {cm : Bool} {st : List Nat} {p' : Nat} {cm' : Bool} {st' : List Nat} (h : hg_step c p cm st = some (p', cm', st')) :
    st'.length ≤ st.length + 1 ∧ ((c = 6 ∧ (hg_pr st').length = (hg_pr st).length + 1) ∨ (c = 7 ∧ (hg_pr st).length = (hg_pr st').length + 1) ∨ (¬ c = 6 ∧ ¬ c = 7 ∧ (hg_pr st').length = (hg_pr st).length)) := by
  have E : ∀ s : List Nat, hg_ends c cm s = some (p', cm', st') → st'.length ≤ s.length + 1 ∧ ((c = 6 ∧ (hg_pr st').length = (hg_pr s).length + 1) ∨ (c = 7 ∧ (hg_pr s).length = (hg_pr st').length + 1) ∨ (¬ c = 6 ∧ ¬ c = 7 ∧ (hg_pr st').length = (hg_pr s).length)) := fun s h => by
    rcases hg_endsI h with ⟨_, ⟨a, _, b⟩ | ⟨a, _, b⟩ | ⟨a, _, b, b2⟩⟩
    · subst b; exact ⟨by omega, Or.inr (Or.inr ⟨by omega, by omega, rfl⟩)⟩
    · subst b; exact ⟨by simp only [List.length_cons]; omega, Or.inr (Or.inl ⟨a, rfl⟩)⟩
    · subst b b2; exact ⟨by simp, Or.inr (Or.inr ⟨by omega, by omega, rfl⟩)⟩
  rcases hg_stepI h with ⟨_, a, _, _, b⟩ | ⟨_, h⟩ | ⟨_, h⟩ | ⟨_, ⟨a, _, _, b⟩ | ⟨a, _, _, b⟩⟩ | ⟨_, ⟨a, _, _, b⟩ | ⟨_, h⟩⟩
  · subst b; exact ⟨Nat.le_refl _, Or.inr (Or.inr ⟨by omega, by omega, rfl⟩)⟩
  · rcases hg_operandI h with ⟨a, _, _, _, b⟩ | ⟨a, _, _, b⟩ | ⟨a, _, _, b⟩ | ⟨a, _, _, ⟨_, b⟩ | ⟨_, b⟩⟩
    · subst b; exact ⟨by omega, Or.inr (Or.inr ⟨by omega, by omega, rfl⟩)⟩
    · subst b; exact ⟨by omega, Or.inr (Or.inr ⟨by omega, by omega, rfl⟩)⟩
    · subst b; exact ⟨by omega, Or.inr (Or.inr ⟨by omega, by omega, rfl⟩)⟩
    · subst b; exact ⟨Nat.le_refl _, Or.inl ⟨a, rfl⟩⟩
    · subst b; exact ⟨Nat.le_refl _, Or.inl ⟨a, rfl⟩⟩
  · rcases hg_behindI h with ⟨a, _, _, b⟩ | ⟨a, _, _, b⟩ | ⟨a, _, _, b⟩ | ⟨a, _, _, b⟩ | ⟨a, _, ⟨b, _⟩ | ⟨b, _⟩⟩ | ⟨a, _, _, b⟩ | ⟨s, b, h9⟩
    · subst b; exact ⟨by omega, Or.inr (Or.inr ⟨by omega, by omega, rfl⟩)⟩
    · subst b; exact ⟨by omega, Or.inr (Or.inr ⟨by omega, by omega, rfl⟩)⟩
    · subst b; exact ⟨by omega, Or.inr (Or.inr ⟨by omega, by omega, rfl⟩)⟩
    · subst b; exact ⟨by omega, Or.inr (Or.inr ⟨by omega, by omega, rfl⟩)⟩
    · subst b; exact ⟨by simp only [List.length_cons]; omega, Or.inr (Or.inl ⟨a, rfl⟩)⟩
    · subst b; exact ⟨by simp only [List.length_cons]; omega, Or.inr (Or.inl ⟨a, rfl⟩)⟩
    · subst b; exact ⟨by simp only [List.length_cons]; omega, Or.inr (Or.inr ⟨by omega, by omega, rfl⟩)⟩
    · subst b
      obtain ⟨q1, q2⟩ := E s h9
      exact ⟨by simp only [List.length_cons]; omega, q2⟩
  · subst b; exact ⟨Nat.le_refl _, Or.inl ⟨a, rfl⟩⟩
  · subst b; exact ⟨by omega, Or.inr (Or.inr ⟨by omega, by omega, rfl⟩)⟩
  · subst b; exact ⟨Nat.le_refl _, Or.inr (Or.inr ⟨by omega, by omega, rfl⟩)⟩
  · exact E st h
theorem hg_len {c p : Nat} {cm : Bool} {st : List Nat} {p' : Nat} {cm' : Bool} {st' : List Nat} (h : hg_step c p cm st = some (p', cm', st')) : st'.length ≤ st.length + 1 := (hg_dep h).1
theorem hg_pr_len : ∀ st : List Nat, (hg_pr st).length ≤ st.length
  | [] => Nat.le_refl _
  | t :: s => by
    have := hg_pr_len s
    unfold hg_pr
    split
    · simp only [List.length_cons]; omega
    · simp only [List.length_cons]; omega
theorem hg_rep : ∀ st : List Nat, ∃ brk, hg_M st brk
  | [] => ⟨fun _ => 0, True.intro⟩
  | t :: s => by
    obtain ⟨b, h⟩ := hg_rep s
    exact ⟨upd b s.length (nI t), pk_us, hg_M_upd s (Nat.le_refl _) h⟩
theorem hg_e5 {m : Nat} (hm : m < 2) : ∀ {st : List Nat}, hg_e m st → (∀ t ∈ st, t < 5) ∧ ¬ st = []
  | [], h => absurd h (fun h => h)
  | t :: s, h => by
    refine ⟨fun x hx => ?_, fun q => by cases q⟩
    rcases List.mem_cons.mp hx with rfl | hx
    · rcases h with ⟨h | h, _⟩ | ⟨h, _⟩ <;> omega
    · rcases h with ⟨_, h⟩ | ⟨_, h⟩
      · exact (hg_e5 hm h).1 x hx
      · rw [h x hx]; decide
theorem hg_X5 {p : Nat} {cm : Bool} {st : List Nat} {brk : Nat → Int32} {bc iw cx : Int32} (h : hg_X p cm st brk bc iw cx) : (∀ t ∈ st, t < 5) ∧ (p = 5 → ¬ st = []) := by
  by_cases hp : 1 ≤ p ∧ p ≤ 5
  · have he := (h.2.2.2.2.1 hp).2
    have h5 := hg_e5 (by split <;> decide) he
    exact ⟨h5.1, fun _ => h5.2⟩
  · exact ⟨fun t ht => by rw [h.2.2.2.2.2 hp t ht]; decide, fun q => by omega⟩
/-- what stands at each token: the stack is short, and some class's state belongs to it -/
theorem hg_inv {tk : Nat → Nat} {k : Nat} (hk : k ≤ 40) (ht : ∀ i, i < k → tk i < 25) : ∀ j, j ≤ k → ∀ p cm st, hg_run tk j = some (p, cm, st) → p < 9 ∧ st.length ≤ j ∧ ∃ brk bc iw cx, hg_X p cm st brk bc iw cx := by
  intro j
  induction j with
  | zero =>
    intro _ p cm st h
    have h : some (0, false, []) = some (p, cm, st) := h
    cases h
    exact ⟨by decide, Nat.le_refl _, fun _ => 0, nI 0, 0, 0, True.intro, rfl, Or.inl rfl, Or.inl rfl, fun h => by omega, fun _ t ht => by cases ht⟩
  | succ j ih =>
    intro hj p cm st h
    obtain ⟨⟨p0, cm0, st0⟩, h1, h2⟩ := hq_bind (show (hg_run tk j).bind (fun u => hg_step (tk j) u.1 u.2.1 u.2.2) = some (p, cm, st) from h)
    have h2 : hg_step (tk j) p0 cm0 st0 = some (p, cm, st) := h2
    obtain ⟨i1, i2, brk, bc, iw, cx, i3⟩ := ih (by omega) p0 cm0 st0 h1
    have hl := hg_pr_len st0
    have hlen := hg_len h2
    rcases hg_x (ht j (by omega)) i1 (by omega) i3 with ⟨a, _⟩ | ⟨p', cm', st', brk', bc', iw', cx', a1, a2, _, _, a3⟩
    · rw [a] at h2; cases h2
    · rw [a1] at h2
      cases h2
      exact ⟨a2, by omega, brk', bc', iw', cx', a3⟩
def ht_N (cc c : Nat) (n : Int32) : Prop := (c = 8 ∨ c = 9 → ∃ j, j < cc ∧ n = nI j) ∧ (c = 13 → ∃ j, j < 4 ∧ n = nI j) ∧ (c = 14 → ∃ j, j < 6 ∧ n = nI j)
def ht_I (cc k : Nat) (tk : Nat → Nat) (p : Nat) (cm : Bool) (st : List Nat) (mc mn xc xn brk : Nat → Int32) (bc pl iw cx : Int32) : Prop :=
  k ≤ 40 ∧ (∀ i, i < k → tk i < 25 ∧ mc i = nI (tk i) ∧ xc i = nI (tk i) ∧ xn i = mn i ∧ ht_N cc (tk i) (mn i)) ∧ hg_run tk k = some (p, cm, st) ∧ pl = nI p ∧ hg_X p cm st brk bc iw cx
/-- the reference goes over all tokens again -/
theorem qm_L59 {k : Nat} {tk : Nat → Nat} {mc : Nat → Int32} (hk : k < 40) (ht : ∀ i, i ≤ k → tk i < 25 ∧ mc i = nI (tk i)) {u : Nat × Bool × List Nat} (hr : hg_run tk k = some u) :
    ∀ (d j fuel : Nat) (p : Nat) (cm : Bool) (st : List Nat) (opn : Nat → Int32), j + d = k → d + 1 < fuel → hg_run tk j = some (p, cm, st) → hg_M st opn →
      ∃ f a b e o, sm_token_L59 fuel 1 (nI j) (nI k) mc (nI p) (hg_b cm) (nI st.length) opn = some (f, a, b, e, o) ∧ ((f = 0 ∧ hg_run tk (k + 1) = none) ∨ (f = 1 ∧ ∃ v, hg_run tk (k + 1) = some v)) := by
  intro d
  induction d with
  | zero =>
    intro j fuel p cm st opn hj hfu hrj hM
    obtain ⟨m, rfl⟩ : ∃ m, fuel = m + 2 := ⟨fuel - 2, by omega⟩
    have : j = k := by omega
    subst this
    obtain ⟨i1, i2, brk, bc, iw, cx, i3⟩ := hg_inv (k := j) (by omega) (fun i hi => (ht i (by omega)).1) j (Nat.le_refl _) p cm st hrj
    obtain ⟨x5, x6⟩ := hg_X5 i3
    obtain ⟨f, a, b, e, o, s1, s2⟩ := hg_m (c := tk j) (p := p) (cm := cm) (ht j (Nat.le_refl _)).1 i1 x6 (by omega) x5 hM
    have e0 : sm_token_L59 (m + 2) 1 (nI j) (nI j) mc (nI p) (hg_b cm) (nI st.length) opn = sm_token_L59_B (sm_token_L59 (m + 1)) 1 (nI j) (nI j) mc (nI p) (hg_b cm) (nI st.length) opn := rfl
    have e1 : sm_token_L59 (m + 1) f (nI (j + 1)) (nI j) mc a b e o = some (f, a, b, e, o) := by
      show sm_token_L59_B _ f (nI (j + 1)) (nI j) mc a b e o = _
      unfold sm_token_L59_B
      rw [if_pos ((nI_ltI (by omega) (by omega)).mpr (by omega))]
    refine ⟨f, a, b, e, o, ?_, ?_⟩
    · rw [e0]
      unfold sm_token_L59_B
      rw [if_neg (fun q => by have := (nI_ltI (by omega) (by omega)).mp q; omega), if_neg (by decide), if_pos (hb_I hk (by omega)), nI_clamp (by omega), (ht j (Nat.le_refl _)).2, s1, Option.bind_some, nI_1]
      exact e1
    · have er : hg_run tk (j + 1) = hg_step (tk j) p cm st := by
        show (hg_run tk j).bind _ = _
        rw [hrj]; rfl
      rw [er]
      rcases s2 with ⟨h1, h2⟩ | ⟨h1, p', cm', st', h2, _⟩
      · exact Or.inl ⟨h1, h2⟩
      · exact Or.inr ⟨h1, _, h2⟩
  | succ d ih =>
    intro j fuel p cm st opn hj hfu hrj hM
    obtain ⟨m, rfl⟩ : ∃ m, fuel = m + 1 := ⟨fuel - 1, by omega⟩
    obtain ⟨i1, i2, brk, bc, iw, cx, i3⟩ := hg_inv (k := j) (by omega) (fun i hi => (ht i (by omega)).1) j (Nat.le_refl _) p cm st hrj
    obtain ⟨x5, x6⟩ := hg_X5 i3
    obtain ⟨f, a, b, e, o, s1, s2⟩ := hg_m (c := tk j) (p := p) (cm := cm) (ht j (by omega)).1 i1 x6 (by omega) x5 hM
    have er : hg_run tk (j + 1) = hg_step (tk j) p cm st := by
      show (hg_run tk j).bind _ = _
      rw [hrj]; rfl
    obtain ⟨v, hv⟩ := hg_run_some hr (j + 1) (by omega)
    have e0 : sm_token_L59 (m + 1) 1 (nI j) (nI k) mc (nI p) (hg_b cm) (nI st.length) opn = sm_token_L59_B (sm_token_L59 m) 1 (nI j) (nI k) mc (nI p) (hg_b cm) (nI st.length) opn := rfl
    rcases s2 with ⟨h1, h2⟩ | ⟨h1, p', cm', st', h2, h3, h4, h5, h6⟩
    · rw [er, h2] at hv; cases hv
    · subst h1 h3 h4 h5
      have g := ih (j + 1) m p' cm' st' o (by omega) (by omega) (er.trans h2) h6
      rw [e0]
      unfold sm_token_L59_B
      rw [if_neg (fun q => by have := (nI_ltI (by omega) (by omega)).mp q; omega), if_neg (by decide), if_pos (hb_I (by omega) (by omega)), nI_clamp (by omega), (ht j (by omega)).2, s1, Option.bind_some, nI_1]
      exact g
