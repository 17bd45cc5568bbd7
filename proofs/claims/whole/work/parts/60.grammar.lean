/-! hg_: the grammar as one automaton over naturals; a stack of what stands open: 0 the e behind SELECT, 1 the e behind WHERE, 2 and 4 brackets of an e (4: the c around it has its comparison), 3 brackets of a query -/
def hg_b (b : Bool) : Int32 := if b = true then 1 else 0
def hg_ends (c : Nat) (cm : Bool) (st : List Nat) : Option (Nat × Bool × List Nat) :=
  if c = 5 then some (0, cm, st)
  else if c = 7 then
    match st with
    | [] => none
    | t :: s => if t = 3 then some (7, cm, s) else none
  else if c = 24 then
    match st with
    | [] => some (8, cm, [])
    | _ :: _ => none
  else none
def hg_behind (c : Nat) (cm : Bool) (st : List Nat) : Option (Nat × Bool × List Nat) :=
  if c = 13 ∨ c = 14 then some (5, cm, st)
  else if c = 21 ∨ c = 22 ∨ c = 23 then some (4, cm, st)
  else if (c = 18 ∨ c = 19 ∨ c = 20) ∧ cm = false then some (4, true, st)
  else if c = 15 ∨ c = 16 then some (3, false, st)
  else match st with
    | [] => none
    | t :: s =>
      if t = 2 then (if c = 7 then some (5, false, s) else none)
      else if t = 4 then (if c = 7 then some (5, true, s) else none)
      else if t = 0 then (if c = 3 then some (6, cm, s) else none)
      else if t = 1 then hg_ends c cm s
      else none
def hg_operand (c p : Nat) (cm : Bool) (st : List Nat) : Option (Nat × Bool × List Nat) :=
  if c = 1 ∧ p = 1 then some (2, cm, st)
  else if (c = 2 ∧ p ≤ 2) ∨ (c = 17 ∧ p ≤ 3) then some (3, cm, st)
  else if c = 10 ∨ c = 11 ∨ c = 12 then some (5, cm, st)
  else if c = 6 then some (3, false, (if cm = true then 4 else 2) :: st)
  else none
def hg_step (c p : Nat) (cm : Bool) (st : List Nat) : Option (Nat × Bool × List Nat) :=
  if p = 0 then (if c = 0 then some (1, false, 0 :: st) else none)
  else if p ≤ 4 then hg_operand c p cm st
  else if p = 5 then hg_behind c cm st
  else if p = 6 then (if c = 6 then some (0, cm, 3 :: st) else if c = 8 ∨ c = 9 then some (7, cm, st) else none)
  else if p = 7 then (if c = 4 then some (3, false, 1 :: st) else hg_ends c cm st)
  else none
/-- an array holds a stack -/
def hg_M : List Nat → (Nat → Int32) → Prop
  | [], _ => True
  | t :: s, a => a s.length = nI t ∧ hg_M s a
theorem hg_M_upd : ∀ (st : List Nat) {a : Nat → Int32} {k : Nat} {w : Int32}, st.length ≤ k → hg_M st a → hg_M st (upd a k w)
  | [], _, _, _, _, _ => True.intro
  | t :: s, a, k, w, h, hM => by
    have hlt : s.length < k := h
    exact ⟨(pk_un (by omega)).trans hM.1, hg_M_upd s (by omega) hM.2⟩
theorem hg_push {st : List Nat} {a : Nat → Int32} (hl : st.length < 41) (w : Int32) : sm_push w (nI st.length) a = some (nI (st.length + 1), upd a st.length w) := by
  unfold sm_push
  rw [if_pos (hb_I hl (by omega)), nI_clamp (by omega), nI_1]
def hg_R (c p : Nat) (cm : Bool) (st : List Nat) (x : Option (Int32 × Int32 × Int32 × Int32 × (Nat → Int32))) : Prop :=
  ∃ f a b d e, x = some (f, a, b, d, e) ∧ ((f = 0 ∧ hg_step c p cm st = none) ∨ (f = 1 ∧ ∃ p' cm' st', hg_step c p cm st = some (p', cm', st') ∧ a = nI p' ∧ b = hg_b cm' ∧ d = nI st'.length ∧ hg_M st' e))
def hg_Re (c : Nat) (st : List Nat) (opn : Nat → Int32) (x : Option (Int32 × Int32 × Int32)) : Prop :=
  ∃ f a d, x = some (f, a, d) ∧ ((f = 0 ∧ ∀ cm, hg_ends c cm st = none) ∨ (f = 1 ∧ ∃ p' st', (∀ cm, hg_ends c cm st = some (p', cm, st')) ∧ a = nI p' ∧ d = nI st'.length ∧ hg_M st' opn))
theorem hg_c {c : Nat} (h : c < 25) : c = 0 ∨ c = 1 ∨ c = 2 ∨ c = 3 ∨ c = 4 ∨ c = 5 ∨ c = 6 ∨ c = 7 ∨ c = 8 ∨ c = 9 ∨ c = 10 ∨ c = 11 ∨ c = 12 ∨ c = 13 ∨ c = 14 ∨ c = 15 ∨ c = 16 ∨ c = 17 ∨ c = 18 ∨ c = 19 ∨ c = 20 ∨ c = 21 ∨ c = 22 ∨ c = 23 ∨ c = 24 := by omega
theorem hg_endsM {c : Nat} {w : Int32} {st : List Nat} {opn : Nat → Int32} (hc : c < 25) (hl : st.length ≤ 41) (ht5 : ∀ t ∈ st, t < 5) (hM : hg_M st opn) : hg_Re c st opn (sm_ends (nI c) w (nI st.length) opn) := by
  cases st with
  | nil =>
    rcases hg_c hc with rfl | rfl | rfl | rfl | rfl | rfl | rfl | rfl | rfl | rfl | rfl | rfl | rfl | rfl | rfl | rfl | rfl | rfl | rfl | rfl | rfl | rfl | rfl | rfl | rfl
    · exact ⟨0, _, _, rfl, Or.inl ⟨rfl, fun _ => rfl⟩⟩
    · exact ⟨0, _, _, rfl, Or.inl ⟨rfl, fun _ => rfl⟩⟩
    · exact ⟨0, _, _, rfl, Or.inl ⟨rfl, fun _ => rfl⟩⟩
    · exact ⟨0, _, _, rfl, Or.inl ⟨rfl, fun _ => rfl⟩⟩
    · exact ⟨0, _, _, rfl, Or.inl ⟨rfl, fun _ => rfl⟩⟩
    · exact ⟨1, _, _, rfl, Or.inr ⟨rfl, 0, [], fun _ => rfl, rfl, rfl, hM⟩⟩
    · exact ⟨0, _, _, rfl, Or.inl ⟨rfl, fun _ => rfl⟩⟩
    · exact ⟨0, _, _, rfl, Or.inl ⟨rfl, fun _ => rfl⟩⟩
    · exact ⟨0, _, _, rfl, Or.inl ⟨rfl, fun _ => rfl⟩⟩
    · exact ⟨0, _, _, rfl, Or.inl ⟨rfl, fun _ => rfl⟩⟩
    · exact ⟨0, _, _, rfl, Or.inl ⟨rfl, fun _ => rfl⟩⟩
    · exact ⟨0, _, _, rfl, Or.inl ⟨rfl, fun _ => rfl⟩⟩
    · exact ⟨0, _, _, rfl, Or.inl ⟨rfl, fun _ => rfl⟩⟩
    · exact ⟨0, _, _, rfl, Or.inl ⟨rfl, fun _ => rfl⟩⟩
    · exact ⟨0, _, _, rfl, Or.inl ⟨rfl, fun _ => rfl⟩⟩
    · exact ⟨0, _, _, rfl, Or.inl ⟨rfl, fun _ => rfl⟩⟩
    · exact ⟨0, _, _, rfl, Or.inl ⟨rfl, fun _ => rfl⟩⟩
    · exact ⟨0, _, _, rfl, Or.inl ⟨rfl, fun _ => rfl⟩⟩
    · exact ⟨0, _, _, rfl, Or.inl ⟨rfl, fun _ => rfl⟩⟩
    · exact ⟨0, _, _, rfl, Or.inl ⟨rfl, fun _ => rfl⟩⟩
    · exact ⟨0, _, _, rfl, Or.inl ⟨rfl, fun _ => rfl⟩⟩
    · exact ⟨0, _, _, rfl, Or.inl ⟨rfl, fun _ => rfl⟩⟩
    · exact ⟨0, _, _, rfl, Or.inl ⟨rfl, fun _ => rfl⟩⟩
    · exact ⟨0, _, _, rfl, Or.inl ⟨rfl, fun _ => rfl⟩⟩
    · exact ⟨1, _, _, rfl, Or.inr ⟨rfl, 8, [], fun _ => rfl, rfl, rfl, hM⟩⟩
  | cons t s =>
    have hl : s.length + 1 ≤ 41 := hl
    have e0 : ¬ nI (s.length + 1) ≤ 0 := nI_nle (by omega) (by omega)
    have e1 : ¬ nI (s.length + 1) = 0 := nI_ne0 (by omega) (by omega)
    have e2 : nI (s.length + 1) - 1 = nI s.length := nI_pred _
    have e3 : hq_I (nI s.length) 41 = true := hb_I (by omega) (by omega)
    rcases hg_c hc with rfl | rfl | rfl | rfl | rfl | rfl | rfl | rfl | rfl | rfl | rfl | rfl | rfl | rfl | rfl | rfl | rfl | rfl | rfl | rfl | rfl | rfl | rfl | rfl | rfl
    · exact ⟨0, _, _, rfl, Or.inl ⟨rfl, fun _ => rfl⟩⟩
    · exact ⟨0, _, _, rfl, Or.inl ⟨rfl, fun _ => rfl⟩⟩
    · exact ⟨0, _, _, rfl, Or.inl ⟨rfl, fun _ => rfl⟩⟩
    · exact ⟨0, _, _, rfl, Or.inl ⟨rfl, fun _ => rfl⟩⟩
    · exact ⟨0, _, _, rfl, Or.inl ⟨rfl, fun _ => rfl⟩⟩
    · exact ⟨1, _, _, rfl, Or.inr ⟨rfl, 0, t :: s, fun _ => rfl, rfl, rfl, hM⟩⟩
    · exact ⟨0, _, _, rfl, Or.inl ⟨rfl, fun _ => rfl⟩⟩
    · have g : sm_ends (nI 7) w (nI (s.length + 1)) opn = if nI t = 3 then some (1, 7, nI s.length) else some (0, w, nI (s.length + 1)) := by
        show (if nI (s.length + 1) ≤ 0 then _ else if hq_I (nI (s.length + 1) - 1) 41 = true then if opn (nI (s.length + 1) - 1).toNatClampNeg = 3 then some ((1 : Int32), (7 : Int32), nI (s.length + 1) - 1) else some ((0 : Int32), w, nI (s.length + 1)) else none) = _
        rw [if_neg e0, e2, if_pos e3, nI_clamp (by omega), hM.1]
      by_cases ht : t = 3
      · subst ht
        exact ⟨1, 7, nI s.length, g.trans (if_pos rfl), Or.inr ⟨rfl, 7, s, fun _ => rfl, rfl, rfl, hM.2⟩⟩
      · by_cases ht2 : nI t = 3
        · exact absurd ((nI_eq (b := 3) (by have := ht5 t List.mem_cons_self; omega) (by omega)).mp ht2) ht
        · exact ⟨0, w, nI (s.length + 1), g.trans (if_neg ht2), Or.inl ⟨rfl, fun _ => if_neg ht⟩⟩
    · exact ⟨0, _, _, rfl, Or.inl ⟨rfl, fun _ => rfl⟩⟩
    · exact ⟨0, _, _, rfl, Or.inl ⟨rfl, fun _ => rfl⟩⟩
    · exact ⟨0, _, _, rfl, Or.inl ⟨rfl, fun _ => rfl⟩⟩
    · exact ⟨0, _, _, rfl, Or.inl ⟨rfl, fun _ => rfl⟩⟩
    · exact ⟨0, _, _, rfl, Or.inl ⟨rfl, fun _ => rfl⟩⟩
    · exact ⟨0, _, _, rfl, Or.inl ⟨rfl, fun _ => rfl⟩⟩
    · exact ⟨0, _, _, rfl, Or.inl ⟨rfl, fun _ => rfl⟩⟩
    · exact ⟨0, _, _, rfl, Or.inl ⟨rfl, fun _ => rfl⟩⟩
    · exact ⟨0, _, _, rfl, Or.inl ⟨rfl, fun _ => rfl⟩⟩
    · exact ⟨0, _, _, rfl, Or.inl ⟨rfl, fun _ => rfl⟩⟩
    · exact ⟨0, _, _, rfl, Or.inl ⟨rfl, fun _ => rfl⟩⟩
    · exact ⟨0, _, _, rfl, Or.inl ⟨rfl, fun _ => rfl⟩⟩
    · exact ⟨0, _, _, rfl, Or.inl ⟨rfl, fun _ => rfl⟩⟩
    · exact ⟨0, _, _, rfl, Or.inl ⟨rfl, fun _ => rfl⟩⟩
    · exact ⟨0, _, _, rfl, Or.inl ⟨rfl, fun _ => rfl⟩⟩
    · exact ⟨0, _, _, rfl, Or.inl ⟨rfl, fun _ => rfl⟩⟩
    · refine ⟨0, w, nI (s.length + 1), ?_, Or.inl ⟨rfl, fun _ => rfl⟩⟩
      show (if nI (s.length + 1) = 0 then _ else some ((0 : Int32), w, nI (s.length + 1))) = _
      rw [if_neg e1]
theorem hg_m0 {c : Nat} {cm : Bool} {st : List Nat} {opn : Nat → Int32} (hc : c < 25) (hl : st.length < 41) (ht5 : ∀ t ∈ st, t < 5) (hM : hg_M st opn) : hg_R c 0 cm st (sm_step (nI c) (nI 0) (hg_b cm) (nI st.length) opn) := by
  rcases hg_c hc with rfl | rfl | rfl | rfl | rfl | rfl | rfl | rfl | rfl | rfl | rfl | rfl | rfl | rfl | rfl | rfl | rfl | rfl | rfl | rfl | rfl | rfl | rfl | rfl | rfl
  · refine ⟨1, nI 1, hg_b false, nI (st.length + 1), upd opn st.length 0, ?_, Or.inr ⟨rfl, 1, false, 0 :: st, rfl, rfl, rfl, rfl, pk_us, hg_M_upd st (Nat.le_refl _) hM⟩⟩
    show ((sm_push 0 (nI st.length) opn).bind fun v => _) = _
    rw [hg_push hl]
    rfl
  · exact ⟨0, _, _, _, _, rfl, Or.inl ⟨rfl, rfl⟩⟩
  · exact ⟨0, _, _, _, _, rfl, Or.inl ⟨rfl, rfl⟩⟩
  · exact ⟨0, _, _, _, _, rfl, Or.inl ⟨rfl, rfl⟩⟩
  · exact ⟨0, _, _, _, _, rfl, Or.inl ⟨rfl, rfl⟩⟩
  · exact ⟨0, _, _, _, _, rfl, Or.inl ⟨rfl, rfl⟩⟩
  · exact ⟨0, _, _, _, _, rfl, Or.inl ⟨rfl, rfl⟩⟩
  · exact ⟨0, _, _, _, _, rfl, Or.inl ⟨rfl, rfl⟩⟩
  · exact ⟨0, _, _, _, _, rfl, Or.inl ⟨rfl, rfl⟩⟩
  · exact ⟨0, _, _, _, _, rfl, Or.inl ⟨rfl, rfl⟩⟩
  · exact ⟨0, _, _, _, _, rfl, Or.inl ⟨rfl, rfl⟩⟩
  · exact ⟨0, _, _, _, _, rfl, Or.inl ⟨rfl, rfl⟩⟩
  · exact ⟨0, _, _, _, _, rfl, Or.inl ⟨rfl, rfl⟩⟩
  · exact ⟨0, _, _, _, _, rfl, Or.inl ⟨rfl, rfl⟩⟩
  · exact ⟨0, _, _, _, _, rfl, Or.inl ⟨rfl, rfl⟩⟩
  · exact ⟨0, _, _, _, _, rfl, Or.inl ⟨rfl, rfl⟩⟩
  · exact ⟨0, _, _, _, _, rfl, Or.inl ⟨rfl, rfl⟩⟩
  · exact ⟨0, _, _, _, _, rfl, Or.inl ⟨rfl, rfl⟩⟩
  · exact ⟨0, _, _, _, _, rfl, Or.inl ⟨rfl, rfl⟩⟩
  · exact ⟨0, _, _, _, _, rfl, Or.inl ⟨rfl, rfl⟩⟩
  · exact ⟨0, _, _, _, _, rfl, Or.inl ⟨rfl, rfl⟩⟩
  · exact ⟨0, _, _, _, _, rfl, Or.inl ⟨rfl, rfl⟩⟩
  · exact ⟨0, _, _, _, _, rfl, Or.inl ⟨rfl, rfl⟩⟩
  · exact ⟨0, _, _, _, _, rfl, Or.inl ⟨rfl, rfl⟩⟩
  · exact ⟨0, _, _, _, _, rfl, Or.inl ⟨rfl, rfl⟩⟩
theorem hg_m1 {c : Nat} {cm : Bool} {st : List Nat} {opn : Nat → Int32} (hc : c < 25) (hl : st.length < 41) (ht5 : ∀ t ∈ st, t < 5) (hM : hg_M st opn) : hg_R c 1 cm st (sm_step (nI c) (nI 1) (hg_b cm) (nI st.length) opn) := by
  rcases hg_c hc with rfl | rfl | rfl | rfl | rfl | rfl | rfl | rfl | rfl | rfl | rfl | rfl | rfl | rfl | rfl | rfl | rfl | rfl | rfl | rfl | rfl | rfl | rfl | rfl | rfl
  · exact ⟨0, _, _, _, _, rfl, Or.inl ⟨rfl, rfl⟩⟩
  · exact ⟨1, _, _, _, _, rfl, Or.inr ⟨rfl, 2, cm, st, rfl, rfl, rfl, rfl, hM⟩⟩
  · exact ⟨1, _, _, _, _, rfl, Or.inr ⟨rfl, 3, cm, st, rfl, rfl, rfl, rfl, hM⟩⟩
  · exact ⟨0, _, _, _, _, rfl, Or.inl ⟨rfl, rfl⟩⟩
  · exact ⟨0, _, _, _, _, rfl, Or.inl ⟨rfl, rfl⟩⟩
  · exact ⟨0, _, _, _, _, rfl, Or.inl ⟨rfl, rfl⟩⟩
  · cases cm
    · refine ⟨1, nI 3, hg_b false, nI (st.length + 1), upd opn st.length 2, ?_, Or.inr ⟨rfl, 3, false, 2 :: st, rfl, rfl, rfl, rfl, pk_us, hg_M_upd st (Nat.le_refl _) hM⟩⟩
      show (((sm_push 2 (nI st.length) opn).bind fun v => _).bind fun v => _) = _
      rw [hg_push hl]
      rfl
    · refine ⟨1, nI 3, hg_b false, nI (st.length + 1), upd opn st.length 4, ?_, Or.inr ⟨rfl, 3, false, 4 :: st, rfl, rfl, rfl, rfl, pk_us, hg_M_upd st (Nat.le_refl _) hM⟩⟩
      show (((sm_push 4 (nI st.length) opn).bind fun v => _).bind fun v => _) = _
      rw [hg_push hl]
      rfl
  · exact ⟨0, _, _, _, _, rfl, Or.inl ⟨rfl, rfl⟩⟩
  · exact ⟨0, _, _, _, _, rfl, Or.inl ⟨rfl, rfl⟩⟩
  · exact ⟨0, _, _, _, _, rfl, Or.inl ⟨rfl, rfl⟩⟩
  · exact ⟨1, _, _, _, _, rfl, Or.inr ⟨rfl, 5, cm, st, rfl, rfl, rfl, rfl, hM⟩⟩
  · exact ⟨1, _, _, _, _, rfl, Or.inr ⟨rfl, 5, cm, st, rfl, rfl, rfl, rfl, hM⟩⟩
  · exact ⟨1, _, _, _, _, rfl, Or.inr ⟨rfl, 5, cm, st, rfl, rfl, rfl, rfl, hM⟩⟩
  · exact ⟨0, _, _, _, _, rfl, Or.inl ⟨rfl, rfl⟩⟩
  · exact ⟨0, _, _, _, _, rfl, Or.inl ⟨rfl, rfl⟩⟩
  · exact ⟨0, _, _, _, _, rfl, Or.inl ⟨rfl, rfl⟩⟩
  · exact ⟨0, _, _, _, _, rfl, Or.inl ⟨rfl, rfl⟩⟩
  · exact ⟨1, _, _, _, _, rfl, Or.inr ⟨rfl, 3, cm, st, rfl, rfl, rfl, rfl, hM⟩⟩
  · exact ⟨0, _, _, _, _, rfl, Or.inl ⟨rfl, rfl⟩⟩
  · exact ⟨0, _, _, _, _, rfl, Or.inl ⟨rfl, rfl⟩⟩
  · exact ⟨0, _, _, _, _, rfl, Or.inl ⟨rfl, rfl⟩⟩
  · exact ⟨0, _, _, _, _, rfl, Or.inl ⟨rfl, rfl⟩⟩
  · exact ⟨0, _, _, _, _, rfl, Or.inl ⟨rfl, rfl⟩⟩
  · exact ⟨0, _, _, _, _, rfl, Or.inl ⟨rfl, rfl⟩⟩
  · exact ⟨0, _, _, _, _, rfl, Or.inl ⟨rfl, rfl⟩⟩
theorem hg_m2 {c : Nat} {cm : Bool} {st : List Nat} {opn : Nat → Int32} (hc : c < 25) (hl : st.length < 41) (ht5 : ∀ t ∈ st, t < 5) (hM : hg_M st opn) : hg_R c 2 cm st (sm_step (nI c) (nI 2) (hg_b cm) (nI st.length) opn) := by
  rcases hg_c hc with rfl | rfl | rfl | rfl | rfl | rfl | rfl | rfl | rfl | rfl | rfl | rfl | rfl | rfl | rfl | rfl | rfl | rfl | rfl | rfl | rfl | rfl | rfl | rfl | rfl
  · exact ⟨0, _, _, _, _, rfl, Or.inl ⟨rfl, rfl⟩⟩
  · exact ⟨0, _, _, _, _, rfl, Or.inl ⟨rfl, rfl⟩⟩
  · exact ⟨1, _, _, _, _, rfl, Or.inr ⟨rfl, 3, cm, st, rfl, rfl, rfl, rfl, hM⟩⟩
  · exact ⟨0, _, _, _, _, rfl, Or.inl ⟨rfl, rfl⟩⟩
  · exact ⟨0, _, _, _, _, rfl, Or.inl ⟨rfl, rfl⟩⟩
  · exact ⟨0, _, _, _, _, rfl, Or.inl ⟨rfl, rfl⟩⟩
  · cases cm
    · refine ⟨1, nI 3, hg_b false, nI (st.length + 1), upd opn st.length 2, ?_, Or.inr ⟨rfl, 3, false, 2 :: st, rfl, rfl, rfl, rfl, pk_us, hg_M_upd st (Nat.le_refl _) hM⟩⟩
      show (((sm_push 2 (nI st.length) opn).bind fun v => _).bind fun v => _) = _
      rw [hg_push hl]
      rfl
    · refine ⟨1, nI 3, hg_b false, nI (st.length + 1), upd opn st.length 4, ?_, Or.inr ⟨rfl, 3, false, 4 :: st, rfl, rfl, rfl, rfl, pk_us, hg_M_upd st (Nat.le_refl _) hM⟩⟩
      show (((sm_push 4 (nI st.length) opn).bind fun v => _).bind fun v => _) = _
      rw [hg_push hl]
      rfl
  · exact ⟨0, _, _, _, _, rfl, Or.inl ⟨rfl, rfl⟩⟩
  · exact ⟨0, _, _, _, _, rfl, Or.inl ⟨rfl, rfl⟩⟩
  · exact ⟨0, _, _, _, _, rfl, Or.inl ⟨rfl, rfl⟩⟩
  · exact ⟨1, _, _, _, _, rfl, Or.inr ⟨rfl, 5, cm, st, rfl, rfl, rfl, rfl, hM⟩⟩
  · exact ⟨1, _, _, _, _, rfl, Or.inr ⟨rfl, 5, cm, st, rfl, rfl, rfl, rfl, hM⟩⟩
  · exact ⟨1, _, _, _, _, rfl, Or.inr ⟨rfl, 5, cm, st, rfl, rfl, rfl, rfl, hM⟩⟩
  · exact ⟨0, _, _, _, _, rfl, Or.inl ⟨rfl, rfl⟩⟩
  · exact ⟨0, _, _, _, _, rfl, Or.inl ⟨rfl, rfl⟩⟩
  · exact ⟨0, _, _, _, _, rfl, Or.inl ⟨rfl, rfl⟩⟩
  · exact ⟨0, _, _, _, _, rfl, Or.inl ⟨rfl, rfl⟩⟩
  · exact ⟨1, _, _, _, _, rfl, Or.inr ⟨rfl, 3, cm, st, rfl, rfl, rfl, rfl, hM⟩⟩
  · exact ⟨0, _, _, _, _, rfl, Or.inl ⟨rfl, rfl⟩⟩
  · exact ⟨0, _, _, _, _, rfl, Or.inl ⟨rfl, rfl⟩⟩
  · exact ⟨0, _, _, _, _, rfl, Or.inl ⟨rfl, rfl⟩⟩
  · exact ⟨0, _, _, _, _, rfl, Or.inl ⟨rfl, rfl⟩⟩
  · exact ⟨0, _, _, _, _, rfl, Or.inl ⟨rfl, rfl⟩⟩
  · exact ⟨0, _, _, _, _, rfl, Or.inl ⟨rfl, rfl⟩⟩
  · exact ⟨0, _, _, _, _, rfl, Or.inl ⟨rfl, rfl⟩⟩
theorem hg_m3 {c : Nat} {cm : Bool} {st : List Nat} {opn : Nat → Int32} (hc : c < 25) (hl : st.length < 41) (ht5 : ∀ t ∈ st, t < 5) (hM : hg_M st opn) : hg_R c 3 cm st (sm_step (nI c) (nI 3) (hg_b cm) (nI st.length) opn) := by
  rcases hg_c hc with rfl | rfl | rfl | rfl | rfl | rfl | rfl | rfl | rfl | rfl | rfl | rfl | rfl | rfl | rfl | rfl | rfl | rfl | rfl | rfl | rfl | rfl | rfl | rfl | rfl
  · exact ⟨0, _, _, _, _, rfl, Or.inl ⟨rfl, rfl⟩⟩
  · exact ⟨0, _, _, _, _, rfl, Or.inl ⟨rfl, rfl⟩⟩
  · exact ⟨0, _, _, _, _, rfl, Or.inl ⟨rfl, rfl⟩⟩
  · exact ⟨0, _, _, _, _, rfl, Or.inl ⟨rfl, rfl⟩⟩
  · exact ⟨0, _, _, _, _, rfl, Or.inl ⟨rfl, rfl⟩⟩
  · exact ⟨0, _, _, _, _, rfl, Or.inl ⟨rfl, rfl⟩⟩
  · cases cm
    · refine ⟨1, nI 3, hg_b false, nI (st.length + 1), upd opn st.length 2, ?_, Or.inr ⟨rfl, 3, false, 2 :: st, rfl, rfl, rfl, rfl, pk_us, hg_M_upd st (Nat.le_refl _) hM⟩⟩
      show (((sm_push 2 (nI st.length) opn).bind fun v => _).bind fun v => _) = _
      rw [hg_push hl]
      rfl
    · refine ⟨1, nI 3, hg_b false, nI (st.length + 1), upd opn st.length 4, ?_, Or.inr ⟨rfl, 3, false, 4 :: st, rfl, rfl, rfl, rfl, pk_us, hg_M_upd st (Nat.le_refl _) hM⟩⟩
      show (((sm_push 4 (nI st.length) opn).bind fun v => _).bind fun v => _) = _
      rw [hg_push hl]
      rfl
  · exact ⟨0, _, _, _, _, rfl, Or.inl ⟨rfl, rfl⟩⟩
  · exact ⟨0, _, _, _, _, rfl, Or.inl ⟨rfl, rfl⟩⟩
  · exact ⟨0, _, _, _, _, rfl, Or.inl ⟨rfl, rfl⟩⟩
  · exact ⟨1, _, _, _, _, rfl, Or.inr ⟨rfl, 5, cm, st, rfl, rfl, rfl, rfl, hM⟩⟩
  · exact ⟨1, _, _, _, _, rfl, Or.inr ⟨rfl, 5, cm, st, rfl, rfl, rfl, rfl, hM⟩⟩
  · exact ⟨1, _, _, _, _, rfl, Or.inr ⟨rfl, 5, cm, st, rfl, rfl, rfl, rfl, hM⟩⟩
  · exact ⟨0, _, _, _, _, rfl, Or.inl ⟨rfl, rfl⟩⟩
  · exact ⟨0, _, _, _, _, rfl, Or.inl ⟨rfl, rfl⟩⟩
  · exact ⟨0, _, _, _, _, rfl, Or.inl ⟨rfl, rfl⟩⟩
  · exact ⟨0, _, _, _, _, rfl, Or.inl ⟨rfl, rfl⟩⟩
  · exact ⟨1, _, _, _, _, rfl, Or.inr ⟨rfl, 3, cm, st, rfl, rfl, rfl, rfl, hM⟩⟩
  · exact ⟨0, _, _, _, _, rfl, Or.inl ⟨rfl, rfl⟩⟩
  · exact ⟨0, _, _, _, _, rfl, Or.inl ⟨rfl, rfl⟩⟩
  · exact ⟨0, _, _, _, _, rfl, Or.inl ⟨rfl, rfl⟩⟩
  · exact ⟨0, _, _, _, _, rfl, Or.inl ⟨rfl, rfl⟩⟩
  · exact ⟨0, _, _, _, _, rfl, Or.inl ⟨rfl, rfl⟩⟩
  · exact ⟨0, _, _, _, _, rfl, Or.inl ⟨rfl, rfl⟩⟩
  · exact ⟨0, _, _, _, _, rfl, Or.inl ⟨rfl, rfl⟩⟩
theorem hg_m4 {c : Nat} {cm : Bool} {st : List Nat} {opn : Nat → Int32} (hc : c < 25) (hl : st.length < 41) (ht5 : ∀ t ∈ st, t < 5) (hM : hg_M st opn) : hg_R c 4 cm st (sm_step (nI c) (nI 4) (hg_b cm) (nI st.length) opn) := by
  rcases hg_c hc with rfl | rfl | rfl | rfl | rfl | rfl | rfl | rfl | rfl | rfl | rfl | rfl | rfl | rfl | rfl | rfl | rfl | rfl | rfl | rfl | rfl | rfl | rfl | rfl | rfl
  · exact ⟨0, _, _, _, _, rfl, Or.inl ⟨rfl, rfl⟩⟩
  · exact ⟨0, _, _, _, _, rfl, Or.inl ⟨rfl, rfl⟩⟩
  · exact ⟨0, _, _, _, _, rfl, Or.inl ⟨rfl, rfl⟩⟩
  · exact ⟨0, _, _, _, _, rfl, Or.inl ⟨rfl, rfl⟩⟩
  · exact ⟨0, _, _, _, _, rfl, Or.inl ⟨rfl, rfl⟩⟩
  · exact ⟨0, _, _, _, _, rfl, Or.inl ⟨rfl, rfl⟩⟩
  · cases cm
    · refine ⟨1, nI 3, hg_b false, nI (st.length + 1), upd opn st.length 2, ?_, Or.inr ⟨rfl, 3, false, 2 :: st, rfl, rfl, rfl, rfl, pk_us, hg_M_upd st (Nat.le_refl _) hM⟩⟩
      show (((sm_push 2 (nI st.length) opn).bind fun v => _).bind fun v => _) = _
      rw [hg_push hl]
      rfl
    · refine ⟨1, nI 3, hg_b false, nI (st.length + 1), upd opn st.length 4, ?_, Or.inr ⟨rfl, 3, false, 4 :: st, rfl, rfl, rfl, rfl, pk_us, hg_M_upd st (Nat.le_refl _) hM⟩⟩
      show (((sm_push 4 (nI st.length) opn).bind fun v => _).bind fun v => _) = _
      rw [hg_push hl]
      rfl
  · exact ⟨0, _, _, _, _, rfl, Or.inl ⟨rfl, rfl⟩⟩
  · exact ⟨0, _, _, _, _, rfl, Or.inl ⟨rfl, rfl⟩⟩
  · exact ⟨0, _, _, _, _, rfl, Or.inl ⟨rfl, rfl⟩⟩
  · exact ⟨1, _, _, _, _, rfl, Or.inr ⟨rfl, 5, cm, st, rfl, rfl, rfl, rfl, hM⟩⟩
  · exact ⟨1, _, _, _, _, rfl, Or.inr ⟨rfl, 5, cm, st, rfl, rfl, rfl, rfl, hM⟩⟩
  · exact ⟨1, _, _, _, _, rfl, Or.inr ⟨rfl, 5, cm, st, rfl, rfl, rfl, rfl, hM⟩⟩
  · exact ⟨0, _, _, _, _, rfl, Or.inl ⟨rfl, rfl⟩⟩
  · exact ⟨0, _, _, _, _, rfl, Or.inl ⟨rfl, rfl⟩⟩
  · exact ⟨0, _, _, _, _, rfl, Or.inl ⟨rfl, rfl⟩⟩
  · exact ⟨0, _, _, _, _, rfl, Or.inl ⟨rfl, rfl⟩⟩
  · exact ⟨0, _, _, _, _, rfl, Or.inl ⟨rfl, rfl⟩⟩
  · exact ⟨0, _, _, _, _, rfl, Or.inl ⟨rfl, rfl⟩⟩
  · exact ⟨0, _, _, _, _, rfl, Or.inl ⟨rfl, rfl⟩⟩
  · exact ⟨0, _, _, _, _, rfl, Or.inl ⟨rfl, rfl⟩⟩
  · exact ⟨0, _, _, _, _, rfl, Or.inl ⟨rfl, rfl⟩⟩
  · exact ⟨0, _, _, _, _, rfl, Or.inl ⟨rfl, rfl⟩⟩
  · exact ⟨0, _, _, _, _, rfl, Or.inl ⟨rfl, rfl⟩⟩
  · exact ⟨0, _, _, _, _, rfl, Or.inl ⟨rfl, rfl⟩⟩
theorem hg_m6 {c : Nat} {cm : Bool} {st : List Nat} {opn : Nat → Int32} (hc : c < 25) (hl : st.length < 41) (ht5 : ∀ t ∈ st, t < 5) (hM : hg_M st opn) : hg_R c 6 cm st (sm_step (nI c) (nI 6) (hg_b cm) (nI st.length) opn) := by
  rcases hg_c hc with rfl | rfl | rfl | rfl | rfl | rfl | rfl | rfl | rfl | rfl | rfl | rfl | rfl | rfl | rfl | rfl | rfl | rfl | rfl | rfl | rfl | rfl | rfl | rfl | rfl
  · exact ⟨0, _, _, _, _, rfl, Or.inl ⟨rfl, rfl⟩⟩
  · exact ⟨0, _, _, _, _, rfl, Or.inl ⟨rfl, rfl⟩⟩
  · exact ⟨0, _, _, _, _, rfl, Or.inl ⟨rfl, rfl⟩⟩
  · exact ⟨0, _, _, _, _, rfl, Or.inl ⟨rfl, rfl⟩⟩
  · exact ⟨0, _, _, _, _, rfl, Or.inl ⟨rfl, rfl⟩⟩
  · exact ⟨0, _, _, _, _, rfl, Or.inl ⟨rfl, rfl⟩⟩
  · refine ⟨1, nI 0, hg_b cm, nI (st.length + 1), upd opn st.length 3, ?_, Or.inr ⟨rfl, 0, cm, 3 :: st, rfl, rfl, rfl, rfl, pk_us, hg_M_upd st (Nat.le_refl _) hM⟩⟩
    show ((sm_push 3 (nI st.length) opn).bind fun v => _) = _
    rw [hg_push hl]
    rfl
  · exact ⟨0, _, _, _, _, rfl, Or.inl ⟨rfl, rfl⟩⟩
  · exact ⟨1, _, _, _, _, rfl, Or.inr ⟨rfl, 7, cm, st, rfl, rfl, rfl, rfl, hM⟩⟩
  · exact ⟨1, _, _, _, _, rfl, Or.inr ⟨rfl, 7, cm, st, rfl, rfl, rfl, rfl, hM⟩⟩
  · exact ⟨0, _, _, _, _, rfl, Or.inl ⟨rfl, rfl⟩⟩
  · exact ⟨0, _, _, _, _, rfl, Or.inl ⟨rfl, rfl⟩⟩
  · exact ⟨0, _, _, _, _, rfl, Or.inl ⟨rfl, rfl⟩⟩
  · exact ⟨0, _, _, _, _, rfl, Or.inl ⟨rfl, rfl⟩⟩
  · exact ⟨0, _, _, _, _, rfl, Or.inl ⟨rfl, rfl⟩⟩
  · exact ⟨0, _, _, _, _, rfl, Or.inl ⟨rfl, rfl⟩⟩
  · exact ⟨0, _, _, _, _, rfl, Or.inl ⟨rfl, rfl⟩⟩
  · exact ⟨0, _, _, _, _, rfl, Or.inl ⟨rfl, rfl⟩⟩
  · exact ⟨0, _, _, _, _, rfl, Or.inl ⟨rfl, rfl⟩⟩
  · exact ⟨0, _, _, _, _, rfl, Or.inl ⟨rfl, rfl⟩⟩
  · exact ⟨0, _, _, _, _, rfl, Or.inl ⟨rfl, rfl⟩⟩
  · exact ⟨0, _, _, _, _, rfl, Or.inl ⟨rfl, rfl⟩⟩
  · exact ⟨0, _, _, _, _, rfl, Or.inl ⟨rfl, rfl⟩⟩
  · exact ⟨0, _, _, _, _, rfl, Or.inl ⟨rfl, rfl⟩⟩
  · exact ⟨0, _, _, _, _, rfl, Or.inl ⟨rfl, rfl⟩⟩
theorem hg_m8 {c : Nat} {cm : Bool} {st : List Nat} {opn : Nat → Int32} (hc : c < 25) (hl : st.length < 41) (ht5 : ∀ t ∈ st, t < 5) (hM : hg_M st opn) : hg_R c 8 cm st (sm_step (nI c) (nI 8) (hg_b cm) (nI st.length) opn) := by
  rcases hg_c hc with rfl | rfl | rfl | rfl | rfl | rfl | rfl | rfl | rfl | rfl | rfl | rfl | rfl | rfl | rfl | rfl | rfl | rfl | rfl | rfl | rfl | rfl | rfl | rfl | rfl
  · exact ⟨0, _, _, _, _, rfl, Or.inl ⟨rfl, rfl⟩⟩
  · exact ⟨0, _, _, _, _, rfl, Or.inl ⟨rfl, rfl⟩⟩
  · exact ⟨0, _, _, _, _, rfl, Or.inl ⟨rfl, rfl⟩⟩
  · exact ⟨0, _, _, _, _, rfl, Or.inl ⟨rfl, rfl⟩⟩
  · exact ⟨0, _, _, _, _, rfl, Or.inl ⟨rfl, rfl⟩⟩
  · exact ⟨0, _, _, _, _, rfl, Or.inl ⟨rfl, rfl⟩⟩
  · exact ⟨0, _, _, _, _, rfl, Or.inl ⟨rfl, rfl⟩⟩
  · exact ⟨0, _, _, _, _, rfl, Or.inl ⟨rfl, rfl⟩⟩
  · exact ⟨0, _, _, _, _, rfl, Or.inl ⟨rfl, rfl⟩⟩
  · exact ⟨0, _, _, _, _, rfl, Or.inl ⟨rfl, rfl⟩⟩
  · exact ⟨0, _, _, _, _, rfl, Or.inl ⟨rfl, rfl⟩⟩
  · exact ⟨0, _, _, _, _, rfl, Or.inl ⟨rfl, rfl⟩⟩
  · exact ⟨0, _, _, _, _, rfl, Or.inl ⟨rfl, rfl⟩⟩
  · exact ⟨0, _, _, _, _, rfl, Or.inl ⟨rfl, rfl⟩⟩
  · exact ⟨0, _, _, _, _, rfl, Or.inl ⟨rfl, rfl⟩⟩
  · exact ⟨0, _, _, _, _, rfl, Or.inl ⟨rfl, rfl⟩⟩
  · exact ⟨0, _, _, _, _, rfl, Or.inl ⟨rfl, rfl⟩⟩
  · exact ⟨0, _, _, _, _, rfl, Or.inl ⟨rfl, rfl⟩⟩
  · exact ⟨0, _, _, _, _, rfl, Or.inl ⟨rfl, rfl⟩⟩
  · exact ⟨0, _, _, _, _, rfl, Or.inl ⟨rfl, rfl⟩⟩
  · exact ⟨0, _, _, _, _, rfl, Or.inl ⟨rfl, rfl⟩⟩
  · exact ⟨0, _, _, _, _, rfl, Or.inl ⟨rfl, rfl⟩⟩
  · exact ⟨0, _, _, _, _, rfl, Or.inl ⟨rfl, rfl⟩⟩
  · exact ⟨0, _, _, _, _, rfl, Or.inl ⟨rfl, rfl⟩⟩
  · exact ⟨0, _, _, _, _, rfl, Or.inl ⟨rfl, rfl⟩⟩
theorem hg_m7 {c : Nat} {cm : Bool} {st : List Nat} {opn : Nat → Int32} (hc : c < 25) (hl : st.length < 41) (ht5 : ∀ t ∈ st, t < 5) (hM : hg_M st opn) : hg_R c 7 cm st (sm_step (nI c) (nI 7) (hg_b cm) (nI st.length) opn) := by
  by_cases h4 : c = 4
  · subst h4
    refine ⟨1, nI 3, hg_b false, nI (st.length + 1), upd opn st.length 1, ?_, Or.inr ⟨rfl, 3, false, 1 :: st, rfl, rfl, rfl, rfl, pk_us, hg_M_upd st (Nat.le_refl _) hM⟩⟩
    show ((sm_push 1 (nI st.length) opn).bind fun v => _) = _
    rw [hg_push hl]
    rfl
  · have e : hg_step c 7 cm st = hg_ends c cm st := if_neg h4
    have e4 : ¬ nI c = 4 := fun q => h4 ((nI_eq (b := 4) (by omega) (by omega)).mp q)
    have g : sm_step (nI c) (nI 7) (hg_b cm) (nI st.length) opn = (sm_ends (nI c) (nI 7) (nI st.length) opn).bind fun v => if v.1 = 0 then some (0, v.2.1, hg_b cm, v.2.2, opn) else some (1, v.2.1, hg_b cm, v.2.2, opn) := by
      show (if nI c = 4 then _ else (sm_ends (nI c) (nI 7) (nI st.length) opn).bind fun v => if v.1 = 0 then some (0, v.2.1, hg_b cm, v.2.2, opn) else some (1, v.2.1, hg_b cm, v.2.2, opn)) = _
      rw [if_neg e4]
    obtain ⟨f, a, d, h1, h2⟩ := hg_endsM (w := nI 7) hc (by omega) ht5 hM
    rw [g, h1]
    rcases h2 with ⟨rfl, h2⟩ | ⟨rfl, p', st', h2, h3, h5, h6⟩
    · exact ⟨0, a, hg_b cm, d, opn, rfl, Or.inl ⟨rfl, e.trans (h2 cm)⟩⟩
    · exact ⟨1, a, hg_b cm, d, opn, rfl, Or.inr ⟨rfl, p', cm, st', e.trans (h2 cm), h3, rfl, h5, h6⟩⟩
theorem hg_m5 {c : Nat} {cm : Bool} {t : Nat} {s : List Nat} {opn : Nat → Int32} (hc : c < 25) (hl : s.length + 1 < 42) (ht5 : ∀ x ∈ t :: s, x < 5) (hM : hg_M (t :: s) opn) : hg_R c 5 cm (t :: s) (sm_step (nI c) (nI 5) (hg_b cm) (nI (s.length + 1)) opn) := by
  have e2 : nI (s.length + 1) - 1 = nI s.length := nI_pred _
  have e3 : hq_I (nI s.length) 41 = true := hb_I (by omega) (by omega)
  have ht : t < 5 := ht5 t List.mem_cons_self
  have g : sm_step (nI c) (nI 5) (hg_b cm) (nI (s.length + 1)) opn = (sm_behind (nI c) (nI 5) (hg_b cm) (nI (s.length + 1)) opn).bind fun v => if v.1 = 0 ∨ v.1 = 1 then some (v.1, v.2.1, v.2.2.1, v.2.2.2, opn) else none := rfl
  have g2 : sm_behind (nI c) (nI 5) (hg_b cm) (nI (s.length + 1)) opn = if nI c = 13 then some (1, nI 5, hg_b cm, nI (s.length + 1)) else if nI c = 14 then some (1, nI 5, hg_b cm, nI (s.length + 1)) else if nI c < 21 then sm_behind_J44 (nI c) (nI t) (nI 5) (hg_b cm) (nI (s.length + 1)) opn else if 23 < nI c then sm_behind_J44 (nI c) (nI t) (nI 5) (hg_b cm) (nI (s.length + 1)) opn else some (1, 4, hg_b cm, nI (s.length + 1)) := by
    unfold sm_behind
    rw [e2, if_pos e3, nI_clamp (by omega), hM.1]
    rfl
  rw [g, g2]
  have E : t = 1 → (c = 0 ∨ c = 1 ∨ c = 2 ∨ c = 3 ∨ c = 4 ∨ c = 5 ∨ c = 6 ∨ c = 7 ∨ c = 8 ∨ c = 9 ∨ c = 10 ∨ c = 11 ∨ c = 12 ∨ c = 17 ∨ c = 24 ∨ ((c = 18 ∨ c = 19 ∨ c = 20) ∧ cm = true)) → hg_R c 5 cm (t :: s) ((sm_behind_J165 (nI c) (nI 1) (nI 5) (hg_b cm) (nI (s.length + 1)) opn).bind fun v => if v.1 = 0 ∨ v.1 = 1 then some (v.1, v.2.1, v.2.2.1, v.2.2.2, opn) else none) := fun h1 hcc => by
    subst h1
    have e : hg_step c 5 cm (1 :: s) = hg_ends c cm s := by
      rcases hcc with rfl | rfl | rfl | rfl | rfl | rfl | rfl | rfl | rfl | rfl | rfl | rfl | rfl | rfl | rfl | ⟨rfl | rfl | rfl, h9⟩
      all_goals first | rfl | (subst h9; rfl)
    obtain ⟨f, a, d, h1, h2⟩ := hg_endsM (w := nI 5) hc (by omega) (fun x hx => ht5 x (List.mem_cons_of_mem _ hx)) hM.2
    have j : sm_behind_J165 (nI c) (nI 1) (nI 5) (hg_b cm) (nI (s.length + 1)) opn = (sm_ends (nI c) (nI 5) (nI (s.length + 1) - 1) opn).bind fun v => if v.1 = 0 ∨ v.1 = 1 then some (v.1, v.2.1, hg_b cm, v.2.2) else none := rfl
    rw [j, e2, h1]
    rcases h2 with ⟨rfl, h2⟩ | ⟨rfl, p', st', h2, h3, h5, h6⟩
    · exact ⟨0, a, hg_b cm, d, opn, rfl, Or.inl ⟨rfl, e.trans (h2 cm)⟩⟩
    · exact ⟨1, a, hg_b cm, d, opn, rfl, Or.inr ⟨rfl, p', cm, st', e.trans (h2 cm), h3, rfl, h5, h6⟩⟩
  rcases hg_c hc with rfl | rfl | rfl | rfl | rfl | rfl | rfl | rfl | rfl | rfl | rfl | rfl | rfl | rfl | rfl | rfl | rfl | rfl | rfl | rfl | rfl | rfl | rfl | rfl | rfl
  · rcases (by omega : t = 0 ∨ t = 1 ∨ t = 2 ∨ t = 3 ∨ t = 4) with rfl | rfl | rfl | rfl | rfl
    · exact ⟨0, _, _, _, _, rfl, Or.inl ⟨rfl, rfl⟩⟩
    · exact E rfl (by simp)
    · exact ⟨0, _, _, _, _, rfl, Or.inl ⟨rfl, rfl⟩⟩
    · exact ⟨0, _, _, _, _, rfl, Or.inl ⟨rfl, rfl⟩⟩
    · exact ⟨0, _, _, _, _, rfl, Or.inl ⟨rfl, rfl⟩⟩
  · rcases (by omega : t = 0 ∨ t = 1 ∨ t = 2 ∨ t = 3 ∨ t = 4) with rfl | rfl | rfl | rfl | rfl
    · exact ⟨0, _, _, _, _, rfl, Or.inl ⟨rfl, rfl⟩⟩
    · exact E rfl (by simp)
    · exact ⟨0, _, _, _, _, rfl, Or.inl ⟨rfl, rfl⟩⟩
    · exact ⟨0, _, _, _, _, rfl, Or.inl ⟨rfl, rfl⟩⟩
    · exact ⟨0, _, _, _, _, rfl, Or.inl ⟨rfl, rfl⟩⟩
  · rcases (by omega : t = 0 ∨ t = 1 ∨ t = 2 ∨ t = 3 ∨ t = 4) with rfl | rfl | rfl | rfl | rfl
    · exact ⟨0, _, _, _, _, rfl, Or.inl ⟨rfl, rfl⟩⟩
    · exact E rfl (by simp)
    · exact ⟨0, _, _, _, _, rfl, Or.inl ⟨rfl, rfl⟩⟩
    · exact ⟨0, _, _, _, _, rfl, Or.inl ⟨rfl, rfl⟩⟩
    · exact ⟨0, _, _, _, _, rfl, Or.inl ⟨rfl, rfl⟩⟩
  · rcases (by omega : t = 0 ∨ t = 1 ∨ t = 2 ∨ t = 3 ∨ t = 4) with rfl | rfl | rfl | rfl | rfl
    · refine ⟨1, nI 6, hg_b cm, nI s.length, opn, ?_, Or.inr ⟨rfl, 6, cm, s, rfl, rfl, rfl, rfl, hM.2⟩⟩
      rw [← e2]
      rfl
    · exact E rfl (by simp)
    · exact ⟨0, _, _, _, _, rfl, Or.inl ⟨rfl, rfl⟩⟩
    · exact ⟨0, _, _, _, _, rfl, Or.inl ⟨rfl, rfl⟩⟩
    · exact ⟨0, _, _, _, _, rfl, Or.inl ⟨rfl, rfl⟩⟩
  · rcases (by omega : t = 0 ∨ t = 1 ∨ t = 2 ∨ t = 3 ∨ t = 4) with rfl | rfl | rfl | rfl | rfl
    · exact ⟨0, _, _, _, _, rfl, Or.inl ⟨rfl, rfl⟩⟩
    · exact E rfl (by simp)
    · exact ⟨0, _, _, _, _, rfl, Or.inl ⟨rfl, rfl⟩⟩
    · exact ⟨0, _, _, _, _, rfl, Or.inl ⟨rfl, rfl⟩⟩
    · exact ⟨0, _, _, _, _, rfl, Or.inl ⟨rfl, rfl⟩⟩
  · rcases (by omega : t = 0 ∨ t = 1 ∨ t = 2 ∨ t = 3 ∨ t = 4) with rfl | rfl | rfl | rfl | rfl
    · exact ⟨0, _, _, _, _, rfl, Or.inl ⟨rfl, rfl⟩⟩
    · exact E rfl (by simp)
    · exact ⟨0, _, _, _, _, rfl, Or.inl ⟨rfl, rfl⟩⟩
    · exact ⟨0, _, _, _, _, rfl, Or.inl ⟨rfl, rfl⟩⟩
    · exact ⟨0, _, _, _, _, rfl, Or.inl ⟨rfl, rfl⟩⟩
  · rcases (by omega : t = 0 ∨ t = 1 ∨ t = 2 ∨ t = 3 ∨ t = 4) with rfl | rfl | rfl | rfl | rfl
    · exact ⟨0, _, _, _, _, rfl, Or.inl ⟨rfl, rfl⟩⟩
    · exact E rfl (by simp)
    · exact ⟨0, _, _, _, _, rfl, Or.inl ⟨rfl, rfl⟩⟩
    · exact ⟨0, _, _, _, _, rfl, Or.inl ⟨rfl, rfl⟩⟩
    · exact ⟨0, _, _, _, _, rfl, Or.inl ⟨rfl, rfl⟩⟩
  · rcases (by omega : t = 0 ∨ t = 1 ∨ t = 2 ∨ t = 3 ∨ t = 4) with rfl | rfl | rfl | rfl | rfl
    · exact ⟨0, _, _, _, _, rfl, Or.inl ⟨rfl, rfl⟩⟩
    · exact E rfl (by simp)
    · refine ⟨1, nI 5, hg_b false, nI s.length, opn, ?_, Or.inr ⟨rfl, 5, false, s, rfl, rfl, rfl, rfl, hM.2⟩⟩
      rw [← e2]
      rfl
    · exact ⟨0, _, _, _, _, rfl, Or.inl ⟨rfl, rfl⟩⟩
    · refine ⟨1, nI 5, hg_b true, nI s.length, opn, ?_, Or.inr ⟨rfl, 5, true, s, rfl, rfl, rfl, rfl, hM.2⟩⟩
      rw [← e2]
      rfl
  · rcases (by omega : t = 0 ∨ t = 1 ∨ t = 2 ∨ t = 3 ∨ t = 4) with rfl | rfl | rfl | rfl | rfl
    · exact ⟨0, _, _, _, _, rfl, Or.inl ⟨rfl, rfl⟩⟩
    · exact E rfl (by simp)
    · exact ⟨0, _, _, _, _, rfl, Or.inl ⟨rfl, rfl⟩⟩
    · exact ⟨0, _, _, _, _, rfl, Or.inl ⟨rfl, rfl⟩⟩
    · exact ⟨0, _, _, _, _, rfl, Or.inl ⟨rfl, rfl⟩⟩
  · rcases (by omega : t = 0 ∨ t = 1 ∨ t = 2 ∨ t = 3 ∨ t = 4) with rfl | rfl | rfl | rfl | rfl
    · exact ⟨0, _, _, _, _, rfl, Or.inl ⟨rfl, rfl⟩⟩
    · exact E rfl (by simp)
    · exact ⟨0, _, _, _, _, rfl, Or.inl ⟨rfl, rfl⟩⟩
    · exact ⟨0, _, _, _, _, rfl, Or.inl ⟨rfl, rfl⟩⟩
    · exact ⟨0, _, _, _, _, rfl, Or.inl ⟨rfl, rfl⟩⟩
  · rcases (by omega : t = 0 ∨ t = 1 ∨ t = 2 ∨ t = 3 ∨ t = 4) with rfl | rfl | rfl | rfl | rfl
    · exact ⟨0, _, _, _, _, rfl, Or.inl ⟨rfl, rfl⟩⟩
    · exact E rfl (by simp)
    · exact ⟨0, _, _, _, _, rfl, Or.inl ⟨rfl, rfl⟩⟩
    · exact ⟨0, _, _, _, _, rfl, Or.inl ⟨rfl, rfl⟩⟩
    · exact ⟨0, _, _, _, _, rfl, Or.inl ⟨rfl, rfl⟩⟩
  · rcases (by omega : t = 0 ∨ t = 1 ∨ t = 2 ∨ t = 3 ∨ t = 4) with rfl | rfl | rfl | rfl | rfl
    · exact ⟨0, _, _, _, _, rfl, Or.inl ⟨rfl, rfl⟩⟩
    · exact E rfl (by simp)
    · exact ⟨0, _, _, _, _, rfl, Or.inl ⟨rfl, rfl⟩⟩
    · exact ⟨0, _, _, _, _, rfl, Or.inl ⟨rfl, rfl⟩⟩
    · exact ⟨0, _, _, _, _, rfl, Or.inl ⟨rfl, rfl⟩⟩
  · rcases (by omega : t = 0 ∨ t = 1 ∨ t = 2 ∨ t = 3 ∨ t = 4) with rfl | rfl | rfl | rfl | rfl
    · exact ⟨0, _, _, _, _, rfl, Or.inl ⟨rfl, rfl⟩⟩
    · exact E rfl (by simp)
    · exact ⟨0, _, _, _, _, rfl, Or.inl ⟨rfl, rfl⟩⟩
    · exact ⟨0, _, _, _, _, rfl, Or.inl ⟨rfl, rfl⟩⟩
    · exact ⟨0, _, _, _, _, rfl, Or.inl ⟨rfl, rfl⟩⟩
  · exact ⟨1, _, _, _, _, rfl, Or.inr ⟨rfl, 5, cm, t :: s, rfl, rfl, rfl, rfl, hM⟩⟩
  · exact ⟨1, _, _, _, _, rfl, Or.inr ⟨rfl, 5, cm, t :: s, rfl, rfl, rfl, rfl, hM⟩⟩
  · exact ⟨1, _, _, _, _, rfl, Or.inr ⟨rfl, 3, false, t :: s, rfl, rfl, rfl, rfl, hM⟩⟩
  · exact ⟨1, _, _, _, _, rfl, Or.inr ⟨rfl, 3, false, t :: s, rfl, rfl, rfl, rfl, hM⟩⟩
  · rcases (by omega : t = 0 ∨ t = 1 ∨ t = 2 ∨ t = 3 ∨ t = 4) with rfl | rfl | rfl | rfl | rfl
    · exact ⟨0, _, _, _, _, rfl, Or.inl ⟨rfl, rfl⟩⟩
    · exact E rfl (by simp)
    · exact ⟨0, _, _, _, _, rfl, Or.inl ⟨rfl, rfl⟩⟩
    · exact ⟨0, _, _, _, _, rfl, Or.inl ⟨rfl, rfl⟩⟩
    · exact ⟨0, _, _, _, _, rfl, Or.inl ⟨rfl, rfl⟩⟩
  · cases cm
    · exact ⟨1, _, _, _, _, rfl, Or.inr ⟨rfl, 4, true, t :: s, rfl, rfl, rfl, rfl, hM⟩⟩
    · rcases (by omega : t = 0 ∨ t = 1 ∨ t = 2 ∨ t = 3 ∨ t = 4) with rfl | rfl | rfl | rfl | rfl
      · exact ⟨0, _, _, _, _, rfl, Or.inl ⟨rfl, rfl⟩⟩
      · exact E rfl (by simp)
      · exact ⟨0, _, _, _, _, rfl, Or.inl ⟨rfl, rfl⟩⟩
      · exact ⟨0, _, _, _, _, rfl, Or.inl ⟨rfl, rfl⟩⟩
      · exact ⟨0, _, _, _, _, rfl, Or.inl ⟨rfl, rfl⟩⟩
  · cases cm
    · exact ⟨1, _, _, _, _, rfl, Or.inr ⟨rfl, 4, true, t :: s, rfl, rfl, rfl, rfl, hM⟩⟩
    · rcases (by omega : t = 0 ∨ t = 1 ∨ t = 2 ∨ t = 3 ∨ t = 4) with rfl | rfl | rfl | rfl | rfl
      · exact ⟨0, _, _, _, _, rfl, Or.inl ⟨rfl, rfl⟩⟩
      · exact E rfl (by simp)
      · exact ⟨0, _, _, _, _, rfl, Or.inl ⟨rfl, rfl⟩⟩
      · exact ⟨0, _, _, _, _, rfl, Or.inl ⟨rfl, rfl⟩⟩
      · exact ⟨0, _, _, _, _, rfl, Or.inl ⟨rfl, rfl⟩⟩
  · cases cm
    · exact ⟨1, _, _, _, _, rfl, Or.inr ⟨rfl, 4, true, t :: s, rfl, rfl, rfl, rfl, hM⟩⟩
    · rcases (by omega : t = 0 ∨ t = 1 ∨ t = 2 ∨ t = 3 ∨ t = 4) with rfl | rfl | rfl | rfl | rfl
      · exact ⟨0, _, _, _, _, rfl, Or.inl ⟨rfl, rfl⟩⟩
      · exact E rfl (by simp)
      · exact ⟨0, _, _, _, _, rfl, Or.inl ⟨rfl, rfl⟩⟩
      · exact ⟨0, _, _, _, _, rfl, Or.inl ⟨rfl, rfl⟩⟩
      · exact ⟨0, _, _, _, _, rfl, Or.inl ⟨rfl, rfl⟩⟩
  · exact ⟨1, _, _, _, _, rfl, Or.inr ⟨rfl, 4, cm, t :: s, rfl, rfl, rfl, rfl, hM⟩⟩
  · exact ⟨1, _, _, _, _, rfl, Or.inr ⟨rfl, 4, cm, t :: s, rfl, rfl, rfl, rfl, hM⟩⟩
  · exact ⟨1, _, _, _, _, rfl, Or.inr ⟨rfl, 4, cm, t :: s, rfl, rfl, rfl, rfl, hM⟩⟩
  · rcases (by omega : t = 0 ∨ t = 1 ∨ t = 2 ∨ t = 3 ∨ t = 4) with rfl | rfl | rfl | rfl | rfl
    · exact ⟨0, _, _, _, _, rfl, Or.inl ⟨rfl, rfl⟩⟩
    · exact E rfl (by simp)
    · exact ⟨0, _, _, _, _, rfl, Or.inl ⟨rfl, rfl⟩⟩
    · exact ⟨0, _, _, _, _, rfl, Or.inl ⟨rfl, rfl⟩⟩
    · exact ⟨0, _, _, _, _, rfl, Or.inl ⟨rfl, rfl⟩⟩
theorem hg_m {c p : Nat} {cm : Bool} {st : List Nat} {opn : Nat → Int32} (hc : c < 25) (hp : p < 9) (h5 : p = 5 → ¬ st = []) (hl : st.length < 41) (ht5 : ∀ t ∈ st, t < 5) (hM : hg_M st opn) : hg_R c p cm st (sm_step (nI c) (nI p) (hg_b cm) (nI st.length) opn) := by
  rcases (by omega : p = 0 ∨ p = 1 ∨ p = 2 ∨ p = 3 ∨ p = 4 ∨ p = 5 ∨ p = 6 ∨ p = 7 ∨ p = 8) with rfl | rfl | rfl | rfl | rfl | rfl | rfl | rfl | rfl
  · exact hg_m0 hc hl ht5 hM
  · exact hg_m1 hc hl ht5 hM
  · exact hg_m2 hc hl ht5 hM
  · exact hg_m3 hc hl ht5 hM
  · exact hg_m4 hc hl ht5 hM
  · cases st with
    | nil => exact absurd rfl (h5 rfl)
    | cons t s =>
      have hl : s.length + 1 < 41 := hl
      exact hg_m5 hc (by omega) ht5 hM
  · exact hg_m6 hc hl ht5 hM
  · exact hg_m7 hc hl ht5 hM
  · exact hg_m8 hc hl ht5 hM
