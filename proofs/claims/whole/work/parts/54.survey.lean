/-! retained sets, dominators: hs_ -/
def hs_D (kp : Nat → Int32) (d o : Nat) : Prop := ¬ d = o ∧ bt (kp d) o = true
def hs_ok (n : Nat) (kp : Nat → Int32) (o d : Nat) : Prop := hs_D kp d o ∧ ∀ e, e < n → e = d ∨ ¬ hs_D kp e o ∨ hs_D kp e d
def hs_imm (n : Nat) (kp : Nat → Int32) (o : Nat) (r : Int32) : Prop := (∃ d, d < n ∧ r = nI d ∧ hs_ok n kp o d ∧ ∀ d', d' < d → ¬ hs_ok n kp o d') ∨ (r = -1 ∧ ∀ d, d < n → ¬ hs_ok n kp o d)
theorem hs_imm_eq {n o : Nat} {kp : Nat → Int32} {r r' : Int32} (h : hs_imm n kp o r) (h' : hs_imm n kp o r') : r = r' := by
  rcases h with ⟨d, h1, h2, h3, h4⟩ | ⟨h1, h2⟩ <;> rcases h' with ⟨d', g1, g2, g3, g4⟩ | ⟨g1, g2⟩
  · have : d = d' := by
      apply Classical.byContradiction
      intro q
      rcases Nat.lt_or_gt_of_ne q with w | w
      · exact g4 d w h3
      · exact h4 d' w g3
    rw [h2, g2, this]
  · exact absurd h3 (g2 d h1)
  · exact absurd g3 (h2 d' g1)
  · rw [h1, g1]
theorem hs_imm_to {n o : Nat} {kp kp' : Nat → Int32} {r : Int32} (hk : ∀ i, i < n → kp i = kp' i) (h : hs_imm n kp o r) : hs_imm n kp' o r := by
  have e : ∀ d o, d < n → (hs_D kp d o ↔ hs_D kp' d o) := fun d o hd => by unfold hs_D; rw [hk d hd]
  have e2 : ∀ d, d < n → (hs_ok n kp o d ↔ hs_ok n kp' o d) := fun d hd => by
    unfold hs_ok
    rw [e d o hd]
    constructor
    · rintro ⟨a, b⟩
      exact ⟨a, fun x hx => by rw [← e x o hx, ← e x d hx]; exact b x hx⟩
    · rintro ⟨a, b⟩
      exact ⟨a, fun x hx => by rw [e x o hx, e x d hx]; exact b x hx⟩
  rcases h with ⟨d, h1, h2, h3, h4⟩ | ⟨h1, h2⟩
  · exact Or.inl ⟨d, h1, h2, (e2 d h1).mp h3, fun d' hd' q => h4 d' hd' ((e2 d' (by omega)).mpr q)⟩
  · exact Or.inr ⟨h1, fun d hd q => h2 d hd ((e2 d hd).mpr q)⟩
/-- the reference's dominates -/
theorem qm_dom {n d o : Nat} {kp : Nat → Int32} (hd : d < 24) (ho : o < 24) : (sm_dominates (nI d) (nI o) kp = some 1 ∧ hs_D kp d o) ∨ (sm_dominates (nI d) (nI o) kp = some 0 ∧ ¬ hs_D kp d o) := by
  unfold sm_dominates
  by_cases e : d = o
  · subst e
    exact Or.inr ⟨if_pos rfl, fun q => q.1 rfl⟩
  · rw [if_neg (fun q => e ((nI_eq (by omega) (by omega)).mp q)), if_pos (hb_I hd (by omega)), nI_clamp (by omega)]
    by_cases b : bt (kp d) o = true
    · exact Or.inl ⟨if_pos ((hb_t1 _ (by omega)).mpr b), e, b⟩
    · exact Or.inr ⟨if_neg (fun q => b ((hb_t1 _ (by omega)).mp q)), fun q => b q.2⟩
theorem qm_L20 {n o d : Nat} {kp : Nat → Int32} (hn : n ≤ 24) (ho : o < n) (hd : d < n) :
    ∀ (k e fuel : Nat) (fl : Int32), e + k = n → k < fuel → (fl = 0 ∨ fl = 1) → ∃ r, sm_immediate_L20 fuel (nI o) (nI d) fl (nI e) (nI n) kp = some r ∧ (r = 0 ∨ r = 1) ∧ (r = 1 ↔ fl = 1 ∧ ∀ e', e ≤ e' → e' < n → (e' = d ∨ ¬ hs_D kp e' o ∨ hs_D kp e' d)) := by
  intro k
  induction k with
  | zero =>
    intro e fuel fl he hfu hfl
    obtain ⟨m, rfl⟩ : ∃ m, fuel = m + 1 := ⟨fuel - 1, by omega⟩
    refine ⟨fl, ?_, hfl, fun h => ⟨h, fun e' h1 h2 => by omega⟩, fun h => h.1⟩
    show sm_immediate_L20_B _ (nI o) (nI d) fl (nI e) (nI n) kp = some fl
    unfold sm_immediate_L20_B
    rw [if_pos ((nI_leI (by omega) (by omega)).mpr (by omega))]
  | succ k ih =>
    intro e fuel fl he hfu hfl
    obtain ⟨m, rfl⟩ : ∃ m, fuel = m + 1 := ⟨fuel - 1, by omega⟩
    have e0 : sm_immediate_L20 (m + 1) (nI o) (nI d) fl (nI e) (nI n) kp = sm_immediate_L20_B (sm_immediate_L20 m) (nI o) (nI d) fl (nI e) (nI n) kp := rfl
    rw [e0]
    unfold sm_immediate_L20_B
    rw [if_neg (hh_nle (by omega) (by omega)), nI_1]
    rcases hfl with h0 | h1
    · subst h0
      rw [if_pos rfl]
      exact ⟨0, rfl, Or.inl rfl, fun q => absurd q (by decide), fun q => absurd q.1 (by decide)⟩
    · subst h1
      rw [if_neg (by decide)]
      have go1 : (e = d ∨ ¬ hs_D kp e o ∨ hs_D kp e d) → ∃ r, sm_immediate_L20 m (nI o) (nI d) 1 (nI (e + 1)) (nI n) kp = some r ∧ (r = 0 ∨ r = 1) ∧ (r = 1 ↔ (1 : Int32) = 1 ∧ ∀ e', e ≤ e' → e' < n → (e' = d ∨ ¬ hs_D kp e' o ∨ hs_D kp e' d)) := fun hc => by
        obtain ⟨r, g1, g2, g3⟩ := ih (e + 1) m 1 (by omega) (by omega) (Or.inr rfl)
        refine ⟨r, g1, g2, g3.trans ⟨fun q => ⟨rfl, fun e' a b => ?_⟩, fun q => ⟨rfl, fun e' a b => q.2 e' (by omega) b⟩⟩⟩
        by_cases w : e' = e
        · subst w; exact hc
        · exact q.2 e' (by omega) b
      have go0 : ¬ (e = d ∨ ¬ hs_D kp e o ∨ hs_D kp e d) → ∃ r, sm_immediate_L20 m (nI o) (nI d) 0 (nI (e + 1)) (nI n) kp = some r ∧ (r = 0 ∨ r = 1) ∧ (r = 1 ↔ (1 : Int32) = 1 ∧ ∀ e', e ≤ e' → e' < n → (e' = d ∨ ¬ hs_D kp e' o ∨ hs_D kp e' d)) := fun hc => by
        obtain ⟨r, g1, g2, g3⟩ := ih (e + 1) m 0 (by omega) (by omega) (Or.inl rfl)
        refine ⟨r, g1, g2, g3.trans ⟨fun q => absurd q.1 (by decide), fun q => absurd (q.2 e (Nat.le_refl _) (by omega)) hc⟩⟩
      by_cases w : e = d
      · rw [if_pos (by rw [w])]
        exact go1 (Or.inl w)
      · rw [if_neg (fun q => w ((nI_eq (by omega) (by omega)).mp q))]
        rcases qm_dom (n := n) (d := e) (o := o) (kp := kp) (by omega) (by omega) with ⟨a, b⟩ | ⟨a, b⟩
        · rw [a]
          rw [Option.bind_some]
          rw [if_neg (by decide)]
          rcases qm_dom (n := n) (d := e) (o := d) (kp := kp) (by omega) (by omega) with ⟨a2, b2⟩ | ⟨a2, b2⟩
          · rw [a2]
            rw [Option.bind_some]
            rw [if_neg (by decide)]
            exact go1 (Or.inr (Or.inr b2))
          · rw [a2]
            rw [Option.bind_some]
            rw [if_pos rfl]
            refine go0 ?_
            rintro (q | q | q)
            · exact w q
            · exact q b
            · exact b2 q
        · rw [a]
          rw [Option.bind_some]
          rw [if_pos rfl]
          exact go1 (Or.inr (Or.inl b))
theorem qm_L2 {n o : Nat} {kp : Nat → Int32} (hn : n ≤ 24) (ho : o < n) :
    ∀ (k d fuel : Nat), d + k = n → k < fuel → (∀ d', d' < d → ¬ hs_ok n kp o d') → ∃ r, sm_immediate_L2 fuel (nI o) (nI d) (nI n) kp = some r ∧ hs_imm n kp o r := by
  intro k
  induction k with
  | zero =>
    intro d fuel he hfu hp
    obtain ⟨m, rfl⟩ : ∃ m, fuel = m + 1 := ⟨fuel - 1, by omega⟩
    refine ⟨-1, ?_, Or.inr ⟨rfl, fun d' hd' => hp d' (by omega)⟩⟩
    show sm_immediate_L2_B _ (nI o) (nI d) (nI n) kp = some (-1)
    unfold sm_immediate_L2_B
    rw [if_pos ((nI_leI (by omega) (by omega)).mpr (by omega))]
  | succ k ih =>
    intro d fuel he hfu hp
    obtain ⟨m, rfl⟩ : ∃ m, fuel = m + 1 := ⟨fuel - 1, by omega⟩
    have e0 : sm_immediate_L2 (m + 1) (nI o) (nI d) (nI n) kp = sm_immediate_L2_B (sm_immediate_L2 m) (nI o) (nI d) (nI n) kp := rfl
    rw [e0]
    unfold sm_immediate_L2_B
    rw [if_neg (hh_nle (by omega) (by omega))]
    obtain ⟨fl, a, hfl, b⟩ : ∃ fl, sm_dominates (nI d) (nI o) kp = some fl ∧ (fl = 0 ∨ fl = 1) ∧ (fl = 1 ↔ hs_D kp d o) := by
      rcases qm_dom (n := n) (d := d) (o := o) (kp := kp) (by omega) (by omega) with ⟨a, b⟩ | ⟨a, b⟩
      · exact ⟨1, a, Or.inr rfl, fun _ => b, fun _ => rfl⟩
      · exact ⟨0, a, Or.inl rfl, fun q => absurd q (by decide), fun q => absurd q b⟩
    obtain ⟨r, g1, g2, g3⟩ := qm_L20 (kp := kp) hn ho (d := d) (by omega) n 0 kF fl (by omega) (hb_kF (by omega)) hfl
    have g1 : sm_immediate_L20 kF (nI o) (nI d) fl 0 (nI n) kp = some r := g1
    have hok : r = 1 ↔ hs_ok n kp o d := g3.trans ⟨fun q => ⟨b.mp q.1, fun e he => q.2 e (Nat.zero_le _) he⟩, fun q => ⟨b.mpr q.1, fun e _ he => q.2 e he⟩⟩
    rw [a]
    show ∃ r, ((sm_immediate_L20 kF (nI o) (nI d) fl 0 (nI n) kp).bind fun u20 => sm_immediate_J71 (sm_immediate_L2 m) (nI o) (nI d) u20 (nI n) kp) = some r ∧ hs_imm n kp o r
    rw [g1]
    show ∃ r', sm_immediate_J71 (sm_immediate_L2 m) (nI o) (nI d) r (nI n) kp = some r' ∧ hs_imm n kp o r'
    unfold sm_immediate_J71
    rcases g2 with h0 | h1
    · rw [if_pos h0, nI_1]
      refine ih (d + 1) m (by omega) (by omega) (fun d' hd' => ?_)
      by_cases w : d' = d
      · subst w
        intro q
        rw [hok.mpr q] at h0
        exact absurd h0 (by decide)
      · exact hp d' (by omega)
    · rw [if_neg (by rw [h1]; decide)]
      exact ⟨nI d, rfl, Or.inl ⟨d, by omega, rfl, hok.mp h1, hp⟩⟩
theorem qm_immediate {n o : Nat} {kp : Nat → Int32} (hn : n ≤ 24) (ho : o < n) : ∃ r, sm_immediate (nI o) (nI n) kp = some r ∧ hs_imm n kp o r :=
  qm_L2 hn ho n 0 kF (by omega) (hb_kF (by omega)) (fun _ h => by omega)
/-! sums of sizes -/
def hs_sum (ms : Nat → Int32) (S : Int32) : Nat → Int32
  | 0 => 0
  | k + 1 => if bt S k = true then hs_sum ms S k + ms k else hs_sum ms S k
theorem hs_sum_to {ms ms' : Nat → Int32} {S : Int32} : ∀ n, (∀ i, i < n → ms i = ms' i) → hs_sum ms S n = hs_sum ms' S n := by
  intro n
  induction n with
  | zero => intro _; rfl
  | succ n ih =>
    intro h
    unfold hs_sum
    rw [ih (fun i hi => h i (by omega)), h n (by omega)]
theorem qm_sumL {n : Nat} {ms : Nat → Int32} {S : Int32} (hn : n ≤ 24) : ∀ (k o fuel : Nat), o + k = n → k < fuel → sm_sum_L4 fuel S (hs_sum ms S o) (nI o) (nI n) ms = some (hs_sum ms S n) := by
  intro k
  induction k with
  | zero =>
    intro o fuel he hfu
    obtain ⟨m, rfl⟩ : ∃ m, fuel = m + 1 := ⟨fuel - 1, by omega⟩
    have : o = n := by omega
    subst this
    show sm_sum_L4_B _ S _ (nI o) (nI o) ms = _
    unfold sm_sum_L4_B
    rw [if_pos ((nI_leI (by omega) (by omega)).mpr (Nat.le_refl _))]
  | succ k ih =>
    intro o fuel he hfu
    obtain ⟨m, rfl⟩ : ∃ m, fuel = m + 1 := ⟨fuel - 1, by omega⟩
    have e0 : sm_sum_L4 (m + 1) S (hs_sum ms S o) (nI o) (nI n) ms = sm_sum_L4_B (sm_sum_L4 m) S (hs_sum ms S o) (nI o) (nI n) ms := rfl
    have h := ih (o + 1) m (by omega) (by omega)
    rw [e0]
    unfold sm_sum_L4_B
    rw [if_neg (hh_nle (by omega) (by omega)), nI_1, if_pos (hb_I (by omega) (by omega)), nI_clamp (by omega), ← h]
    by_cases b : bt S o = true
    · rw [if_pos ((hb_t1 S (by omega)).mpr b), show hs_sum ms S (o + 1) = hs_sum ms S o + ms o from if_pos b]
    · rw [if_neg (fun q => b ((hb_t1 S (by omega)).mp q)), show hs_sum ms S (o + 1) = hs_sum ms S o from if_neg b]
theorem qm_sum {n : Nat} {ms : Nat → Int32} (S : Int32) (hn : n ≤ 24) : sm_sum S (nI n) ms = some (hs_sum ms S n) := by
  have h : sm_sum_L4 kF S 0 0 (nI n) ms = _ := qm_sumL (ms := ms) (S := S) hn n 0 kF (by omega) (hb_kF (by omega))
  unfold sm_sum
  rw [h]
  rfl
theorem qx_sumL {n : Nat} {ms : Nat → Int32} {S : Int32} (hn : n ≤ 24) : ∀ (k o fuel : Nat), o + k = n → k < fuel → sxs_sizeOfSet_L5 fuel S (hs_sum ms S o) (nI o) ms (nI n) = some (hs_sum ms S n) := by
  intro k
  induction k with
  | zero =>
    intro o fuel he hfu
    obtain ⟨m, rfl⟩ : ∃ m, fuel = m + 1 := ⟨fuel - 1, by omega⟩
    have : o = n := by omega
    subst this
    show sxs_sizeOfSet_L5_B _ S _ (nI o) ms (nI o) = _
    unfold sxs_sizeOfSet_L5_B
    rw [if_pos ((nI_leI (by omega) (by omega)).mpr (Nat.le_refl _))]
  | succ k ih =>
    intro o fuel he hfu
    obtain ⟨m, rfl⟩ : ∃ m, fuel = m + 1 := ⟨fuel - 1, by omega⟩
    have e0 : sxs_sizeOfSet_L5 (m + 1) S (hs_sum ms S o) (nI o) ms (nI n) = sxs_sizeOfSet_L5_B (sxs_sizeOfSet_L5 m) S (hs_sum ms S o) (nI o) ms (nI n) := rfl
    have h := ih (o + 1) m (by omega) (by omega)
    have hz : sxh_sizeOf (nI o) ms = some (ms o) := by
      unfold sxh_sizeOf
      rw [if_pos (hb_I (by omega) (by omega)), nI_clamp (by omega)]
    rw [e0]
    unfold sxs_sizeOfSet_L5_B
    rw [if_neg (hh_nle (by omega) (by omega)), nI_1, hz, ← h]
    by_cases b : bt S o = true
    · rw [if_neg (fun q => by rw [(hb_a0 S (by omega)).mp q] at b; cases b), show hs_sum ms S (o + 1) = hs_sum ms S o + ms o from if_pos b]
      rfl
    · have b : bt S o = false := by cases q : bt S o with
        | false => rfl
        | true => exact absurd q b
      rw [if_pos ((hb_a0 S (by omega)).mpr b), show hs_sum ms S (o + 1) = hs_sum ms S o from if_neg (by rw [b]; decide)]
theorem qx_sum {n : Nat} {ms : Nat → Int32} (S : Int32) (hn : n ≤ 24) : sxs_sizeOfSet S ms (nI n) = some (hs_sum ms S n) := by
  have h : sxs_sizeOfSet_L5 kF S 0 0 ms (nI n) = _ := qx_sumL (ms := ms) (S := S) hn n 0 kF (by omega) (hb_kF (by omega))
  unfold sxs_sizeOfSet
  rw [h]
  rfl
/-! the reference's keepSets -/
def hs_K (n : Nat) (rt sk sl kp : Nat → Int32) (o : Nat) : Prop := ∃ A S, hb_R n rt sk sl 0 A ∧ hb_R n rt sk sl ((1 : Int32) <<< (nI o &&& 31)) S ∧ kp o = A &&& (S ^^^ (-1))
theorem hs_K_eq {n o : Nat} {rt sk sl kp kp' : Nat → Int32} (h : hs_K n rt sk sl kp o) (h' : hs_K n rt sk sl kp' o) : kp o = kp' o := by
  obtain ⟨A, S, h1, h2, h3⟩ := h
  obtain ⟨A', S', g1, g2, g3⟩ := h'
  rw [h3, g3, hb_R_eq h1 g1, hb_R_eq h2 g2]
theorem qm_keepL {n : Nat} {rt sk sl : Nat → Int32} {A : Int32} (hn : n ≤ 24) (hv : hb_V n sk sl) (hA : hb_R n rt sk sl 0 A) : ∀ (k o fuel : Nat) (kp : Nat → Int32), o + k = n → k < fuel → (∀ i, i < o → hs_K n rt sk sl kp i) → ∃ kp', sm_keepSets_L8 fuel A (nI o) (nI n) rt sk sl kp = some kp' ∧ ∀ i, i < n → hs_K n rt sk sl kp' i := by
  intro k
  induction k with
  | zero =>
    intro o fuel kp he hfu h
    obtain ⟨m, rfl⟩ : ∃ m, fuel = m + 1 := ⟨fuel - 1, by omega⟩
    refine ⟨kp, ?_, fun i hi => h i (by omega)⟩
    show sm_keepSets_L8_B _ A (nI o) (nI n) rt sk sl kp = some kp
    unfold sm_keepSets_L8_B
    rw [if_pos ((nI_leI (by omega) (by omega)).mpr (by omega))]
  | succ k ih =>
    intro o fuel kp he hfu h
    obtain ⟨m, rfl⟩ : ∃ m, fuel = m + 1 := ⟨fuel - 1, by omega⟩
    have e0 : sm_keepSets_L8 (m + 1) A (nI o) (nI n) rt sk sl kp = sm_keepSets_L8_B (sm_keepSets_L8 m) A (nI o) (nI n) rt sk sl kp := rfl
    obtain ⟨S, h1, h2⟩ := qm_reach (rt := rt) ((1 : Int32) <<< (nI o &&& 31)) hn hv
    rw [e0]
    unfold sm_keepSets_L8_B
    rw [if_neg (hh_nle (by omega) (by omega)), h1]
    rw [Option.bind_some]
    rw [if_pos (hb_I (by omega) (by omega)), nI_clamp (by omega), nI_1]
    refine ih (o + 1) m _ (by omega) (by omega) (fun i hi => ?_)
    by_cases e : i = o
    · subst e
      exact ⟨A, S, hA, h2, pk_us⟩
    · obtain ⟨A', S', q1, q2, q3⟩ := h i (by omega)
      exact ⟨A', S', q1, q2, (pk_un e).trans q3⟩
theorem qm_keepSets {n : Nat} {rt sk sl : Nat → Int32} (kp : Nat → Int32) (hn : n ≤ 24) (hv : hb_V n sk sl) : ∃ kp', sm_keepSets (nI n) rt sk sl kp = some kp' ∧ ∀ i, i < n → hs_K n rt sk sl kp' i := by
  obtain ⟨A, h1, h2⟩ := qm_reach (rt := rt) 0 hn hv
  obtain ⟨kp', g1, g2⟩ := qm_keepL hn hv h2 n 0 kF kp (by omega) (hb_kF (by omega)) (fun i h => by omega)
  have g1 : sm_keepSets_L8 kF A 0 (nI n) rt sk sl kp = some kp' := g1
  refine ⟨kp', ?_, g2⟩
  unfold sm_keepSets
  rw [h1]
  rw [Option.bind_some]
  rw [g1]
  rfl
