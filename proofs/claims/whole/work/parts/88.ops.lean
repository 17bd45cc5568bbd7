/-! he_: values (a kind, an int; kind 3 is an error), and what the reference's stacks do with them -/
def he_v (n : Nat) (u : Nat × Int32) : Prop := u.1 < 4 ∧ (u.1 = 0 → u.2 = 0) ∧ (u.1 = 2 → ∃ o, o < n ∧ u.2 = nI o) ∧ (u.1 = 3 → ¬ u.2 = 0)
theorem he_q {c : Nat} (y : Int32) (d : Nat) (hy : y = nI d) (hc : c < 2 ^ 31) (hd : d < 2 ^ 31) (h : ¬ c = d) : ¬ nI c = y := fun q => h ((nI_eq hc hd).mp (q.trans hy))
theorem he_v0 {n : Nat} : he_v n (0, 0) := ⟨(by decide : (0 : Nat) < 4), fun _ => rfl, fun h => absurd h (by decide : ¬ (0 : Nat) = 2), fun h => absurd h (by decide : ¬ (0 : Nat) = 3)⟩
theorem he_v1 {n : Nat} {x : Int32} : he_v n (1, x) := ⟨(by decide : (1 : Nat) < 4), fun h => absurd h (by decide : ¬ (1 : Nat) = 0), fun h => absurd h (by decide : ¬ (1 : Nat) = 2), fun h => absurd h (by decide : ¬ (1 : Nat) = 3)⟩
theorem he_v2 {n o : Nat} (ho : o < n) : he_v n (2, nI o) := ⟨(by decide : (2 : Nat) < 4), fun h => absurd h (by decide : ¬ (2 : Nat) = 0), fun _ => ⟨o, ho, rfl⟩, fun h => absurd h (by decide : ¬ (2 : Nat) = 3)⟩
theorem he_v3 {n : Nat} {x : Int32} (hx : ¬ x = 0) : he_v n (3, x) := ⟨(by decide : (3 : Nat) < 4), fun h => absurd h (by decide : ¬ (3 : Nat) = 0), fun h => absurd h (by decide : ¬ (3 : Nat) = 2), fun _ => hx⟩
def he_tr (v : Nat × Int32) : Nat × Int32 := if v.1 = 2 then (3, -3) else if v.2 = 0 then (1, 0) else (1, 1)
def he_nt (v : Nat × Int32) : Nat × Int32 := if v.1 = 2 then (3, -3) else if v.2 = 0 then (1, 1) else (1, 0)
def he_bi (c : Nat) (a b : Nat × Int32) : Nat × Int32 :=
  if c = 18 then (if a.1 = b.1 ∧ a.2 = b.2 then (1, 1) else (1, 0))
  else if c = 19 then (if a.1 = b.1 ∧ a.2 = b.2 then (1, 0) else (1, 1))
  else if a.1 = 2 then (3, -3) else if b.1 = 2 then (3, -3)
  else if c = 20 then (if a.1 = 1 ∧ b.1 = 1 ∧ ¬ b.2 ≤ a.2 then (1, 1) else (1, 0))
  else if a.1 = 1 ∧ b.1 = 1 then (1, if c = 21 then a.2 + b.2 else if c = 22 then a.2 - b.2 else a.2 * b.2) else (0, 0)
theorem he_tr_v {n : Nat} (v : Nat × Int32) : he_v n (he_tr v) := by
  unfold he_tr
  split
  · exact he_v3 (by decide)
  · split
    · exact he_v1
    · exact he_v1
theorem he_nt_v {n : Nat} (v : Nat × Int32) : he_v n (he_nt v) := by
  unfold he_nt
  split
  · exact he_v3 (by decide)
  · split
    · exact he_v1
    · exact he_v1
theorem he_bi_v {n : Nat} (c : Nat) (a b : Nat × Int32) : he_v n (he_bi c a b) := by
  unfold he_bi
  split
  · split <;> exact he_v1
  · split
    · split <;> exact he_v1
    · split
      · exact he_v3 (by decide)
      · split
        · exact he_v3 (by decide)
        · split
          · split <;> exact he_v1
          · split
            · exact he_v1
            · exact he_v0
def he_op (c : Nat) : List (Nat × Int32) → Option ((Nat × Int32) × List (Nat × Int32))
  | [] => none
  | [v] => if c ≤ 17 then some ((if c = 17 then he_nt v else he_tr v), []) else none
  | v :: a :: r => if c ≤ 17 then some ((if c = 17 then he_nt v else he_tr v), a :: r) else some (he_bi c a v, r)
theorem he_op1 {c : Nat} (hc : c ≤ 17) (v : Nat × Int32) (r : List (Nat × Int32)) : he_op c (v :: r) = some ((if c = 17 then he_nt v else he_tr v), r) := by
  cases r with
  | nil => exact if_pos hc
  | cons a r => exact if_pos hc
theorem he_op2 {c : Nat} (hc : ¬ c ≤ 17) (v a : Nat × Int32) (r : List (Nat × Int32)) : he_op c (v :: a :: r) = some (he_bi c a v, r) := if_neg hc
/-- collapsing what waits gives a value on what lay below, or an error -/
def he_C : List Nat → List (Nat × Int32) → (Nat × Int32) → List (Nat × Int32) → Prop
  | [], vs, v, vs0 => vs = v :: vs0 ∧ ¬ v.1 = 3
  | w :: ws, vs, v, vs0 => ∃ u r, he_op w vs = some (u, r) ∧ (if u.1 = 3 then v = u else he_C ws (u :: r) v vs0)
theorem he_C_app {p2 : List Nat} {u v : Nat × Int32} {vs1 vs0 : List (Nat × Int32)} (h : (u.1 = 3 ∧ v = u) ∨ (¬ u.1 = 3 ∧ he_C p2 (u :: vs1) v vs0)) : ∀ (p1 : List Nat) (vs : List (Nat × Int32)), he_C p1 vs u vs1 → he_C (p1 ++ p2) vs v vs0 := by
  intro p1
  induction p1 with
  | nil =>
    intro vs hC
    have hC : vs = u :: vs1 ∧ ¬ u.1 = 3 := hC
    rcases h with ⟨h3, _⟩ | ⟨_, h⟩
    · exact absurd h3 hC.2
    · rw [hC.1]
      exact h
  | cons w p1 ih =>
    intro vs hC
    obtain ⟨x, r, h1, h2⟩ : ∃ x r, he_op w vs = some (x, r) ∧ (if x.1 = 3 then u = x else he_C p1 (x :: r) u vs1) := hC
    show ∃ x r, he_op w vs = some (x, r) ∧ (if x.1 = 3 then v = x else he_C (p1 ++ p2) (x :: r) v vs0)
    refine ⟨x, r, h1, ?_⟩
    by_cases e : x.1 = 3
    · rw [if_pos e] at h2 ⊢
      rcases h with ⟨_, h⟩ | ⟨h3, _⟩
      · rw [h, h2]
      · exact absurd (by rw [h2]; exact e) h3
    · rw [if_neg e] at h2 ⊢
      exact ih (x :: r) h2
theorem he_op_len {c : Nat} {vs r : List (Nat × Int32)} {u : Nat × Int32} (h : he_op c vs = some (u, r)) : r.length + 1 ≤ vs.length := by
  cases vs with
  | nil => cases h
  | cons v s =>
    by_cases hc : c ≤ 17
    · rw [he_op1 hc] at h
      cases h
      exact Nat.le_refl _
    · cases s with
      | nil =>
        have h : (if c ≤ 17 then some ((if c = 17 then he_nt v else he_tr v), []) else none) = some (u, r) := h
        rw [if_neg hc] at h
        cases h
      | cons a s =>
        rw [he_op2 hc] at h
        cases h
        simp only [List.length_cons]
        omega
theorem he_C_len {v : Nat × Int32} {vs0 : List (Nat × Int32)} (hv : ¬ v.1 = 3) : ∀ (p : List Nat) (vs : List (Nat × Int32)), he_C p vs v vs0 → vs0.length + 1 ≤ vs.length := by
  intro p
  induction p with
  | nil =>
    intro vs hC
    have hC : vs = v :: vs0 ∧ ¬ v.1 = 3 := hC
    rw [hC.1]
    exact Nat.le_refl _
  | cons w p ih =>
    intro vs hC
    obtain ⟨x, r, h1, h2⟩ : ∃ x r, he_op w vs = some (x, r) ∧ (if x.1 = 3 then v = x else he_C p (x :: r) v vs0) := hC
    have hl := he_op_len h1
    by_cases e : x.1 = 3
    · rw [if_pos e] at h2
      exact absurd (by rw [h2]; exact e) hv
    · rw [if_neg e] at h2
      have := ih (x :: r) h2
      simp only [List.length_cons] at this
      omega
/-- the arrays hold the stack of values -/
def he_V (n : Nat) : List (Nat × Int32) → (Nat → Int32) → (Nat → Int32) → Prop
  | [], _, _ => True
  | u :: s, vk, va => u.1 < 3 ∧ he_v n u ∧ vk s.length = nI u.1 ∧ va s.length = u.2 ∧ he_V n s vk va
theorem he_V_upd {n : Nat} : ∀ (s : List (Nat × Int32)) {vk va : Nat → Int32} {j : Nat} {x y : Int32}, s.length ≤ j → he_V n s vk va → he_V n s (upd vk j x) (upd va j y) := by
  intro s
  induction s with
  | nil => intros; exact True.intro
  | cons u s ih =>
    intro vk va j x y hj hV
    obtain ⟨h1, h2, h3, h4, h5⟩ : u.1 < 3 ∧ he_v n u ∧ vk s.length = nI u.1 ∧ va s.length = u.2 ∧ he_V n s vk va := hV
    have hj : s.length + 1 ≤ j := hj
    exact ⟨h1, h2, (pk_un (by omega)).trans h3, (pk_un (by omega)).trans h4, ih (by omega) h5⟩
theorem he_give {n : Nat} {vs : List (Nat × Int32)} {vk va : Nat → Int32} {u : Nat × Int32} {x d vals : Int32} (hl : vs.length < 41) (h3 : u.1 < 3) (hu : he_v n u) (hx : u.1 = 0 ∨ x = u.2) (hd : vals - d = nI vs.length) (hV : he_V n vs vk va) :
    ∃ vk' va', sm_give (nI u.1) x d vals vk va = some (nI (vs.length + 1), vk', va') ∧ he_V n (u :: vs) vk' va' := by
  have J : ∀ y : Int32, y = u.2 → ∃ vk' va', sm_give_J37 (nI vs.length) y (nI vs.length) (upd vk vs.length (nI u.1)) va = some (nI (vs.length + 1), vk', va') ∧ he_V n (u :: vs) vk' va' := fun y hy => by
    refine ⟨upd vk vs.length (nI u.1), upd va vs.length y, ?_, h3, hu, pk_us, ?_, he_V_upd vs (Nat.le_refl _) hV⟩
    · unfold sm_give_J37
      rw [if_pos (hb_I hl (by omega)), nI_clamp (by omega), nI_1]
    · rw [← hy]
      exact pk_us
  unfold sm_give
  rw [hd, if_pos (hb_I hl (by omega)), nI_clamp (by omega)]
  by_cases e : u.1 = 0
  · rw [if_pos (show nI u.1 = 0 by rw [e]; rfl)]
    exact J 0 (hu.2.1 e).symm
  · rw [if_neg (he_q 0 0 rfl (by omega) (by omega) e)]
    exact J x (hx.resolve_left e)
/-- an operation of the reference gives a value on the stack, or fails -/
def he_Rs (n : Nat) (u : Nat × Int32) (vs : List (Nat × Int32)) (x : Option (Int32 × Int32 × (Nat → Int32) × (Nat → Int32))) : Prop :=
  ∃ f vals vk va, x = some (f, vals, vk, va) ∧ ((u.1 = 3 ∧ f = u.2 ∧ ¬ f = 0) ∨ (u.1 < 3 ∧ f = 0 ∧ vals = nI (vs.length + 1) ∧ he_V n (u :: vs) vk va))
theorem he_gv {n : Nat} {vs : List (Nat × Int32)} {vk va : Nat → Int32} {u : Nat × Int32} {x d vals : Int32} (hl : vs.length < 41) (h3 : u.1 < 3) (hu : he_v n u) (hx : u.1 = 0 ∨ x = u.2) (hd : vals - d = nI vs.length) (hV : he_V n vs vk va) :
    he_Rs n u vs ((sm_give (nI u.1) x d vals vk va).bind fun v => some (0, v.1, v.2.1, v.2.2)) := by
  obtain ⟨vk', va', h1, h2⟩ := he_give hl h3 hu hx hd hV
  rw [h1]
  exact ⟨0, nI (vs.length + 1), vk', va', rfl, Or.inr ⟨h3, rfl, rfl, h2⟩⟩
theorem he_fl {n : Nat} {vs : List (Nat × Int32)} {e a : Int32} {b c : Nat → Int32} (he : ¬ e = 0) : he_Rs n (3, e) vs (some (e, a, b, c)) := ⟨e, a, b, c, rfl, Or.inl ⟨rfl, rfl, he⟩⟩
theorem he_truth {n : Nat} {vs : List (Nat × Int32)} {v : Nat × Int32} {vk va : Nat → Int32} {t : Int32} (ht : t = 0 ∨ t = 1) (hl : vs.length < 41) (hV : he_V n (v :: vs) vk va) : he_Rs n (if t = 1 then he_nt v else he_tr v) vs (sm_truth t 0 (nI (vs.length + 1)) vk va) := by
  obtain ⟨v3, hv, hk, ha, hV'⟩ : v.1 < 3 ∧ he_v n v ∧ vk vs.length = nI v.1 ∧ va vs.length = v.2 ∧ he_V n vs vk va := hV
  have hd : nI (vs.length + 1) - 1 = nI vs.length := nI_pred _
  unfold sm_truth
  rw [hd, if_pos (hb_I hl (by omega)), nI_clamp (by omega), hk, ha]
  by_cases e : v.1 = 2
  · rw [if_pos (show nI v.1 = 2 by rw [e]; rfl)]
    have e1 : (if t = 1 then he_nt v else he_tr v) = (3, -3) := by
      unfold he_nt he_tr
      rw [if_pos e, if_pos e]
      split <;> rfl
    rw [e1]
    exact he_fl (by decide)
  · rw [if_neg (he_q 2 2 rfl (by omega) (by omega) e), if_pos (hb_I hl (by omega))]
    by_cases x0 : v.2 = 0
    · rw [if_pos x0]
      have e1 : (if t = 1 then he_nt v else he_tr v) = (1, t) := by
        unfold he_nt he_tr
        rw [if_neg e, if_neg e, if_pos x0, if_pos x0]
        rcases ht with h | h
        · rw [h, if_neg (by decide : ¬ (0 : Int32) = 1)]
        · rw [h, if_pos rfl]
      rw [e1]
      exact he_gv (u := (1, t)) hl (by decide : (1 : Nat) < 3) he_v1 (Or.inr rfl) hd hV'
    · rw [if_neg x0]
      have e1 : (if t = 1 then he_nt v else he_tr v) = (1, 1 - t) := by
        unfold he_nt he_tr
        rw [if_neg e, if_neg e, if_neg x0, if_neg x0]
        rcases ht with h | h
        · rw [h, if_neg (by decide : ¬ (0 : Int32) = 1)]
          rfl
        · rw [h, if_pos rfl]
          rfl
      rw [e1]
      exact he_gv (u := (1, 1 - t)) hl (by decide : (1 : Nat) < 3) he_v1 (Or.inr rfl) hd hV'
theorem he_pair {n c : Nat} {vs : List (Nat × Int32)} {a b : Nat × Int32} {vk va : Nat → Int32} (hc : 18 ≤ c ∧ c ≤ 23) (hl : vs.length + 2 ≤ 41) (hV : he_V n (b :: a :: vs) vk va) : he_Rs n (he_bi c a b) vs (sm_pair (nI c) 0 (nI (vs.length + 2)) vk va) := by
  obtain ⟨b3, hb, hbk, hba, a3, ha, hak, haa, hV'⟩ : b.1 < 3 ∧ he_v n b ∧ vk (vs.length + 1) = nI b.1 ∧ va (vs.length + 1) = b.2 ∧ a.1 < 3 ∧ he_v n a ∧ vk vs.length = nI a.1 ∧ va vs.length = a.2 ∧ he_V n vs vk va := hV
  have e1 : nI (vs.length + 2) - 1 = nI (vs.length + 1) := nI_pred _
  have e2 : nI (vs.length + 2) - 2 = nI vs.length := (pk_sub (a := vs.length + 2) (b := 2) (by omega)).trans (by rw [Nat.add_sub_cancel])
  have i0 : hq_I (nI vs.length) 41 = true := hb_I (by omega) (by omega)
  have i1 : hq_I (nI (vs.length + 1)) 41 = true := hb_I (by omega) (by omega)
  have g1 : ∀ x : Int32, he_Rs n (1, x) vs ((sm_give 1 x 2 (nI (vs.length + 2)) vk va).bind fun v => some (0, v.1, v.2.1, v.2.2)) := fun x => he_gv (u := (1, x)) (by omega) (by decide : (1 : Nat) < 3) he_v1 (Or.inr rfl) e2 hV'
  have gm : ∀ x y : Int32, (¬ a.1 = 2 → ¬ b.1 = 2 → x = y) → ¬ a.1 = 2 → ¬ b.1 = 2 → he_Rs n (if a.1 = 1 ∧ b.1 = 1 then (1, y) else (0, 0)) vs ((sm_give (nI a.1 * nI b.1) x 2 (nI (vs.length + 2)) vk va).bind fun v => some (0, v.1, v.2.1, v.2.2)) := fun x y hxy ha2 hb2 => by
    have hxy := hxy ha2 hb2
    subst hxy
    rw [pk_mul]
    by_cases h : a.1 = 1 ∧ b.1 = 1
    · rw [if_pos h, h.1, h.2]
      exact g1 x
    · rw [if_neg h]
      have h0 : a.1 * b.1 = 0 := by
        have : a.1 = 0 ∨ b.1 = 0 := by omega
        rcases this with h | h
        · rw [h, Nat.zero_mul]
        · rw [h, Nat.mul_zero]
      rw [h0]
      exact he_gv (u := (0, 0)) (by omega) (by decide : (0 : Nat) < 3) he_v0 (Or.inl rfl) e2 hV'
  unfold sm_pair
  rw [e2, e1, if_pos i0, if_pos i1, if_pos i0, if_pos i1, nI_clamp (by omega), nI_clamp (by omega), hak, hbk, haa, hba]
  have c6 : c = 18 ∨ c = 19 ∨ c = 20 ∨ c = 21 ∨ c = 22 ∨ c = 23 := by omega
  have arith : 20 ≤ c → he_Rs n (he_bi c a b) vs (if nI a.1 = 2 then some (-3, nI (vs.length + 2), vk, va) else if nI b.1 = 2 then some (-3, nI (vs.length + 2), vk, va) else if nI c = 20 then (if nI a.1 = 1 then (if nI b.1 = 1 then (if b.2 ≤ a.2 then (sm_give 1 0 2 (nI (vs.length + 2)) vk va).bind fun v => some (0, v.1, v.2.1, v.2.2) else (sm_give 1 1 2 (nI (vs.length + 2)) vk va).bind fun v => some (0, v.1, v.2.1, v.2.2)) else (sm_give 1 0 2 (nI (vs.length + 2)) vk va).bind fun v => some (0, v.1, v.2.1, v.2.2)) else (sm_give 1 0 2 (nI (vs.length + 2)) vk va).bind fun v => some (0, v.1, v.2.1, v.2.2))
      else if nI c = 21 then (sm_give (nI a.1 * nI b.1) (a.2 + b.2) 2 (nI (vs.length + 2)) vk va).bind fun v => some (0, v.1, v.2.1, v.2.2) else if nI c = 22 then (sm_give (nI a.1 * nI b.1) (a.2 - b.2) 2 (nI (vs.length + 2)) vk va).bind fun v => some (0, v.1, v.2.1, v.2.2) else (sm_give (nI a.1 * nI b.1) (a.2 * b.2) 2 (nI (vs.length + 2)) vk va).bind fun v => some (0, v.1, v.2.1, v.2.2)) := fun h20 => by
    unfold he_bi
    rw [if_neg (by omega : ¬ c = 18), if_neg (by omega : ¬ c = 19)]
    by_cases a2 : a.1 = 2
    · rw [if_pos a2, if_pos (show nI a.1 = 2 by rw [a2]; rfl)]
      exact he_fl (by decide)
    · rw [if_neg a2, if_neg (he_q 2 2 rfl (by omega) (by omega) a2)]
      by_cases b2 : b.1 = 2
      · rw [if_pos b2, if_pos (show nI b.1 = 2 by rw [b2]; rfl)]
        exact he_fl (by decide)
      · rw [if_neg b2, if_neg (he_q 2 2 rfl (by omega) (by omega) b2)]
        by_cases c20 : c = 20
        · rw [if_pos c20, if_pos (show nI c = 20 by rw [c20]; rfl)]
          by_cases a1 : a.1 = 1
          · rw [if_pos (show nI a.1 = 1 by rw [a1]; rfl)]
            by_cases b1 : b.1 = 1
            · rw [if_pos (show nI b.1 = 1 by rw [b1]; rfl)]
              by_cases le : b.2 ≤ a.2
              · rw [if_pos le, if_neg (fun q => q.2.2 le)]
                exact g1 0
              · rw [if_neg le, if_pos ⟨a1, b1, le⟩]
                exact g1 1
            · rw [if_neg (he_q 1 1 rfl (by omega) (by omega) b1), if_neg (fun q => b1 q.2.1)]
              exact g1 0
          · rw [if_neg (he_q 1 1 rfl (by omega) (by omega) a1), if_neg (fun q => a1 q.1)]
            exact g1 0
        · rw [if_neg c20, if_neg (he_q 20 20 rfl (by omega) (by omega) c20)]
          by_cases c21 : c = 21
          · rw [if_pos (show nI c = 21 by rw [c21]; rfl)]
            exact gm _ _ (fun _ _ => by rw [if_pos c21]) a2 b2
          · rw [if_neg (he_q 21 21 rfl (by omega) (by omega) c21)]
            by_cases c22 : c = 22
            · rw [if_pos (show nI c = 22 by rw [c22]; rfl)]
              exact gm _ _ (fun _ _ => by rw [if_neg c21, if_pos c22]) a2 b2
            · rw [if_neg (he_q 22 22 rfl (by omega) (by omega) c22)]
              exact gm _ _ (fun _ _ => by rw [if_neg c21, if_neg c22]) a2 b2
  have eqs : ∀ s1 s0 : Int32, (∀ x : Int32, sm_pair_J73 (nI c) 1 0 (nI (vs.length + 2)) vk va = (sm_give 1 s1 2 (nI (vs.length + 2)) vk va).bind fun v => some (0, v.1, v.2.1, v.2.2)) → (∀ x : Int32, sm_pair_J72 (nI c) 0 (nI (vs.length + 2)) vk va = (sm_give 1 s0 2 (nI (vs.length + 2)) vk va).bind fun v => some (0, v.1, v.2.1, v.2.2)) →
      he_Rs n (if a.1 = b.1 ∧ a.2 = b.2 then (1, s1) else (1, s0)) vs (if nI a.1 = nI b.1 then (if a.2 = b.2 then sm_pair_J73 (nI c) 1 0 (nI (vs.length + 2)) vk va else sm_pair_J72 (nI c) 0 (nI (vs.length + 2)) vk va) else sm_pair_J72 (nI c) 0 (nI (vs.length + 2)) vk va) := fun s1 s0 h1 h0 => by
    rw [h1 0, h0 0]
    by_cases k : a.1 = b.1
    · rw [if_pos ((nI_eq (by omega) (by omega)).mpr k)]
      by_cases x : a.2 = b.2
      · rw [if_pos x, if_pos ⟨k, x⟩]
        exact g1 s1
      · rw [if_neg x, if_neg (fun q => x q.2)]
        exact g1 s0
    · rw [if_neg (fun q => k ((nI_eq (by omega) (by omega)).mp q)), if_neg (fun q => k q.1)]
      exact g1 s0
  rcases c6 with rfl | rfl | rfl | rfl | rfl | rfl
  · rw [if_neg (by decide : ¬ (19 : Int32) < nI 18)]
    exact eqs 1 0 (fun _ => rfl) (fun _ => rfl)
  · rw [if_neg (by decide : ¬ (19 : Int32) < nI 19)]
    exact eqs 0 1 (fun _ => rfl) (fun _ => rfl)
  · rw [if_pos (by decide : (19 : Int32) < nI 20)]
    exact arith (by decide)
  · rw [if_pos (by decide : (19 : Int32) < nI 21)]
    exact arith (by decide)
  · rw [if_pos (by decide : (19 : Int32) < nI 22)]
    exact arith (by decide)
  · rw [if_pos (by decide : (19 : Int32) < nI 23)]
    exact arith (by decide)
def he_rk (w : Nat) : Nat := if w ≤ 17 then w - 14 else if w ≤ 20 then 4 else if w ≤ 22 then 5 else 6
theorem he_rank : ∀ w, w < 24 → 15 ≤ w → sm_rank (nI w) = nI (he_rk w) := by decide +kernel
theorem he_rk7 {w : Nat} (h : 15 ≤ w ∧ w ≤ 23) : 1 ≤ he_rk w ∧ he_rk w ≤ 6 := by
  unfold he_rk
  split
  · omega
  · split
    · omega
    · split <;> omega
def he_stop (r : Nat) : List Nat → Prop
  | [] => True
  | w :: _ => w = 6 ∨ ((15 ≤ w ∧ w ≤ 23) ∧ he_rk w < r)
theorem he_applyF {f : Int32} (hf : ¬ f = 0) (m : Nat) (l1 v w : Int32) (vk va wt : Nat → Int32) : sm_apply_L0 (m + 1) l1 f v vk va w wt = some (f, v, vk, va, w) := by
  show sm_apply_L0_B (sm_apply_L0 m) l1 f v vk va w wt = some (f, v, vk, va, w)
  unfold sm_apply_L0_B
  by_cases h : w ≤ 0
  · rw [if_pos h]
  · rw [if_neg h, if_neg hf]
theorem he_applyL {n r : Nat} {wt : Nat → Int32} (hr : r ≤ 7) : ∀ (pend ws : List Nat) (vs vs0 : List (Nat × Int32)) (v : Nat × Int32) (vk va : Nat → Int32) (fuel : Nat), pend.length < fuel → (pend ++ ws).length ≤ 41 → vs.length ≤ 41 → hg_M (pend ++ ws) wt → he_V n vs vk va → (∀ w ∈ pend, (15 ≤ w ∧ w ≤ 23) ∧ r ≤ he_rk w) → he_stop r ws → he_C pend vs v vs0 →
    ∃ f vals vk' va' wa, sm_apply_L0 fuel (nI r) 0 (nI vs.length) vk va (nI (pend ++ ws).length) wt = some (f, vals, vk', va', wa) ∧ ((v.1 = 3 ∧ f = v.2 ∧ ¬ f = 0 ∧ ∃ j, j < 41 ∧ wa = nI j) ∨ (v.1 < 3 ∧ f = 0 ∧ vals = nI (vs0.length + 1) ∧ he_V n (v :: vs0) vk' va' ∧ wa = nI ws.length)) := by
  intro pend
  induction pend with
  | nil =>
    intro ws vs vs0 v vk va fuel hf hl hvl hM hV hp hs hC
    obtain ⟨m, rfl⟩ : ∃ m, fuel = m + 1 := ⟨fuel - 1, by simp only [List.length_nil] at hf; omega⟩
    obtain ⟨hvs, h3⟩ : vs = v :: vs0 ∧ ¬ v.1 = 3 := hC
    subst hvs
    refine ⟨0, nI (vs0.length + 1), vk, va, nI ws.length, ?_, Or.inr ⟨hV.1, rfl, rfl, hV, rfl⟩⟩
    show sm_apply_L0_B (sm_apply_L0 m) (nI r) 0 (nI (vs0.length + 1)) vk va (nI ws.length) wt = some (0, nI (vs0.length + 1), vk, va, nI ws.length)
    unfold sm_apply_L0_B
    cases ws with
    | nil => exact if_pos (by decide : nI 0 ≤ 0)
    | cons w s =>
      have hl : s.length + 1 ≤ 41 := hl
      have hM : wt s.length = nI w ∧ hg_M s wt := hM
      have e1 : nI (w :: s).length - 1 = nI s.length := nI_pred _
      have i0 : hq_I (nI s.length) 41 = true := hb_I (by omega) (by omega)
      rw [if_neg (show ¬ nI (w :: s).length ≤ 0 from nI_nle (Nat.succ_pos _) (by simp only [List.length_cons]; omega)), if_pos (rfl : (0 : Int32) = 0), e1, if_pos i0, nI_clamp (by omega), hM.1]
      rcases hs with h6 | ⟨hw, hlt⟩
      · rw [if_pos (show nI w = 6 by rw [h6]; rfl)]
      · rw [if_neg (fun q => by have := (nI_eq (b := 6) (by omega) (by omega)).mp q; omega), if_pos i0, he_rank w (by omega) hw.1, if_pos ((nI_ltI (by have := he_rk7 hw; omega) (by omega)).mpr hlt)]
  | cons w pend ih =>
    intro ws vs vs0 v vk va fuel hf hl hvl hM hV hp hs hC
    obtain ⟨m, rfl⟩ : ∃ m, fuel = m + 1 := ⟨fuel - 1, by omega⟩
    have hf : pend.length + 1 < m + 1 := hf
    have hl : (pend ++ ws).length + 1 ≤ 41 := hl
    have hM : wt (pend ++ ws).length = nI w ∧ hg_M (pend ++ ws) wt := hM
    obtain ⟨u, rest, h1, h2⟩ : ∃ u rest, he_op w vs = some (u, rest) ∧ (if u.1 = 3 then v = u else he_C pend (u :: rest) v vs0) := hC
    obtain ⟨hw, hwr⟩ := hp w (List.mem_cons_self ..)
    have hrk := he_rk7 hw
    have e1 : nI ((pend ++ ws).length + 1) - 1 = nI (pend ++ ws).length := nI_pred _
    have i0 : hq_I (nI (pend ++ ws).length) 41 = true := hb_I (by omega) (by omega)
    have go : ∀ x : Option (Int32 × Int32 × (Nat → Int32) × (Nat → Int32)), he_Rs n u rest x → ∃ f vals vk' va' wa, (x.bind fun v94 => sm_apply_L0 m (nI r) v94.1 v94.2.1 v94.2.2.1 v94.2.2.2 (nI (pend ++ ws).length) wt) = some (f, vals, vk', va', wa) ∧ ((v.1 = 3 ∧ f = v.2 ∧ ¬ f = 0 ∧ ∃ j, j < 41 ∧ wa = nI j) ∨ (v.1 < 3 ∧ f = 0 ∧ vals = nI (vs0.length + 1) ∧ he_V n (v :: vs0) vk' va' ∧ wa = nI ws.length)) := fun x hx => by
      obtain ⟨f, vals, vk', va', hx, hres⟩ := hx
      rw [hx, Option.bind_some]
      rcases hres with ⟨u3, fu, f0⟩ | ⟨u3, f0, hvals, hV2⟩
      · rw [if_pos u3] at h2
        obtain ⟨m2, rfl⟩ : ∃ m2, m = m2 + 1 := ⟨m - 1, by omega⟩
        exact ⟨f, vals, vk', va', nI (pend ++ ws).length, he_applyF f0 m2 (nI r) vals (nI (pend ++ ws).length) vk' va' wt, Or.inl ⟨by rw [h2]; exact u3, by rw [h2]; exact fu, f0, _, by omega, rfl⟩⟩
      · rw [if_neg (by omega)] at h2
        subst f0 hvals
        have hl2 := he_op_len h1
        exact ih ws (u :: rest) vs0 v vk' va' m (by omega) (by omega) (by simp only [List.length_cons]; omega) hM.2 hV2 (fun w hw => hp w (List.mem_cons_of_mem _ hw)) hs h2
    show ∃ f vals vk' va' wa, sm_apply_L0_B (sm_apply_L0 m) (nI r) 0 (nI vs.length) vk va (nI ((pend ++ ws).length + 1)) wt = some (f, vals, vk', va', wa) ∧ _
    unfold sm_apply_L0_B
    rw [if_neg (show ¬ nI ((pend ++ ws).length + 1) ≤ 0 from nI_nle (Nat.succ_pos _) (by omega)), if_pos (rfl : (0 : Int32) = 0), e1, if_pos i0, nI_clamp (by omega), hM.1, if_neg (show ¬ nI w = 6 from fun q => by have := (nI_eq (b := 6) (by omega) (by omega)).mp q; omega), if_pos i0, he_rank w (by omega) hw.1, if_neg (show ¬ nI (he_rk w) < nI r from fun q => by have := (nI_ltI (by omega) (by omega)).mp q; omega), if_pos i0]
    cases vs with
    | nil => cases h1
    | cons x s =>
      by_cases h17 : w ≤ 17
      · rw [he_op1 h17] at h1
        cases h1
        rw [if_neg (show ¬ (17 : Int32) < nI w from fun q => by have := (nI_ltI (a := 17) (by omega) (by omega)).mp q; omega)]
        by_cases e17 : w = 17
        · rw [if_pos (show nI w = 17 by rw [e17]; rfl)]
          have R := he_truth (t := 1) (Or.inr rfl) (by simp only [List.length_cons] at hvl; omega) hV
          rw [if_pos rfl] at R
          rw [if_pos e17] at go
          exact go _ R
        · rw [if_neg (show ¬ nI w = 17 from fun q => e17 ((nI_eq (b := 17) (by omega) (by omega)).mp q))]
          have R := he_truth (t := 0) (Or.inl rfl) (by simp only [List.length_cons] at hvl; omega) hV
          rw [if_neg (by decide)] at R
          rw [if_neg e17] at go
          exact go _ R
      · cases s with
        | nil =>
          have h1 : (if w ≤ 17 then some ((if w = 17 then he_nt x else he_tr x), []) else none) = some (u, rest) := h1
          rw [if_neg h17] at h1
          cases h1
        | cons a s =>
          rw [he_op2 h17] at h1
          cases h1
          rw [if_pos (show (17 : Int32) < nI w from (nI_ltI (a := 17) (by omega) (by omega)).mpr (by omega))]
          exact go _ (he_pair ⟨by omega, hw.2⟩ (by simp only [List.length_cons] at hvl; omega) hV)
theorem he_b5 (o : Option (Int32 × Int32 × (Nat → Int32) × (Nat → Int32) × Int32)) : (o.bind fun u0 => some (u0.1, u0.2.1, u0.2.2.1, u0.2.2.2.1, u0.2.2.2.2)) = o := by cases o <;> rfl
theorem he_apply0 (l1 f v w : Int32) (vk va wt : Nat → Int32) : sm_apply l1 f v vk va w wt = sm_apply_L0 (kF + 1) l1 f v vk va w wt := by
  show _ = sm_apply_L0_B (sm_apply_L0 kF) l1 f v vk va w wt
  unfold sm_apply sm_apply_L0_B
  simp only [he_b5]
theorem he_apply {n r : Nat} {pend ws : List Nat} {vs vs0 : List (Nat × Int32)} {v : Nat × Int32} {vk va wt : Nat → Int32} (hr : r ≤ 7) (hl : (pend ++ ws).length ≤ 41) (hvl : vs.length ≤ 41) (hM : hg_M (pend ++ ws) wt) (hV : he_V n vs vk va) (hp : ∀ w ∈ pend, (15 ≤ w ∧ w ≤ 23) ∧ r ≤ he_rk w) (hs : he_stop r ws) (hC : he_C pend vs v vs0) :
    ∃ f vals vk' va' wa, sm_apply (nI r) 0 (nI vs.length) vk va (nI (pend ++ ws).length) wt = some (f, vals, vk', va', wa) ∧ ((v.1 = 3 ∧ f = v.2 ∧ ¬ f = 0 ∧ ∃ j, j < 41 ∧ wa = nI j) ∨ (v.1 < 3 ∧ f = 0 ∧ vals = nI (vs0.length + 1) ∧ he_V n (v :: vs0) vk' va' ∧ wa = nI ws.length)) := by
  rw [he_apply0]
  refine he_applyL hr pend ws vs vs0 v vk va (kF + 1) ?_ hl hvl hM hV hp hs hC
  have : pend.length < kF := hb_kF (by rw [List.length_append] at hl; omega)
  omega
theorem he_hM {pend ws : List Nat} {wt : Nat → Int32} (h : hg_M (pend ++ ws) wt) : hg_M ws wt := by
  induction pend with
  | nil => exact h
  | cons w pend ih => exact ih h.2
