/-! the reference's calculation, token by token -/
def he_n6 : List Nat → Nat
  | [] => 0
  | w :: s => if w = 6 then he_n6 s + 1 else he_n6 s
theorem he_n6_app {ws : List Nat} : ∀ pend : List Nat, (∀ w ∈ pend, 15 ≤ w) → he_n6 (pend ++ ws) = he_n6 ws := by
  intro pend
  induction pend with
  | nil => intro _; rfl
  | cons w pend ih =>
    intro h
    have hw := h w (List.mem_cons_self ..)
    show (if w = 6 then he_n6 (pend ++ ws) + 1 else he_n6 (pend ++ ws)) = he_n6 ws
    rw [if_neg (by omega)]
    exact ih (fun x hx => h x (List.mem_cons_of_mem _ hx))
theorem he_n6_le : ∀ ws : List Nat, he_n6 ws ≤ ws.length := by
  intro ws
  induction ws with
  | nil => exact Nat.le_refl _
  | cons w ws ih =>
    show (if w = 6 then he_n6 ws + 1 else he_n6 ws) ≤ ws.length + 1
    split <;> omega
def he_Run (n k : Nat) (mc mn mk ms sk sl kp : Nat → Int32) (self : Int32) (i : Nat) (vs : List (Nat × Int32)) (ws : List Nat) (r : Nat × Int32) : Prop :=
  ∀ (fuel : Nat) (vk va wt : Nat → Int32), 42 ≤ fuel + i → vs.length ≤ i → ws.length ≤ i → he_V n vs vk va → hg_M ws wt →
    ∃ f a b v vk' va' w wt', sm_work_L27 fuel 1 (nI n) mk ms sk sl kp (nI k) mc mn 0 (nI i) self (nI (he_n6 ws)) (nI vs.length) vk va (nI ws.length) wt = some (f, a, b, v, vk', va', w, wt') ∧ ((r.1 = 3 ∧ f = r.2 ∧ ¬ f = 0) ∨ (r.1 < 3 ∧ f = 0 ∧ vk' 0 = nI r.1 ∧ va' 0 = r.2))
def he_K (n k : Nat) (tk : Nat → Nat) (mc mn C N : Nat → Int32) : Prop :=
  n ≤ 24 ∧ k ≤ 40 ∧ (∀ p, p < k → tk p < 25 ∧ C p = nI (tk p) ∧ mc p = nI (tk p) ∧ N p = mn p ∧ (tk p = 13 → ∃ j, j < 4 ∧ mn p = nI j) ∧ (tk p = 14 → ∃ j, j < 6 ∧ mn p = nI j)) ∧ ∀ p, k ≤ p → C p = 24
theorem he_ne {c d : Nat} (hc : c < 25) (hd : d < 25) (h : ¬ c = d) : ¬ nI c = nI d := fun q => h ((nI_eq (by omega) (by omega)).mp q)
section
variable {n k : Nat} {tk : Nat → Nat} {mc mn mk ms sk sl kp xk xs lc rz im C N : Nat → Int32} {xf : Nat → Int64} {self : Int32}
theorem he_is {p c : Nat} (hK : he_K n k tk mc mn C N) (h : C p = nI c) (hc : c < 24) : p < k ∧ tk p = c ∧ mc p = nI c := by
  by_cases hp : p < k
  · obtain ⟨t, e, m, _⟩ := hK.2.2.1 p hp
    rw [e] at h
    have h := (nI_eq (by omega) (by omega)).mp h
    exact ⟨hp, h, by rw [m, h]⟩
  · rw [hK.2.2.2 p (by omega)] at h
    exact absurd ((nI_eq (a := 24) (by omega) (by omega)).mp h) (by omega)
theorem he_tE {i : Nat} {bk vals wa x : Int32} {vk va wt : Nat → Int32} {c : Nat} (h : c = 3 ∨ c = 5 ∨ c = 24) : sm_take (nI c) x (nI n) mk ms sk sl kp (nI k) mc 0 (nI (i + 1)) self bk vals vk va wa wt = (sm_apply 0 0 vals vk va wa wt).bind fun v31 => some (0, v31.1, nI (i + 1), bk, v31.2.1, v31.2.2.1, v31.2.2.2.1, v31.2.2.2.2, wt) := by
  unfold sm_take
  rcases h with rfl | rfl | rfl
  · rw [if_pos (by decide : nI 3 = 3)]
  · rw [if_neg (by decide : ¬ nI 5 = 3), if_pos (by decide : nI 5 = 5)]
  · rw [if_neg (by decide : ¬ nI 24 = 3), if_neg (by decide : ¬ nI 24 = 5), if_pos (by decide : nI 24 = 24)]
theorem he_tE7 {i : Nat} {bk vals wa x : Int32} {vk va wt : Nat → Int32} (hb : bk = 0) : sm_take (nI 7) x (nI n) mk ms sk sl kp (nI k) mc 0 (nI (i + 1)) self bk vals vk va wa wt = (sm_apply 0 0 vals vk va wa wt).bind fun v31 => some (0, v31.1, nI (i + 1), bk, v31.2.1, v31.2.2.1, v31.2.2.2.1, v31.2.2.2.2, wt) := by
  unfold sm_take
  rw [if_neg (by decide : ¬ nI 7 = 3), if_neg (by decide : ¬ nI 7 = 5), if_neg (by decide : ¬ nI 7 = 24), if_pos (by decide : nI 7 = 7), if_pos hb]
theorem he_t7 {i : Nat} {bk vals wa x : Int32} {vk va wt : Nat → Int32} (hb : ¬ bk = 0) : sm_take (nI 7) x (nI n) mk ms sk sl kp (nI k) mc 0 (nI (i + 1)) self bk vals vk va wa wt = (sm_apply 0 0 vals vk va wa wt).bind fun v144 => some (1, v144.1, nI (i + 1), bk - 1, v144.2.1, v144.2.2.1, v144.2.2.2.1, v144.2.2.2.2 - 1, wt) := by
  unfold sm_take
  rw [if_neg (by decide : ¬ nI 7 = 3), if_neg (by decide : ¬ nI 7 = 5), if_neg (by decide : ¬ nI 7 = 24), if_pos (by decide : nI 7 = 7), if_neg hb]
  unfold sm_take_J36
  rw [if_pos (by decide : nI 7 < 10)]
  unfold sm_take_J91
  rw [if_neg (by decide : ¬ nI 7 = 13), if_neg (by decide : ¬ nI 7 = 14), if_neg (by decide : ¬ nI 7 = 6), if_pos (by decide : nI 7 = 7)]
theorem he_tA {i : Nat} {bk vals wa x : Int32} {vk va wt : Nat → Int32} {c : Nat} (hc : c < 25) (h : ¬ c = 3 ∧ ¬ c = 5 ∧ ¬ c = 24 ∧ ¬ c = 7) : sm_take (nI c) x (nI n) mk ms sk sl kp (nI k) mc 0 (nI (i + 1)) self bk vals vk va wa wt = sm_take_J36 (nI c) x (nI n) mk ms sk sl kp (nI k) mc 0 (nI (i + 1)) self bk vals vk va wa wt := by
  unfold sm_take
  rw [if_neg (show ¬ nI c = 3 from he_ne (d := 3) hc (by decide) h.1), if_neg (show ¬ nI c = 5 from he_ne (d := 5) hc (by decide) h.2.1), if_neg (show ¬ nI c = 24 from he_ne (d := 24) hc (by decide) h.2.2.1), if_neg (show ¬ nI c = 7 from he_ne (d := 7) hc (by decide) h.2.2.2)]
theorem he_tB {i : Nat} {bk vals wa x : Int32} {vk va wt : Nat → Int32} {c : Nat} (hc : c < 25) (h : c < 10 ∨ 12 < c) : sm_take_J36 (nI c) x (nI n) mk ms sk sl kp (nI k) mc 0 (nI (i + 1)) self bk vals vk va wa wt = sm_take_J91 (nI c) x (nI n) mk ms sk sl kp (nI k) mc 0 (nI (i + 1)) self bk vals vk va wa wt := by
  unfold sm_take_J36
  rcases h with h | h
  · rw [if_pos (show nI c < 10 from (nI_ltI (b := 10) (by omega) (by omega)).mpr h)]
  · rw [if_neg (show ¬ nI c < 10 from fun q => by have := (nI_ltI (b := 10) (by omega) (by omega)).mp q; omega), if_pos (show 12 < nI c from (nI_ltI (a := 12) (by omega) (by omega)).mpr h)]
theorem he_t6 {i : Nat} {bk vals wa x : Int32} {vk va wt : Nat → Int32} : sm_take (nI 6) x (nI n) mk ms sk sl kp (nI k) mc 0 (nI (i + 1)) self bk vals vk va wa wt = (sm_hold (nI 6) wa wt).bind fun v130 => some (1, 0, nI (i + 1), bk + 1, vals, vk, va, v130.1, v130.2) := by
  rw [he_tA (by decide) (by decide), he_tB (by decide) (by decide)]
  unfold sm_take_J91
  rw [if_neg (by decide : ¬ nI 6 = 13), if_neg (by decide : ¬ nI 6 = 14), if_pos (by decide : nI 6 = 6)]
theorem he_t17 {i : Nat} {bk vals wa x : Int32} {vk va wt : Nat → Int32} : sm_take (nI 17) x (nI n) mk ms sk sl kp (nI k) mc 0 (nI (i + 1)) self bk vals vk va wa wt = (sm_hold (nI 17) wa wt).bind fun v130 => some (1, 0, nI (i + 1), bk, vals, vk, va, v130.1, v130.2) := by
  rw [he_tA (by decide) (by decide), he_tB (by decide) (by decide)]
  unfold sm_take_J91
  rw [if_neg (by decide : ¬ nI 17 = 13), if_neg (by decide : ¬ nI 17 = 14), if_neg (by decide : ¬ nI 17 = 6), if_neg (by decide : ¬ nI 17 = 7), if_pos (by decide : nI 17 = 17)]
theorem he_t13 {i : Nat} {bk vals wa x : Int32} {vk va wt : Nat → Int32} {c : Nat} (h : c = 13 ∨ c = 14) : sm_take (nI c) x (nI n) mk ms sk sl kp (nI k) mc 0 (nI (i + 1)) self bk vals vk va wa wt = (sm_along (nI c) x (nI n) mk ms sk sl kp 0 vals vk va).bind fun v106 => some (1, v106.1, nI (i + 1), bk, v106.2.1, v106.2.2.1, v106.2.2.2, wa, wt) := by
  rw [he_tA (by omega) (by omega), he_tB (by omega) (by omega)]
  unfold sm_take_J91 sm_take_J103
  rcases h with rfl | rfl
  · rw [if_pos (by decide : nI 13 = 13)]
  · rw [if_neg (by decide : ¬ nI 14 = 13), if_pos (by decide : nI 14 = 14)]
theorem he_t15 {i : Nat} {bk vals wa x : Int32} {vk va wt : Nat → Int32} {c : Nat} (h : c = 15 ∨ c = 16) : sm_take (nI c) x (nI n) mk ms sk sl kp (nI k) mc 0 (nI (i + 1)) self bk vals vk va wa wt = (sm_branch (nI c) (nI k) mc 0 (nI (i + 1)) vals vk va wa wt).bind fun v198 => some (1, v198.1, v198.2.1, bk, v198.2.2.1, v198.2.2.2.1, v198.2.2.2.2.1, v198.2.2.2.2.2.1, v198.2.2.2.2.2.2) := by
  rw [he_tA (by omega) (by omega), he_tB (by omega) (by omega)]
  unfold sm_take_J91 sm_take_J196
  rcases h with rfl | rfl
  · rw [if_neg (by decide : ¬ nI 15 = 13), if_neg (by decide : ¬ nI 15 = 14), if_neg (by decide : ¬ nI 15 = 6), if_neg (by decide : ¬ nI 15 = 7), if_neg (by decide : ¬ nI 15 = 17), if_pos (by decide : nI 15 = 15)]
  · rw [if_neg (by decide : ¬ nI 16 = 13), if_neg (by decide : ¬ nI 16 = 14), if_neg (by decide : ¬ nI 16 = 6), if_neg (by decide : ¬ nI 16 = 7), if_neg (by decide : ¬ nI 16 = 17), if_neg (by decide : ¬ nI 16 = 15), if_pos (by decide : nI 16 = 16)]
theorem he_t18 {i : Nat} {bk vals wa x : Int32} {vk va wt : Nat → Int32} {c : Nat} (h : 18 ≤ c ∧ c ≤ 23) : sm_take (nI c) x (nI n) mk ms sk sl kp (nI k) mc 0 (nI (i + 1)) self bk vals vk va wa wt = (sm_apply (nI (he_rk c)) 0 vals vk va wa wt).bind fun v209 => (sm_hold (nI c) v209.2.2.2.2 wt).bind fun v214 => some (1, v209.1, nI (i + 1), bk, v209.2.1, v209.2.2.1, v209.2.2.2.1, v214.1, v214.2) := by
  rw [he_tA (by omega) (by omega), he_tB (by omega) (by omega)]
  unfold sm_take_J91
  rw [if_neg (show ¬ nI c = 13 from he_ne (d := 13) (by omega) (by decide) (by omega)), if_neg (show ¬ nI c = 14 from he_ne (d := 14) (by omega) (by decide) (by omega)), if_neg (show ¬ nI c = 6 from he_ne (d := 6) (by omega) (by decide) (by omega)), if_neg (show ¬ nI c = 7 from he_ne (d := 7) (by omega) (by decide) (by omega)), if_neg (show ¬ nI c = 17 from he_ne (d := 17) (by omega) (by decide) (by omega)), if_neg (show ¬ nI c = 15 from he_ne (d := 15) (by omega) (by decide) (by omega)), if_neg (show ¬ nI c = 16 from he_ne (d := 16) (by omega) (by decide) (by omega)), he_rank c (by omega) (by omega)]
theorem he_t10 {i : Nat} {bk vals wa x : Int32} {vk va wt : Nat → Int32} : sm_take (nI 10) x (nI n) mk ms sk sl kp (nI k) mc 0 (nI (i + 1)) self bk vals vk va wa wt = (sm_give 1 x 0 vals vk va).bind fun v85 => some (1, 0, nI (i + 1), bk, v85.1, v85.2.1, v85.2.2, wa, wt) := by
  rw [he_tA (by decide) (by decide)]
  unfold sm_take_J36
  rw [if_neg (by decide : ¬ nI 10 < 10), if_neg (by decide : ¬ 12 < nI 10), if_pos (by decide : nI 10 = 10)]
  unfold sm_take_J70
  rw [if_pos (by decide : nI 10 = 10)]
theorem he_t11 {i : Nat} {bk vals wa x : Int32} {vk va wt : Nat → Int32} : sm_take (nI 11) x (nI n) mk ms sk sl kp (nI k) mc 0 (nI (i + 1)) self bk vals vk va wa wt = (sm_give 0 self 0 vals vk va).bind fun v85 => some (1, 0, nI (i + 1), bk, v85.1, v85.2.1, v85.2.2, wa, wt) := by
  rw [he_tA (by decide) (by decide)]
  unfold sm_take_J36
  rw [if_neg (by decide : ¬ nI 11 < 10), if_neg (by decide : ¬ 12 < nI 11), if_neg (by decide : ¬ nI 11 = 10), if_pos (by decide : nI 11 = 11)]
  unfold sm_take_J70
  rw [if_neg (by decide : ¬ nI 11 = 10)]
theorem he_t12 {i : Nat} {bk vals wa x : Int32} {vk va wt : Nat → Int32} : sm_take (nI 12) x (nI n) mk ms sk sl kp (nI k) mc 0 (nI (i + 1)) self bk vals vk va wa wt = (sm_give 2 self 0 vals vk va).bind fun v85 => some (1, 0, nI (i + 1), bk, v85.1, v85.2.1, v85.2.2, wa, wt) := by
  rw [he_tA (by decide) (by decide)]
  unfold sm_take_J36
  rw [if_neg (by decide : ¬ nI 12 < 10), if_neg (by decide : ¬ 12 < nI 12), if_neg (by decide : ¬ nI 12 = 10), if_neg (by decide : ¬ nI 12 = 11)]
  unfold sm_take_J70
  rw [if_neg (by decide : ¬ nI 12 = 10)]
theorem he_go {i m : Nat} {bk vals wa : Int32} {vk va wt : Nat → Int32} (hk : k ≤ 40) (hi : i < k) : sm_work_L27 (m + 1) 1 (nI n) mk ms sk sl kp (nI k) mc mn 0 (nI i) self bk vals vk va wa wt = (sm_take (mc i) (mn i) (nI n) mk ms sk sl kp (nI k) mc 0 (nI (i + 1)) self bk vals vk va wa wt).bind fun v82 => sm_work_L27 m v82.1 (nI n) mk ms sk sl kp (nI k) mc mn v82.2.1 v82.2.2.1 self v82.2.2.2.1 v82.2.2.2.2.1 v82.2.2.2.2.2.1 v82.2.2.2.2.2.2.1 v82.2.2.2.2.2.2.2.1 v82.2.2.2.2.2.2.2.2 := by
  show sm_work_L27_B (sm_work_L27 m) 1 (nI n) mk ms sk sl kp (nI k) mc mn 0 (nI i) self bk vals vk va wa wt = _
  unfold sm_work_L27_B
  rw [if_neg (by decide : ¬ (1 : Int32) = 0), if_pos (rfl : (0 : Int32) = 0), if_neg (hh_nle hi (by omega)), nI_1, nI_pred, if_pos (hb_I (by omega) (by omega)), if_pos (hb_I (by omega) (by omega)), nI_clamp (by omega)]
theorem he_wF {m : Nat} {l3 f a bk vals wa : Int32} {vk va wt : Nat → Int32} (hf : ¬ f = 0) : sm_work_L27 (m + 1) l3 (nI n) mk ms sk sl kp (nI k) mc mn f a self bk vals vk va wa wt = some (f, a, bk, vals, vk, va, wa, wt) := by
  show sm_work_L27_B (sm_work_L27 m) l3 (nI n) mk ms sk sl kp (nI k) mc mn f a self bk vals vk va wa wt = _
  unfold sm_work_L27_B
  by_cases h : l3 = 0
  · rw [if_pos h]
  · rw [if_neg h, if_neg hf]
theorem he_w0 {m : Nat} {f a bk vals wa : Int32} {vk va wt : Nat → Int32} : sm_work_L27 (m + 1) 0 (nI n) mk ms sk sl kp (nI k) mc mn f a self bk vals vk va wa wt = some (f, a, bk, vals, vk, va, wa, wt) := by
  show sm_work_L27_B (sm_work_L27 m) 0 (nI n) mk ms sk sl kp (nI k) mc mn f a self bk vals vk va wa wt = _
  unfold sm_work_L27_B
  rw [if_pos rfl]
theorem he_S1 {i i' : Nat} {vs vs' : List (Nat × Int32)} {ws ws' : List Nat} {r : Nat × Int32} (hk : k ≤ 40) (hi : i < k) (hii : i < i')
    (h : vs.length ≤ i → ws.length ≤ i → ∀ vk va wt : Nat → Int32, he_V n vs vk va → hg_M ws wt → ∃ vk' va' wt', sm_take (mc i) (mn i) (nI n) mk ms sk sl kp (nI k) mc 0 (nI (i + 1)) self (nI (he_n6 ws)) (nI vs.length) vk va (nI ws.length) wt = some (1, 0, nI i', nI (he_n6 ws'), nI vs'.length, vk', va', nI ws'.length, wt') ∧ he_V n vs' vk' va' ∧ hg_M ws' wt')
    (hb : vs.length ≤ i → ws.length ≤ i → vs'.length ≤ i' ∧ ws'.length ≤ i') (hR : he_Run n k mc mn mk ms sk sl kp self i' vs' ws' r) : he_Run n k mc mn mk ms sk sl kp self i vs ws r := by
  intro fuel vk va wt hf hvl hwl hV hM
  obtain ⟨m, rfl⟩ : ∃ m, fuel = m + 1 := ⟨fuel - 1, by omega⟩
  obtain ⟨vk', va', wt', e, hV', hM'⟩ := h hvl hwl vk va wt hV hM
  rw [he_go hk hi, e, Option.bind_some]
  exact hR m vk' va' wt' (by omega) (hb hvl hwl).1 (hb hvl hwl).2 hV' hM'
theorem he_S3 {i : Nat} {vs : List (Nat × Int32)} {ws : List Nat} {f : Int32} (hk : k ≤ 40) (hi : i < k) (hf0 : ¬ f = 0)
    (h : vs.length ≤ i → ws.length ≤ i → ∀ vk va wt : Nat → Int32, he_V n vs vk va → hg_M ws wt → ∃ a b c d e g w, sm_take (mc i) (mn i) (nI n) mk ms sk sl kp (nI k) mc 0 (nI (i + 1)) self (nI (he_n6 ws)) (nI vs.length) vk va (nI ws.length) wt = some (1, f, a, b, c, d, e, g, w)) : he_Run n k mc mn mk ms sk sl kp self i vs ws (3, f) := by
  intro fuel vk va wt hf hvl hwl hV hM
  obtain ⟨m, rfl⟩ : ∃ m, fuel = m + 1 + 1 := ⟨fuel - 2, by omega⟩
  obtain ⟨a, b, c, d, e, g, w, h⟩ := h hvl hwl vk va wt hV hM
  rw [he_go hk hi, h, Option.bind_some, he_wF hf0]
  exact ⟨_, _, _, _, _, _, _, _, rfl, Or.inl ⟨rfl, rfl, hf0⟩⟩
theorem he_S0 {i : Nat} {vs : List (Nat × Int32)} {ws : List Nat} {r : Nat × Int32} (hk : k ≤ 40) (hi : i < k)
    (h : vs.length ≤ i → ws.length ≤ i → ∀ vk va wt : Nat → Int32, he_V n vs vk va → hg_M ws wt → ∃ f a b c d e g w, sm_take (mc i) (mn i) (nI n) mk ms sk sl kp (nI k) mc 0 (nI (i + 1)) self (nI (he_n6 ws)) (nI vs.length) vk va (nI ws.length) wt = some (0, f, a, b, c, d, e, g, w) ∧ ((r.1 = 3 ∧ f = r.2 ∧ ¬ f = 0) ∨ (r.1 < 3 ∧ f = 0 ∧ d 0 = nI r.1 ∧ e 0 = r.2))) : he_Run n k mc mn mk ms sk sl kp self i vs ws r := by
  intro fuel vk va wt hf hvl hwl hV hM
  obtain ⟨m, rfl⟩ : ∃ m, fuel = m + 1 + 1 := ⟨fuel - 2, by omega⟩
  obtain ⟨f, a, b, c, d, e, g, w, h, hr⟩ := h hvl hwl vk va wt hV hM
  rw [he_go hk hi, h, Option.bind_some, he_w0]
  exact ⟨_, _, _, _, _, _, _, _, rfl, hr⟩
/-- a leaf -/
theorem he_leaf {i : Nat} {vs : List (Nat × Int32)} {ws : List Nat} {r u : Nat × Int32} {x : Int32} (hk : k ≤ 40) (hi : i < k) (h3 : u.1 < 3) (hu : he_v n u) (hx : u.1 = 0 ∨ x = u.2)
    (ht : ∀ {bk vals wa : Int32} {vk va wt : Nat → Int32}, sm_take (mc i) (mn i) (nI n) mk ms sk sl kp (nI k) mc 0 (nI (i + 1)) self bk vals vk va wa wt = (sm_give (nI u.1) x 0 vals vk va).bind fun v85 => some (1, 0, nI (i + 1), bk, v85.1, v85.2.1, v85.2.2, wa, wt)) (hR : he_Run n k mc mn mk ms sk sl kp self (i + 1) (u :: vs) ws r) : he_Run n k mc mn mk ms sk sl kp self i vs ws r := by
  refine he_S1 hk hi (Nat.lt_succ_self i) (fun hvl hwl vk va wt hV hM => ?_) (fun hvl hwl => ⟨by simp only [List.length_cons]; omega, by omega⟩) hR
  obtain ⟨vk', va', e, hV'⟩ := he_give (vs := vs) (d := 0) (vals := nI vs.length) (x := x) (by omega) h3 hu hx (Int32.sub_zero _) hV
  refine ⟨vk', va', wt, ?_, hV', hM⟩
  rw [ht, e, Option.bind_some]
  rfl
/-- FIELD and AT -/
theorem he_al1 {i c j : Nat} {vs : List (Nat × Int32)} {ws : List Nat} {r u v : Nat × Int32} (hk : k ≤ 40) (hi : i < k) (hm : mc i = nI c) (hc : c = 13 ∨ c = 14) (hj : mn i = nI j) (h3 : u.1 < 3)
    (ha : ∀ (vk va : Nat → Int32), vs.length < 41 → he_V n (v :: vs) vk va → he_Rs n u vs (sm_along (nI c) (nI j) (nI n) mk ms sk sl kp 0 (nI (vs.length + 1)) vk va)) (hR : he_Run n k mc mn mk ms sk sl kp self (i + 1) (u :: vs) ws r) : he_Run n k mc mn mk ms sk sl kp self i (v :: vs) ws r := by
  refine he_S1 hk hi (Nat.lt_succ_self i) (fun hvl hwl vk va wt hV hM => ?_) (fun hvl hwl => ⟨by simp only [List.length_cons] at hvl ⊢; omega, by omega⟩) hR
  simp only [List.length_cons] at hvl
  obtain ⟨f, vals, vk', va', e, hres⟩ := ha vk va (by omega) hV
  rcases hres with ⟨u3, _, _⟩ | ⟨_, f0, hvals, hV'⟩
  · omega
  · refine ⟨vk', va', wt, ?_, hV', hM⟩
    rw [hm, he_t13 hc, hj, List.length_cons, e, Option.bind_some, f0, hvals]
    rfl
theorem he_al3 {i c j : Nat} {vs : List (Nat × Int32)} {ws : List Nat} {u v : Nat × Int32} (hk : k ≤ 40) (hi : i < k) (hm : mc i = nI c) (hc : c = 13 ∨ c = 14) (hj : mn i = nI j) (hu : he_v n u) (h3 : u.1 = 3)
    (ha : ∀ (vk va : Nat → Int32), vs.length < 41 → he_V n (v :: vs) vk va → he_Rs n u vs (sm_along (nI c) (nI j) (nI n) mk ms sk sl kp 0 (nI (vs.length + 1)) vk va)) : he_Run n k mc mn mk ms sk sl kp self i (v :: vs) ws u := by
  have e0 : u = (3, u.2) := by rw [← h3]
  rw [e0]
  refine he_S3 hk hi (hu.2.2.2 h3) (fun hvl hwl vk va wt hV hM => ?_)
  simp only [List.length_cons] at hvl
  obtain ⟨f, vals, vk', va', e, hres⟩ := ha vk va (by omega) hV
  rcases hres with ⟨_, fu, _⟩ | ⟨u3, _⟩
  · rw [hm, he_t13 hc, hj, List.length_cons, e, Option.bind_some, fu]
    exact ⟨_, _, _, _, _, _, _, rfl⟩
  · omega
theorem he_hold {c : Int32} {ws : List Nat} {wt : Nat → Int32} (h : ws.length < 41) : sm_hold c (nI ws.length) wt = some (nI (ws.length + 1), upd wt ws.length c) := by
  unfold sm_hold
  rw [if_pos (hb_I h (by omega)), nI_clamp (by omega), nI_1]
theorem he_open {i : Nat} {vs : List (Nat × Int32)} {ws : List Nat} {r : Nat × Int32} (hk : k ≤ 40) (hi : i < k) (hm : mc i = nI 6) (hR : he_Run n k mc mn mk ms sk sl kp self (i + 1) vs (6 :: ws) r) : he_Run n k mc mn mk ms sk sl kp self i vs ws r := by
  refine he_S1 hk hi (Nat.lt_succ_self i) (fun hvl hwl vk va wt hV hM => ?_) (fun hvl hwl => ⟨by omega, by simp only [List.length_cons]; omega⟩) hR
  refine ⟨vk, va, upd wt ws.length (nI 6), ?_, hV, pk_us, hg_M_upd ws (Nat.le_refl _) hM⟩
  rw [hm, he_t6, he_hold (by omega), Option.bind_some, nI_1]
  rfl
theorem he_not {i : Nat} {vs : List (Nat × Int32)} {ws : List Nat} {r : Nat × Int32} (hk : k ≤ 40) (hi : i < k) (hm : mc i = nI 17) (hR : he_Run n k mc mn mk ms sk sl kp self (i + 1) vs (17 :: ws) r) : he_Run n k mc mn mk ms sk sl kp self i vs ws r := by
  refine he_S1 hk hi (Nat.lt_succ_self i) (fun hvl hwl vk va wt hV hM => ?_) (fun hvl hwl => ⟨by omega, by simp only [List.length_cons]; omega⟩) hR
  refine ⟨vk, va, upd wt ws.length (nI 17), ?_, hV, pk_us, hg_M_upd ws (Nat.le_refl _) hM⟩
  rw [hm, he_t17, he_hold (by omega), Option.bind_some]
  rfl
/-- CLOSE: what waits behind its OPEN is worked out -/
theorem he_close {i : Nat} {pend ws : List Nat} {vs2 vs : List (Nat × Int32)} {r v : Nat × Int32} (hk : k ≤ 40) (hi : i < k) (hm : mc i = nI 7) (hC : he_C pend vs2 v vs) (hp : ∀ w ∈ pend, 15 ≤ w ∧ w ≤ 23) (hr : v.1 = 3 → r = v) (hv3 : v.1 = 3 → ¬ v.2 = 0) (hR : v.1 < 3 → he_Run n k mc mn mk ms sk sl kp self (i + 1) (v :: vs) ws r) (hlt : v.1 < 4) : he_Run n k mc mn mk ms sk sl kp self i vs2 (pend ++ 6 :: ws) r := by
  have hn6 : he_n6 (pend ++ 6 :: ws) = he_n6 ws + 1 := he_n6_app pend (fun w hw => (hp w hw).1)
  have A : vs2.length ≤ i → (pend ++ 6 :: ws).length ≤ i → ∀ vk va wt : Nat → Int32, he_V n vs2 vk va → hg_M (pend ++ 6 :: ws) wt → ∃ f vals vk' va' wa, sm_apply 0 0 (nI vs2.length) vk va (nI (pend ++ 6 :: ws).length) wt = some (f, vals, vk', va', wa) ∧ ((v.1 = 3 ∧ f = v.2 ∧ ¬ f = 0 ∧ ∃ j, j < 41 ∧ wa = nI j) ∨ (v.1 < 3 ∧ f = 0 ∧ vals = nI (vs.length + 1) ∧ he_V n (v :: vs) vk' va' ∧ wa = nI (ws.length + 1))) := fun hvl hwl vk va wt hV hM =>
    he_apply (r := 0) (pend := pend) (ws := 6 :: ws) (by decide) (by omega) (by omega) hM hV (fun w hw => ⟨hp w hw, Nat.zero_le _⟩) (Or.inl rfl) hC
  by_cases h3 : v.1 = 3
  · have e0 : r = (3, v.2) := by rw [hr h3, ← h3]
    rw [e0]
    refine he_S3 hk hi (hv3 h3) (fun hvl hwl vk va wt hV hM => ?_)
    obtain ⟨f, vals, vk', va', wa, e, hres⟩ := A hvl hwl vk va wt hV hM
    have hnb : ¬ nI (he_n6 (pend ++ 6 :: ws)) = 0 := by
      rw [hn6]
      have := he_n6_le (pend ++ 6 :: ws)
      exact nI_ne0 (Nat.succ_pos _) (by omega)
    rcases hres with ⟨_, fu, _⟩ | ⟨q, _⟩
    · rw [hm, he_t7 hnb, e, Option.bind_some, fu]
      exact ⟨_, _, _, _, _, _, _, rfl⟩
    · omega
  · refine he_S1 (ws' := ws) hk hi (Nat.lt_succ_self i) (fun hvl hwl vk va wt hV hM => ?_) (fun hvl hwl => ?_) (hR (by omega))
    · obtain ⟨f, vals, vk', va', wa, e, hres⟩ := A hvl hwl vk va wt hV hM
      have hnb : ¬ nI (he_n6 (pend ++ 6 :: ws)) = 0 := by
        rw [hn6]
        have := he_n6_le (pend ++ 6 :: ws)
        exact nI_ne0 (Nat.succ_pos _) (by omega)
      rcases hres with ⟨q, _⟩ | ⟨_, f0, hvals, hV', hwa⟩
      · exact absurd q h3
      · refine ⟨vk', va', wt, ?_, hV', (he_hM hM).2⟩
        rw [hm, he_t7 hnb, e, Option.bind_some, f0, hvals, hwa, hn6, nI_pred, nI_pred]
        rfl
    · have := he_C_len h3 pend vs2 hC
      rw [List.length_append] at hwl
      simp only [List.length_cons] at hwl ⊢
      exact ⟨by omega, by omega⟩
/-- an operator between two operands that is no AND or OR -/
theorem he_oper {i c : Nat} {pend ws : List Nat} {vs2 vs : List (Nat × Int32)} {r v : Nat × Int32} (hk : k ≤ 40) (hi : i < k) (hm : mc i = nI c) (hc : 18 ≤ c ∧ c ≤ 23) (hC : he_C pend vs2 v vs) (hp : ∀ w ∈ pend, (15 ≤ w ∧ w ≤ 23) ∧ he_rk c ≤ he_rk w) (hs : he_stop (he_rk c) ws) (hr : v.1 = 3 → r = v) (hv3 : v.1 = 3 → ¬ v.2 = 0) (hR : v.1 < 3 → he_Run n k mc mn mk ms sk sl kp self (i + 1) (v :: vs) (c :: ws) r) (hlt : v.1 < 4) : he_Run n k mc mn mk ms sk sl kp self i vs2 (pend ++ ws) r := by
  have hn6 : he_n6 (pend ++ ws) = he_n6 ws := he_n6_app pend (fun w hw => (hp w hw).1.1)
  have hrk := he_rk7 (w := c) ⟨by omega, hc.2⟩
  have A : vs2.length ≤ i → (pend ++ ws).length ≤ i → ∀ vk va wt : Nat → Int32, he_V n vs2 vk va → hg_M (pend ++ ws) wt → ∃ f vals vk' va' wa, sm_apply (nI (he_rk c)) 0 (nI vs2.length) vk va (nI (pend ++ ws).length) wt = some (f, vals, vk', va', wa) ∧ ((v.1 = 3 ∧ f = v.2 ∧ ¬ f = 0 ∧ ∃ j, j < 41 ∧ wa = nI j) ∨ (v.1 < 3 ∧ f = 0 ∧ vals = nI (vs.length + 1) ∧ he_V n (v :: vs) vk' va' ∧ wa = nI ws.length)) := fun hvl hwl vk va wt hV hM =>
    he_apply (r := he_rk c) (by omega) (by omega) (by omega) hM hV hp hs hC
  by_cases h3 : v.1 = 3
  · have e0 : r = (3, v.2) := by rw [hr h3, ← h3]
    rw [e0]
    refine he_S3 hk hi (hv3 h3) (fun hvl hwl vk va wt hV hM => ?_)
    obtain ⟨f, vals, vk', va', wa, e, hres⟩ := A hvl hwl vk va wt hV hM
    rcases hres with ⟨_, fu, _, j, hj, hwa⟩ | ⟨q, _⟩
    · have hw1 : sm_hold (nI c) wa wt = some (nI (j + 1), upd wt j (nI c)) := by
        unfold sm_hold
        rw [hwa, if_pos (hb_I hj (by omega)), nI_clamp (by omega), nI_1]
      rw [hm, he_t18 hc, e, Option.bind_some, hw1, Option.bind_some, fu]
      exact ⟨_, _, _, _, _, _, _, rfl⟩
    · omega
  · refine he_S1 (ws' := c :: ws) hk hi (Nat.lt_succ_self i) (fun hvl hwl vk va wt hV hM => ?_) (fun hvl hwl => ?_) (hR (by omega))
    · obtain ⟨f, vals, vk', va', wa, e, hres⟩ := A hvl hwl vk va wt hV hM
      rcases hres with ⟨q, _⟩ | ⟨_, f0, hvals, hV', hwa⟩
      · exact absurd q h3
      · have hwl2 : ws.length < 41 := by rw [List.length_append] at hwl; omega
        refine ⟨vk', va', upd wt ws.length (nI c), ?_, hV', pk_us, hg_M_upd ws (Nat.le_refl _) (he_hM hM)⟩
        rw [hm, he_t18 hc, e, Option.bind_some, hwa, he_hold hwl2, Option.bind_some, f0, hvals, hn6, show he_n6 (c :: ws) = he_n6 ws from if_neg (by omega)]
        rfl
    · have := he_C_len h3 pend vs2 hC
      rw [List.length_append] at hwl
      simp only [List.length_cons]
      exact ⟨by omega, by omega⟩
end
