/-! RETAINED, DISTINCT, the look at an object -/
section
variable {cc n : Nat} {mp mk ms mr sk sl xp xk xs : Nat → Int32} {xf : Nat → Int64} {xr0 : Int32} {lf lc rs rz im : Nat → Int32} {so sr re : Int32}
theorem hw_ret (h : hh_I cc n mp mk ms mr sk sl xp xk xs xf xr0) (hV : hs_V n mr sk sl xs xr0 lf lc rs rz im so sr re) {s r : Nat} {rk rv : Nat → Int32} {xr : Nat → Int64} (hr : r ≤ 192) (hs : s ≤ r) (hsn : s + n ≤ 192) (hR : hw_R n r rk rv xr) :
    ∃ rc rk' rv' f xr' c', sm_retain (nI s) (nI n) mr sk sl (nI r) rk rv = some (rc, rk', rv') ∧ sm_numbers (nI s) (nI r) rk 0 = some f ∧ sxw_turnIntoRetained (nI s) (nI n) lf sr re xr (nI r) = some (f, xr', c') ∧ (f = 0 → ∃ r', rc = nI r' ∧ c' = nI r' ∧ r' ≤ s + n ∧ s ≤ r' ∧ hw_R n r' rk' rv' xr') := by
  have hn := h.2.1
  obtain ⟨f, b, n1, n2, n3⟩ := hw_numbers hr hs hR
  obtain ⟨v, m1, m2⟩ := hw_mask (s := s) hr hR (r - s) s kF kF 0 (by omega) (hb_kF (by omega)) (hb_kF (by omega))
  obtain ⟨A, a1, a2⟩ := qm_reach (rt := mr) 0 hn (hh_Vv h)
  obtain ⟨S, s1, s2⟩ := qm_reach (rt := mr) v hn (hh_Vv h)
  obtain ⟨r', rk', rv', xr', e1, e2, e3, e4, e5⟩ := hw_fill (S := A &&& (S ^^^ (-1))) hn hsn n 0 kF kF s rk rv xr (by omega) (hb_kF (by omega)) (hb_kF (by omega)) (by omega) (fun i hi => hR i (by omega))
  have e1 : sm_retain_L65 kF (A &&& (S ^^^ (-1))) 0 (nI n) (nI s) rk rv = some (nI r', rk', rv') := e1
  have e2 : sxw_turnIntoRetained_L77 kF (A &&& (S ^^^ (-1))) 0 (nI n) xr (nI s) = some (xr', nI r') := e2
  have hm : sm_retain (nI s) (nI n) mr sk sl (nI r) rk rv = some (nI r', rk', rv') := by
    unfold sm_retain
    rw [m1, Option.bind_some, a1, Option.bind_some, s1, Option.bind_some, e1, Option.bind_some]
  rcases n3 with ⟨b0, f0, _⟩ | ⟨b1, f1⟩
  · obtain ⟨S2, t1, t2⟩ := qx_retainedBy (rt := mr) v sr re hn (hh_Vv h) hV.2.2.1 (by rw [hV.2.1]; exact h.2.2.2.2.2.2)
    refine ⟨nI r', rk', rv', f, xr', nI r', hm, n1, ?_, fun _ => ⟨r', rfl, rfl, e3, e4, e5⟩⟩
    unfold sxw_turnIntoRetained
    rw [n2, Option.bind_some, if_pos b0, m2, Option.bind_some, t1, Option.bind_some, hb_R_eq hV.2.2.2.2.1 a2, hb_R_eq t2 s2, e2, Option.bind_some, f0]
  · refine ⟨nI r', rk', rv', f, xr, nI r, hm, n1, ?_, fun q => by rw [f1] at q; exact absurd q (by decide)⟩
    unfold sxw_turnIntoRetained
    rw [n2, Option.bind_some, if_neg (by rw [b1]; decide), f1]
end
theorem hw_in0 {s i c : Nat} {rk rv : Nat → Int32} (hc : c ≤ 192) : ∀ (q j fuel : Nat), j + q = c → q < fuel → sm_single_L18 fuel (nI s) (nI c) (nI i) 0 (nI j) rk rv = some 0 := by
  intro q
  induction q with
  | zero =>
    intro j fuel hj hf
    obtain ⟨m, rfl⟩ : ∃ m, fuel = m + 1 := ⟨fuel - 1, by omega⟩
    show sm_single_L18_B (sm_single_L18 m) (nI s) (nI c) (nI i) 0 (nI j) rk rv = some 0
    unfold sm_single_L18_B
    rw [if_pos ((nI_leI (by omega) (by omega)).mpr (by omega))]
  | succ q ih =>
    intro j fuel hj hf
    obtain ⟨m, rfl⟩ : ∃ m, fuel = m + 1 := ⟨fuel - 1, by omega⟩
    show sm_single_L18_B (sm_single_L18 m) (nI s) (nI c) (nI i) 0 (nI j) rk rv = some 0
    unfold sm_single_L18_B
    rw [if_neg (hh_nle (by omega) (by omega)), if_pos (rfl : (0 : Int32) = 0), nI_1]
    exact ih (j + 1) m (by omega) (by omega)
theorem hw_in1 {n s i c : Nat} {rk rv : Nat → Int32} {xr : Nat → Int64} (hc : c ≤ 192) (hi : i < 192) (hR : hw_R n c rk rv xr) (hRi : ∃ u : Nat × Int32, u.1 < 3 ∧ he_v n u ∧ rk i = nI u.1 ∧ rv i = u.2 ∧ xr i = hv u.1 u.2) : ∀ (q j fuel fuel' : Nat), j + q = c → q < fuel → q < fuel' →
    ∃ fl b, sm_single_L18 fuel (nI s) (nI c) (nI i) 1 (nI j) rk rv = some fl ∧ sxw_hasRowSince_L3 fuel' (xr i) (nI j) xr (nI c) = some b ∧ ((b = 1 ∧ fl = 0) ∨ (b = 0 ∧ fl = 1)) := by
  obtain ⟨w, w1, w2, w3, w4, w5⟩ := hRi
  intro q
  induction q with
  | zero =>
    intro j fuel fuel' hj hf hf'
    obtain ⟨m, rfl⟩ : ∃ m, fuel = m + 1 := ⟨fuel - 1, by omega⟩
    obtain ⟨m', rfl⟩ : ∃ m', fuel' = m' + 1 := ⟨fuel' - 1, by omega⟩
    have le : nI c ≤ nI j := (nI_leI (by omega) (by omega)).mpr (by omega)
    refine ⟨1, 0, ?_, ?_, Or.inr ⟨rfl, rfl⟩⟩
    · show sm_single_L18_B (sm_single_L18 m) (nI s) (nI c) (nI i) 1 (nI j) rk rv = some 1
      unfold sm_single_L18_B
      rw [if_pos le]
    · show sxw_hasRowSince_L3_B (sxw_hasRowSince_L3 m') (xr i) (nI j) xr (nI c) = some 0
      unfold sxw_hasRowSince_L3_B
      rw [if_pos le]
  | succ q ih =>
    intro j fuel fuel' hj hf hf'
    obtain ⟨m, rfl⟩ : ∃ m, fuel = m + 1 := ⟨fuel - 1, by omega⟩
    obtain ⟨m', rfl⟩ : ∃ m', fuel' = m' + 1 := ⟨fuel' - 1, by omega⟩
    have nle : ¬ nI c ≤ nI j := hh_nle (by omega) (by omega)
    have j200 : hq_I (nI j) 200 = true := hb_I (by omega) (by omega)
    have i200 : hq_I (nI i) 200 = true := hb_I (by omega) (by omega)
    obtain ⟨u, u1, u2, u3, u4, u5⟩ := hR j (by omega)
    show ∃ fl b, sm_single_L18_B (sm_single_L18 m) (nI s) (nI c) (nI i) 1 (nI j) rk rv = some fl ∧ sxw_hasRowSince_L3_B (sxw_hasRowSince_L3 m') (xr i) (nI j) xr (nI c) = some b ∧ _
    unfold sm_single_L18_B sxw_hasRowSince_L3_B
    rw [if_neg nle, if_neg nle, if_neg (by decide : ¬ (1 : Int32) = 0), if_pos j200, if_pos i200, if_pos j200, if_pos i200, if_pos (hb_I (show j < 192 by omega) (by omega)), nI_clamp (show j < 2 ^ 31 by omega), nI_clamp (show i < 2 ^ 31 by omega), nI_1]
    have eq : (lg_cmp (xr j) (xr i) = 0) ↔ u.1 = w.1 ∧ u.2 = w.2 := by rw [lg_cmp_eq, u5, w5, hv_inj (by omega) (by omega)]
    by_cases e : u.1 = w.1 ∧ u.2 = w.2
    · rw [if_pos (eq.mpr e), if_pos (show rk j = rk i by rw [u3, w3, e.1]), if_pos (show rv j = rv i by rw [u4, w4, e.2])]
      exact ⟨0, 1, hw_in0 hc q (j + 1) m (by omega) (by omega), rfl, Or.inl ⟨rfl, rfl⟩⟩
    · rw [if_neg (fun q => e (eq.mp q))]
      by_cases ek : u.1 = w.1
      · rw [if_pos (show rk j = rk i by rw [u3, w3, ek]), if_neg (show ¬ rv j = rv i from fun q => e ⟨ek, by rw [← u4, ← w4]; exact q⟩)]
        exact ih (j + 1) m m' (by omega) (by omega) (by omega)
      · rw [if_neg (show ¬ rk j = rk i from fun q => by rw [u3, w3] at q; exact ek ((nI_eq (by omega) (by omega)).mp q))]
        exact ih (j + 1) m m' (by omega) (by omega) (by omega)
theorem hw_one {n s r : Nat} (hr : r ≤ 192) : ∀ (q i fuel fuel' c : Nat) (rk rv : Nat → Int32) (xr : Nat → Int64), i + q = r → q < fuel → q < fuel' → s ≤ c → c ≤ i → hw_R n c rk rv xr → (∀ i', i ≤ i' → i' < r → ∃ u : Nat × Int32, u.1 < 3 ∧ he_v n u ∧ rk i' = nI u.1 ∧ rv i' = u.2 ∧ xr i' = hv u.1 u.2) →
    ∃ c' rk' rv' xr', sm_single_L4 fuel (nI s) (nI c) (nI i) (nI r) rk rv = some (nI c', rk', rv') ∧ sxw_leaveOutRepeated_L12 fuel' (nI s) (nI r) (nI i) xr (nI c) = some (xr', nI c') ∧ c' ≤ r ∧ s ≤ c' ∧ hw_R n c' rk' rv' xr' := by
  intro q
  induction q with
  | zero =>
    intro i fuel fuel' c rk rv xr hi hf hf' hsc hci hR hT
    obtain ⟨m, rfl⟩ : ∃ m, fuel = m + 1 := ⟨fuel - 1, by omega⟩
    obtain ⟨m', rfl⟩ : ∃ m', fuel' = m' + 1 := ⟨fuel' - 1, by omega⟩
    have le : nI r ≤ nI i := (nI_leI (by omega) (by omega)).mpr (by omega)
    refine ⟨c, rk, rv, xr, ?_, ?_, by omega, hsc, hR⟩
    · show sm_single_L4_B (sm_single_L4 m) (nI s) (nI c) (nI i) (nI r) rk rv = _
      unfold sm_single_L4_B
      rw [if_pos le]
    · show sxw_leaveOutRepeated_L12_B (sxw_leaveOutRepeated_L12 m') (nI s) (nI r) (nI i) xr (nI c) = _
      unfold sxw_leaveOutRepeated_L12_B
      rw [if_pos le]
  | succ q ih =>
    intro i fuel fuel' c rk rv xr hi hf hf' hsc hci hR hT
    obtain ⟨m, rfl⟩ : ∃ m, fuel = m + 1 := ⟨fuel - 1, by omega⟩
    obtain ⟨m', rfl⟩ : ∃ m', fuel' = m' + 1 := ⟨fuel' - 1, by omega⟩
    have nle : ¬ nI r ≤ nI i := hh_nle (by omega) (by omega)
    have i200 : hq_I (nI i) 200 = true := hb_I (by omega) (by omega)
    have c200 : hq_I (nI c) 200 = true := hb_I (by omega) (by omega)
    have i192 : hq_I (nI i) 192 = true := hb_I (by omega) (by omega)
    have hTi := hT i (Nat.le_refl _) (by omega)
    obtain ⟨fl, b, g1, g2, g3⟩ := hw_in1 (s := s) (by omega) (by omega) hR hTi (c - s) s kF kF (by omega) (hb_kF (by omega)) (hb_kF (by omega))
    have g2 : sxw_hasRowSince (nI s) (xr i) xr (nI c) = some b := g2
    show ∃ c' rk' rv' xr', sm_single_L4_B (sm_single_L4 m) (nI s) (nI c) (nI i) (nI r) rk rv = some (nI c', rk', rv') ∧ sxw_leaveOutRepeated_L12_B (sxw_leaveOutRepeated_L12 m') (nI s) (nI r) (nI i) xr (nI c) = some (xr', nI c') ∧ _
    unfold sm_single_L4_B sxw_leaveOutRepeated_L12_B
    rw [if_neg nle, if_neg nle, g1, Option.bind_some, if_pos i200, if_pos c200, if_pos i200, if_pos c200, if_pos i192, if_pos i192, nI_clamp (show i < 2 ^ 31 by omega), nI_clamp (show c < 2 ^ 31 by omega), g2, Option.bind_some, nI_1, nI_1]
    obtain ⟨w, w1, w2, w3, w4, w5⟩ := hTi
    rcases g3 with ⟨rfl, rfl⟩ | ⟨rfl, rfl⟩
    · rw [if_pos (rfl : (0 : Int32) = 0), if_neg (by decide : ¬ (1 : Int32) = 0)]
      refine ih (i + 1) m m' c _ _ xr (by omega) (by omega) (by omega) hsc (by omega) (fun x hx => ?_) (fun x h1 h2 => ?_)
      · obtain ⟨u, a1, a2, a3, a4, a5⟩ := hR x hx
        exact ⟨u, a1, a2, (pk_un (by omega)).trans a3, (pk_un (by omega)).trans a4, a5⟩
      · obtain ⟨u, a1, a2, a3, a4, a5⟩ := hT x (by omega) h2
        exact ⟨u, a1, a2, (pk_un (by omega)).trans a3, (pk_un (by omega)).trans a4, a5⟩
    · rw [if_neg (by decide : ¬ (1 : Int32) = 0), if_pos (rfl : (0 : Int32) = 0), hw_add (by omega), Option.bind_some]
      obtain ⟨c', rk', rv', xr', e1, e2, e3, e4, e5⟩ := ih (i + 1) m m' (c + 1) (upd rk c (rk i)) (upd rv c (rv i)) (vp_updL xr c (xr i)) (by omega) (by omega) (by omega) (by omega) (by omega) (fun x hx => by
        by_cases e : x = c
        · subst e
          exact ⟨w, w1, w2, pk_us.trans w3, pk_us.trans w4, pk_uLs.trans w5⟩
        · obtain ⟨u, a1, a2, a3, a4, a5⟩ := hR x (by omega)
          exact ⟨u, a1, a2, (pk_un e).trans a3, (pk_un e).trans a4, (pk_uLn e).trans a5⟩) (fun x h1 h2 => by
        obtain ⟨u, a1, a2, a3, a4, a5⟩ := hT x (by omega) h2
        exact ⟨u, a1, a2, (pk_un (by omega)).trans a3, (pk_un (by omega)).trans a4, (pk_uLn (by omega)).trans a5⟩)
      exact ⟨c', rk', rv', xr', e1, e2, e3, e4, e5⟩
theorem hw_single {n s r : Nat} {rk rv : Nat → Int32} {xr : Nat → Int64} (hr : r ≤ 192) (hs : s ≤ r) (hR : hw_R n r rk rv xr) : ∃ c' rk' rv' xr', sm_single (nI s) (nI r) rk rv = some (nI c', rk', rv') ∧ sxw_leaveOutRepeated (nI s) xr (nI r) = some (xr', nI c') ∧ c' ≤ r ∧ s ≤ c' ∧ hw_R n c' rk' rv' xr' := by
  obtain ⟨c', rk', rv', xr', e1, e2, e3⟩ := hw_one (s := s) hr (r - s) s kF kF s rk rv xr (by omega) (hb_kF (by omega)) (hb_kF (by omega)) (Nat.le_refl _) (Nat.le_refl _) (fun i hi => hR i (by omega)) (fun i _ hi => hR i hi)
  refine ⟨c', rk', rv', xr', ?_, ?_, e3⟩
  · unfold sm_single
    rw [e1, Option.bind_some]
  · unfold sxw_leaveOutRepeated
    rw [e2, Option.bind_some]
def hw_W (n k : Nat) (mc mn mk ms sk sl kp xk xs : Nat → Int32) (xf : Nat → Int64) (lc rz im : Nat → Int32) (d : hd_X) (p : Nat) : Prop :=
  ∀ o, o < n → ∃ u, he_D n (nI o) xk xs xf (nI n) lc rz im d u ∧ ∀ (a0 s0 b0 v0 w0 : Int32) (vk va wt : Nat → Int32), ∃ f a b v vk' va' w wt', sm_work (nI p) (nI o) (nI n) mk ms sk sl kp (nI k) mc mn 0 a0 s0 b0 v0 vk va w0 wt = some (f, a, nI o, b, v, vk', va', w, wt') ∧ ((u.1 = 3 ∧ f = u.2 ∧ ¬ f = 0) ∨ (u.1 < 3 ∧ f = 0 ∧ vk' 0 = nI u.1 ∧ va' 0 = u.2))
abbrev hw_J : Type := Int32 × Int32 × Int32 × Int32 × (Nat → Int32) × (Nat → Int32) × Int32 × (Nat → Int32)
section
variable {n k : Nat} {mc mn mk ms sk sl kp xk xs lc rz im ea wh : Nat → Int32} {xf : Nat → Int64} {dC dR : hd_X} {cond : Option Nat} {lev pe : Nat}
/-- the row of an object -/
theorem hw_row (hl : lev < 41) (hea : ea lev = nI pe) (hW : hw_W n k mc mn mk ms sk sl kp xk xs xf lc rz im dR pe) {o r : Nat} (ho : o < n) (hr : r < 192) {rec : Int32 → Int32 → (Nat → Int32) → (Nat → Int32) → (Nat → Int64) → Int32 → (Nat → Int32) → (Nat → Int32) → (Nat → Int32) → (Nat → Int64) → Int32 → Int32 → (Option Nat) → (Option Nat) → Option (Int32 × (Nat → Int64) × Int32 × Int32)}
    {l4 l5 sn a0 s0 b0 v0 w0 : Int32} {rk rv vk va wt : Nat → Int32} {xr : Nat → Int64} {row : Option Nat} :
    (∃ e rc rk' rv' g, ¬ e = 0 ∧ sxw_lookAtAll_J70 dR rec l4 l5 (nI o) 4294967297 xk xs xf (nI n) lc rz im xr (nI r) sn row cond = some (e, xr, nI r, sn) ∧ sm_look_J83 (nI o) (nI n) mk ms sk sl kp (nI k) mc mn (nI r) rk rv sn 0 (nI lev) ea wh a0 s0 b0 v0 vk va w0 wt = some (rc, rk', rv', sn, e, g)) ∨
    (∃ (u : Nat × Int32) (g : hw_J), u.1 < 3 ∧ he_v n u ∧ sxw_lookAtAll_J70 dR rec l4 l5 (nI o) 4294967297 xk xs xf (nI n) lc rz im xr (nI r) sn row cond = rec l4 (l5 + 1) xk xs xf (nI n) lc rz im (vp_updL xr r (hv u.1 u.2)) (nI (r + 1)) sn row cond ∧ sm_look_J83 (nI o) (nI n) mk ms sk sl kp (nI k) mc mn (nI r) rk rv sn 0 (nI lev) ea wh a0 s0 b0 v0 vk va w0 wt = some (nI (r + 1), upd rk r (nI u.1), upd rv r u.2, sn, 0, g)) := by
  obtain ⟨u, ⟨hd, hu⟩, hw⟩ := hW o ho
  obtain ⟨f, a, b, v, vk', va', w, wt', e, hres⟩ := hw a0 s0 b0 v0 w0 vk va wt
  have r200 : hq_I (nI r) 200 = true := hb_I (by omega) (by omega)
  have z41 : hq_I 0 41 = true := by decide
  have J : sm_look_J83 (nI o) (nI n) mk ms sk sl kp (nI k) mc mn (nI r) rk rv sn 0 (nI lev) ea wh a0 s0 b0 v0 vk va w0 wt = some (nI (r + 1), upd rk r (vk' 0), upd rv r (va' 0), sn, f, a, nI o, b, v, vk', va', w, wt') := by
    unfold sm_look_J83
    rw [if_pos (hb_I hl (by omega)), nI_clamp (by omega), hea, e, Option.bind_some, if_pos z41, if_pos r200, if_pos z41, if_pos r200, nI_clamp (by omega), nI_1]
    rfl
  have X : sxw_lookAtAll_J70 dR rec l4 l5 (nI o) 4294967297 xk xs xf (nI n) lc rz im xr (nI r) sn row cond = if sxv_isError (hv u.1 u.2) = 0 then rec l4 (l5 + 1) xk xs xf (nI n) lc rz im (vp_updL xr r (hv u.1 u.2)) (nI (r + 1)) sn row cond else some (sxv_contentOf (hv u.1 u.2), xr, nI r, sn) := by
    unfold sxw_lookAtAll_J70
    rw [← hv_11, hv_isError (by decide : 1 < 4), if_neg (by decide : ¬ (1 : Nat) = 3), if_pos (rfl : (0 : Int32) = 0), if_neg (show ¬ lg_cmp (hv 1 1) 4294967296 = 0 from fun q => absurd ((lg_cmp_eq _ _).mp q) (by decide)), hd, Option.bind_some, hw_add hr, Option.bind_some]
  rw [X, J, hv_isError hu.1, hv_contentOf]
  rcases hres with ⟨u3, fu, f0⟩ | ⟨u3, f0, k1, k2⟩
  · refine Or.inl ⟨f, nI (r + 1), _, _, _, f0, ?_, rfl⟩
    rw [if_pos u3, if_neg (by decide : ¬ (1 : Int32) = 0), fu]
  · refine Or.inr ⟨u, (a, nI o, b, v, vk', va', w, wt'), u3, hu, ?_, ?_⟩
    · rw [if_neg (show ¬ u.1 = 3 by omega), if_pos (rfl : (0 : Int32) = 0)]
    · rw [k1, k2, f0]
/-- the look at an object -/
theorem hw_look (hl : lev < 41) (hea : ea lev = nI pe) (hW : hw_W n k mc mn mk ms sk sl kp xk xs xf lc rz im dR pe) (hc : (cond = none ∧ wh lev < 0) ∨ (cond = some 0 ∧ ∃ pw, pw < 2 ^ 31 ∧ wh lev = nI pw ∧ hw_W n k mc mn mk ms sk sl kp xk xs xf lc rz im dC pw)) {o r i e0 : Nat} (ho : o < n) (hr : r < 192) (hi : i < e0) (he : e0 ≤ 192) {rec : Int32 → Int32 → (Nat → Int32) → (Nat → Int32) → (Nat → Int64) → Int32 → (Nat → Int32) → (Nat → Int32) → (Nat → Int32) → (Nat → Int64) → Int32 → Int32 → (Option Nat) → (Option Nat) → Option (Int32 × (Nat → Int64) × Int32 × Int32)}
    {sn a0 s0 b0 v0 w0 : Int32} {rk rv vk va wt : Nat → Int32} {xr : Nat → Int64} {row : Option Nat} (hx : xr i = hv 2 (nI o)) :
    (∃ e rc rk' rv' g, ¬ e = 0 ∧ sxw_lookAtAll_L14_B dC dR rec (nI e0) (nI i) xk xs xf (nI n) lc rz im xr (nI r) sn row cond = some (e, xr, nI r, sn + 1) ∧ sm_look (nI o) (nI n) mk ms sk sl kp (nI k) mc mn (nI r) rk rv sn 0 (nI lev) ea wh a0 s0 b0 v0 vk va w0 wt = some (rc, rk', rv', sn + 1, e, g)) ∨
    (∃ g : hw_J, sxw_lookAtAll_L14_B dC dR rec (nI e0) (nI i) xk xs xf (nI n) lc rz im xr (nI r) sn row cond = rec (nI e0) (nI (i + 1)) xk xs xf (nI n) lc rz im xr (nI r) (sn + 1) row cond ∧ sm_look (nI o) (nI n) mk ms sk sl kp (nI k) mc mn (nI r) rk rv sn 0 (nI lev) ea wh a0 s0 b0 v0 vk va w0 wt = some (nI r, rk, rv, sn + 1, 0, g)) ∨
    (∃ (u : Nat × Int32) (g : hw_J), u.1 < 3 ∧ he_v n u ∧ sxw_lookAtAll_L14_B dC dR rec (nI e0) (nI i) xk xs xf (nI n) lc rz im xr (nI r) sn row cond = rec (nI e0) (nI (i + 1)) xk xs xf (nI n) lc rz im (vp_updL xr r (hv u.1 u.2)) (nI (r + 1)) (sn + 1) row cond ∧ sm_look (nI o) (nI n) mk ms sk sl kp (nI k) mc mn (nI r) rk rv sn 0 (nI lev) ea wh a0 s0 b0 v0 vk va w0 wt = some (nI (r + 1), upd rk r (nI u.1), upd rv r u.2, sn + 1, 0, g)) := by
  have l41 : hq_I (nI lev) 41 = true := hb_I hl (by omega)
  have z41 : hq_I 0 41 = true := by decide
  have XB : sxw_lookAtAll_L14_B dC dR rec (nI e0) (nI i) xk xs xf (nI n) lc rz im xr (nI r) sn row cond = if cond = none then sxw_lookAtAll_J70 dR rec (nI e0) (nI i) (nI o) 4294967297 xk xs xf (nI n) lc rz im xr (nI r) (sn + 1) row cond else (dC (nI o) xk xs xf (nI n) lc rz im).bind (fun v64 => sxw_lookAtAll_J70 dR rec (nI e0) (nI i) (nI o) (sxv_truthOf v64) xk xs xf (nI n) lc rz im xr (nI r) (sn + 1) row cond) := by
    unfold sxw_lookAtAll_L14_B
    rw [if_neg (hh_nle hi (by omega)), if_pos (hb_I (show i < 192 by omega) (by omega)), nI_clamp (show i < 2 ^ 31 by omega), hx, hv_contentOf]
  rcases hc with ⟨hc, hwn⟩ | ⟨hc, pw, hpw, hwp, hWc⟩
  · rw [if_pos hc] at XB
    have MB : sm_look (nI o) (nI n) mk ms sk sl kp (nI k) mc mn (nI r) rk rv sn 0 (nI lev) ea wh a0 s0 b0 v0 vk va w0 wt = sm_look_J83 (nI o) (nI n) mk ms sk sl kp (nI k) mc mn (nI r) rk rv (sn + 1) 0 (nI lev) ea wh a0 s0 b0 v0 vk va w0 wt := by
      unfold sm_look
      rw [if_pos l41, nI_clamp (show lev < 2 ^ 31 by omega), if_pos hwn]
    rcases hw_row (wh := wh) (cond := cond) hl hea hW ho hr (rec := rec) (l4 := nI e0) (l5 := nI i) (sn := sn + 1) (a0 := a0) (s0 := s0) (b0 := b0) (v0 := v0) (w0 := w0) (rk := rk) (rv := rv) (vk := vk) (va := va) (wt := wt) (xr := xr) (row := row) with ⟨e, rc, rk', rv', g, n0, h1, h2⟩ | ⟨u, g, u3, hu, h1, h2⟩
    · exact Or.inl ⟨e, rc, rk', rv', g, n0, XB.trans h1, MB.trans h2⟩
    · rw [nI_1] at h1
      exact Or.inr (Or.inr ⟨u, g, u3, hu, XB.trans h1, MB.trans h2⟩)
  · have nn : ¬ cond = none := by rw [hc]; exact Option.some_ne_none 0
    obtain ⟨u, ⟨hd, hu⟩, hw⟩ := hWc o ho
    obtain ⟨f, a, b, v, vk', va', w, wt', e, hres⟩ := hw a0 s0 b0 v0 w0 vk va wt
    rw [if_neg nn, hd, Option.bind_some, hv_truthOf hu.1 _ hu.2.1] at XB
    have MB : sm_look (nI o) (nI n) mk ms sk sl kp (nI k) mc mn (nI r) rk rv sn 0 (nI lev) ea wh a0 s0 b0 v0 vk va w0 wt = if f = 0 then (if vk' 0 = 2 then sm_look_J63 (nI o) (-3) (nI n) mk ms sk sl kp (nI k) mc mn (nI r) rk rv (sn + 1) f (nI lev) ea wh a (nI o) b v vk' va' w wt' else sm_look_J59 (nI o) (nI n) mk ms sk sl kp (nI k) mc mn (nI r) rk rv (sn + 1) f (nI lev) ea wh a (nI o) b v vk' va' w wt') else sm_look_J59 (nI o) (nI n) mk ms sk sl kp (nI k) mc mn (nI r) rk rv (sn + 1) f (nI lev) ea wh a (nI o) b v vk' va' w wt' := by
      unfold sm_look
      rw [if_pos l41, nI_clamp (show lev < 2 ^ 31 by omega), if_neg (by rw [hwp]; exact nI_pos hpw), if_pos l41, hwp, e, Option.bind_some, if_pos z41]
      rfl
    rcases hres with ⟨u3, fu, f0⟩ | ⟨u3, f0, k1, k2⟩
    · rw [if_pos u3] at XB
      rw [if_neg f0] at MB
      refine Or.inl ⟨f, nI r, rk, rv, (a, nI o, b, v, vk', va', w, wt'), f0, XB.trans ?_, MB.trans ?_⟩
      · unfold sxw_lookAtAll_J70
        rw [hv_isError (by decide : 3 < 4), if_pos rfl, if_neg (by decide : ¬ (1 : Int32) = 0), hv_contentOf, fu]
      · unfold sm_look_J59 sm_look_J63
        rw [if_neg f0]
    · subst f0
      rw [if_neg (show ¬ u.1 = 3 by omega)] at XB
      rw [if_pos (rfl : (0 : Int32) = 0), k1] at MB
      by_cases u2 : u.1 = 2
      · rw [if_pos u2] at XB
        rw [if_pos (show nI u.1 = 2 by rw [u2]; rfl)] at MB
        refine Or.inl ⟨-3, nI r, rk, rv, (a, nI o, b, v, vk', va', w, wt'), by decide, XB.trans ?_, MB.trans ?_⟩
        · unfold sxw_lookAtAll_J70
          rw [hv_isError (by decide : 3 < 4), if_pos rfl, if_neg (by decide : ¬ (1 : Int32) = 0), hv_contentOf]
        · unfold sm_look_J63
          rw [if_neg (by decide : ¬ (-3 : Int32) = 0)]
      · rw [if_neg u2] at XB
        rw [if_neg (he_q 2 2 rfl (by omega) (by omega) u2)] at MB
        have M2 : sm_look_J59 (nI o) (nI n) mk ms sk sl kp (nI k) mc mn (nI r) rk rv (sn + 1) 0 (nI lev) ea wh a (nI o) b v vk' va' w wt' = if u.2 = 0 then some (nI r, rk, rv, sn + 1, 0, a, nI o, b, v, vk', va', w, wt') else sm_look_J83 (nI o) (nI n) mk ms sk sl kp (nI k) mc mn (nI r) rk rv (sn + 1) 0 (nI lev) ea wh a (nI o) b v vk' va' w wt' := by
          unfold sm_look_J59 sm_look_J63
          rw [if_pos (rfl : (0 : Int32) = 0), if_pos z41, ← k2]
          rfl
        by_cases x0 : u.2 = 0
        · rw [if_pos x0] at XB M2
          refine Or.inr (Or.inl ⟨(a, nI o, b, v, vk', va', w, wt'), XB.trans ?_, MB.trans M2⟩)
          unfold sxw_lookAtAll_J70
          rw [hv_isError (by decide : 1 < 4), if_neg (by decide : ¬ (1 : Nat) = 3), if_pos (rfl : (0 : Int32) = 0), hv_10, if_pos ((lg_cmp_eq _ _).mpr rfl), nI_1]
        · rw [if_neg x0] at XB M2
          rw [hv_11] at XB
          rcases hw_row (wh := wh) (cond := cond) hl hea hW ho hr (rec := rec) (l4 := nI e0) (l5 := nI i) (sn := sn + 1) (a0 := a) (s0 := nI o) (b0 := b) (v0 := v) (w0 := w) (rk := rk) (rv := rv) (vk := vk') (va := va') (wt := wt') (xr := xr) (row := row) with ⟨e, rc, rk', rv', g, n0, h1, h2⟩ | ⟨u, g, u3, hu, h1, h2⟩
          · exact Or.inl ⟨e, rc, rk', rv', g, n0, XB.trans h1, (MB.trans M2).trans h2⟩
          · rw [nI_1] at h1
            exact Or.inr (Or.inr ⟨u, g, u3, hu, XB.trans h1, (MB.trans M2).trans h2⟩)
/-- the looks at all of a source -/
theorem hw_all (hl : lev < 41) (hea : ea lev = nI pe) (hW : hw_W n k mc mn mk ms sk sl kp xk xs xf lc rz im dR pe) (hc : (cond = none ∧ wh lev < 0) ∨ (cond = some 0 ∧ ∃ pw, pw < 2 ^ 31 ∧ wh lev = nI pw ∧ hw_W n k mc mn mk ms sk sl kp xk xs xf lc rz im dC pw)) {s many : Nat} {ls : Nat → Int32} {row : Option Nat} {l1 : Int32} (hm : s + many ≤ 192) : ∀ (q j fuel fuel' r : Nat) (rk rv : Nat → Int32) (xr : Nat → Int64) (sn a0 s0 b0 v0 w0 : Int32) (vk va wt : Nat → Int32), j + q = many → q < fuel → q < fuel' → s ≤ r → r ≤ s + j → hw_R n r rk rv xr → (∀ j', j ≤ j' → j' < many → ∃ t, t < n ∧ ls j' = nI t ∧ xr (s + j') = hv 2 (nI t)) →
    ∃ e sn' xr' c' rc rk' rv' g, sxw_lookAtAll_L14 dC dR fuel' (nI (s + many)) (nI (s + j)) xk xs xf (nI n) lc rz im xr (nI r) sn row cond = some (e, xr', c', sn') ∧ sm_select_L11 fuel l1 (nI j) (nI n) mk ms sk sl kp (nI k) mc mn (nI r) rk rv (nI many) ls sn 0 (nI lev) ea wh a0 s0 b0 v0 vk va w0 wt = some (rc, rk', rv', sn', e, g) ∧ (e = 0 → ∃ r', c' = nI r' ∧ rc = nI r' ∧ s ≤ r' ∧ r' ≤ s + many ∧ hw_R n r' rk' rv' xr') := by
  intro q
  induction q with
  | zero =>
    intro j fuel fuel' r rk rv xr sn a0 s0 b0 v0 w0 vk va wt hj hf hf' hsr hrj hR hT
    obtain ⟨m, rfl⟩ : ∃ m, fuel = m + 1 := ⟨fuel - 1, by omega⟩
    obtain ⟨m', rfl⟩ : ∃ m', fuel' = m' + 1 := ⟨fuel' - 1, by omega⟩
    refine ⟨0, sn, xr, nI r, nI r, rk, rv, (a0, s0, b0, v0, vk, va, w0, wt), ?_, ?_, fun _ => ⟨r, rfl, rfl, hsr, by omega, hR⟩⟩
    · show sxw_lookAtAll_L14_B dC dR (sxw_lookAtAll_L14 dC dR m') (nI (s + many)) (nI (s + j)) xk xs xf (nI n) lc rz im xr (nI r) sn row cond = _
      unfold sxw_lookAtAll_L14_B
      rw [if_pos ((nI_leI (by omega) (by omega)).mpr (by omega))]
    · show sm_select_L11_B (sm_select_L11 m) l1 (nI j) (nI n) mk ms sk sl kp (nI k) mc mn (nI r) rk rv (nI many) ls sn 0 (nI lev) ea wh a0 s0 b0 v0 vk va w0 wt = _
      unfold sm_select_L11_B
      rw [if_pos ((nI_leI (by omega) (by omega)).mpr (by omega))]
  | succ q ih =>
    intro j fuel fuel' r rk rv xr sn a0 s0 b0 v0 w0 vk va wt hj hf hf' hsr hrj hR hT
    obtain ⟨m, rfl⟩ : ∃ m, fuel = m + 1 := ⟨fuel - 1, by omega⟩
    obtain ⟨m', rfl⟩ : ∃ m', fuel' = m' + 1 := ⟨fuel' - 1, by omega⟩
    obtain ⟨t, ht, hls, hx⟩ := hT j (Nat.le_refl _) (by omega)
    have S : sm_select_L11 (m + 1) l1 (nI j) (nI n) mk ms sk sl kp (nI k) mc mn (nI r) rk rv (nI many) ls sn 0 (nI lev) ea wh a0 s0 b0 v0 vk va w0 wt = (sm_look (nI t) (nI n) mk ms sk sl kp (nI k) mc mn (nI r) rk rv sn 0 (nI lev) ea wh a0 s0 b0 v0 vk va w0 wt).bind fun v33 => sm_select_L11 m l1 (nI (j + 1)) (nI n) mk ms sk sl kp (nI k) mc mn v33.1 v33.2.1 v33.2.2.1 (nI many) ls v33.2.2.2.1 v33.2.2.2.2.1 (nI lev) ea wh v33.2.2.2.2.2.1 v33.2.2.2.2.2.2.1 v33.2.2.2.2.2.2.2.1 v33.2.2.2.2.2.2.2.2.1 v33.2.2.2.2.2.2.2.2.2.1 v33.2.2.2.2.2.2.2.2.2.2.1 v33.2.2.2.2.2.2.2.2.2.2.2.1 v33.2.2.2.2.2.2.2.2.2.2.2.2 := by
      show sm_select_L11_B (sm_select_L11 m) l1 (nI j) (nI n) mk ms sk sl kp (nI k) mc mn (nI r) rk rv (nI many) ls sn 0 (nI lev) ea wh a0 s0 b0 v0 vk va w0 wt = _
      unfold sm_select_L11_B
      rw [if_neg (hh_nle (by omega) (by omega)), if_pos (rfl : (0 : Int32) = 0), if_pos (hb_I (show j < 200 by omega) (by omega)), nI_clamp (show j < 2 ^ 31 by omega), hls, nI_1]
    have X : sxw_lookAtAll_L14 dC dR (m' + 1) (nI (s + many)) (nI (s + j)) xk xs xf (nI n) lc rz im xr (nI r) sn row cond = sxw_lookAtAll_L14_B dC dR (sxw_lookAtAll_L14 dC dR m') (nI (s + many)) (nI (s + j)) xk xs xf (nI n) lc rz im xr (nI r) sn row cond := rfl
    rw [S, X]
    rcases hw_look (ea := ea) (wh := wh) (dC := dC) hl hea hW hc (o := t) (r := r) (i := s + j) (e0 := s + many) ht (by omega) (by omega) hm (rec := sxw_lookAtAll_L14 dC dR m') (sn := sn) (a0 := a0) (s0 := s0) (b0 := b0) (v0 := v0) (w0 := w0) (rk := rk) (rv := rv) (vk := vk) (va := va) (wt := wt) (xr := xr) (row := row) hx with ⟨e, rc, rk', rv', g, e0, h1, h2⟩ | ⟨g, h1, h2⟩ | ⟨u, g, u3, hu, h1, h2⟩
    · obtain ⟨m2, rfl⟩ : ∃ m2, m = m2 + 1 := ⟨m - 1, by omega⟩
      rw [h1, h2, Option.bind_some]
      refine ⟨e, sn + 1, xr, nI r, rc, rk', rv', g, rfl, ?_, fun q => absurd q e0⟩
      show sm_select_L11_B (sm_select_L11 m2) l1 (nI (j + 1)) (nI n) mk ms sk sl kp (nI k) mc mn rc rk' rv' (nI many) ls (sn + 1) e (nI lev) ea wh g.1 g.2.1 g.2.2.1 g.2.2.2.1 g.2.2.2.2.1 g.2.2.2.2.2.1 g.2.2.2.2.2.2.1 g.2.2.2.2.2.2.2 = _
      unfold sm_select_L11_B
      by_cases c : nI many ≤ nI (j + 1)
      · rw [if_pos c]
      · rw [if_neg c, if_neg e0]
    · rw [h1, h2, Option.bind_some]
      exact ih (j + 1) m m' r rk rv xr (sn + 1) g.1 g.2.1 g.2.2.1 g.2.2.2.1 g.2.2.2.2.2.2.1 g.2.2.2.2.1 g.2.2.2.2.2.1 g.2.2.2.2.2.2.2 (by omega) (by omega) (by omega) hsr (by omega) hR (fun j' a b => hT j' (by omega) b)
    · rw [h1, h2, Option.bind_some]
      obtain ⟨e, sn', xr', c', rc, rk', rv', g', r1, r2, r3⟩ := ih (j + 1) m m' (r + 1) (upd rk r (nI u.1)) (upd rv r u.2) (vp_updL xr r (hv u.1 u.2)) (sn + 1) g.1 g.2.1 g.2.2.1 g.2.2.2.1 g.2.2.2.2.2.2.1 g.2.2.2.2.1 g.2.2.2.2.2.1 g.2.2.2.2.2.2.2 (by omega) (by omega) (by omega) (by omega) (by omega) (fun x hx => by
        by_cases ee : x = r
        · subst ee
          exact ⟨u, u3, hu, pk_us, pk_us, pk_uLs⟩
        · obtain ⟨w, a1, a2, a3, a4, a5⟩ := hR x (by omega)
          exact ⟨w, a1, a2, (pk_un ee).trans a3, (pk_un ee).trans a4, (pk_uLn ee).trans a5⟩) (fun j' a b => by
        obtain ⟨w, a1, a2, a3⟩ := hT j' (by omega) b
        exact ⟨w, a1, a2, (pk_uLn (by omega)).trans a3⟩)
      exact ⟨e, sn', xr', c', rc, rk', rv', g', r1, r2, r3⟩
end
