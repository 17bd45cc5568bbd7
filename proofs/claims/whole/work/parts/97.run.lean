/-! run: the reference goes over the tokens, level by level -/
abbrev hw_T : Type := Int32 × Int32 × Int32 × (Nat → Int32) × Int32 × (Nat → Int32) × (Nat → Int32) × Int32 × (Nat → Int32) × Int32 × Int32 × Int32 × (Nat → Int32) × (Nat → Int32) × (Nat → Int32) × (Nat → Int32) × (Nat → Int32) × (Nat → Int32) × Int32 × Int32 × Int32 × Int32 × (Nat → Int32) × (Nat → Int32) × Int32 × (Nat → Int32)
def hw_E (e sn : Int32) (T : hw_T) : Prop := T.2.2.2.2.2.2.2.2.2.2.1 = e ∧ T.2.2.2.2.2.2.2.2.2.1 = sn
def hw_Z (n : Nat) (xr : Nat → Int64) (r : Nat) (sn : Int32) (T : hw_T) : Prop := hw_E 0 sn T ∧ T.2.2.2.2.1 = nI r ∧ hw_R n r T.2.2.2.2.2.1 T.2.2.2.2.2.2.1 xr
def hw_Ag (b : Nat) (a a' : Nat → Int32) : Prop := ∀ j, j < b → a' j = a j
theorem hw_Ag.up {b : Nat} {a a' : Nat → Int32} (h : hw_Ag b a a') (x : Int32) : hw_Ag (b + 1) (upd a b x) (upd a' b x) := fun j hj => by
  by_cases e : j = b
  · subst e
    exact pk_us.trans pk_us.symm
  · exact (pk_un e).trans ((h j (by omega)).trans (pk_un e).symm)
theorem hw_Ag.up1 {b : Nat} {a a' : Nat → Int32} {y : Int32} (h : hw_Ag (b + 1) (upd a b y) a') (x : Int32) : hw_Ag (b + 1) (upd a b x) (upd a' b x) := fun j hj => by
  by_cases e : j = b
  · subst e
    exact pk_us.trans pk_us.symm
  · exact (pk_un e).trans ((h j hj).trans ((pk_un e).trans (pk_un e).symm))
theorem hw_Ag.le {b b' : Nat} {a a' : Nat → Int32} (h : hw_Ag b a a') (hb : b' ≤ b) : hw_Ag b' a a' := fun j hj => h j (by omega)
theorem hw_Ag.rf {b : Nat} {a : Nat → Int32} : hw_Ag b a a := fun _ _ => rfl
theorem hw_Ag.un {b b' : Nat} {a a' : Nat → Int32} {x : Int32} (h : hw_Ag b' (upd a b x) a') (hb : b' ≤ b) : hw_Ag b' a a' := fun j hj => (h j hj).trans (pk_un (by omega))
def hw_K (n k : Nat) (mp mk ms mr sk sl kp mc mn : Nat → Int32) (m i : Nat) (w c o : Int32) (opn : Nat → Int32) (v96 : (Int32 × (Nat → Int32) × (Nat → Int32) × Int32 × (Nat → Int32) × Int32 × Int32 × Int32 × (Nat → Int32) × (Nat → Int32) × (Nat → Int32) × (Nat → Int32) × (Nat → Int32) × (Nat → Int32) × Int32 × Int32 × Int32 × Int32 × (Nat → Int32) × (Nat → Int32) × Int32 × (Nat → Int32))) : Option hw_T :=
  sm_run_L62 m (nI (i + 1)) mp (nI n) mk ms mr sk sl kp (nI k) mc mn w c o opn v96.1 v96.2.1 v96.2.2.1 v96.2.2.2.1 v96.2.2.2.2.1 v96.2.2.2.2.2.1 v96.2.2.2.2.2.2.1 v96.2.2.2.2.2.2.2.1 v96.2.2.2.2.2.2.2.2.1 v96.2.2.2.2.2.2.2.2.2.1 v96.2.2.2.2.2.2.2.2.2.2.1 v96.2.2.2.2.2.2.2.2.2.2.2.1 v96.2.2.2.2.2.2.2.2.2.2.2.2.1 v96.2.2.2.2.2.2.2.2.2.2.2.2.2.1 v96.2.2.2.2.2.2.2.2.2.2.2.2.2.2.1 v96.2.2.2.2.2.2.2.2.2.2.2.2.2.2.2.1 v96.2.2.2.2.2.2.2.2.2.2.2.2.2.2.2.2.1 v96.2.2.2.2.2.2.2.2.2.2.2.2.2.2.2.2.2.1 v96.2.2.2.2.2.2.2.2.2.2.2.2.2.2.2.2.2.2.1 v96.2.2.2.2.2.2.2.2.2.2.2.2.2.2.2.2.2.2.2.1 v96.2.2.2.2.2.2.2.2.2.2.2.2.2.2.2.2.2.2.2.2.1 v96.2.2.2.2.2.2.2.2.2.2.2.2.2.2.2.2.2.2.2.2.2
def hw_Go (n k : Nat) (mp mk ms mr sk sl kp mc mn : Nat → Int32) (i q : Nat) (cm : Bool) (st : List Nat) (lev bf b bs r : Nat) (sn : Int32) (fr ea wh so di ke : Nat → Int32) (xr : Nat → Int64) (Z : hw_T → Prop) : Prop :=
  ∀ (fuel : Nat) (opn rk rv ls fr' ea' wh' so' di' ke' vk va wt : Nat → Int32) (my a0 s0 b0 v0 w0 : Int32), 42 ≤ fuel + i → hg_M st opn → hw_R n r rk rv xr → hw_Ag bf fr fr' → hw_Ag b ea ea' → hw_Ag b wh wh' → hw_Ag bs so so' → hw_Ag b di di' → hw_Ag b ke ke' →
    ∃ T, sm_run_L62 fuel (nI i) mp (nI n) mk ms mr sk sl kp (nI k) mc mn (nI q) (hg_b cm) (nI st.length) opn (nI r) rk rv my ls sn 0 (nI lev) fr' ea' wh' so' di' ke' a0 s0 b0 v0 vk va w0 wt = some T ∧ Z T
section
variable {cc n k : Nat} {tk : Nat → Nat} {mp mk ms mr sk sl xp xk xs kp mc mn C N : Nat → Int32} {xf : Nat → Int64} {xr0 : Int32} {lf lc rs rz im : Nat → Int32} {so0 sr re : Int32}
theorem hw_l62 {m i : Nat} {w c o rc my sn lev : Int32} {opn rk rv ls fr ea wh so di ke : Nat → Int32} {a0 s0 b0 v0 w0 : Int32} {vk va wt : Nat → Int32} (hk : k ≤ 40) (hi : i < k) : sm_run_L62 (m + 1) (nI i) mp (nI n) mk ms mr sk sl kp (nI k) mc mn w c o opn rc rk rv my ls sn 0 lev fr ea wh so di ke a0 s0 b0 v0 vk va w0 wt = (sm_step (mc i) w c o opn).bind fun v89 => (sm_notice (nI i) w mp (nI n) mk ms mr sk sl kp (nI k) mc mn v89.2.1 rc rk rv my ls sn 0 lev fr ea wh so di ke a0 s0 b0 v0 vk va w0 wt).bind (hw_K n k mp mk ms mr sk sl kp mc mn m i v89.2.1 v89.2.2.1 v89.2.2.2.1 v89.2.2.2.2) := by
  show sm_run_L62_B (sm_run_L62 m) (nI i) mp (nI n) mk ms mr sk sl kp (nI k) mc mn w c o opn rc rk rv my ls sn 0 lev fr ea wh so di ke a0 s0 b0 v0 vk va w0 wt = _
  unfold sm_run_L62_B
  rw [if_neg (hh_nle hi (by omega)), if_pos (rfl : (0 : Int32) = 0), if_pos (hb_I (show i < 40 by omega) (by omega)), nI_clamp (show i < 2 ^ 31 by omega), nI_1]
  rfl
theorem hw_lF {m i : Nat} {w c o rc my sn lev f : Int32} {opn rk rv ls fr ea wh so di ke : Nat → Int32} {a0 s0 b0 v0 w0 : Int32} {vk va wt : Nat → Int32} (hf : ¬ f = 0 ∨ k ≤ i) (hk : k ≤ 40) (hi : i ≤ 41) : sm_run_L62 (m + 1) (nI i) mp (nI n) mk ms mr sk sl kp (nI k) mc mn w c o opn rc rk rv my ls sn f lev fr ea wh so di ke a0 s0 b0 v0 vk va w0 wt = some (w, c, o, opn, rc, rk, rv, my, ls, sn, f, lev, fr, ea, wh, so, di, ke, a0, s0, b0, v0, vk, va, w0, wt) := by
  show sm_run_L62_B (sm_run_L62 m) (nI i) mp (nI n) mk ms mr sk sl kp (nI k) mc mn w c o opn rc rk rv my ls sn f lev fr ea wh so di ke a0 s0 b0 v0 vk va w0 wt = _
  unfold sm_run_L62_B
  by_cases h : k ≤ i
  · rw [if_pos ((nI_leI (by omega) (by omega)).mpr h)]
  · rw [if_neg (hh_nle (by omega) (by omega)), if_neg (hf.resolve_right h)]
/-- one token: what remains is to see what is noticed -/
theorem hw_tok (hK : he_K n k tk mc mn C N) (hA : he_Ac k tk) {i q q' : Nat} {cm cm' : Bool} {st st' : List Nat} {lev bf b bs r : Nat} {sn : Int32} {fr ea wh so di ke : Nat → Int32} {xr : Nat → Int64} {Z : hw_T → Prop} (hi : i < k) (hr : hg_run tk i = some (q, cm, st)) (hr' : hg_run tk (i + 1) = some (q', cm', st'))
    (h : ∀ (m : Nat) (opn' rk rv ls fr' ea' wh' so' di' ke' vk va wt : Nat → Int32) (my a0 s0 b0 v0 w0 : Int32), 42 ≤ m + (i + 1) → hg_M st' opn' → hw_R n r rk rv xr → hw_Ag bf fr fr' → hw_Ag b ea ea' → hw_Ag b wh wh' → hw_Ag bs so so' → hw_Ag b di di' → hw_Ag b ke ke' →
      ∃ T, (sm_notice (nI i) (nI q) mp (nI n) mk ms mr sk sl kp (nI k) mc mn (nI q') (nI r) rk rv my ls sn 0 (nI lev) fr' ea' wh' so' di' ke' a0 s0 b0 v0 vk va w0 wt).bind (hw_K n k mp mk ms mr sk sl kp mc mn m i (nI q') (hg_b cm') (nI st'.length) opn') = some T ∧ Z T) : hw_Go n k mp mk ms mr sk sl kp mc mn i q cm st lev bf b bs r sn fr ea wh so di ke xr Z := by
  intro fuel opn rk rv ls fr' ea' wh' so' di' ke' vk va wt my a0 s0 b0 v0 w0 hf hM hR g1 g2 g3 g4 g5 g6
  have hk := hK.2.1
  obtain ⟨m, rfl⟩ : ∃ m, fuel = m + 1 := ⟨fuel - 1, by omega⟩
  obtain ⟨i1, i2, brk, bc, iw, cx, i3⟩ := hg_inv hk (fun j hj => (hK.2.2.1 j hj).1) i (by omega) q cm st hr
  obtain ⟨x5, y5⟩ := hg_X5 i3
  have hs : hg_step (tk i) q cm st = some (q', cm', st') := by
    have e : hg_run tk (i + 1) = hg_step (tk i) q cm st := by
      show (hg_run tk i).bind (fun u => hg_step (tk i) u.1 u.2.1 u.2.2) = _
      rw [hr]
      rfl
    rw [← e]
    exact hr'
  obtain ⟨f, a, b', d, opn', e1, e2⟩ := hg_m (c := tk i) (cm := cm) (hK.2.2.1 i hi).1 i1 y5 (by omega) x5 hM
  rcases e2 with ⟨_, e2⟩ | ⟨f1, p2, c2, s2, e2, ha, hb, hd, hM'⟩
  · rw [e2] at hs
    cases hs
  · rw [e2] at hs
    cases hs
    subst ha hb hd
    rw [hw_l62 hk hi, (hK.2.2.1 i hi).2.2.1, e1, Option.bind_some]
    exact h m opn' rk rv ls fr' ea' wh' so' di' ke' vk va wt my a0 s0 b0 v0 w0 (by omega) hM' hR g1 g2 g3 g4 g5 g6
/-! what is noticed -/
theorem hw_n0 {i lev : Nat} {w rc my sn : Int32} {rk rv ls fr ea wh so di ke : Nat → Int32} {a0 s0 b0 v0 w0 : Int32} {vk va wt : Nat → Int32} (hi : i < 40) (hl : lev < 41) : sm_notice (nI i) (nI 0) mp (nI n) mk ms mr sk sl kp (nI k) mc mn w rc rk rv my ls sn 0 (nI lev) fr ea wh so di ke a0 s0 b0 v0 vk va w0 wt = some (rc, rk, rv, my, ls, sn, 0, nI lev, fr, upd ea lev (nI (i + 1)), upd wh lev (-1), so, upd di lev 0, upd ke lev 0, a0, s0, b0, v0, vk, va, w0, wt) := by
  have l41 : hq_I (nI lev) 41 = true := hb_I hl (by omega)
  unfold sm_notice
  rw [if_pos (hb_I hi (by omega)), if_pos (by decide : nI 0 = 0), if_pos l41, if_pos l41, if_pos l41, if_pos l41, nI_clamp (show lev < 2 ^ 31 by omega), nI_1]
theorem hw_n1 {i lev q t : Nat} {w rc my sn : Int32} {rk rv ls fr ea wh so di ke : Nat → Int32} {a0 s0 b0 v0 w0 : Int32} {vk va wt : Nat → Int32} (hi : i < 40) (hl : lev < 41) (hq : q = 1 ∨ q = 2) (hm : mc i = nI t) (ht : t = 1 ∨ t = 2) (hd : di lev = 0 ∨ di lev = 1) : sm_notice (nI i) (nI q) mp (nI n) mk ms mr sk sl kp (nI k) mc mn w rc rk rv my ls sn 0 (nI lev) fr ea wh so di ke a0 s0 b0 v0 vk va w0 wt = some (rc, rk, rv, my, ls, sn, 0, nI lev, fr, upd ea lev (nI (i + 1)), wh, so, upd di lev (if t = 1 then 1 else di lev), upd ke lev (if t = 2 then 1 else 0), a0, s0, b0, v0, vk, va, w0, wt) := by
  have l41 : hq_I (nI lev) 41 = true := hb_I hl (by omega)
  have cl : (nI lev).toNatClampNeg = lev := nI_clamp (by omega)
  have j120 : ∀ (s2 : Int32) (di : Nat → Int32), (s2 = 0 ∨ s2 = 1) → sm_notice_J120 (nI i) (nI lev) s2 mp (nI n) mk ms mr sk sl kp (nI k) mc mn w rc rk rv my ls sn 0 (nI lev) fr ea wh so di ke a0 s0 b0 v0 vk va w0 wt = some (rc, rk, rv, my, ls, sn, 0, nI lev, fr, upd ea lev (nI (i + 1)), wh, so, di, upd ke lev s2, a0, s0, b0, v0, vk, va, w0, wt) := fun s2 di h => by
    unfold sm_notice_J120
    rw [if_pos l41, if_pos h, if_pos l41, cl, nI_1]
  have n2 : ¬ (2 : Int32) < nI q := fun w => by
    have := (nI_ltI (a := 2) (by omega) (by omega)).mp w
    omega
  unfold sm_notice
  rw [if_pos (hb_I hi (by omega)), if_neg (show ¬ nI q = 0 from he_ne (d := 0) (by omega) (by decide) (by omega)), if_neg n2, nI_clamp (show i < 2 ^ 31 by omega), hm]
  rcases ht with rfl | rfl
  · rw [if_pos (by decide : nI 1 = 1)]
    unfold sm_notice_J71 sm_notice_J96 sm_notice_J101
    rw [if_pos l41, if_pos (by decide : nI 1 = 1), if_pos l41, if_pos (Or.inr rfl : (1 : Int32) = 0 ∨ (1 : Int32) = 1), if_neg (by decide : ¬ nI 1 = 2), cl, j120 0 _ (Or.inl rfl), if_pos rfl, if_neg (by decide : ¬ 1 = 2)]
    split <;> rfl
  · rw [if_neg (by decide : ¬ nI 2 = 1), if_pos (by decide : nI 2 = 2)]
    unfold sm_notice_J71 sm_notice_J96 sm_notice_J101
    rw [if_pos l41, if_neg (by decide : ¬ nI 2 = 1), if_pos l41, if_pos (Or.inr rfl : (1 : Int32) = 0 ∨ (1 : Int32) = 1), if_pos (by decide : nI 2 = 2), if_pos l41, if_pos (Or.inl rfl : (0 : Int32) = 0 ∨ (0 : Int32) = 1), if_pos (by decide : nI 2 = 2), cl, j120 1 _ (Or.inr rfl), j120 1 _ (Or.inr rfl), if_neg (by decide : ¬ 2 = 1), if_pos rfl]
    rcases hd with h | h
    · rw [if_pos h, h]
    · rw [if_neg (by rw [h]; decide), h]
theorem hw_nA {i q t : Nat} {w rc my sn lev : Int32} {rk rv ls fr ea wh so di ke : Nat → Int32} {a0 s0 b0 v0 w0 : Int32} {vk va wt : Nat → Int32} (hi : i < 40) (hq1 : 1 ≤ q) (hq9 : q < 9) (hm : mc i = nI t) (ht : t < 25) (hn : q ≤ 2 → ¬ t = 1 ∧ ¬ t = 2) : sm_notice (nI i) (nI q) mp (nI n) mk ms mr sk sl kp (nI k) mc mn w rc rk rv my ls sn 0 lev fr ea wh so di ke a0 s0 b0 v0 vk va w0 wt = sm_notice_J136 (nI i) (nI q) (nI t) mp (nI n) mk ms mr sk sl kp (nI k) mc mn w rc rk rv my ls sn 0 lev fr ea wh so di ke a0 s0 b0 v0 vk va w0 wt := by
  unfold sm_notice
  rw [if_pos (hb_I hi (by omega)), if_neg (show ¬ nI q = 0 from he_ne (d := 0) (by omega) (by decide) (by omega)), nI_clamp (show i < 2 ^ 31 by omega), hm]
  by_cases h2 : q ≤ 2
  · rw [if_neg (show ¬ (2 : Int32) < nI q from fun w => by have := (nI_ltI (a := 2) (by omega) (by omega)).mp w; omega), if_neg (show ¬ nI t = 1 from he_ne (d := 1) ht (by decide) (hn h2).1), if_neg (show ¬ nI t = 2 from he_ne (d := 2) ht (by decide) (hn h2).2)]
  · rw [if_pos (show (2 : Int32) < nI q from (nI_ltI (a := 2) (by omega) (by omega)).mpr (by omega))]
theorem hw_nS {i q q' t : Nat} {rc my sn lev : Int32} {rk rv ls fr ea wh so di ke : Nat → Int32} {a0 s0 b0 v0 w0 : Int32} {vk va wt : Nat → Int32} (hi : i < 40) (hq1 : 1 ≤ q) (hq5 : q ≤ 5) (hq3 : 3 ≤ q') (hq6 : q' ≤ 6) (hm : mc i = nI t) (ht : t < 25) (hn : q ≤ 2 → ¬ t = 1 ∧ ¬ t = 2) : sm_notice (nI i) (nI q) mp (nI n) mk ms mr sk sl kp (nI k) mc mn (nI q') rc rk rv my ls sn 0 lev fr ea wh so di ke a0 s0 b0 v0 vk va w0 wt = some (rc, rk, rv, my, ls, sn, 0, lev, fr, ea, wh, so, di, ke, a0, s0, b0, v0, vk, va, w0, wt) := by
  rw [hw_nA hi hq1 (by omega) hm ht hn]
  unfold sm_notice_J136 sm_notice_J220
  rw [if_neg (show ¬ nI q = 6 from he_ne (d := 6) (by omega) (by decide) (by omega)), if_neg (show ¬ nI q = 7 from he_ne (d := 7) (by omega) (by decide) (by omega)), if_neg (show ¬ nI q' = 0 from he_ne (d := 0) (by omega) (by decide) (by omega)), if_pos (show nI q' < 7 from (nI_ltI (b := 7) (by omega) (by omega)).mpr (by omega))]
theorem hw_n6 {i lev : Nat} {w rc my sn : Int32} {rk rv ls fr ea wh so di ke : Nat → Int32} {a0 s0 b0 v0 w0 : Int32} {vk va wt : Nat → Int32} (hi : i < 40) (hl : lev + 1 < 41) (hm : mc i = nI 6) : sm_notice (nI i) (nI 6) mp (nI n) mk ms mr sk sl kp (nI k) mc mn w rc rk rv my ls sn 0 (nI lev) fr ea wh so di ke a0 s0 b0 v0 vk va w0 wt = some (rc, rk, rv, my, ls, sn, 0, nI (lev + 1), upd fr (lev + 1) rc, ea, wh, upd so lev (-1), di, ke, a0, s0, b0, v0, vk, va, w0, wt) := by
  rw [hw_nA hi (by decide) (by decide) hm (by decide) (fun q => by omega)]
  unfold sm_notice_J136 sm_notice_J161
  rw [if_pos (by decide : nI 6 = 6), if_pos (by decide : nI 6 = 6), if_pos (hb_I (show lev < 41 by omega) (by omega)), if_pos (by decide : nI 6 = 6), nI_1, if_pos (hb_I hl (by omega)), nI_clamp (by omega), nI_clamp (by omega)]
theorem hw_n8 {i lev t : Nat} {w rc my sn : Int32} {rk rv ls fr ea wh so di ke : Nat → Int32} {a0 s0 b0 v0 w0 : Int32} {vk va wt : Nat → Int32} (hi : i < 40) (hl : lev < 41) (hm : mc i = nI t) (ht : t = 8 ∨ t = 9) : sm_notice (nI i) (nI 6) mp (nI n) mk ms mr sk sl kp (nI k) mc mn w rc rk rv my ls sn 0 (nI lev) fr ea wh so di ke a0 s0 b0 v0 vk va w0 wt = some (rc, rk, rv, my, ls, sn, 0, nI lev, fr, ea, wh, upd so lev (nI i), di, ke, a0, s0, b0, v0, vk, va, w0, wt) := by
  rw [hw_nA hi (by decide) (by decide) hm (by omega) (fun q => by omega)]
  have n6 : ¬ nI t = 6 := he_ne (d := 6) (by omega) (by decide) (by omega)
  unfold sm_notice_J136 sm_notice_J161
  rw [if_pos (by decide : nI 6 = 6), if_neg n6, if_pos (hb_I hl (by omega)), if_neg n6, nI_clamp (by omega)]
theorem hw_nW {i lev : Nat} {w rc my sn : Int32} {rk rv ls fr ea wh so di ke : Nat → Int32} {a0 s0 b0 v0 w0 : Int32} {vk va wt : Nat → Int32} (hi : i < 40) (hl : lev < 41) (hm : mc i = nI 4) : sm_notice (nI i) (nI 7) mp (nI n) mk ms mr sk sl kp (nI k) mc mn w rc rk rv my ls sn 0 (nI lev) fr ea wh so di ke a0 s0 b0 v0 vk va w0 wt = some (rc, rk, rv, my, ls, sn, 0, nI lev, fr, ea, upd wh lev (nI (i + 1)), so, di, ke, a0, s0, b0, v0, vk, va, w0, wt) := by
  rw [hw_nA hi (by decide) (by decide) hm (by decide) (fun q => by omega)]
  unfold sm_notice_J136
  rw [if_neg (by decide : ¬ nI 7 = 6), if_pos (by decide : nI 7 = 7), if_pos (by decide : nI 4 = 4), if_pos (hb_I hl (by omega)), nI_clamp (by omega), nI_1]
theorem hw_nE {i q q' t : Nat} {rc my sn lev : Int32} {rk rv ls fr ea wh so di ke : Nat → Int32} {a0 s0 b0 v0 w0 : Int32} {vk va wt : Nat → Int32} (hi : i < 40) (hq : q = 5 ∨ q = 7) (hq' : q' = 0 ∨ q' = 7 ∨ q' = 8) (hm : mc i = nI t) (ht : t < 25) (h4 : ¬ t = 4) : sm_notice (nI i) (nI q) mp (nI n) mk ms mr sk sl kp (nI k) mc mn (nI q') rc rk rv my ls sn 0 lev fr ea wh so di ke a0 s0 b0 v0 vk va w0 wt = sm_notice_J236 (nI t) mp (nI n) mk ms mr sk sl kp (nI k) mc mn (nI q') rc rk rv my ls sn 0 lev fr ea wh so di ke a0 s0 b0 v0 vk va w0 wt := by
  rw [hw_nA hi (by omega) (by omega) hm ht (fun q => by omega)]
  have n4 : ¬ nI t = 4 := he_ne (d := 4) ht (by decide) h4
  have J : sm_notice_J220 (nI t) mp (nI n) mk ms mr sk sl kp (nI k) mc mn (nI q') rc rk rv my ls sn 0 lev fr ea wh so di ke a0 s0 b0 v0 vk va w0 wt = sm_notice_J236 (nI t) mp (nI n) mk ms mr sk sl kp (nI k) mc mn (nI q') rc rk rv my ls sn 0 lev fr ea wh so di ke a0 s0 b0 v0 vk va w0 wt := by
    unfold sm_notice_J220
    rcases hq' with rfl | rfl | rfl
    · rw [if_pos (by decide : nI 0 = 0)]
    · rw [if_neg (by decide : ¬ nI 7 = 0), if_neg (by decide : ¬ nI 7 < 7)]
    · rw [if_neg (by decide : ¬ nI 8 = 0), if_neg (by decide : ¬ nI 8 < 7)]
  unfold sm_notice_J136
  rcases hq with rfl | rfl
  · rw [if_neg (by decide : ¬ nI 5 = 6), if_neg (by decide : ¬ nI 5 = 7), J]
  · rw [if_neg (by decide : ¬ nI 7 = 6), if_pos (by decide : nI 7 = 7), if_neg n4, J]
/-- over the tokens of an e -/
theorem hw_skip (hK : he_K n k tk mc mn C N) (hA : he_Ac k tk) {lev bf b bs r : Nat} {sn : Int32} {fr ea wh so di ke : Nat → Int32} {xr : Nat → Int64} {Z : hw_T → Prop} : ∀ (d i j q qj : Nat) (cm cmj : Bool) (st stj : List Nat), i + d = j → j ≤ k → hg_run tk i = some (q, cm, st) → 1 ≤ q → q ≤ 5 → (q ≤ 2 → ¬ tk i = 1 ∧ ¬ tk i = 2) → ha_In tk (i + 1) j → hg_run tk j = some (qj, cmj, stj) → hw_Go n k mp mk ms mr sk sl kp mc mn j qj cmj stj lev bf b bs r sn fr ea wh so di ke xr Z → hw_Go n k mp mk ms mr sk sl kp mc mn i q cm st lev bf b bs r sn fr ea wh so di ke xr Z := by
  intro d
  induction d with
  | zero =>
    intro i j q qj cm cmj st stj hij hj hr q1 q5 hn hIn hrj hG
    have e : i = j := by omega
    subst e
    rw [hr] at hrj
    cases hrj
    exact hG
  | succ d ih =>
    intro i j q qj cm cmj st stj hij hj hr q1 q5 hn hIn hrj hG
    obtain ⟨q', cm', st', hr', q3', q5'⟩ := hIn (i + 1) (Nat.le_refl _) (by omega)
    have hG' := ih (i + 1) j q' qj cm' cmj st' stj (by omega) hj hr' (by omega) q5' (fun w => by omega) (fun x h1 h2 => hIn x (by omega) h2) hrj hG
    have hi : i < k := by omega
    have hk := hK.2.1
    refine hw_tok hK hA hi hr hr' (fun m opn' rk rv ls fr' ea' wh' so' di' ke' vk va wt my a0 s0 b0 v0 w0 hf hM hR g1 g2 g3 g4 g5 g6 => ?_)
    rw [hw_nS (by omega) q1 q5 q3' (by omega) (hK.2.2.1 i hi).2.2.1 (hK.2.2.1 i hi).1 hn, Option.bind_some]
    exact hG' m opn' rk rv ls fr' ea' wh' so' di' ke' vk va wt my a0 s0 b0 v0 w0 hf hM hR g1 g2 g3 g4 g5 g6
end
