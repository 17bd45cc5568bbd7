/-! selects and queries: class and reference alike -/
def hw_Po (n k : Nat) (tk : Nat → Nat) (mp mk ms mr sk sl kp mc mn : Nat → Int32) (i : Nat) (st : List Nat) (lev r : Nat) (sn : Int32) (fr ea wh so di ke : Nat → Int32) (xr : Nat → Int64) (Z : hw_T → Prop) : Prop :=
  (tk i = 5 → ∀ cm', hg_run tk (i + 1) = some (0, cm', st) → hw_Go n k mp mk ms mr sk sl kp mc mn (i + 1) 0 cm' st lev (lev + 1) lev lev r sn fr ea wh so di ke xr Z) ∧ (tk i = 24 → ∀ T, hw_Z n xr r sn T → Z T) ∧
  (tk i = 7 → (sxw_hasNumber (fr lev) xr (nI r) = some 1 → ∀ T, hw_E (-4) sn T → Z T) ∧ (sxw_hasNumber (fr lev) xr (nI r) = some 0 → ∀ cm' st', hg_run tk (i + 1) = some (7, cm', st') → hw_Go n k mp mk ms mr sk sl kp mc mn (i + 1) 7 cm' st' (lev - 1) (lev + 1) lev lev r sn fr ea wh so di ke xr Z))
theorem hw_numF {l1 rc f : Int32} {rk : Nat → Int32} (hf : ¬ f = 0) : sm_numbers l1 rc rk f = some f := by
  have e : sm_numbers_L2 kF l1 rc rk f = some f := by
    show sm_numbers_L2_B (sm_numbers_L2 99999) l1 rc rk f = some f
    unfold sm_numbers_L2_B
    by_cases h : rc ≤ l1
    · rw [if_pos h]
    · rw [if_neg h, if_neg hf]
  unfold sm_numbers
  rw [e, Option.bind_some]
section
variable {cc n k : Nat} {tk : Nat → Nat} {mp mk ms mr sk sl xp xk xs kp mc mn C N : Nat → Int32} {xf : Nat → Int64} {xr0 : Int32} {lf lc rs rz im : Nat → Int32} {so0 sr re : Int32}
/-- at place 8 the text is over -/
theorem hw_at8 (hA : he_Ac k tk) {i : Nat} {cm : Bool} {st : List Nat} (hi : i ≤ k) (h : hg_run tk i = some (8, cm, st)) : k ≤ i := by
  rcases Nat.lt_or_ge i k with a | a
  · exfalso
    obtain ⟨cm8, st8, hA⟩ := hA
    obtain ⟨v, hv⟩ := hg_run_some hA (i + 1) (by omega)
    have e : hg_run tk (i + 1) = hg_step (tk i) 8 cm st := by
      show (hg_run tk i).bind (fun u => hg_step (tk i) u.1 u.2.1 u.2.2) = _
      rw [h]
      rfl
    rw [e] at hv
    cases hv
  · exact a
/-- the token behind a select: it is worked out -/
theorem hw_fin (hK : he_K n k tk mc mn C N) (hA : he_Ac k tk) {i q q' lev bf rI r1 s0' : Nat} {cm cm' : Bool} {st sq st' : List Nat} {sn0 sn1 e : Int32} {fr ea wh so di ke : Nat → Int32} {xrI xr1 : Nat → Int64} {Z : hw_T → Prop} (hi : i < k) (hr : hg_run tk i = some (q, cm, sq)) (hq : q = 5 ∨ q = 7) (h4 : ¬ tk i = 4) (hen : hg_ends (tk i) cm st = some (q', cm', st')) (hr' : hg_run tk (i + 1) = some (q', cm', st')) (hl : lev < 41) (hbf : lev + 1 ≤ bf) (hl1 : tk i = 7 → 1 ≤ lev) (hfr : fr lev = nI s0')
    (hsel : ∀ (rk rv ls fr' ea' wh' so' di' ke' vk va wt : Nat → Int32) (my a0 s0 b0 v0 w0 : Int32), hw_R n rI rk rv xrI → hw_Ag bf fr fr' → hw_Ag (lev + 1) ea ea' → hw_Ag (lev + 1) wh wh' → hw_Ag (lev + 1) so so' → hw_Ag (lev + 1) di di' → hw_Ag (lev + 1) ke ke' → ∃ rc rk' rv' my' ls' g, sm_select mp (nI n) mk ms mr sk sl kp (nI k) mc mn (nI rI) rk rv my ls sn0 0 (nI lev) fr' ea' wh' so' di' ke' a0 s0 b0 v0 vk va w0 wt = some (rc, rk', rv', my', ls', sn1, e, g) ∧ (e = 0 → rc = nI r1 ∧ hw_R n r1 rk' rv' xr1))
    (he : ¬ e = 0 → ∀ T, hw_E e sn1 T → Z T) (hr1 : e = 0 → s0' ≤ r1 ∧ r1 ≤ 192) (hpo : e = 0 → hw_Po n k tk mp mk ms mr sk sl kp mc mn i st lev r1 sn1 fr ea wh so di ke xr1 Z) : hw_Go n k mp mk ms mr sk sl kp mc mn i q cm sq lev bf (lev + 1) (lev + 1) rI sn0 fr ea wh so di ke xrI Z := by
  have hk := hK.2.1
  obtain ⟨t25, _, hm, _⟩ := hK.2.2.1 i hi
  have l41 : hq_I (nI lev) 41 = true := hb_I hl (by omega)
  have cl : (nI lev).toNatClampNeg = lev := nI_clamp (by omega)
  have hends := hg_endsI hen
  refine hw_tok hK hA hi hr hr' (fun m opn' rk rv ls fr' ea' wh' so' di' ke' vk va wt my a0 s0 b0 v0 w0 hf hM hR g1 g2 g3 g4 g5 g6 => ?_)
  obtain ⟨m2, rfl⟩ : ∃ m2, m = m2 + 1 := ⟨m - 1, by omega⟩
  obtain ⟨rc, rk', rv', my', ls', g, e1, e2⟩ := hsel rk rv ls fr' ea' wh' so' di' ke' vk va wt my a0 s0 b0 v0 w0 hR g1 g2 g3 g4 g5 g6
  have hfl : fr' lev = nI s0' := (g1 lev (by omega)).trans hfr
  rw [hw_nE (by omega) hq (by rcases hends with ⟨_, ⟨_, w, _⟩ | ⟨_, w, _⟩ | ⟨_, w, _⟩⟩ <;> omega) hm t25 h4]
  unfold sm_notice_J236
  rw [e1, Option.bind_some]
  show ∃ T, (Option.bind (if nI (tk i) = 7 then (if hq_I (nI lev) 41 = true then (sm_numbers (fr' (nI lev).toNatClampNeg) rc rk' e).bind (fun v256 => some (rc, rk', rv', my', ls', sn1, v256, nI lev - 1, fr', ea', wh', so', di', ke', g.1, g.2.1, g.2.2.1, g.2.2.2.1, g.2.2.2.2.1, g.2.2.2.2.2.1, g.2.2.2.2.2.2.1, g.2.2.2.2.2.2.2)) else none) else some (rc, rk', rv', my', ls', sn1, e, nI lev, fr', ea', wh', so', di', ke', g.1, g.2.1, g.2.2.1, g.2.2.2.1, g.2.2.2.2.1, g.2.2.2.2.2.1, g.2.2.2.2.2.2.1, g.2.2.2.2.2.2.2)) (hw_K n k mp mk ms mr sk sl kp mc mn (m2 + 1) i (nI q') (hg_b cm') (nI st'.length) opn')) = some T ∧ Z T
  rw [if_pos l41, cl, hfl]
  by_cases e0 : e = 0
  · obtain ⟨k1, k2⟩ := e2 e0
    obtain ⟨p1, p2, p3⟩ := hpo e0
    obtain ⟨r1a, r1b⟩ := hr1 e0
    subst e0 k1
    rcases hends with ⟨_, ⟨t5, w1, w2⟩ | ⟨t7, w1, w2⟩ | ⟨t24, w1, w2, w3⟩⟩
    · subst w1 w2
      rw [t5, if_neg (by decide : ¬ nI 5 = 7), Option.bind_some]
      exact p1 t5 cm' hr' (m2 + 1) opn' rk' rv' ls' fr' ea' wh' so' di' ke' g.2.2.2.2.1 g.2.2.2.2.2.1 g.2.2.2.2.2.2.2 my' g.1 g.2.1 g.2.2.1 g.2.2.2.1 g.2.2.2.2.2.2.1 hf hM k2 (g1.le hbf) (g2.le (by omega)) (g3.le (by omega)) (g4.le (by omega)) (g5.le (by omega)) (g6.le (by omega))
    · subst w1
      obtain ⟨p31, p32⟩ := p3 t7
      obtain ⟨f, b, n1, n2, n3⟩ := hw_numbers (s := s0') r1b r1a k2
      rw [t7, if_pos (by decide : nI 7 = 7), n1, Option.bind_some, Option.bind_some]
      rw [hfr] at p31 p32
      rcases n3 with ⟨b0, f0, _⟩ | ⟨b1, f1⟩
      · subst b0 f0
        have el : nI lev - 1 = nI (lev - 1) := by
          obtain ⟨l2, hl2⟩ : ∃ l2, lev = l2 + 1 := ⟨lev - 1, by have := hl1 t7; omega⟩
          rw [hl2, nI_pred]
          rfl
        rw [el]
        exact p32 n2 cm' st' hr' (m2 + 1) opn' rk' rv' ls' fr' ea' wh' so' di' ke' g.2.2.2.2.1 g.2.2.2.2.2.1 g.2.2.2.2.2.2.2 my' g.1 g.2.1 g.2.2.1 g.2.2.2.1 g.2.2.2.2.2.2.1 hf hM k2 (g1.le hbf) (g2.le (by omega)) (g3.le (by omega)) (g4.le (by omega)) (g5.le (by omega)) (g6.le (by omega))
      · subst b1 f1
        unfold hw_K
        rw [hw_lF (Or.inl (by decide : ¬ (-4 : Int32) = 0)) hk (by omega)]
        exact ⟨_, rfl, p31 n2 _ ⟨rfl, rfl⟩⟩
    · subst w1
      have k8 := hw_at8 hA (by omega) hr'
      rw [t24, if_neg (by decide : ¬ nI 24 = 7), Option.bind_some]
      unfold hw_K
      rw [hw_lF (Or.inr k8) hk (by omega)]
      exact ⟨_, rfl, p2 t24 _ ⟨⟨rfl, rfl⟩, rfl, k2⟩⟩
  · rw [hw_numF e0, Option.bind_some]
    by_cases t7 : nI (tk i) = 7
    · rw [if_pos t7, Option.bind_some]
      unfold hw_K
      rw [hw_lF (Or.inl e0) hk (by omega)]
      exact ⟨_, rfl, he e0 _ ⟨rfl, rfl⟩⟩
    · rw [if_neg t7, Option.bind_some]
      unfold hw_K
      rw [hw_lF (Or.inl e0) hk (by omega)]
      exact ⟨_, rfl, he e0 _ ⟨rfl, rfl⟩⟩
section
variable {i lev bf b bs r : Nat} {cm : Bool} {st : List Nat} {sn : Int32} {fr ea wh so di ke : Nat → Int32} {xr : Nat → Int64} {Z : hw_T → Prop}
theorem hw_p0 (hK : he_K n k tk mc mn C N) (hA : he_Ac k tk) (hi : i < k) (hl : lev < 41) (hr : hg_run tk i = some (0, cm, st)) {q' : Nat} {cm' : Bool} {st' : List Nat} (hr' : hg_run tk (i + 1) = some (q', cm', st')) (hG : hw_Go n k mp mk ms mr sk sl kp mc mn (i + 1) q' cm' st' lev bf (lev + 1) bs r sn fr (upd ea lev (nI (i + 1))) (upd wh lev (-1)) so (upd di lev 0) (upd ke lev 0) xr Z) : hw_Go n k mp mk ms mr sk sl kp mc mn i 0 cm st lev bf lev bs r sn fr ea wh so di ke xr Z := by
  refine hw_tok hK hA hi hr hr' (fun m opn' rk rv ls fr' ea' wh' so' di' ke' vk va wt my a0 s0 b0 v0 w0 hf hM hR g1 g2 g3 g4 g5 g6 => ?_)
  have hk := hK.2.1
  rw [hw_n0 (by omega) hl, Option.bind_some]
  exact hG m opn' rk rv ls fr' _ _ so' _ _ vk va wt my a0 s0 b0 v0 w0 hf hM hR g1 (g2.up _) (g3.up _) g4 (g5.up _) (g6.up _)
theorem hw_p1 (hK : he_K n k tk mc mn C N) (hA : he_Ac k tk) (hi : i < k) (hl : lev < 41) {q : Nat} {x y z : Int32} (hq : q = 1 ∨ q = 2) (ht : tk i = 1 ∨ tk i = 2) (hx : x = 0 ∨ x = 1) (hr : hg_run tk i = some (q, cm, st)) {q' : Nat} {cm' : Bool} {st' : List Nat} (hr' : hg_run tk (i + 1) = some (q', cm', st')) (hG : hw_Go n k mp mk ms mr sk sl kp mc mn (i + 1) q' cm' st' lev bf (lev + 1) bs r sn fr (upd ea lev (nI (i + 1))) wh so (upd di lev (if tk i = 1 then 1 else x)) (upd ke lev (if tk i = 2 then 1 else 0)) xr Z) : hw_Go n k mp mk ms mr sk sl kp mc mn i q cm st lev bf (lev + 1) bs r sn fr (upd ea lev y) wh so (upd di lev x) (upd ke lev z) xr Z := by
  refine hw_tok hK hA hi hr hr' (fun m opn' rk rv ls fr' ea' wh' so' di' ke' vk va wt my a0 s0 b0 v0 w0 hf hM hR g1 g2 g3 g4 g5 g6 => ?_)
  have hk := hK.2.1
  have hd : di' lev = x := (g5 lev (by omega)).trans pk_us
  rw [hw_n1 (by omega) hl hq (hK.2.2.1 i hi).2.2.1 ht (by rw [hd]; exact hx), Option.bind_some, hd]
  exact hG m opn' rk rv ls fr' _ _ so' _ _ vk va wt my a0 s0 b0 v0 w0 hf hM hR g1 (g2.up1 _) g3 g4 (g5.up1 _) (g6.up1 _)
theorem hw_p8 (hK : he_K n k tk mc mn C N) (hA : he_Ac k tk) (hi : i < k) (hl : lev < 41) (ht : tk i = 8 ∨ tk i = 9) (hr : hg_run tk i = some (6, cm, st)) {q' : Nat} {cm' : Bool} {st' : List Nat} (hr' : hg_run tk (i + 1) = some (q', cm', st')) (hG : hw_Go n k mp mk ms mr sk sl kp mc mn (i + 1) q' cm' st' lev bf b (lev + 1) r sn fr ea wh (upd so lev (nI i)) di ke xr Z) : hw_Go n k mp mk ms mr sk sl kp mc mn i 6 cm st lev bf b lev r sn fr ea wh so di ke xr Z := by
  refine hw_tok hK hA hi hr hr' (fun m opn' rk rv ls fr' ea' wh' so' di' ke' vk va wt my a0 s0 b0 v0 w0 hf hM hR g1 g2 g3 g4 g5 g6 => ?_)
  have hk := hK.2.1
  rw [hw_n8 (by omega) hl (hK.2.2.1 i hi).2.2.1 ht, Option.bind_some]
  exact hG m opn' rk rv ls fr' _ _ _ _ _ vk va wt my a0 s0 b0 v0 w0 hf hM hR g1 g2 g3 (g4.up _) g5 g6
theorem hw_p6 (hK : he_K n k tk mc mn C N) (hA : he_Ac k tk) (hi : i < k) (hl : lev + 1 < 41) (ht : tk i = 6) (hr : hg_run tk i = some (6, cm, st)) {q' : Nat} {cm' : Bool} {st' : List Nat} (hr' : hg_run tk (i + 1) = some (q', cm', st')) (hG : hw_Go n k mp mk ms mr sk sl kp mc mn (i + 1) q' cm' st' (lev + 1) (lev + 2) b (lev + 1) r sn (upd fr (lev + 1) (nI r)) ea wh (upd so lev (-1)) di ke xr Z) : hw_Go n k mp mk ms mr sk sl kp mc mn i 6 cm st lev (lev + 1) b lev r sn fr ea wh so di ke xr Z := by
  refine hw_tok hK hA hi hr hr' (fun m opn' rk rv ls fr' ea' wh' so' di' ke' vk va wt my a0 s0 b0 v0 w0 hf hM hR g1 g2 g3 g4 g5 g6 => ?_)
  have hk := hK.2.1
  rw [hw_n6 (by omega) hl (by rw [(hK.2.2.1 i hi).2.2.1, ht]), Option.bind_some]
  exact hG m opn' rk rv ls _ _ _ _ _ _ vk va wt my a0 s0 b0 v0 w0 hf hM hR (g1.up _) g2 g3 (g4.up _) g5 g6
theorem hw_pW (hK : he_K n k tk mc mn C N) (hA : he_Ac k tk) (hi : i < k) (hl : lev < 41) (ht : tk i = 4) {y : Int32} (hr : hg_run tk i = some (7, cm, st)) {q' : Nat} {cm' : Bool} {st' : List Nat} (hr' : hg_run tk (i + 1) = some (q', cm', st')) (hG : hw_Go n k mp mk ms mr sk sl kp mc mn (i + 1) q' cm' st' lev bf (lev + 1) bs r sn fr ea (upd wh lev (nI (i + 1))) so di ke xr Z) : hw_Go n k mp mk ms mr sk sl kp mc mn i 7 cm st lev bf (lev + 1) bs r sn fr ea (upd wh lev y) so di ke xr Z := by
  refine hw_tok hK hA hi hr hr' (fun m opn' rk rv ls fr' ea' wh' so' di' ke' vk va wt my a0 s0 b0 v0 w0 hf hM hR g1 g2 g3 g4 g5 g6 => ?_)
  have hk := hK.2.1
  rw [hw_nW (by omega) hl (by rw [(hK.2.2.1 i hi).2.2.1, ht]), Option.bind_some]
  exact hG m opn' rk rv ls fr' _ _ so' _ _ vk va wt my a0 s0 b0 v0 w0 hf hM hR g1 g2 (g3.up1 _) g4 g5 g6
end
end
