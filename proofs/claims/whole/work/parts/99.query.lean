/-! a query as a whole: what the reader reads of it, class and reference work out alike -/
def he_3 : List Nat → Nat
  | [] => 0
  | t :: s => if t = 3 then he_3 s + 1 else he_3 s
def hw_Sim (n k : Nat) (tk : Nat → Nat) (mp mk ms mr sk sl kp mc mn : Nat → Int32) (xp xk xs : Nat → Int32) (xf : Nat → Int64) (lf lc rz im : Nat → Int32) (sr re : Int32) (f : hd_Y) (i i' : Nat) (st : List Nat) (lev : Nat) : Prop :=
  ∀ (cm : Bool) (xr : Nat → Int64) (r : Nat) (sn : Int32) (fr ea wh so di ke : Nat → Int32) (Z : hw_T → Prop), hg_run tk i = some (0, cm, st) → 5 * r ≤ 24 * i → (∃ s0, fr lev = nI s0 ∧ s0 ≤ r) → (∃ rk rv, hw_R n r rk rv xr) →
    ∃ e xr1 c1 sn1, f xp xk xs xf (nI n) lf lc rz im sr re xr (nI r) sn = some (e, xr1, c1, sn1) ∧ ((¬ e = 0 ∧ ((∀ T, hw_E e sn1 T → Z T) → hw_Go n k mp mk ms mr sk sl kp mc mn i 0 cm st lev (lev + 1) lev lev r sn fr ea wh so di ke xr Z)) ∨
      (e = 0 ∧ ∃ r1, c1 = nI r1 ∧ r ≤ r1 ∧ 5 * r1 ≤ 5 * r + 24 * (i' - i + 1) ∧ (∃ rk rv, hw_R n r1 rk rv xr1) ∧ (hw_Po n k tk mp mk ms mr sk sl kp mc mn i' st lev r1 sn1 fr ea wh so di ke xr1 Z → hw_Go n k mp mk ms mr sk sl kp mc mn i 0 cm st lev (lev + 1) lev lev r sn fr ea wh so di ke xr Z)))
def hw_end (k : Nat) (tk : Nat → Nat) (i : Nat) (st : List Nat) : Prop :=
  i < k ∧ ∃ q cm sq q' cm' st', hg_run tk i = some (q, cm, sq) ∧ ((q = 7 ∧ sq = st) ∨ (q = 5 ∧ sq = 1 :: st)) ∧ ¬ tk i = 4 ∧ hg_ends (tk i) cm st = some (q', cm', st') ∧ hg_run tk (i + 1) = some (q', cm', st')
section
variable {cc n k : Nat} {tk : Nat → Nat} {mp mk ms mr sk sl xp xk xs kp mc mn C N : Nat → Int32} {xf : Nat → Int64} {xr0 : Int32} {lf lc rs rz im : Nat → Int32} {so0 sr re : Int32}
theorem hw_Go.to {i q : Nat} {cm : Bool} {st : List Nat} {lev bf b bs r : Nat} {sn : Int32} {fr ea wh so di ke fr2 ea2 wh2 so2 di2 ke2 : Nat → Int32} {xr : Nat → Int64} {Z : hw_T → Prop} (h : hw_Go n k mp mk ms mr sk sl kp mc mn i q cm st lev bf b bs r sn fr ea wh so di ke xr Z) (h1 : hw_Ag bf fr fr2) (h2 : hw_Ag b ea ea2) (h3 : hw_Ag b wh wh2) (h4 : hw_Ag bs so so2) (h5 : hw_Ag b di di2) (h6 : hw_Ag b ke ke2) : hw_Go n k mp mk ms mr sk sl kp mc mn i q cm st lev bf b bs r sn fr2 ea2 wh2 so2 di2 ke2 xr Z := by
  intro fuel opn rk rv ls fr' ea' wh' so' di' ke' vk va wt my a0 s0 b0 v0 w0 hf hM hR g1 g2 g3 g4 g5 g6
  exact h fuel opn rk rv ls fr' ea' wh' so' di' ke' vk va wt my a0 s0 b0 v0 w0 hf hM hR (fun j hj => (g1 j hj).trans (h1 j hj)) (fun j hj => (g2 j hj).trans (h2 j hj)) (fun j hj => (g3 j hj).trans (h3 j hj)) (fun j hj => (g4 j hj).trans (h4 j hj)) (fun j hj => (g5 j hj).trans (h5 j hj)) (fun j hj => (g6 j hj).trans (h6 j hj))
theorem hw_Po.to {i : Nat} {st : List Nat} {lev r : Nat} {sn : Int32} {fr ea wh so di ke fr2 ea2 wh2 so2 di2 ke2 : Nat → Int32} {xr : Nat → Int64} {Z : hw_T → Prop} (h : hw_Po n k tk mp mk ms mr sk sl kp mc mn i st lev r sn fr ea wh so di ke xr Z) (h1 : hw_Ag (lev + 1) fr fr2) (h2 : hw_Ag lev ea ea2) (h3 : hw_Ag lev wh wh2) (h4 : hw_Ag lev so so2) (h5 : hw_Ag lev di di2) (h6 : hw_Ag lev ke ke2) : hw_Po n k tk mp mk ms mr sk sl kp mc mn i st lev r sn fr2 ea2 wh2 so2 di2 ke2 xr Z := by
  obtain ⟨p1, p2, p3⟩ := h
  have hf : fr2 lev = fr lev := h1 lev (by omega)
  refine ⟨fun a cm' b => (p1 a cm' b).to h1 h2 h3 h4 h5 h6, p2, fun a => ?_⟩
  rw [hf]
  exact ⟨(p3 a).1, fun b cm' st' c => ((p3 a).2 b cm' st' c).to h1 h2 h3 h4 h5 h6⟩
theorem hw_Agu {b lev : Nat} {a : Nat → Int32} {x : Int32} (h : b ≤ lev) : hw_Ag b a (upd a lev x) := fun j hj => pk_un (by omega)
/-- SELECT, DISTINCT, RETAINED -/
theorem hw_pre (hK : he_K n k tk mc mn C N) (hA : he_Ac k tk) {i : Nat} {cm : Bool} {st : List Nat} (hi : i ≤ k) (hr : hg_run tk i = some (0, cm, st)) : i < k ∧ C i = 0 ∧ ∃ q, hg_run tk (rd_sk C 2 (rd_sk C 1 (i + 1))) = some (q, false, 0 :: st) ∧ 1 ≤ q ∧ q ≤ 3 ∧ rd_sk C 2 (rd_sk C 1 (i + 1)) ≤ k ∧ i + 1 ≤ rd_sk C 2 (rd_sk C 1 (i + 1)) ∧ ¬ tk (rd_sk C 2 (rd_sk C 1 (i + 1))) = 1 ∧ ¬ tk (rd_sk C 2 (rd_sk C 1 (i + 1))) = 2 ∧
    ∀ (lev r : Nat) (sn : Int32) (fr ea wh so di ke : Nat → Int32) (xr : Nat → Int64) (Z : hw_T → Prop), lev < 41 → hw_Go n k mp mk ms mr sk sl kp mc mn (rd_sk C 2 (rd_sk C 1 (i + 1))) q false (0 :: st) lev (lev + 1) (lev + 1) lev r sn fr (upd ea lev (nI (rd_sk C 2 (rd_sk C 1 (i + 1))))) (upd wh lev (-1)) so (upd di lev (rd_b C 1 (i + 1))) (upd ke lev (rd_b C 2 (rd_sk C 1 (i + 1)))) xr Z → hw_Go n k mp mk ms mr sk sl kp mc mn i 0 cm st lev (lev + 1) lev lev r sn fr ea wh so di ke xr Z := by
  have hk := hK.2.1
  obtain ⟨hlt, q1, cm1, st1, hs, hr1⟩ := ha_nx hA hi hr (by decide)
  have ⟨ht0, e1, e2, e3⟩ : tk i = 0 ∧ q1 = 1 ∧ cm1 = false ∧ st1 = 0 :: st := by
    have hs : (if tk i = 0 then some (1, false, 0 :: st) else none) = some (q1, cm1, st1) := hs
    obtain ⟨a, hs⟩ := hq_ok hs
    cases hs
    exact ⟨a, rfl, rfl, rfl⟩
  subst e1 e2 e3
  refine ⟨hlt, ha_C (c := 0) hK hlt ht0, ?_⟩
  obtain ⟨hlt1, q2, cm2, st2, hs2, hr2⟩ := ha_nx hA (by omega) hr1 (by decide)
  have hs2 : hg_operand (tk (i + 1)) 1 false (0 :: st) = some (q2, cm2, st2) := hs2
  have op3 : ∀ (x : Nat) (c : Bool) (s : List Nat), x ≤ k → hg_run tk x = some (3, c, s) → ¬ tk x = 1 ∧ ¬ tk x = 2 := fun x c s hx h => by
    obtain ⟨_, q9, cm9, st9, hs9, _⟩ := ha_nx hA hx h (by decide)
    have hs9 : hg_operand (tk x) 3 c s = some (q9, cm9, st9) := hs9
    rcases hg_operandI hs9 with ⟨w, w2, _⟩ | ⟨⟨w, w2⟩ | ⟨w, _⟩, _⟩ | ⟨w, _⟩ | ⟨w, _⟩ <;> omega
  by_cases t1 : tk (i + 1) = 1
  · have s1 : rd_sk C 1 (i + 1) = i + 2 := if_pos (ha_Cl 1 1 rfl hK hlt1 t1)
    have b1 : rd_b C 1 (i + 1) = 1 := if_pos (ha_Cl 1 1 rfl hK hlt1 t1)
    rw [s1, b1]
    have ⟨e1, e2, e3⟩ : q2 = 2 ∧ cm2 = false ∧ st2 = 0 :: st := by
      rcases hg_operandI hs2 with ⟨_, _, a, b, c⟩ | ⟨⟨w, _⟩ | ⟨w, _⟩, _⟩ | ⟨w, _⟩ | ⟨w, _⟩
      · exact ⟨a, b, c⟩
      all_goals omega
    subst e1 e2 e3
    obtain ⟨hlt2, q3, cm3, st3, hs3, hr3⟩ := ha_nx hA (by omega) hr2 (by decide)
    have hs3 : hg_operand (tk (i + 2)) 2 false (0 :: st) = some (q3, cm3, st3) := hs3
    by_cases t2 : tk (i + 2) = 2
    · have s2 : rd_sk C 2 (i + 2) = i + 3 := if_pos (ha_Cl 2 2 rfl hK hlt2 t2)
      have b2 : rd_b C 2 (i + 2) = 1 := if_pos (ha_Cl 2 2 rfl hK hlt2 t2)
      rw [s2, b2]
      have ⟨e1, e2, e3⟩ : q3 = 3 ∧ cm3 = false ∧ st3 = 0 :: st := by
        rcases hg_operandI hs3 with ⟨w, _⟩ | ⟨_, a, b, c⟩ | ⟨w, _⟩ | ⟨w, _⟩
        · omega
        · exact ⟨a, b, c⟩
        all_goals omega
      subst e1 e2 e3
      obtain ⟨n1, n2⟩ := op3 (i + 3) false (0 :: st) (by omega) hr3
      refine ⟨3, hr3, by decide, by decide, by omega, by omega, n1, n2, fun lev r sn fr ea wh so di ke xr Z hl hG => ?_⟩
      refine hw_p0 hK hA hlt hl hr hr1 (hw_p1 hK hA hlt1 hl (Or.inl rfl) (Or.inl t1) (Or.inl rfl) hr1 hr2 ?_)
      rw [if_pos t1, if_neg (show ¬ tk (i + 1) = 2 by omega)]
      refine hw_p1 hK hA hlt2 hl (Or.inr rfl) (Or.inr t2) (Or.inr rfl) hr2 hr3 ?_
      rw [if_neg (show ¬ tk (i + 2) = 1 by omega), if_pos t2]
      exact hG
    · have s2 : rd_sk C 2 (i + 2) = i + 2 := if_neg (ha_Cln 2 2 rfl hK hlt2 (by decide) t2)
      have b2 : rd_b C 2 (i + 2) = 0 := if_neg (ha_Cln 2 2 rfl hK hlt2 (by decide) t2)
      rw [s2, b2]
      have n1 : ¬ tk (i + 2) = 1 := fun w => by
        rcases hg_operandI hs3 with ⟨_, w2, _⟩ | ⟨⟨w2, _⟩ | ⟨w2, _⟩, _⟩ | ⟨w2, _⟩ | ⟨w2, _⟩ <;> omega
      refine ⟨2, hr2, by decide, by decide, by omega, by omega, n1, t2, fun lev r sn fr ea wh so di ke xr Z hl hG => ?_⟩
      refine hw_p0 hK hA hlt hl hr hr1 (hw_p1 hK hA hlt1 hl (Or.inl rfl) (Or.inl t1) (Or.inl rfl) hr1 hr2 ?_)
      rw [if_pos t1, if_neg (show ¬ tk (i + 1) = 2 by omega)]
      exact hG
  · have s1 : rd_sk C 1 (i + 1) = i + 1 := if_neg (ha_Cln 1 1 rfl hK hlt1 (by decide) t1)
    have b1 : rd_b C 1 (i + 1) = 0 := if_neg (ha_Cln 1 1 rfl hK hlt1 (by decide) t1)
    rw [s1, b1]
    by_cases t2 : tk (i + 1) = 2
    · have s2 : rd_sk C 2 (i + 1) = i + 2 := if_pos (ha_Cl 2 2 rfl hK hlt1 t2)
      have b2 : rd_b C 2 (i + 1) = 1 := if_pos (ha_Cl 2 2 rfl hK hlt1 t2)
      rw [s2, b2]
      have ⟨e1, e2, e3⟩ : q2 = 3 ∧ cm2 = false ∧ st2 = 0 :: st := by
        rcases hg_operandI hs2 with ⟨w, _⟩ | ⟨_, a, b, c⟩ | ⟨w, _⟩ | ⟨w, _⟩
        · omega
        · exact ⟨a, b, c⟩
        all_goals omega
      subst e1 e2 e3
      obtain ⟨n1, n2⟩ := op3 (i + 2) false (0 :: st) (by omega) hr2
      refine ⟨3, hr2, by decide, by decide, by omega, by omega, n1, n2, fun lev r sn fr ea wh so di ke xr Z hl hG => ?_⟩
      refine hw_p0 hK hA hlt hl hr hr1 (hw_p1 hK hA hlt1 hl (Or.inl rfl) (Or.inr t2) (Or.inl rfl) hr1 hr2 ?_)
      rw [if_neg t1, if_pos t2]
      exact hG
    · have s2 : rd_sk C 2 (i + 1) = i + 1 := if_neg (ha_Cln 2 2 rfl hK hlt1 (by decide) t2)
      have b2 : rd_b C 2 (i + 1) = 0 := if_neg (ha_Cln 2 2 rfl hK hlt1 (by decide) t2)
      rw [s2, b2]
      exact ⟨1, hr1, by decide, by decide, by omega, Nat.le_refl _, t1, t2, fun lev r sn fr ea wh so di ke xr Z hl hG => hw_p0 hK hA hlt hl hr hr1 hG⟩
theorem hw_Wof (hK : he_K n k tk mc mn C N) (hal : he_Al n mk ms sk sl kp xk xs xf lc rz im) {m p : Nat} {res : hd_X × Nat × Nat} (hu : rd_E C N m 1 p = some res) (hp : res.2.2 < k) (he : tk res.2.2 = 3 ∨ tk res.2.2 = 5 ∨ tk res.2.2 = 24 ∨ tk res.2.2 = 7) : hw_W n k mc mn mk ms sk sl kp xk xs xf lc rz im res.1 p := fun o ho => he_work hK hal ⟨o, ho, rfl⟩ hu hp he
/-- the condition, if there is one -/
theorem hw_where (hK : he_K n k tk mc mn C N) (hA : he_Ac k tk) (hal : he_Al n mk ms sk sl kp xk xs xf lc rz im) {i2 : Nat} {cm : Bool} {st : List Nat} (hi : i2 ≤ k) (hr : hg_run tk i2 = some (7, cm, st)) :
    ∃ (dC : hd_X) (cond : Option Nat) (i' : Nat) (x : Int32), (∀ (mkf : hd_X → Option Nat → hd_Y) (h : Nat), rd_W C N 100 mkf h i2 = some (mkf dC cond, h, i')) ∧ i2 ≤ i' ∧ hw_end k tk i' st ∧ ((cond = none ∧ x < 0) ∨ (cond = some 0 ∧ ∃ pw, pw < 2 ^ 31 ∧ x = nI pw ∧ hw_W n k mc mn mk ms sk sl kp xk xs xf lc rz im dC pw)) ∧
      ∀ (lev bf bs r : Nat) (sn : Int32) (fr ea wh so di ke : Nat → Int32) (xr : Nat → Int64) (Z : hw_T → Prop), lev < 41 → (∀ q cm' sq, hg_run tk i' = some (q, cm', sq) → hw_Go n k mp mk ms mr sk sl kp mc mn i' q cm' sq lev bf (lev + 1) bs r sn fr ea (upd wh lev x) so di ke xr Z) → hw_Go n k mp mk ms mr sk sl kp mc mn i2 7 cm st lev bf (lev + 1) bs r sn fr ea (upd wh lev (-1)) so di ke xr Z := by
  have hk := hK.2.1
  obtain ⟨hlt, q1, cm1, st1, hs, hr1⟩ := ha_nx hA hi hr (by decide)
  have hs : (if tk i2 = 4 then some (3, false, 1 :: st) else hg_ends (tk i2) cm st) = some (q1, cm1, st1) := hs
  by_cases t4 : tk i2 = 4
  · rw [if_pos t4] at hs
    cases hs
    have n12 : ¬ tk (i2 + 1) = 1 ∧ ¬ tk (i2 + 1) = 2 := by
      obtain ⟨_, q9, cm9, st9, hs9, _⟩ := ha_nx hA (by omega) hr1 (by decide)
      have hs9 : hg_operand (tk (i2 + 1)) 3 false (1 :: st) = some (q9, cm9, st9) := hs9
      rcases hg_operandI hs9 with ⟨w, w2, _⟩ | ⟨⟨w, w2⟩ | ⟨w, _⟩, _⟩ | ⟨w, _⟩ | ⟨w, _⟩ <;> omega
    obtain ⟨d, h, i', cm', a1, a2, a3, a4, a5, a6, a7, a8, a9⟩ := ha_acc hK hA 100 1 (i2 + 1) 3 false (1 :: st) (by decide) (by decide) (by omega) (by omega) hr1 (by decide) (by decide) n12.1 n12.2 (fun _ => by decide)
    have a1 : rd_E C N 100 1 (i2 + 1) = some (d, h, i') := a1
    obtain ⟨_, hb⟩ := ha_behind hA (by omega) a4
    have hend : (tk i' = 5 ∨ tk i' = 7 ∨ tk i' = 24) ∧ ∃ q' cm2 st', hg_ends (tk i') cm' st = some (q', cm2, st') ∧ hg_run tk (i' + 1) = some (q', cm2, st') := by
      rcases hb with ⟨w | w, _⟩ | ⟨w, _⟩ | ⟨w, t2, cm2, st2, w2, w3, w4⟩ | ⟨w, st2, w2, _⟩ | ⟨w, s, q', cm2, st', w2, w3, w4⟩
      · exact absurd w a6
      · exact absurd w a7
      · omega
      · cases w2
        omega
      · cases w2
      · cases w2
        exact ⟨w, q', cm2, st', w3, w4⟩
    obtain ⟨hte, q', cm2, st', he1, he2⟩ := hend
    clear hb
    refine ⟨d, some 0, i', nI (i2 + 1), fun mkf hh => ?_, by omega, ⟨a5, 5, cm', 1 :: st, q', cm2, st', a4, Or.inr ⟨rfl, rfl⟩, by omega, he1, he2⟩, Or.inr ⟨rfl, i2 + 1, by omega, rfl, hw_Wof hK hal a1 a5 (by show tk i' = 3 ∨ tk i' = 5 ∨ tk i' = 24 ∨ tk i' = 7; omega)⟩, fun lev bf bs r sn fr ea wh so di ke xr Z hl hG => ?_⟩
    · unfold rd_W
      rw [if_pos (ha_Cl 4 4 rfl hK hlt t4), a1, Option.bind_some]
      exact if_pos ⟨by show h ≤ 41; omega, by show i2 + 2 ≤ i'; omega⟩
    · refine hw_pW hK hA hlt hl t4 hr hr1 ?_
      exact hw_skip hK hA (i' - (i2 + 1)) (i2 + 1) i' 3 5 false cm' (1 :: st) (1 :: st) (by omega) (by omega) hr1 (by decide) (by decide) (fun w => by omega) a9 a4 (hG 5 cm' (1 :: st) a4)
  · rw [if_neg t4] at hs
    refine ⟨hd_no, none, i2, -1, fun mkf hh => ?_, Nat.le_refl _, ⟨hlt, 7, cm, st, q1, cm1, st1, hr, Or.inl ⟨rfl, rfl⟩, t4, hs, hr1⟩, Or.inl ⟨rfl, by decide⟩, fun lev bf bs r sn fr ea wh so di ke xr Z hl hG => hG 7 cm st hr⟩
    unfold rd_W
    rw [if_neg (ha_Cln 4 4 rfl hK hlt (by decide) t4)]
/-- a select, its nested query being given -/
theorem hw_S (hK : he_K n k tk mc mn C N) (hA : he_Ac k tk) (hh : hh_I cc n mp mk ms mr sk sl xp xk xs xf xr0) (hV : hs_V n mr sk sl xs xr0 lf lc rs rz im so0 sr re) (hkp : ∀ i, i < n → hs_K n mr sk sl kp i) (hcl : ∀ p, p < k → tk p = 8 ∨ tk p = 9 → ∃ j, j < cc ∧ mn p = nI j)
    {i lev : Nat} {cm : Bool} {st : List Nat} (hi : i ≤ k) (hr : hg_run tk i = some (0, cm, st)) (hl : lev < 40) (hl3 : he_3 st = lev) {recQ : Nat → Option (List hd_Y × Nat × Nat)}
    (hrec : ∀ (i2 : Nat) (cm2 : Bool), i + 4 ≤ i2 → i2 ≤ k → hg_run tk i2 = some (0, cm2, 3 :: st) → ∃ us h i3 cm3, recQ i2 = some (us, h, i3) ∧ i2 + 4 ≤ i3 ∧ i3 < k ∧ tk i3 = 7 ∧ hg_run tk (i3 + 1) = some (7, cm3, st) ∧ hw_Sim n k tk mp mk ms mr sk sl kp mc mn xp xk xs xf lf lc rz im sr re (hd_seq us) i2 i3 (3 :: st) (lev + 1)) :
    ∃ f h i', rd_S C N 100 recQ i = some (f, h, i') ∧ i + 4 ≤ i' ∧ hw_end k tk i' st ∧ hw_Sim n k tk mp mk ms mr sk sl kp mc mn xp xk xs xf lf lc rz im sr re f i i' st lev := by
  have hk := hK.2.1
  have hn := hh.2.1
  have hal := he_al hh hV hkp
  obtain ⟨hlt, hC0, q, p1, p2, p3, p4, p5, p6, p7, pG⟩ := hw_pre hK hA hi hr
  generalize hpe : rd_sk C 2 (rd_sk C 1 (i + 1)) = pe at p1 p4 p5 p6 p7 pG
  obtain ⟨dR, hR, e1, cm1, a1, a2, a3, a4, a5, a6, a7, a8, a9⟩ := ha_acc hK hA 100 1 pe q false (0 :: st) (by decide) (by decide) (by omega) (by omega) p1 p2 (by omega) p6 p7 (fun _ => by decide)
  have a1 : rd_E C N 100 1 pe = some (dR, hR, e1) := a1
  obtain ⟨_, hb⟩ := ha_behind hA (by omega) a4
  have ⟨t3, hr6⟩ : tk e1 = 3 ∧ hg_run tk (e1 + 1) = some (6, cm1, st) := by
    rcases hb with ⟨w | w, _⟩ | ⟨w, _⟩ | ⟨w, t2, cm2, st2, w2, w3, w4⟩ | ⟨w, st2, w2, w3⟩ | ⟨w, s, q', cm2, st', w2, w3, w4⟩
    · exact absurd w a6
    · exact absurd w a7
    · omega
    · cases w2
      omega
    · cases w2
      exact ⟨w, w3⟩
    · cases w2
  clear hb
  have hWR : hw_W n k mc mn mk ms sk sl kp xk xs xf lc rz im dR pe := hw_Wof hK hal a1 a5 (Or.inl t3)
  obtain ⟨hlt6, q7, cm7, st7, hs6, hr7⟩ := ha_nx hA (by omega) hr6 (by decide)
  have hs6 : (if tk (e1 + 1) = 6 then some (0, cm1, 3 :: st) else if tk (e1 + 1) = 8 ∨ tk (e1 + 1) = 9 then some (7, cm1, st) else none) = some (q7, cm7, st7) := hs6
  -- over the e and FROM
  have skip : ∀ (r : Nat) (sn : Int32) (fr ea wh so di ke : Nat → Int32) (xr : Nat → Int64) (Z : hw_T → Prop), hw_Go n k mp mk ms mr sk sl kp mc mn (e1 + 1) 6 cm1 st lev (lev + 1) (lev + 1) lev r sn fr (upd ea lev (nI pe)) (upd wh lev (-1)) so (upd di lev (rd_b C 1 (i + 1))) (upd ke lev (rd_b C 2 (rd_sk C 1 (i + 1)))) xr Z → hw_Go n k mp mk ms mr sk sl kp mc mn i 0 cm st lev (lev + 1) lev lev r sn fr ea wh so di ke xr Z := fun r sn fr ea wh so di ke xr Z hG => by
    refine pG lev r sn fr ea wh so di ke xr Z (by omega) ?_
    refine hw_skip hK hA (e1 - pe) pe e1 q 5 false cm1 (0 :: st) (0 :: st) (by omega) (by omega) p1 p2 (by omega) (fun _ => ⟨p6, p7⟩) a9 a4 ?_
    refine hw_tok hK hA a5 a4 hr6 (fun m opn' rk rv ls fr' ea' wh' so' di' ke' vk va wt my a0 s0 b0 v0 w0 hf hM hR g1 g2 g3 g4 g5 g6 => ?_)
    rw [hw_nS (by omega) (by decide) (by decide) (by decide) (by decide) (hK.2.2.1 e1 a5).2.2.1 (hK.2.2.1 e1 a5).1 (fun w => by omega), Option.bind_some]
    exact hG m opn' rk rv ls fr' ea' wh' so' di' ke' vk va wt my a0 s0 b0 v0 w0 hf hM hR g1 g2 g3 g4 g5 g6
  have hS0 : rd_S C N 100 recQ i = if C (e1 + 1) = 6 then (recQ (e1 + 2)).bind (fun u => if e1 + 3 ≤ u.2.2 ∧ C u.2.2 = 7 ∧ u.2.2 ≤ 40 then rd_W C N 100 (fun dC cond => hd_sel (hd_seq u.1) dC dR (rd_b C 1 (i + 1)) (rd_b C 2 (rd_sk C 1 (i + 1))) (some 0) (some 0) 0 0 cond) (u.2.1 + 1) (u.2.2 + 1) else none)
      else if C (e1 + 1) = 8 ∨ C (e1 + 1) = 9 then rd_W C N 100 (fun dC cond => hd_sel hd_noQ dC dR (rd_b C 1 (i + 1)) (rd_b C 2 (rd_sk C 1 (i + 1))) (some 0) none (N (e1 + 1)) (rd_b C 9 (e1 + 1)) cond) 0 (e1 + 2) else none := by
    unfold rd_S
    rw [if_pos ⟨hC0, by omega⟩, hpe, a1, Option.bind_some]
    exact if_pos ⟨by show hR ≤ 41; omega, by show pe + 1 ≤ e1; omega, ha_C (c := 3) hK a5 t3, by show e1 ≤ 38; omega⟩
  by_cases t6 : tk (e1 + 1) = 6
  · rw [if_pos t6] at hs6
    cases hs6
    obtain ⟨us, h2, i3, cm3, r1, r2, r3, r4, r5, rS⟩ := hrec (e1 + 2) cm1 (by omega) (by omega) hr7
    obtain ⟨dC, cond, i', x, w1, w2, w3, w4, wG⟩ := hw_where (mp := mp) (mr := mr) (xk := xk) (xs := xs) (xf := xf) (lc := lc) (rz := rz) (im := im) hK hA hal (by omega) r5
    refine ⟨hd_sel (hd_seq us) dC dR (rd_b C 1 (i + 1)) (rd_b C 2 (rd_sk C 1 (i + 1))) (some 0) (some 0) 0 0 cond, h2 + 1, i', ?_, by omega, w3, ?_⟩
    · rw [hS0, if_pos (ha_Cl 6 6 rfl hK hlt6 t6), r1, Option.bind_some]
      show (if e1 + 3 ≤ i3 ∧ C i3 = 7 ∧ i3 ≤ 40 then rd_W C N 100 (fun dC cond => hd_sel (hd_seq us) dC dR (rd_b C 1 (i + 1)) (rd_b C 2 (rd_sk C 1 (i + 1))) (some 0) (some 0) 0 0 cond) (h2 + 1) (i3 + 1) else none) = _
      rw [if_pos ⟨by omega, ha_C (c := 7) hK r3 r4, by omega⟩]
      exact w1 (fun dC cond => hd_sel (hd_seq us) dC dR (rd_b C 1 (i + 1)) (rd_b C 2 (rd_sk C 1 (i + 1))) (some 0) (some 0) 0 0 cond) (h2 + 1)
    · intro cm' xr r sn fr ea wh so di ke Z hr0 h5 hfr hRows
      rw [hr] at hr0
      cases hr0
      obtain ⟨s0', hs0, hs0r⟩ := hfr
      obtain ⟨hi', qe, cme, sqe, qe', cme', ste', y1, y2, y3, y4, y5⟩ := w3
      have hl1 : tk i' = 7 → 1 ≤ lev := fun t7 => by
        rcases hg_endsI y4 with ⟨_, ⟨w, _⟩ | ⟨_, _, w⟩ | ⟨w, _⟩⟩
        · omega
        · rw [← hl3, w]
          exact Nat.succ_pos _
        · omega
      obtain ⟨eI, xrI, cI, snI, f1, f2⟩ := rS cm1 xr r sn (upd fr (lev + 1) (nI r)) (upd ea lev (nI pe)) (upd wh lev (-1)) (upd so lev (-1)) (upd di lev (rd_b C 1 (i + 1))) (upd ke lev (rd_b C 2 (rd_sk C 1 (i + 1)))) Z hr7 (by omega) ⟨r, pk_us, Nat.le_refl _⟩ hRows
      have inner : hw_Go n k mp mk ms mr sk sl kp mc mn (e1 + 2) 0 cm1 (3 :: st) (lev + 1) (lev + 1 + 1) (lev + 1) (lev + 1) r sn (upd fr (lev + 1) (nI r)) (upd ea lev (nI pe)) (upd wh lev (-1)) (upd so lev (-1)) (upd di lev (rd_b C 1 (i + 1))) (upd ke lev (rd_b C 2 (rd_sk C 1 (i + 1)))) xr Z → hw_Go n k mp mk ms mr sk sl kp mc mn i 0 cm st lev (lev + 1) lev lev r sn fr ea wh so di ke xr Z := fun hG => skip r sn fr ea wh so di ke xr Z (hw_p6 hK hA hlt6 (by omega) t6 hr6 hr7 hG)
      rcases f2 with ⟨eI0, f2⟩ | ⟨eI0, r2', k1, k2, k3, k4, k5⟩
      · exact ⟨eI, xrI, cI, snI, hw_selF eI0 f1, Or.inl ⟨eI0, fun hZ => inner (f2 hZ)⟩⟩
      · subst eI0 k1
        have r192 : r2' ≤ 192 := by omega
        obtain ⟨rkI, rvI, hRI⟩ := k4
        obtain ⟨fN, bN, n1, n2, n3⟩ := hw_numbers (s := r) r192 k2 hRI
        rcases n3 with ⟨b0, f0, hno⟩ | ⟨b1, f1'⟩
        · subst b0 f0
          have cond2 : (cond = none ∧ (upd wh lev x) lev < 0) ∨ (cond = some 0 ∧ ∃ pw, pw < 2 ^ 31 ∧ (upd wh lev x) lev = nI pw ∧ hw_W n k mc mn mk ms sk sl kp xk xs xf lc rz im dC pw) := by rw [show (upd wh lev x) lev = x from pk_us]; exact w4
          have sel : ∀ (rk rv ls fr' ea' wh' so' di' ke' vk va wt : Nat → Int32) (my a0 s0 b0 v0 w0 : Int32), hw_R n r2' rk rv xrI → hw_Ag (lev + 2) (upd fr (lev + 1) (nI r)) fr' → hw_Ag (lev + 1) (upd ea lev (nI pe)) ea' → hw_Ag (lev + 1) (upd wh lev x) wh' → hw_Ag (lev + 1) (upd so lev (-1)) so' → hw_Ag (lev + 1) (upd di lev (rd_b C 1 (i + 1))) di' → hw_Ag (lev + 1) (upd ke lev (rd_b C 2 (rd_sk C 1 (i + 1)))) ke' →
              ∃ e sn' xr' c' rc rk' rv' my' ls' g, hd_sel (hd_seq us) dC dR (rd_b C 1 (i + 1)) (rd_b C 2 (rd_sk C 1 (i + 1))) (some 0) (some 0) 0 0 cond xp xk xs xf (nI n) lf lc rz im sr re xr (nI r) sn = some (e, xr', c', sn') ∧ sm_select mp (nI n) mk ms mr sk sl kp (nI k) mc mn (nI r2') rk rv my ls snI 0 (nI lev) fr' ea' wh' so' di' ke' a0 s0 b0 v0 vk va w0 wt = some (rc, rk', rv', my', ls', sn', e, g) ∧ (e = 0 → ∃ r', c' = nI r' ∧ rc = nI r' ∧ r ≤ r' ∧ (r' ≤ r2' ∨ r' ≤ r + n) ∧ hw_R n r' rk' rv' xr') := fun rk rv ls fr' ea' wh' so' di' ke' vk va wt my a0 s0 b0 v0 w0 hR g1 g2 g3 g4 g5 g6 => by
            obtain ⟨fN2, bN2, m1, m2, m3⟩ := hw_numbers (s := r) r192 k2 hR
            have hno2 : ∀ i, r ≤ i → i < r2' → ¬ rk i = 1 := by
              rcases m3 with ⟨_, _, m3⟩ | ⟨m3, _⟩
              · exact m3
              · rw [n2] at m2
                cases m2
                exact absurd m3 (by decide)
            exact hw_selN hh hV hl ((g2 lev (by omega)).trans pk_us) hWR (by rw [(g3 lev (by omega)).trans pk_us]; exact w4) ((g5 lev (by omega)).trans pk_us) ((g6 lev (by omega)).trans pk_us) (by omega) k2 r192 hR hno2 ((g4 lev (by omega)).trans pk_us) ((g1 (lev + 1) (by omega)).trans pk_us) snI f1 n2 my a0 s0 b0 v0 w0 ls vk va wt
          obtain ⟨e, sn', xr', c', rc, rk', rv', my', ls', g, z1, z2, z3⟩ := sel rkI rvI (fun _ => 0) _ _ _ _ _ _ (fun _ => 0) (fun _ => 0) (fun _ => 0) 0 0 0 0 0 0 hRI hw_Ag.rf hw_Ag.rf hw_Ag.rf hw_Ag.rf hw_Ag.rf hw_Ag.rf
          refine ⟨e, xr', c', sn', z1, ?_⟩
          have G : ∀ r1 : Nat, (e = 0 → c' = nI r1 ∧ r ≤ r1 ∧ r1 ≤ 192) → (¬ e = 0 → ∀ T, hw_E e sn' T → Z T) → (e = 0 → hw_Po n k tk mp mk ms mr sk sl kp mc mn i' st lev r1 sn' fr ea wh so di ke xr' Z) → hw_Go n k mp mk ms mr sk sl kp mc mn i 0 cm st lev (lev + 1) lev lev r sn fr ea wh so di ke xr Z := fun r1 hr1 hZ hPo => by
            refine inner (k5 ⟨fun w => absurd w (by omega), fun w => absurd w (by omega), fun _ => ⟨fun w => ?_, fun w cm9 st9 hr9 => ?_⟩⟩)
            · rw [show upd fr (lev + 1) (nI r) (lev + 1) = nI r from pk_us, n2] at w
              cases w
            · rw [r5] at hr9
              cases hr9
              show hw_Go n k mp mk ms mr sk sl kp mc mn (i3 + 1) 7 cm3 st lev (lev + 2) (lev + 1) (lev + 1) r2' snI (upd fr (lev + 1) (nI r)) (upd ea lev (nI pe)) (upd wh lev (-1)) (upd so lev (-1)) (upd di lev (rd_b C 1 (i + 1))) (upd ke lev (rd_b C 2 (rd_sk C 1 (i + 1)))) xrI Z
              refine wG lev (lev + 2) (lev + 1) r2' snI _ _ wh _ _ _ xrI Z (by omega) (fun q9 cm9 sq9 hr9 => ?_)
              rw [y1] at hr9
              cases hr9
              refine hw_fin (s0' := s0') (e := e) (sn1 := sn') (r1 := r1) (xr1 := xr') hK hA hi' y1 (by rcases y2 with ⟨w, _⟩ | ⟨w, _⟩ <;> omega) y3 y4 y5 (by omega) (by omega) hl1 ((pk_un (by omega)).trans hs0) (fun rk rv ls fr' ea' wh' so' di' ke' vk va wt my a0 s0 b0 v0 w0 hR g1 g2 g3 g4 g5 g6 => ?_) hZ (fun w => ⟨by have := hr1 w; omega, (hr1 w).2.2⟩) (fun w => (hPo w).to (hw_Agu (by omega)) (hw_Agu (by omega)) (hw_Agu (by omega)) (hw_Agu (by omega)) (hw_Agu (by omega)) (hw_Agu (by omega)))
              obtain ⟨e9, sn9, xr9, c9, rc9, rk9, rv9, my9, ls9, g9, x1, x2, x3⟩ := sel rk rv ls fr' ea' wh' so' di' ke' vk va wt my a0 s0 b0 v0 w0 hR g1 g2 g3 g4 g5 g6
              rw [z1] at x1
              cases x1
              refine ⟨rc9, rk9, rv9, my9, ls9, g9, x2, fun w => ?_⟩
              obtain ⟨r', v1, v2, v3, v4, v5⟩ := x3 w
              obtain ⟨u1, u2, u3⟩ := hr1 w
              have er : r' = r1 := by
                rw [v1] at u1
                exact (nI_eq (by omega) (by omega)).mp u1
              rw [er] at v2 v5
              exact ⟨v2, v5⟩
          by_cases e0 : e = 0
          · obtain ⟨r', v1, v2, v3, v4, v5⟩ := z3 e0
            refine Or.inr ⟨e0, r', v1, v3, by omega, ⟨rk', rv', v5⟩, fun hPo => G r' (fun _ => ⟨v1, v3, by omega⟩) (fun w => absurd e0 w) (fun _ => hPo)⟩
          · exact Or.inl ⟨e0, fun hZ => G 0 (fun w => absurd w e0) (fun _ => hZ) (fun w => absurd w e0)⟩
        · subst b1
          refine ⟨-4, xrI, nI r2', snI, hw_selM f1 n2, Or.inl ⟨by decide, fun hZ => inner (k5 ⟨fun w => absurd w (by omega), fun w => absurd w (by omega), fun _ => ⟨fun _ => hZ, fun w => ?_⟩⟩)⟩⟩
          rw [show upd fr (lev + 1) (nI r) (lev + 1) = nI r from pk_us, n2] at w
          cases w
  · rw [if_neg t6] at hs6
    obtain ⟨t8, hs6⟩ := hq_ok hs6
    cases hs6
    obtain ⟨dC, cond, i', x, w1, w2, w3, w4, wG⟩ := hw_where (mp := mp) (mr := mr) (xk := xk) (xs := xs) (xf := xf) (lc := lc) (rz := rz) (im := im) hK hA hal (by omega) hr7
    obtain ⟨j, hj, hmn⟩ := hcl (e1 + 1) hlt6 t8
    have hNm : N (e1 + 1) = nI j := by rw [(hK.2.2.1 (e1 + 1) hlt6).2.2.2.1, hmn]
    refine ⟨hd_sel hd_noQ dC dR (rd_b C 1 (i + 1)) (rd_b C 2 (rd_sk C 1 (i + 1))) (some 0) none (N (e1 + 1)) (rd_b C 9 (e1 + 1)) cond, 0, i', ?_, by omega, w3, ?_⟩
    · rw [hS0, if_neg (ha_Cln 6 6 rfl hK hlt6 (by decide) t6), if_pos (t8.imp (fun w => ha_Cl 8 8 rfl hK hlt6 w) (fun w => ha_Cl 9 9 rfl hK hlt6 w))]
      exact w1 (fun dC cond => hd_sel hd_noQ dC dR (rd_b C 1 (i + 1)) (rd_b C 2 (rd_sk C 1 (i + 1))) (some 0) none (N (e1 + 1)) (rd_b C 9 (e1 + 1)) cond) 0
    · intro cm' xr r sn fr ea wh so di ke Z hr0 h5 hfr hRows
      rw [hr] at hr0
      cases hr0
      obtain ⟨s0', hs0, hs0r⟩ := hfr
      obtain ⟨rkI, rvI, hRI⟩ := hRows
      obtain ⟨hi', qe, cme, sqe, qe', cme', ste', y1, y2, y3, y4, y5⟩ := w3
      have hl1 : tk i' = 7 → 1 ≤ lev := fun t7 => by
        rcases hg_endsI y4 with ⟨_, ⟨w, _⟩ | ⟨_, _, w⟩ | ⟨w, _⟩⟩
        · omega
        · rw [← hl3, w]
          exact Nat.succ_pos _
        · omega
      have hsw : (tk (e1 + 1) = 8 ∧ rd_b C 9 (e1 + 1) = 0) ∨ (tk (e1 + 1) = 9 ∧ rd_b C 9 (e1 + 1) = 1) := by
        rcases t8 with t | t
        · exact Or.inl ⟨t, if_neg (ha_Cln 9 9 rfl hK hlt6 (by decide) (by omega))⟩
        · exact Or.inr ⟨t, if_pos (ha_Cl 9 9 rfl hK hlt6 t)⟩
      rw [hNm]
      have sel : ∀ (rk rv ls fr' ea' wh' so' di' ke' vk va wt : Nat → Int32) (my a0 s0 b0 v0 w0 : Int32), hw_R n r rk rv xr → hw_Ag (lev + 1) fr fr' → hw_Ag (lev + 1) (upd ea lev (nI pe)) ea' → hw_Ag (lev + 1) (upd wh lev x) wh' → hw_Ag (lev + 1) (upd so lev (nI (e1 + 1))) so' → hw_Ag (lev + 1) (upd di lev (rd_b C 1 (i + 1))) di' → hw_Ag (lev + 1) (upd ke lev (rd_b C 2 (rd_sk C 1 (i + 1)))) ke' →
          ∃ e sn' xr' c' rc rk' rv' my' ls' g, hd_sel hd_noQ dC dR (rd_b C 1 (i + 1)) (rd_b C 2 (rd_sk C 1 (i + 1))) (some 0) none (nI j) (rd_b C 9 (e1 + 1)) cond xp xk xs xf (nI n) lf lc rz im sr re xr (nI r) sn = some (e, xr', c', sn') ∧ sm_select mp (nI n) mk ms mr sk sl kp (nI k) mc mn (nI r) rk rv my ls sn 0 (nI lev) fr' ea' wh' so' di' ke' a0 s0 b0 v0 vk va w0 wt = some (rc, rk', rv', my', ls', sn', e, g) ∧ (e = 0 → ∃ r', c' = nI r' ∧ rc = nI r' ∧ r ≤ r' ∧ r' ≤ r + n ∧ hw_R n r' rk' rv' xr') := fun rk rv ls fr' ea' wh' so' di' ke' vk va wt my a0 s0 b0 v0 w0 hR g1 g2 g3 g4 g5 g6 =>
        hw_selC hh hV (by omega) ((g2 lev (by omega)).trans pk_us) hWR (by rw [(g3 lev (by omega)).trans pk_us]; exact w4) ((g5 lev (by omega)).trans pk_us) ((g6 lev (by omega)).trans pk_us) (by omega) hR ((g4 lev (by omega)).trans pk_us) (by omega) (hK.2.2.1 (e1 + 1) hlt6).2.2.1 hj hmn hsw my sn a0 s0 b0 v0 w0 ls vk va wt
      obtain ⟨e, sn', xr', c', rc, rk', rv', my', ls', g, z1, z2, z3⟩ := sel rkI rvI (fun _ => 0) _ _ _ _ _ _ (fun _ => 0) (fun _ => 0) (fun _ => 0) 0 0 0 0 0 0 hRI hw_Ag.rf hw_Ag.rf hw_Ag.rf hw_Ag.rf hw_Ag.rf hw_Ag.rf
      refine ⟨e, xr', c', sn', z1, ?_⟩
      have G : ∀ r1 : Nat, (e = 0 → c' = nI r1 ∧ r ≤ r1 ∧ r1 ≤ 192) → (¬ e = 0 → ∀ T, hw_E e sn' T → Z T) → (e = 0 → hw_Po n k tk mp mk ms mr sk sl kp mc mn i' st lev r1 sn' fr ea wh so di ke xr' Z) → hw_Go n k mp mk ms mr sk sl kp mc mn i 0 cm st lev (lev + 1) lev lev r sn fr ea wh so di ke xr Z := fun r1 hr1 hZ hPo => by
        refine skip r sn fr ea wh so di ke xr Z (hw_p8 hK hA hlt6 (by omega) t8 hr6 hr7 ?_)
        refine wG lev (lev + 1) (lev + 1) r sn _ _ wh _ _ _ xr Z (by omega) (fun q9 cm9 sq9 hr9 => ?_)
        rw [y1] at hr9
        cases hr9
        refine hw_fin (s0' := s0') (e := e) (sn1 := sn') (r1 := r1) (xr1 := xr') hK hA hi' y1 (by rcases y2 with ⟨w, _⟩ | ⟨w, _⟩ <;> omega) y3 y4 y5 (by omega) (by omega) hl1 hs0 (fun rk rv ls fr' ea' wh' so' di' ke' vk va wt my a0 s0 b0 v0 w0 hR g1 g2 g3 g4 g5 g6 => ?_) hZ (fun w => ⟨by have := hr1 w; omega, (hr1 w).2.2⟩) (fun w => (hPo w).to hw_Ag.rf (hw_Agu (by omega)) (hw_Agu (by omega)) (hw_Agu (by omega)) (hw_Agu (by omega)) (hw_Agu (by omega)))
        obtain ⟨e9, sn9, xr9, c9, rc9, rk9, rv9, my9, ls9, g9, x1, x2, x3⟩ := sel rk rv ls fr' ea' wh' so' di' ke' vk va wt my a0 s0 b0 v0 w0 hR g1 g2 g3 g4 g5 g6
        rw [z1] at x1
        cases x1
        refine ⟨rc9, rk9, rv9, my9, ls9, g9, x2, fun w => ?_⟩
        obtain ⟨r', v1, v2, v3, v4, v5⟩ := x3 w
        obtain ⟨u1, u2, u3⟩ := hr1 w
        have er : r' = r1 := by
          rw [v1] at u1
          exact (nI_eq (by omega) (by omega)).mp u1
        rw [er] at v2 v5
        exact ⟨v2, v5⟩
      by_cases e0 : e = 0
      · obtain ⟨r', v1, v2, v3, v4, v5⟩ := z3 e0
        refine Or.inr ⟨e0, r', v1, v3, by omega, ⟨rk', rv', v5⟩, fun hPo => G r' (fun _ => ⟨v1, v3, by omega⟩) (fun w => absurd e0 w) (fun _ => hPo)⟩
      · exact Or.inl ⟨e0, fun hZ => G 0 (fun w => absurd w e0) (fun _ => hZ) (fun w => absurd w e0)⟩
end
