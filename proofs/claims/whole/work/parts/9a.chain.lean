/-! chains of selects, queries, run -/
theorem hw_8 {c p : Nat} {cm : Bool} {st : List Nat} {cm' : Bool} {st' : List Nat} (h : hg_step c p cm st = some (8, cm', st')) : st' = [] := by
  have E : ∀ s : List Nat, hg_ends c cm s = some (8, cm', st') → st' = [] := fun s h => by
    rcases hg_endsI h with ⟨_, ⟨_, b, _⟩ | ⟨_, b, _⟩ | ⟨_, _, _, b⟩⟩
    · omega
    · omega
    · exact b
  rcases hg_stepI h with ⟨_, _, b, _⟩ | ⟨_, h⟩ | ⟨_, h⟩ | ⟨_, ⟨_, b, _⟩ | ⟨_, b, _⟩⟩ | ⟨_, ⟨_, b, _⟩ | ⟨_, h⟩⟩
  · omega
  · rcases hg_operandI h with ⟨_, _, b, _⟩ | ⟨_, b, _⟩ | ⟨_, b, _⟩ | ⟨_, b, _⟩ <;> omega
  · rcases hg_behindI h with ⟨_, b, _⟩ | ⟨_, b, _⟩ | ⟨_, b, _⟩ | ⟨_, b, _⟩ | ⟨_, b, _⟩ | ⟨_, b, _⟩ | ⟨s, _, h9⟩
    all_goals first | omega | exact E s h9
  · omega
  · omega
  · omega
  · exact E st h
theorem hw_3s {c p : Nat} {cm : Bool} {st : List Nat} {p' : Nat} {cm' : Bool} {st' : List Nat} (h : hg_step c p cm st = some (p', cm', st')) : he_3 st ≤ he_3 st' + 1 := by
  have n : ∀ (t : Nat) (s : List Nat), he_3 s ≤ he_3 (t :: s) ∧ (¬ t = 3 → he_3 (t :: s) = he_3 s) ∧ he_3 (t :: s) ≤ he_3 s + 1 := fun t s => by
    show he_3 s ≤ (if t = 3 then he_3 s + 1 else he_3 s) ∧ (¬ t = 3 → (if t = 3 then he_3 s + 1 else he_3 s) = he_3 s) ∧ (if t = 3 then he_3 s + 1 else he_3 s) ≤ he_3 s + 1
    split
    · exact ⟨by omega, fun q => by omega, by omega⟩
    · exact ⟨by omega, fun q => rfl, by omega⟩
  have E : ∀ s : List Nat, hg_ends c cm s = some (p', cm', st') → he_3 s ≤ he_3 st' + 1 := fun s h => by
    rcases hg_endsI h with ⟨_, ⟨_, _, b⟩ | ⟨_, _, b⟩ | ⟨_, _, b, b2⟩⟩
    · subst b; omega
    · subst b; exact (n 3 st').2.2
    · subst b b2; omega
  rcases hg_stepI h with ⟨_, _, _, _, b⟩ | ⟨_, h⟩ | ⟨_, h⟩ | ⟨_, ⟨_, _, _, b⟩ | ⟨_, _, _, b⟩⟩ | ⟨_, ⟨_, _, _, b⟩ | ⟨_, h⟩⟩
  · subst b; have := (n 0 st).1; omega
  · rcases hg_operandI h with ⟨_, _, _, _, b⟩ | ⟨_, _, _, b⟩ | ⟨_, _, _, b⟩ | ⟨_, _, _, ⟨_, b⟩ | ⟨_, b⟩⟩
    · subst b; omega
    · subst b; omega
    · subst b; omega
    · subst b; have := (n 4 st).1; omega
    · subst b; have := (n 2 st).1; omega
  · rcases hg_behindI h with ⟨_, _, _, b⟩ | ⟨_, _, _, b⟩ | ⟨_, _, _, b⟩ | ⟨_, _, _, b⟩ | ⟨_, _, ⟨b, _⟩ | ⟨b, _⟩⟩ | ⟨_, _, _, b⟩ | ⟨s, b, h9⟩
    · subst b; omega
    · subst b; omega
    · subst b; omega
    · subst b; omega
    · subst b; exact (n 2 st').2.2
    · subst b; exact (n 4 st').2.2
    · subst b; exact (n 0 st').2.2
    · subst b
      have h1 := (n 1 s).2.1 (by decide)
      have h2 := E s h9
      omega
  · subst b; have := (n 3 st).1; omega
  · subst b; omega
  · subst b; have := (n 1 st).1; omega
  · exact E st h
section
variable {cc n k : Nat} {tk : Nat → Nat} {mp mk ms mr sk sl xp xk xs kp mc mn C N : Nat → Int32} {xf : Nat → Int64} {xr0 : Int32} {lf lc rs rz im : Nat → Int32} {so0 sr re : Int32}
theorem hw_3k (hA : he_Ac k tk) : ∀ (d i q : Nat) (cm : Bool) (st : List Nat), i + d = k → hg_run tk i = some (q, cm, st) → he_3 st ≤ d := by
  intro d
  induction d with
  | zero =>
    intro i q cm st hi hr
    obtain ⟨cm8, st8, h8⟩ := hA
    have e : i = k := by omega
    subst e
    rw [h8] at hr
    cases hr
    cases i with
    | zero => cases h8
    | succ i =>
      obtain ⟨u, _, h2⟩ := hq_bind (show (hg_run tk i).bind (fun u => hg_step (tk i) u.1 u.2.1 u.2.2) = some (8, cm, st) from h8)
      rw [hw_8 h2]
      exact Nat.le_refl _
  | succ d ih =>
    intro i q cm st hi hr
    by_cases q8 : q = 8
    · subst q8
      have := hw_at8 hA (by omega) hr
      omega
    · obtain ⟨_, q', cm', st', hs, hr'⟩ := ha_nx hA (by omega) hr q8
      have h1 := hw_3s hs
      have h2 := ih (i + 1) q' cm' st' (by omega) hr'
      omega
def hw_SimC (n k : Nat) (tk : Nat → Nat) (mp mk ms mr sk sl kp mc mn : Nat → Int32) (xp xk xs : Nat → Int32) (xf : Nat → Int64) (lf lc rz im : Nat → Int32) (sr re : Int32) (f : hd_Y) (i i' : Nat) (st : List Nat) (lev : Nat) : Prop :=
  ∀ (xr : Nat → Int64) (r : Nat) (sn : Int32) (fr ea wh so di ke : Nat → Int32) (Z : hw_T → Prop), 5 * r ≤ 24 * (i + 1) → (∃ s0, fr lev = nI s0 ∧ s0 ≤ r) → (∃ rk rv, hw_R n r rk rv xr) →
    ∃ e xr1 c1 sn1, f xp xk xs xf (nI n) lf lc rz im sr re xr (nI r) sn = some (e, xr1, c1, sn1) ∧ ((¬ e = 0 ∧ ((∀ T, hw_E e sn1 T → Z T) → hw_Po n k tk mp mk ms mr sk sl kp mc mn i st lev r sn fr ea wh so di ke xr Z)) ∨
      (e = 0 ∧ ∃ r1, c1 = nI r1 ∧ r ≤ r1 ∧ 5 * r1 ≤ 5 * r + 24 * (i' - i) ∧ (∃ rk rv, hw_R n r1 rk rv xr1) ∧ (hw_Po n k tk mp mk ms mr sk sl kp mc mn i' st lev r1 sn1 fr ea wh so di ke xr1 Z → hw_Po n k tk mp mk ms mr sk sl kp mc mn i st lev r sn fr ea wh so di ke xr Z)))
theorem hw_endq {i : Nat} {st : List Nat} (h : hw_end k tk i st) : tk i = 5 → ∃ cm', hg_run tk (i + 1) = some (0, cm', st) := fun t5 => by
  obtain ⟨_, q, cm, sq, q', cm', st', _, _, _, h4, h5⟩ := h
  rcases hg_endsI h4 with ⟨_, ⟨_, b, c⟩ | ⟨a, _⟩ | ⟨a, _⟩⟩
  · subst b c
    exact ⟨cm', h5⟩
  · omega
  · omega
theorem hw_seqcons {f : hd_Y} {fs : List hd_Y} {xr : Nat → Int64} {c sn : Int32} : hd_seq (f :: fs) xp xk xs xf (nI n) lf lc rz im sr re xr c sn = (f xp xk xs xf (nI n) lf lc rz im sr re xr c sn).bind fun v => if v.1 = 0 then hd_seq fs xp xk xs xf (nI n) lf lc rz im sr re v.2.1 v.2.2.1 v.2.2.2 else some v := rfl
theorem hw_chain (hK : he_K n k tk mc mn C N) {st : List Nat} {lev : Nat} {recS : Nat → Option (hd_Y × Nat × Nat)} {b : Nat}
    (hS : ∀ (i : Nat) (cm : Bool), b ≤ i → i ≤ k → hg_run tk i = some (0, cm, st) → ∃ f h i', recS i = some (f, h, i') ∧ i + 4 ≤ i' ∧ hw_end k tk i' st ∧ hw_Sim n k tk mp mk ms mr sk sl kp mc mn xp xk xs xf lf lc rz im sr re f i i' st lev) :
    ∀ (m i1 : Nat), 5 * (8 - m) + 4 ≤ i1 → m ≤ 8 → b ≤ i1 → hw_end k tk i1 st → ∃ fs h i', rd_lq C recS m i1 = some (fs, h, i') ∧ i1 ≤ i' ∧ hw_end k tk i' st ∧ ¬ tk i' = 5 ∧ hw_SimC n k tk mp mk ms mr sk sl kp mc mn xp xk xs xf lf lc rz im sr re (hd_seq fs) i1 i' st lev := by
  have hk := hK.2.1
  intro m
  induction m with
  | zero =>
    intro i1 h1 h2 h3 h4
    have := h4.1
    omega
  | succ m ih =>
    intro i1 h1 h2 h3 h4
    have hlt := h4.1
    show ∃ fs h i', (if C i1 = 5 then (recS (i1 + 1)).bind fun f => if i1 + 2 ≤ f.2.2 ∧ f.2.2 ≤ 41 then (rd_lq C recS m f.2.2).bind fun r => some (f.1 :: r.1, max f.2.1 r.2.1, r.2.2) else none else some ([], 0, i1)) = some (fs, h, i') ∧ _
    by_cases t5 : tk i1 = 5
    · rw [if_pos (ha_Cl 5 5 rfl hK hlt t5)]
      obtain ⟨cm', hr'⟩ := hw_endq h4 t5
      obtain ⟨f, hf, i2, r1, r2, r3, r4⟩ := hS (i1 + 1) cm' (by omega) (by omega) hr'
      have hlt2 := r3.1
      obtain ⟨fs, hfs, i', s1, s2, s3, s4, s5⟩ := ih i2 (by omega) (by omega) (by omega) r3
      refine ⟨f :: fs, max hf hfs, i', ?_, by omega, s3, s4, ?_⟩
      · rw [r1, Option.bind_some]
        show (if i1 + 2 ≤ i2 ∧ i2 ≤ 41 then (rd_lq C recS m i2).bind fun r => some (f :: r.1, max hf r.2.1, r.2.2) else none) = _
        rw [if_pos ⟨by omega, by omega⟩, s1, Option.bind_some]
      · intro xr r sn fr ea wh so di ke Z h5 hfr hRows
        have nPo : ∀ {xr : Nat → Int64} {r : Nat} {sn : Int32}, (hw_Go n k mp mk ms mr sk sl kp mc mn (i1 + 1) 0 cm' st lev (lev + 1) lev lev r sn fr ea wh so di ke xr Z) → hw_Po n k tk mp mk ms mr sk sl kp mc mn i1 st lev r sn fr ea wh so di ke xr Z := fun hG => ⟨fun _ cm9 h9 => by rw [hr'] at h9; cases h9; exact hG, fun w => absurd w (by omega), fun w => absurd w (by omega)⟩
        obtain ⟨e, xr1, c1, sn1, f1, f2⟩ := r4 cm' xr r sn fr ea wh so di ke Z hr' h5 hfr hRows
        rcases f2 with ⟨e0, f2⟩ | ⟨e0, r1', k1, k2, k3, k4, k5⟩
        · refine ⟨e, xr1, c1, sn1, ?_, Or.inl ⟨e0, fun hZ => nPo (f2 hZ)⟩⟩
          rw [hw_seqcons, f1, Option.bind_some]
          exact if_neg e0
        · subst e0 k1
          obtain ⟨s0, hs0, hs0r⟩ := hfr
          obtain ⟨e, xr2, c2, sn2, g1, g2⟩ := s5 xr1 r1' sn1 fr ea wh so di ke Z (by omega) ⟨s0, hs0, by omega⟩ k4
          have eq : hd_seq (f :: fs) xp xk xs xf (nI n) lf lc rz im sr re xr (nI r) sn = some (e, xr2, c2, sn2) := by
            rw [hw_seqcons, f1, Option.bind_some]
            exact (if_pos rfl).trans g1
          refine ⟨e, xr2, c2, sn2, eq, ?_⟩
          rcases g2 with ⟨e0, g2⟩ | ⟨e0, r2', w1, w2, w3, w4, w5⟩
          · exact Or.inl ⟨e0, fun hZ => nPo (k5 (g2 hZ))⟩
          · exact Or.inr ⟨e0, r2', w1, by omega, by omega, w4, fun hP => nPo (k5 (w5 hP))⟩
    · rw [if_neg (ha_Cln 5 5 rfl hK hlt (by decide) t5)]
      refine ⟨[], 0, i1, rfl, Nat.le_refl _, h4, t5, ?_⟩
      intro xr r sn fr ea wh so di ke Z h5 hfr hRows
      exact ⟨0, xr, nI r, sn, rfl, Or.inr ⟨rfl, r, rfl, Nat.le_refl _, by omega, hRows, fun hP => hP⟩⟩
theorem hw_Q (hK : he_K n k tk mc mn C N) (hA : he_Ac k tk) (hh : hh_I cc n mp mk ms mr sk sl xp xk xs xf xr0) (hV : hs_V n mr sk sl xs xr0 lf lc rs rz im so0 sr re) (hkp : ∀ i, i < n → hs_K n mr sk sl kp i) (hcl : ∀ p, p < k → tk p = 8 ∨ tk p = 9 → ∃ j, j < cc ∧ mn p = nI j) :
    ∀ (m dep i : Nat) (cm : Bool) (st : List Nat), k < m + i → i ≤ k → hg_run tk i = some (0, cm, st) → 4 * dep ≤ i → he_3 st = dep → ∃ us h i', rd_Q C N 100 m dep i = some (us, h, i') ∧ i + 4 ≤ i' ∧ hw_end k tk i' st ∧ ¬ tk i' = 5 ∧ hw_Sim n k tk mp mk ms mr sk sl kp mc mn xp xk xs xf lf lc rz im sr re (hd_seq us) i i' st dep := by
  have hk := hK.2.1
  intro m
  induction m with
  | zero => intro dep i cm st hm hi; omega
  | succ m ih =>
    intro dep i cm st hm hi hr h4 h3
    have hd8 : dep ≤ 8 := by
      have := hw_3k hA (k - i) i 0 cm st (by omega) hr
      omega
    have hS : ∀ (i : Nat) (cm : Bool), 4 * dep ≤ i ∧ k < m + 1 + i → i ≤ k → hg_run tk i = some (0, cm, st) → ∃ f h i', rd_S C N 100 (rd_Q C N 100 m (dep + 1)) i = some (f, h, i') ∧ i + 4 ≤ i' ∧ hw_end k tk i' st ∧ hw_Sim n k tk mp mk ms mr sk sl kp mc mn xp xk xs xf lf lc rz im sr re f i i' st dep := fun i cm hb hi hr => by
      refine hw_S hK hA hh hV hkp hcl hi hr (by omega) h3 (fun i2 cm2 h1 h2 hr2 => ?_)
      obtain ⟨us, h, i3, a1, a2, a3, a4, a5⟩ := ih (dep + 1) i2 cm2 (3 :: st) (by omega) h2 hr2 (by omega) (by show (if 3 = 3 then he_3 st + 1 else he_3 st) = dep + 1; rw [if_pos rfl, h3])
      obtain ⟨b1, q, cmq, sq, q', cm', st', b2, b3, b4, b5, b6⟩ := a3
      rcases hg_endsI b5 with ⟨_, ⟨w, _⟩ | ⟨w, w1, w2⟩ | ⟨_, _, w2, _⟩⟩
      · exact absurd w a4
      · cases w2
        subst w1
        exact ⟨us, h, i3, cm', a1, a2, b1, w, b6, a5⟩
      · cases w2
    obtain ⟨f, hf, i1, r1, r2, r3, r4⟩ := hS i cm ⟨h4, by omega⟩ hi hr
    have hlt1 := r3.1
    obtain ⟨fs, hfs, i', s1, s2, s3, s4, s5⟩ := hw_chain (b := i) hK (fun i9 cm9 hb hi9 hr9 => hS i9 cm9 ⟨by omega, by omega⟩ hi9 hr9) 8 i1 (by omega) (by decide) (by omega) r3
    refine ⟨f :: fs, max hf hfs, i', ?_, by omega, s3, s4, ?_⟩
    · show (if i ≤ 40 then rd_Q1 C (rd_S C N 100 (rd_Q C N 100 m (dep + 1))) dep i else none) = _
      unfold rd_Q1
      rw [if_pos (by omega : i ≤ 40), if_pos hd8, r1, Option.bind_some]
      show (if i + 1 ≤ i1 ∧ i1 ≤ 41 then (rd_lq C (rd_S C N 100 (rd_Q C N 100 m (dep + 1))) 8 i1).bind fun r => some (f :: r.1, max hf r.2.1, r.2.2) else none) = _
      rw [if_pos ⟨by omega, by omega⟩, s1, Option.bind_some]
    · intro cm9 xr r sn fr ea wh so di ke Z hr9 h5 hfr hRows
      obtain ⟨e, xr1, c1, sn1, f1, f2⟩ := r4 cm9 xr r sn fr ea wh so di ke Z hr9 h5 hfr hRows
      rcases f2 with ⟨e0, f2⟩ | ⟨e0, r1', k1, k2, k3, k4, k5⟩
      · refine ⟨e, xr1, c1, sn1, ?_, Or.inl ⟨e0, f2⟩⟩
        rw [hw_seqcons, f1, Option.bind_some]
        exact if_neg e0
      · subst e0 k1
        obtain ⟨s0, hs0, hs0r⟩ := hfr
        obtain ⟨e, xr2, c2, sn2, g1, g2⟩ := s5 xr1 r1' sn1 fr ea wh so di ke Z (by omega) ⟨s0, hs0, by omega⟩ k4
        have eq : hd_seq (f :: fs) xp xk xs xf (nI n) lf lc rz im sr re xr (nI r) sn = some (e, xr2, c2, sn2) := by
          rw [hw_seqcons, f1, Option.bind_some]
          exact (if_pos rfl).trans g1
        refine ⟨e, xr2, c2, sn2, eq, ?_⟩
        rcases g2 with ⟨e0, g2⟩ | ⟨e0, r2', w1, w2, w3, w4, w5⟩
        · exact Or.inl ⟨e0, fun hZ => k5 (g2 hZ)⟩
        · exact Or.inr ⟨e0, r2', w1, by omega, by omega, w4, fun hP => k5 (w5 hP)⟩
end
/-- how deep queries are nested -/
theorem rd_hQ {c n : Nat → Int32} {fe : Nat} : ∀ (m dep i : Nat) (u : List hd_Y × Nat × Nat), rd_Q c n fe m dep i = some u → u.2.1 + dep ≤ 8 := by
  intro m
  induction m with
  | zero => intro dep i u hu; cases hu
  | succ m ih =>
    intro dep i u hu
    obtain ⟨hp, hu⟩ := hq_ok (show (if i ≤ 40 then rd_Q1 c (rd_S c n fe (rd_Q c n fe m (dep + 1))) dep i else none) = some u from hu)
    unfold rd_Q1 at hu
    obtain ⟨hd, hu⟩ := hq_ok hu
    have W : ∀ (mk : hd_X → Option Nat → hd_Y) (h i : Nat) (f : hd_Y × Nat × Nat), rd_W c n fe mk h i = some f → f.2.1 = h := fun mk h i f hf => by
      unfold rd_W at hf
      by_cases c4 : c i = 4
      · rw [if_pos c4] at hf
        obtain ⟨w, _, hf⟩ := hq_bind hf
        obtain ⟨_, hf⟩ := hq_ok hf
        cases hf
        rfl
      · rw [if_neg c4] at hf
        cases hf
        rfl
    have S : ∀ (i : Nat) (f : hd_Y × Nat × Nat), rd_S c n fe (rd_Q c n fe m (dep + 1)) i = some f → f.2.1 + dep ≤ 8 := fun i f hf => by
      unfold rd_S at hf
      obtain ⟨_, hf⟩ := hq_ok hf
      obtain ⟨e, _, hf⟩ := hq_bind hf
      obtain ⟨_, hf⟩ := hq_ok hf
      by_cases c6 : c (e.2.2 + 1) = 6
      · rw [if_pos c6] at hf
        obtain ⟨v, hv, hf⟩ := hq_bind hf
        obtain ⟨_, hf⟩ := hq_ok hf
        have h1 := ih _ _ _ hv
        have h2 := W _ _ _ _ hf
        omega
      · rw [if_neg c6] at hf
        obtain ⟨_, hf⟩ := hq_ok hf
        have h2 := W _ _ _ _ hf
        omega
    have Lq : ∀ (m2 i : Nat) (r : List hd_Y × Nat × Nat), rd_lq c (rd_S c n fe (rd_Q c n fe m (dep + 1))) m2 i = some r → r.2.1 + dep ≤ 8 := by
      intro m2
      induction m2 with
      | zero => intro i r hr; cases hr
      | succ m2 ih2 =>
        intro i r hr
        have hr : (if c i = 5 then (rd_S c n fe (rd_Q c n fe m (dep + 1)) (i + 1)).bind fun f => if i + 2 ≤ f.2.2 ∧ f.2.2 ≤ 41 then (rd_lq c (rd_S c n fe (rd_Q c n fe m (dep + 1))) m2 f.2.2).bind fun r => some (f.1 :: r.1, max f.2.1 r.2.1, r.2.2) else none else some ([], 0, i)) = some r := hr
        by_cases c5 : c i = 5
        · rw [if_pos c5] at hr
          obtain ⟨f, hf, hr⟩ := hq_bind hr
          obtain ⟨_, hr⟩ := hq_ok hr
          obtain ⟨r2, hr2, hr⟩ := hq_bind hr
          cases hr
          have h1 := S _ _ hf
          have h2 := ih2 _ _ hr2
          show max f.2.1 r2.2.1 + dep ≤ 8
          omega
        · rw [if_neg c5] at hr
          cases hr
          show 0 + dep ≤ 8
          omega
    obtain ⟨f, hf, hu⟩ := hq_bind hu
    obtain ⟨_, hu⟩ := hq_ok hu
    obtain ⟨r, hr, hu⟩ := hq_bind hu
    cases hu
    have h1 := S _ _ hf
    have h2 := Lq _ _ _ hr
    show max f.2.1 r.2.1 + dep ≤ 8
    omega
