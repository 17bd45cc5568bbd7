/-! run as a whole -/
section
variable {cc n k : Nat} {tk : Nat → Nat} {p : Nat} {cm : Bool} {st : List Nat} {mc mn xc xn brk : Nat → Int32} {bc pl iw cx : Int32} {mp mk ms mr sk sl xp xk xs : Nat → Int32} {xf : Nat → Int64} {xr0 : Int32} {lf lc rs rz im : Nat → Int32} {so0 sr re : Int32}
theorem hw_Kof (hn : n ≤ 24) (h : ht_I cc k tk p cm st mc mn xc xn brk bc pl iw cx) : he_K n k tk mc mn (rd_cd xc k) (rd_nu xn k) := by
  refine ⟨hn, h.1, fun i hi => ?_, fun i hi => if_neg (by omega)⟩
  obtain ⟨a, b, c, d, _, e2, e3⟩ := h.2.1 i hi
  exact ⟨a, (if_pos hi : rd_cd xc k i = xc i).trans c, b, (if_pos hi : rd_nu xn k i = xn i).trans d, e2, e3⟩
theorem hw_read (h : ht_I cc k tk 8 cm st mc mn xc xn brk bc pl iw cx) (hh : hh_I cc n mp mk ms mr sk sl xp xk xs xf xr0) : ∃ us hg i', rd_Q (rd_cd xc k) (rd_nu xn k) 100 100 0 0 = some (us, hg, i') ∧ hg ≤ 8 ∧ i' ≤ 39 := by
  have hn := hh.2.1
  have hK := hw_Kof hn h
  obtain ⟨lf', lc', rs', rz', dm', im', so', sr', re', r1, r2⟩ := hh_refresh hh (ch := 1) (lf := fun _ => 0) (lc := fun _ => 0) (rs := fun _ => 0) (rz := fun _ => 0) (dm := fun _ => 0) (im := fun _ => 0) (so := 0) (sr := 0) (re := 0) (fun q => absurd q (by decide))
  obtain ⟨kp', k1, k2⟩ := qm_keepSets (rt := mr) (fun _ => 0) hn (hh_Vv hh)
  obtain ⟨us, hg, i', q1, q2, q3, q4, q5⟩ := hw_Q hK ⟨cm, st, h.2.2.1⟩ hh r2 k2 (fun i hi t8 => (h.2.1 i hi).2.2.2.2.1 t8) 100 0 0 false [] (by have := h.1; omega) (Nat.zero_le _) rfl (by omega) rfl
  have := rd_hQ _ _ _ _ q1
  have := q3.1
  have := h.1
  exact ⟨us, hg, i', q1, by assumption, by omega⟩
theorem hw_runs (h : ht_I cc k tk 8 cm st mc mn xc xn brk bc pl iw cx) (hh : hh_I cc n mp mk ms mr sk sl xp xk xs xf xr0) (hV : hs_V n mr sk sl xs xr0 lf lc rs rz im so0 sr re) {us : List hd_Y} {hg i' : Nat} (hu : rd_Q (rd_cd xc k) (rd_nu xn k) 100 100 0 0 = some (us, hg, i')) (xr : Nat → Int64)
    (kp0 opn rk rv ls fr ea wh so di ke vk va wt : Nat → Int32) (w0 c0 o0 rc0 my sn0 f0 lev0 a0 s0 b0 v0 w1 : Int32) :
    ∃ e xr1 c1 sn1 R, hd_seq us xp xk xs xf (nI n) lf lc rz im sr re xr 0 0 = some (e, xr1, c1, sn1) ∧ sm_run mp (nI n) mk ms mr sk sl kp0 (nI k) mc mn w0 c0 o0 opn rc0 rk rv my ls sn0 f0 lev0 fr ea wh so di ke a0 s0 b0 v0 vk va w1 wt = some R ∧ R.1 = (if e = 0 then c1 else e) ∧ R.2.2.2.2.2.2.1 = (if e = 0 then c1 else 0) ∧ R.2.2.2.2.2.2.2.2.2.2.2.1 = sn1 ∧ (e = 0 → ∃ r1, r1 ≤ 192 ∧ c1 = nI r1 ∧ hw_R n r1 R.2.2.2.2.2.2.2.1 R.2.2.2.2.2.2.2.2.1 xr1) := by
  have hn := hh.2.1
  have hk := h.1
  have hK := hw_Kof hn h
  have hA : he_Ac k tk := ⟨cm, st, h.2.2.1⟩
  obtain ⟨kp', k1, k2⟩ := qm_keepSets (rt := mr) kp0 hn (hh_Vv hh)
  obtain ⟨us', hg', i2, q1, q2, q3, q4, q5⟩ := hw_Q (mp := mp) (mk := mk) (ms := ms) (xp := xp) hK hA hh hV k2 (fun i hi t8 => (h.2.1 i hi).2.2.2.2.1 t8) 100 0 0 false [] (by omega) (Nat.zero_le _) rfl (by omega) rfl
  rw [hu] at q1
  cases q1
  obtain ⟨hi', q, cmq, sq, q', cm', st', b2, b3, b4, b5, b6⟩ := q3
  have ⟨t24, hk1⟩ : tk i' = 24 ∧ k = i' + 1 := by
    rcases hg_endsI b5 with ⟨_, ⟨w, _⟩ | ⟨_, _, w⟩ | ⟨w, w1, _⟩⟩
    · exact absurd w q4
    · cases w
    · subst w1
      have := hw_at8 hA (by omega) b6
      exact ⟨w, by omega⟩
  obtain ⟨e, xr1, c1, sn1, f1, f2⟩ := q5 false xr 0 0 (upd fr 0 0) ea wh so di ke (fun T => ∀ e xr1 c1 sn1, hd_seq us xp xk xs xf (nI n) lf lc rz im sr re xr (nI 0) 0 = some (e, xr1, c1, sn1) → (¬ e = 0 → hw_E e sn1 T) ∧ (e = 0 → ∃ r1, r1 ≤ 192 ∧ c1 = nI r1 ∧ hw_Z n xr1 r1 sn1 T)) rfl (by omega) ⟨0, pk_us, Nat.le_refl _⟩ ⟨fun _ => 0, fun _ => 0, fun i hi => by omega⟩
  have G : hw_Go n k mp mk ms mr sk sl kp' mc mn 0 0 false [] 0 1 0 0 0 0 (upd fr 0 0) ea wh so di ke xr (fun T => ∀ e xr1 c1 sn1, hd_seq us xp xk xs xf (nI n) lf lc rz im sr re xr (nI 0) 0 = some (e, xr1, c1, sn1) → (¬ e = 0 → hw_E e sn1 T) ∧ (e = 0 → ∃ r1, r1 ≤ 192 ∧ c1 = nI r1 ∧ hw_Z n xr1 r1 sn1 T)) := by
    rcases f2 with ⟨e0, f2⟩ | ⟨e0, r1, g1, g2, g3, g4, g5⟩
    · refine f2 (fun T hT e' xr' c' sn' h' => ?_)
      rw [f1] at h'
      cases h'
      exact ⟨fun _ => hT, fun w => absurd w e0⟩
    · refine g5 ⟨fun w => absurd w (by omega), fun _ T hT e' xr' c' sn' h' => ?_, fun w => absurd w (by omega)⟩
      rw [f1] at h'
      cases h'
      exact ⟨fun w => absurd e0 w, fun _ => ⟨r1, by omega, g1, hT⟩⟩
  obtain ⟨T, t1, t2⟩ := G kF opn rk rv ls (upd fr 0 0) ea wh so di ke vk va wt my a0 s0 b0 v0 w1 (by have : 42 < kF := hb_kF (by decide); omega) True.intro (fun i hi => by omega) hw_Ag.rf hw_Ag.rf hw_Ag.rf hw_Ag.rf hw_Ag.rf hw_Ag.rf
  obtain ⟨t3, t4⟩ := t2 e xr1 c1 sn1 f1
  have t1 : sm_run_L62 kF 0 mp (nI n) mk ms mr sk sl kp' (nI k) mc mn ((sm_start w0 c0 o0).1) ((sm_start w0 c0 o0).2.1) ((sm_start w0 c0 o0).2.2) opn 0 rk rv my ls 0 0 0 (upd fr (0 : Int32).toNatClampNeg 0) ea wh so di ke a0 s0 b0 v0 vk va w1 wt = some T := t1
  have hc : mc i' = 24 := by
    rw [(h.2.1 i' hi').2.1, t24]
    rfl
  have ek : nI k - 1 = nI i' := by
    rw [hk1]
    exact nI_pred _
  have M : sm_run mp (nI n) mk ms mr sk sl kp0 (nI k) mc mn w0 c0 o0 opn rc0 rk rv my ls sn0 f0 lev0 fr ea wh so di ke a0 s0 b0 v0 vk va w1 wt = sm_run_J105 mp (nI n) mk ms mr sk sl kp' (nI k) mc mn T.1 T.2.1 T.2.2.1 T.2.2.2.1 T.2.2.2.2.1 T.2.2.2.2.2.1 T.2.2.2.2.2.2.1 T.2.2.2.2.2.2.2.1 T.2.2.2.2.2.2.2.2.1 T.2.2.2.2.2.2.2.2.2.1 T.2.2.2.2.2.2.2.2.2.2.1 T.2.2.2.2.2.2.2.2.2.2.2.1 T.2.2.2.2.2.2.2.2.2.2.2.2.1 T.2.2.2.2.2.2.2.2.2.2.2.2.2.1 T.2.2.2.2.2.2.2.2.2.2.2.2.2.2.1 T.2.2.2.2.2.2.2.2.2.2.2.2.2.2.2.1 T.2.2.2.2.2.2.2.2.2.2.2.2.2.2.2.2.1 T.2.2.2.2.2.2.2.2.2.2.2.2.2.2.2.2.2.1 T.2.2.2.2.2.2.2.2.2.2.2.2.2.2.2.2.2.2.1 T.2.2.2.2.2.2.2.2.2.2.2.2.2.2.2.2.2.2.2.1 T.2.2.2.2.2.2.2.2.2.2.2.2.2.2.2.2.2.2.2.2.1 T.2.2.2.2.2.2.2.2.2.2.2.2.2.2.2.2.2.2.2.2.2.1 T.2.2.2.2.2.2.2.2.2.2.2.2.2.2.2.2.2.2.2.2.2.2.1 T.2.2.2.2.2.2.2.2.2.2.2.2.2.2.2.2.2.2.2.2.2.2.2.1 T.2.2.2.2.2.2.2.2.2.2.2.2.2.2.2.2.2.2.2.2.2.2.2.2.1 T.2.2.2.2.2.2.2.2.2.2.2.2.2.2.2.2.2.2.2.2.2.2.2.2.2 := by
    unfold sm_run
    rw [if_neg (show ¬ nI k = 0 from he_q 0 0 rfl (by omega) (by omega) (by omega)), ek, if_pos (hb_I (show i' < 40 by omega) (by omega)), nI_clamp (show i' < 2 ^ 31 by omega), if_pos hc, if_pos (by decide : hq_I (0 : Int32) 41 = true), k1, Option.bind_some, t1, Option.bind_some]
  rw [M]
  unfold sm_run_J105 sm_run_J121
  by_cases e0 : e = 0
  · obtain ⟨r1, g1, g2, ⟨g3, g4⟩, g5, g6⟩ := t4 e0
    rw [if_pos g3, if_pos g3]
    exact ⟨e, xr1, c1, sn1, _, f1, rfl, (g5.trans g2.symm).trans (if_pos e0).symm, (g5.trans g2.symm).trans (if_pos e0).symm, g4, fun _ => ⟨r1, g1, g2, g6⟩⟩
  · obtain ⟨g3, g4⟩ := t3 e0
    have n3 : ¬ T.2.2.2.2.2.2.2.2.2.2.1 = 0 := by rw [g3]; exact e0
    rw [if_neg n3, if_neg n3]
    exact ⟨e, xr1, c1, sn1, _, f1, rfl, g3.trans (if_neg e0).symm, (if_neg e0).symm, g4, fun w => absurd w e0⟩
end
