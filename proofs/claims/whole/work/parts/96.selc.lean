/-! a select as a whole -/
section
variable {cc n k : Nat} {mp mk ms mr sk sl xp xk xs kp : Nat → Int32} {xf : Nat → Int64} {xr0 : Int32} {lf lc rs rz im : Nat → Int32} {so sr re : Int32} {mc mn ea wh fr sw0 di ke : Nat → Int32} {dC dR : hd_X} {dN : hd_Y} {cond nested row : Option Nat} {lev pe : Nat} {sD sR sc sw : Int32}
theorem hw_tail (h : hh_I cc n mp mk ms mr sk sl xp xk xs xf xr0) (hV : hs_V n mr sk sl xs xr0 lf lc rs rz im so sr re) (hl : lev < 41) (hea : ea lev = nI pe) (hW : hw_W n k mc mn mk ms sk sl kp xk xs xf lc rz im dR pe) (hc : (cond = none ∧ wh lev < 0) ∨ (cond = some 0 ∧ ∃ pw, pw < 2 ^ 31 ∧ wh lev = nI pw ∧ hw_W n k mc mn mk ms sk sl kp xk xs xf lc rz im dC pw)) (hdi : di lev = sD) (hke : ke lev = sR) {s many : Nat} {ls rk rv : Nat → Int32} {xr : Nat → Int64} (hm : s + many ≤ 192) (hsn : s + n ≤ 192) (hR : hw_R n s rk rv xr) (hL : hw_L n s many ls xr)
    (sn a0 s0 b0 v0 w0 : Int32) (vk va wt : Nat → Int32) :
    ∃ e sn' xr' c' rc rk' rv' g, ((sxw_lookAtAll dC dR (nI s) xk xs xf (nI n) lc rz im xr (nI (s + many)) sn row cond).bind fun v25 => sxw_addSelect_J30 dN dC dR (nI s) v25.1 xp xk xs xf (nI n) lf lc rz im sr re v25.2.1 v25.2.2.1 v25.2.2.2 sD sR row nested sc sw cond) = some (e, xr', c', sn') ∧
      ((sm_select_L11 kF (nI s) 0 (nI n) mk ms sk sl kp (nI k) mc mn (nI s) rk rv (nI many) ls sn 0 (nI lev) ea wh a0 s0 b0 v0 vk va w0 wt).bind fun u11 => sm_select_J42 (nI s) mp (nI n) mk ms mr sk sl kp (nI k) mc mn u11.1 u11.2.1 u11.2.2.1 (nI many) ls u11.2.2.2.1 u11.2.2.2.2.1 (nI lev) fr ea wh sw0 di ke u11.2.2.2.2.2.1 u11.2.2.2.2.2.2.1 u11.2.2.2.2.2.2.2.1 u11.2.2.2.2.2.2.2.2.1 u11.2.2.2.2.2.2.2.2.2.1 u11.2.2.2.2.2.2.2.2.2.2.1 u11.2.2.2.2.2.2.2.2.2.2.2.1 u11.2.2.2.2.2.2.2.2.2.2.2.2) = some (rc, rk', rv', nI many, ls, sn', e, g) ∧
      (e = 0 → ∃ r', c' = nI r' ∧ rc = nI r' ∧ s ≤ r' ∧ (r' ≤ s + many ∨ r' ≤ s + n) ∧ hw_R n r' rk' rv' xr') := by
  have l41 : hq_I (nI lev) 41 = true := hb_I hl (by omega)
  have cl : (nI lev).toNatClampNeg = lev := nI_clamp (by omega)
  obtain ⟨e, sn', xr', c', rc, rk', rv', g, r1, r2, r3⟩ := hw_all (ea := ea) (wh := wh) (dC := dC) (row := row) (l1 := nI s) hl hea hW hc hm many 0 kF kF s rk rv xr sn a0 s0 b0 v0 w0 vk va wt (by omega) (hb_kF (by omega)) (hb_kF (by omega)) (Nat.le_refl _) (Nat.le_refl _) hR (fun j' _ b => hL j' b)
  have r1 : sxw_lookAtAll dC dR (nI s) xk xs xf (nI n) lc rz im xr (nI (s + many)) sn row cond = some (e, xr', c', sn') := r1
  have r2 : sm_select_L11 kF (nI s) 0 (nI n) mk ms sk sl kp (nI k) mc mn (nI s) rk rv (nI many) ls sn 0 (nI lev) ea wh a0 s0 b0 v0 vk va w0 wt = some (rc, rk', rv', sn', e, g) := r2
  rw [r1, r2, Option.bind_some, Option.bind_some]
  show ∃ e1 sn1 xr1 c1 rc1 rk1 rv1 g1, sxw_addSelect_J30 dN dC dR (nI s) e xp xk xs xf (nI n) lf lc rz im sr re xr' c' sn' sD sR row nested sc sw cond = some (e1, xr1, c1, sn1) ∧ sm_select_J42 (nI s) mp (nI n) mk ms mr sk sl kp (nI k) mc mn rc rk' rv' (nI many) ls sn' e (nI lev) fr ea wh sw0 di ke g.1 g.2.1 g.2.2.1 g.2.2.2.1 g.2.2.2.2.1 g.2.2.2.2.2.1 g.2.2.2.2.2.2.1 g.2.2.2.2.2.2.2 = some (rc1, rk1, rv1, nI many, ls, sn1, e1, g1) ∧ _
  unfold sxw_addSelect_J30 sm_select_J42
  by_cases e0 : e = 0
  · obtain ⟨r', k1, k2, k3, k4, k5⟩ := r3 e0
    subst e0 k1 k2
    rw [if_pos (rfl : (0 : Int32) = 0), if_pos (rfl : (0 : Int32) = 0), if_pos l41, cl, hke]
    by_cases sR0 : sR = 0
    · rw [if_pos sR0, if_pos sR0]
      unfold sm_select_J74
      rw [if_pos (rfl : (0 : Int32) = 0), if_pos l41, cl, hdi]
      by_cases sD0 : sD = 0
      · rw [if_pos sD0, if_pos sD0]
        exact ⟨0, sn', xr', nI r', nI r', rk', rv', _, rfl, rfl, fun _ => ⟨r', rfl, rfl, k3, Or.inl k4, k5⟩⟩
      · rw [if_neg sD0, if_neg sD0]
        obtain ⟨c2, rk2, rv2, xr2, e1, e2, e3, e4, e5⟩ := hw_single (s := s) (show r' ≤ 192 by omega) k3 k5
        rw [e1, e2, Option.bind_some, Option.bind_some]
        exact ⟨0, sn', xr2, nI c2, nI c2, rk2, rv2, _, rfl, rfl, fun _ => ⟨c2, rfl, rfl, e4, Or.inl (by omega), e5⟩⟩
    · rw [if_neg sR0, if_neg sR0]
      obtain ⟨rc2, rk2, rv2, f, xr2, c2, e1, e2, e3, e4⟩ := hw_ret h hV (show r' ≤ 192 by omega) k3 hsn k5
      rw [e1, e2, e3, Option.bind_some, Option.bind_some, Option.bind_some]
      refine ⟨f, sn', xr2, c2, rc2, rk2, rv2, _, rfl, rfl, fun f0 => ?_⟩
      obtain ⟨r2, w1, w2, w3, w4, w5⟩ := e4 f0
      exact ⟨r2, w2, w1, w4, Or.inr w3, w5⟩
  · rw [if_neg e0, if_neg e0]
    unfold sm_select_J74
    rw [if_neg e0]
    exact ⟨e, sn', xr', c', rc, rk', rv', _, rfl, rfl, fun q => absurd q e0⟩
/-- a select over a class -/
theorem hw_selC (h : hh_I cc n mp mk ms mr sk sl xp xk xs xf xr0) (hV : hs_V n mr sk sl xs xr0 lf lc rs rz im so sr re) (hl : lev < 41) (hea : ea lev = nI pe) (hW : hw_W n k mc mn mk ms sk sl kp xk xs xf lc rz im dR pe) (hc : (cond = none ∧ wh lev < 0) ∨ (cond = some 0 ∧ ∃ pw, pw < 2 ^ 31 ∧ wh lev = nI pw ∧ hw_W n k mc mn mk ms sk sl kp xk xs xf lc rz im dC pw)) (hdi : di lev = sD) (hke : ke lev = sR) {s pos t j : Nat} {rk rv : Nat → Int32} {xr : Nat → Int64} (hsn : s + n ≤ 192) (hR : hw_R n s rk rv xr)
    (hso : sw0 lev = nI pos) (hp : pos < 40) (hmc : mc pos = nI t) (hj : j < cc) (hmn : mn pos = nI j) (ht : (t = 8 ∧ sw = 0) ∨ (t = 9 ∧ sw = 1)) (many0 sn a0 s0 b0 v0 w0 : Int32) (ls0 vk va wt : Nat → Int32) :
    ∃ e sn' xr' c' rc rk' rv' my ls g, hd_sel hd_noQ dC dR sD sR row none (nI j) sw cond xp xk xs xf (nI n) lf lc rz im sr re xr (nI s) sn = some (e, xr', c', sn') ∧
      sm_select mp (nI n) mk ms mr sk sl kp (nI k) mc mn (nI s) rk rv many0 ls0 sn 0 (nI lev) fr ea wh sw0 di ke a0 s0 b0 v0 vk va w0 wt = some (rc, rk', rv', my, ls, sn', e, g) ∧ (e = 0 → ∃ r', c' = nI r' ∧ rc = nI r' ∧ s ≤ r' ∧ r' ≤ s + n ∧ hw_R n r' rk' rv' xr') := by
  have hn := h.2.1
  obtain ⟨a, ls, xr1, g1, g2, g3, g4, g5, g6⟩ := hw_G1 h (s := s) hp hmc hj hmn ht n 0 kF kF 0 ls0 xr (by omega) (hb_kF (by omega)) (hb_kF (by omega)) (Nat.le_refl _) (by omega) (fun j hj => by omega)
  have g1 : sm_gather_L105 kF (nI pos) 0 mp (nI n) mk mc mn 0 ls0 = some (nI a, ls) := g1
  have g2 : sxw_addObjectsOfClass_L8 kF (nI j) 0 xp xk (nI n) xr (nI s) sw = some (xr1, nI (s + a)) := g2
  have hR1 : hw_R n s rk rv xr1 := fun i hi => by
    obtain ⟨u, a1, a2, a3, a4, a5⟩ := hR i hi
    exact ⟨u, a1, a2, a3, a4, (g6 i hi).trans a5⟩
  obtain ⟨e, sn', xr', c', rc, rk', rv', g, r1, r2, r3⟩ := hw_tail (dN := hd_noQ) (nested := none) (row := row) (sc := nI j) (sw := sw) (fr := fr) (sw0 := sw0) h hV hl hea hW hc hdi hke (s := s) (many := a) (ls := ls) (rk := rk) (rv := rv) (xr := xr1) g5 hsn hR1 g3 sn a0 s0 b0 v0 w0 vk va wt
  refine ⟨e, sn', xr', c', rc, rk', rv', nI a, ls, g, ?_, ?_, fun q => ?_⟩
  · show sxw_addSelect hd_noQ dC dR 0 xp xk xs xf (nI n) lf lc rz im sr re xr (nI s) sn sD sR row none (nI j) sw cond = _
    unfold sxw_addSelect sxw_addSource sxw_addObjectsOfClass
    rw [if_pos rfl, g2, Option.bind_some, Option.bind_some, Option.bind_some, if_pos rfl]
    exact r1
  · unfold sm_select sm_gather
    rw [if_pos (hb_I hl (by omega)), nI_clamp (by omega), hso, if_pos (nI_pos' (by omega)), g1, Option.bind_some, Option.bind_some]
    exact r2
  · obtain ⟨r', w1, w2, w3, w4, w5⟩ := r3 q
    exact ⟨r', w1, w2, w3, by omega, w5⟩
/-- a select over a nested query whose rows lie there -/
theorem hw_selN (h : hh_I cc n mp mk ms mr sk sl xp xk xs xf xr0) (hV : hs_V n mr sk sl xs xr0 lf lc rs rz im so sr re) (hl : lev < 40) (hea : ea lev = nI pe) (hW : hw_W n k mc mn mk ms sk sl kp xk xs xf lc rz im dR pe) (hc : (cond = none ∧ wh lev < 0) ∨ (cond = some 0 ∧ ∃ pw, pw < 2 ^ 31 ∧ wh lev = nI pw ∧ hw_W n k mc mn mk ms sk sl kp xk xs xf lc rz im dC pw)) (hdi : di lev = sD) (hke : ke lev = sR) {s r : Nat} {rk rv : Nat → Int32} {xr xr1 : Nat → Int64} (hsn : s + n ≤ 192) (hsr : s ≤ r) (hr : r ≤ 192) (hR : hw_R n r rk rv xr1) (hno : ∀ i, s ≤ i → i < r → ¬ rk i = 1)
    (hso : sw0 lev = -1) (hfr : fr (lev + 1) = nI s) {sn1 : Int32} (sn : Int32) (hdN : dN xp xk xs xf (nI n) lf lc rz im sr re xr (nI s) sn1 = some (0, xr1, nI r, sn)) (hnum : sxw_hasNumber (nI s) xr1 (nI r) = some 0) (many0 a0 s0 b0 v0 w0 : Int32) (ls0 vk va wt : Nat → Int32) :
    ∃ e sn' xr' c' rc rk' rv' my ls g, hd_sel dN dC dR sD sR row (some 0) 0 0 cond xp xk xs xf (nI n) lf lc rz im sr re xr (nI s) sn1 = some (e, xr', c', sn') ∧
      sm_select mp (nI n) mk ms mr sk sl kp (nI k) mc mn (nI r) rk rv many0 ls0 sn 0 (nI lev) fr ea wh sw0 di ke a0 s0 b0 v0 vk va w0 wt = some (rc, rk', rv', my, ls, sn', e, g) ∧ (e = 0 → ∃ r', c' = nI r' ∧ rc = nI r' ∧ s ≤ r' ∧ (r' ≤ r ∨ r' ≤ s + n) ∧ hw_R n r' rk' rv' xr') := by
  have hn := h.2.1
  obtain ⟨a, ls, xr2, g1, g2, g3, g4, g5⟩ := hw_G2 (n := n) (s := s) (rk := rk) (rv := rv) hr (r - s) s kF kF 0 ls0 xr1 (by omega) (hb_kF (by omega)) (hb_kF (by omega)) (Nat.le_refl _) (fun j hj => by omega) (fun i h1 h2 => by
    obtain ⟨u, a1, a2, a3, a4, a5⟩ := hR i h2
    have : ¬ u.1 = 1 := fun q => hno i h1 h2 (by rw [a3, q]; rfl)
    exact ⟨u, by omega, a2, a3, a4, a5⟩)
  have g1 : sm_gather_L31 kF (nI s) (nI r) rk rv 0 ls0 = some (nI a, ls) := g1
  have g2 : sxw_leaveOutEmpty_L12 kF (nI r) (nI s) xr1 (nI s) = some (xr2, nI (s + a)) := g2
  have hR1 : hw_R n s rk rv xr2 := fun i hi => by
    obtain ⟨u, a1, a2, a3, a4, a5⟩ := hR i (by omega)
    exact ⟨u, a1, a2, a3, a4, (g5 i hi).trans a5⟩
  obtain ⟨e, sn', xr', c', rc, rk', rv', g, r1, r2, r3⟩ := hw_tail (dN := dN) (nested := some 0) (row := row) (sc := 0) (sw := 0) (fr := fr) (sw0 := sw0) h hV (by omega) hea hW hc hdi hke (s := s) (many := a) (ls := ls) (rk := rk) (rv := rv) (xr := xr2) (by omega) hsn hR1 g3 sn a0 s0 b0 v0 w0 vk va wt
  refine ⟨e, sn', xr', c', rc, rk', rv', nI a, ls, g, ?_, ?_, fun q => ?_⟩
  · show sxw_addSelect dN dC dR 0 xp xk xs xf (nI n) lf lc rz im sr re xr (nI s) sn1 sD sR row (some 0) 0 0 cond = _
    unfold sxw_addSelect sxw_addSource sxw_leaveOutEmpty
    rw [if_neg (Option.some_ne_none 0), hdN, Option.bind_some, if_pos rfl, hnum, Option.bind_some, if_pos rfl, g2, Option.bind_some, Option.bind_some, Option.bind_some, if_pos rfl]
    exact r1
  · have nn : ¬ (0 : Int32) ≤ -1 := by decide
    unfold sm_select sm_gather
    rw [if_pos (hb_I (show lev < 41 by omega) (by omega)), nI_clamp (show lev < 2 ^ 31 by omega), hso, if_neg nn, nI_1, if_pos (hb_I (show lev + 1 < 41 by omega) (by omega)), nI_clamp (show lev + 1 < 2 ^ 31 by omega), hfr, g1, Option.bind_some, if_pos (hb_I (show lev + 1 < 41 by omega) (by omega)), Option.bind_some]
    exact r2
  · obtain ⟨r', w1, w2, w3, w4, w5⟩ := r3 q
    exact ⟨r', w1, w2, w3, by omega, w5⟩
/-- a nested query that fails, or gives numbers -/
theorem hw_selF {e : Int32} {xr xr1 : Nat → Int64} {s c1 sn1 sn : Int32} (he : ¬ e = 0) (hdN : dN xp xk xs xf (nI n) lf lc rz im sr re xr s sn1 = some (e, xr1, c1, sn)) : hd_sel dN dC dR sD sR row (some 0) 0 0 cond xp xk xs xf (nI n) lf lc rz im sr re xr s sn1 = some (e, xr1, c1, sn) := by
  show sxw_addSelect dN dC dR 0 xp xk xs xf (nI n) lf lc rz im sr re xr s sn1 sD sR row (some 0) 0 0 cond = _
  unfold sxw_addSelect sxw_addSource
  rw [if_neg (Option.some_ne_none 0), hdN, Option.bind_some, if_neg he, Option.bind_some, if_neg he]
  unfold sxw_addSelect_J30
  rw [if_neg he]
theorem hw_selM {xr xr1 : Nat → Int64} {s c1 sn1 sn : Int32} (hdN : dN xp xk xs xf (nI n) lf lc rz im sr re xr s sn1 = some (0, xr1, c1, sn)) (hnum : sxw_hasNumber s xr1 c1 = some 1) : hd_sel dN dC dR sD sR row (some 0) 0 0 cond xp xk xs xf (nI n) lf lc rz im sr re xr s sn1 = some (-4, xr1, c1, sn) := by
  show sxw_addSelect dN dC dR 0 xp xk xs xf (nI n) lf lc rz im sr re xr s sn1 sD sR row (some 0) 0 0 cond = _
  unfold sxw_addSelect sxw_addSource
  rw [if_neg (Option.some_ne_none 0), hdN, Option.bind_some, if_pos rfl, hnum, Option.bind_some, if_neg (by decide : ¬ (1 : Int32) = 0), Option.bind_some, if_neg (by decide : ¬ (-4 : Int32) = 0)]
  unfold sxw_addSelect_J30
  rw [if_neg (by decide : ¬ (-4 : Int32) = 0)]
end
