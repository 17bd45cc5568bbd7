section
variable {c n : Nat} {mp mk ms mr sk sl xp xk xs : Nat → Int32} {xf : Nat → Int64} {xr : Int32}
theorem hh_F (h : hh_I c n mp mk ms mr sk sl xp xk xs xf xr) : hs_F n sk sl xf := h.2.2.2.2.1
theorem hh_Vv (h : hh_I c n mp mk ms mr sk sl xp xk xs xf xr) : hb_V n sk sl := hs_F_V h.2.1 (hh_F h)
theorem hh_refresh (h : hh_I c n mp mk ms mr sk sl xp xk xs xf xr) {ch : Int32} {lf lc rs rz dm im : Nat → Int32} {so sr re : Int32} (hval : ch = 0 → hs_V n mr sk sl xs xr lf lc rs rz im so sr re) :
    ∃ lf' lc' rs' rz' dm' im' so' sr' re', sxh_refreshSurvey xs xf (nI n) xr ch lf lc rs rz dm im so sr re = some (0, lf', lc', rs', rz', dm', im', so', sr', re') ∧ hs_V n mr sk sl xs xr lf' lc' rs' rz' im' so' sr' re' := by
  unfold sxh_refreshSurvey
  by_cases e : ch = 0
  · rw [if_pos e]
    exact ⟨lf, lc, rs, rz, dm, im, so, sr, re, by rw [e], hval e⟩
  · rw [if_neg e]
    obtain ⟨lf', lc', rs', rz', dm', im', re', h1, h2⟩ := qx_takeOf (rt := mr) (ms := xs) (xr := xr) h.2.1 (hh_F h) h.2.2.2.2.2.2 lf lc rs rz dm im so sr re
    rw [h1]
    exact ⟨lf', lc', rs', rz', dm', im', nI n, xr, re', rfl, h2⟩
theorem hh_dominator (h : hh_I c n mp mk ms mr sk sl xp xk xs xf xr) (x : Int32) (kp : Nat → Int32) {ch : Int32} {lf lc rs rz dm im : Nat → Int32} {so sr re : Int32} (hval : ch = 0 → hs_V n mr sk sl xs xr lf lc rs rz im so sr re) :
    ∃ r kp' ch' lf' lc' rs' rz' dm' im' so' sr' re', sm_dominator x (nI n) mr sk sl kp = some (r, kp') ∧ sxq_dominator x xs xf (nI n) xr ch lf lc rs rz dm im so sr re = some (r, ch', lf', lc', rs', rz', dm', im', so', sr', re') ∧ (ch' = 0 ∨ ch' = ch) ∧ (ch' = 0 → hs_V n mr sk sl xs xr lf' lc' rs' rz' im' so' sr' re') := by
  have hn := h.2.1
  unfold sm_dominator sxq_dominator
  rw [hh_there]
  rcases hh_has (x := x) (n := n) (by omega) with ⟨w, _⟩ | ⟨w, o, ho, rfl⟩
  · rw [w, if_pos (rfl : (0 : Int32) = 0), if_pos (rfl : (0 : Int32) = 0)]
    exact ⟨-2, kp, ch, lf, lc, rs, rz, dm, im, so, sr, re, rfl, rfl, Or.inr rfl, hval⟩
  · obtain ⟨kp', k1, k2⟩ := qm_keepSets (rt := mr) kp hn (hh_Vv h)
    obtain ⟨r, i1, i2⟩ := qm_immediate (kp := kp') hn ho
    obtain ⟨lf', lc', rs', rz', dm', im', so', sr', re', r1, r2⟩ := hh_refresh h (dm := dm) hval
    have e : r = im' o := hs_imm_eq i2 (hs_imm_to (fun i hi => hs_K_eq (r2.2.2.2.2.2.1 i hi).1 (k2 i hi)) (r2.2.2.2.2.2.2 o ho))
    refine ⟨r, kp', 0, lf', lc', rs', rz', dm', im', so', sr', re', ?_, ?_, Or.inl rfl, fun _ => r2⟩
    · rw [w, if_neg (by decide : ¬ (1 : Int32) = 0), k1]
      rw [Option.bind_some]
      rw [i1]
      rfl
    · rw [w, if_neg (by decide : ¬ (1 : Int32) = 0), r1]
      rw [Option.bind_some]
      unfold sxs_immediateDominatorOf
      rw [if_pos (hb_I (by omega) (by omega)), nI_clamp (by omega), e]
      rfl
theorem hh_retained (h : hh_I c n mp mk ms mr sk sl xp xk xs xf xr) (x : Int32) {ch : Int32} {lf lc rs rz dm im : Nat → Int32} {so sr re : Int32} (hval : ch = 0 → hs_V n mr sk sl xs xr lf lc rs rz im so sr re) :
    ∃ r ch' lf' lc' rs' rz' dm' im' so' sr' re', sm_retained x (nI n) ms mr sk sl = some r ∧ sxq_retained x xs xf (nI n) xr ch lf lc rs rz dm im so sr re = some (r, ch', lf', lc', rs', rz', dm', im', so', sr', re') ∧ (ch' = 0 ∨ ch' = ch) ∧ (ch' = 0 → hs_V n mr sk sl xs xr lf' lc' rs' rz' im' so' sr' re') := by
  have hn := h.2.1
  unfold sm_retained sxq_retained
  rw [hh_there]
  rcases hh_has (x := x) (n := n) (by omega) with ⟨w, _⟩ | ⟨w, o, ho, rfl⟩
  · rw [w, if_pos (rfl : (0 : Int32) = 0), if_pos (rfl : (0 : Int32) = 0)]
    exact ⟨-1, ch, lf, lc, rs, rz, dm, im, so, sr, re, rfl, rfl, Or.inr rfl, hval⟩
  · obtain ⟨A, a1, a2⟩ := qm_reach (rt := mr) 0 hn (hh_Vv h)
    obtain ⟨S, s1, s2⟩ := qm_reach (rt := mr) ((1 : Int32) <<< (nI o &&& 31)) hn (hh_Vv h)
    obtain ⟨lf', lc', rs', rz', dm', im', so', sr', re', r1, r2⟩ := hh_refresh h (dm := dm) hval
    obtain ⟨⟨A', S', q1, q2, q3⟩, q4⟩ := r2.2.2.2.2.2.1 o ho
    have e : rz' o = hs_sum ms (A &&& (S ^^^ (-1))) n := by
      rw [q4, q3, hb_R_eq q1 a2, hb_R_eq q2 s2]
      exact hs_sum_to n (fun i hi => (h.2.2.2.1 i hi).2.2.symm)
    refine ⟨rz' o, 0, lf', lc', rs', rz', dm', im', so', sr', re', ?_, ?_, Or.inl rfl, fun _ => r2⟩
    · rw [w, if_neg (by decide : ¬ (1 : Int32) = 0), a1]
      rw [Option.bind_some]
      rw [s1]
      rw [Option.bind_some]
      rw [qm_sum _ hn, e]
      rfl
    · rw [w, if_neg (by decide : ¬ (1 : Int32) = 0), r1]
      rw [Option.bind_some]
      unfold sxs_retainedSizeOf
      rw [if_pos (hb_I (by omega) (by omega)), nI_clamp (by omega)]
      rfl
end
