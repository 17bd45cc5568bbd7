/-! the snapshot: class and reference hold the same -/
def hh_I (c n : Nat) (mp mk ms mr sk sl : Nat → Int32) (xp xk xs : Nat → Int32) (xf : Nat → Int64) (xr : Int32) : Prop :=
  c ≤ 8 ∧ n ≤ 24 ∧ (∀ i, i < c → mp i = xp i ∧ (mp i = -1 ∨ ∃ j, j < i ∧ mp i = nI j)) ∧
  (∀ i, i < n → mk i = xk i ∧ (∃ j, j < c ∧ mk i = nI j) ∧ ms i = xs i) ∧
  (∀ i, i < 96 → ∃ b, b < 3 ∧ sk i = nI b ∧ xf i = hv b (sl i) ∧ (b = 0 → sl i = 0) ∧ (b = 2 → ∃ t, t < n ∧ sl i = nI t) ∧ (4 * n ≤ i → b = 0)) ∧
  (∀ o, o < 24 → (mr o = 0 ∨ mr o = 1) ∧ (n ≤ o → mr o = 0)) ∧ ∀ o, o < 32 → (bt xr o = true ↔ o < n ∧ ¬ mr o = 0)
section
variable {c n : Nat} {mp mk ms mr sk sl xp xk xs : Nat → Int32} {xf : Nat → Int64} {xr : Int32}
theorem hh_m1 {x : Int32} (h : x < 0) (h2 : ¬ x < -1) : x = -1 := by
  apply Int32.toInt_inj.mp
  rw [Int32.lt_iff_toInt_lt, show (0 : Int32).toInt = 0 from by decide] at h
  rw [Int32.lt_iff_toInt_lt, show (-1 : Int32).toInt = -1 from by decide] at h2
  rw [show (-1 : Int32).toInt = -1 from by decide]
  omega
theorem hh_nm1 {j : Nat} (h : j < 2 ^ 31) : ¬ nI j < -1 := by
  rw [Int32.lt_iff_toInt_lt, nI_toInt h, show (-1 : Int32).toInt = -1 from by decide]; omega
theorem hh_ne1 {j : Nat} (h : j < 2 ^ 31) : ¬ nI j = -1 := by
  intro q
  have := congrArg Int32.toInt q
  rw [nI_toInt h, show (-1 : Int32).toInt = -1 from by decide] at this
  omega
theorem hh_ge0 {x : Int32} {c : Nat} (hc : c < 2 ^ 31) (h : nI c ≤ x) : ¬ x < 0 ∧ ¬ x < -1 ∧ ¬ x = -1 := by
  rw [Int32.le_iff_toInt_le, nI_toInt hc] at h
  refine ⟨?_, ?_, fun q => ?_⟩
  · rw [Int32.lt_iff_toInt_lt, show (0 : Int32).toInt = 0 from by decide]; omega
  · rw [Int32.lt_iff_toInt_lt, show (-1 : Int32).toInt = -1 from by decide]; omega
  · rw [q, show (-1 : Int32).toInt = -1 from by decide] at h; omega
theorem hh_nle {j c : Nat} (h : j < c) (hc : c < 2 ^ 31) : ¬ nI c ≤ nI j := nI_ge h hc
theorem hh_has {x : Int32} (hn : n < 2 ^ 31) : (sxh_hasObject x (nI n) = 0 ∧ ¬ ∃ j, j < n ∧ x = nI j) ∨ (sxh_hasObject x (nI n) = 1 ∧ ∃ j, j < n ∧ x = nI j) := by
  unfold sxh_hasObject
  rcases pk_ix x hn with h | h | ⟨j, hj, rfl⟩
  · refine Or.inl ⟨if_pos h, ?_⟩
    rintro ⟨j, hj, rfl⟩
    exact nI_pos (by omega) h
  · refine Or.inl ⟨?_, ?_⟩
    · rw [if_neg (hh_ge0 hn h).1, if_pos h]
    · rintro ⟨j, hj, rfl⟩
      exact hh_nle hj hn h
  · refine Or.inr ⟨?_, j, hj, rfl⟩
    rw [if_neg (nI_pos (by omega)), if_neg (hh_nle hj hn)]
theorem hh_there (x k : Int32) : sm_there x k = sxh_hasObject x k := rfl
theorem hh_hasClass (x k : Int32) : sxh_hasClass x k = sxh_hasObject x k := rfl
theorem hh_addClass (h : hh_I c n mp mk ms mr sk sl xp xk xs xf xr) (x : Int32) :
    ∃ r c' mp' xp', sm_addClass x (nI c) mp = some (r, nI c', mp') ∧ sxq_addClass x xp (nI c) = some (r, xp', nI c') ∧ hh_I c' n mp' mk ms mr sk sl xp' xk xs xf xr := by
  have hI := h
  obtain ⟨hc, hn, h1, h2, h3, h4, h5⟩ := h
  have ref : sm_addClass x (nI c) mp = some (-1, nI c, mp) → sxh_makeClass x xp (nI c) = some (-1, xp, nI c) → ∃ r c' mp' xp', sm_addClass x (nI c) mp = some (r, nI c', mp') ∧ sxq_addClass x xp (nI c) = some (r, xp', nI c') ∧ hh_I c' n mp' mk ms mr sk sl xp' xk xs xf xr := fun a b => by
    refine ⟨-1, c, mp, xp, a, ?_, hI⟩
    unfold sxq_addClass
    rw [b]; rfl
  by_cases h8 : c = 8
  · subst h8
    apply ref
    · unfold sm_addClass
      rw [if_neg (by decide : ¬ nI 8 < 8)]
      by_cases a : x < -1
      · rw [if_pos a]
      · rw [if_neg a]
        by_cases b : nI 8 ≤ x
        · rw [if_pos b]
        · rw [if_neg b]
    · unfold sxh_makeClass
      rw [if_pos (by decide)]
  · have e8 : ¬ (8 : Int32) ≤ nI c := fun q => by have := (nI_leI (a := 8) (by omega) (by omega)).mp q; omega
    have acc : (x = -1 ∨ ∃ j, j < c ∧ x = nI j) → ∃ r c' mp' xp', sm_addClass x (nI c) mp = some (r, nI c', mp') ∧ sxq_addClass x xp (nI c) = some (r, xp', nI c') ∧ hh_I c' n mp' mk ms mr sk sl xp' xk xs xf xr := fun hx => by
      refine ⟨nI c + 1 - 1, c + 1, upd mp c x, upd xp c x, ?_, ?_, by omega, hn, fun i hi => ?_, fun i hi => ⟨(h2 i hi).1, ?_, (h2 i hi).2.2⟩, h3, h4, h5⟩
      · unfold sm_addClass
        have a : ¬ x < -1 := by
          rcases hx with rfl | ⟨j, hj, rfl⟩
          · decide
          · exact hh_nm1 (by omega)
        have b : ¬ nI c ≤ x := by
          rcases hx with rfl | ⟨j, hj, rfl⟩
          · intro q; exact (hh_ge0 (by omega) q).2.2 rfl
          · exact hh_nle hj (by omega)
        rw [if_neg a, if_neg b, if_pos (show nI c < 8 from (nI_ltI (b := 8) (by omega) (by omega)).mpr (by omega)), if_pos (hb_I (by omega) (by omega)), nI_clamp (by omega), nI_succ]
      · have j24 : sxh_makeClass_J24 x xp (nI c) = some (nI c + 1 - 1, upd xp c x, nI (c + 1)) := by
          unfold sxh_makeClass_J24
          rw [if_pos (hb_I (by omega) (by omega)), nI_clamp (by omega), nI_succ]
        unfold sxq_addClass sxh_makeClass
        rw [if_neg e8, j24]
        rcases hx with hx | hx
        · rw [if_pos hx]; rfl
        · by_cases hx1 : x = -1
          · rw [if_pos hx1]; rfl
          · rw [if_neg hx1, hh_hasClass]
            rcases hh_has (x := x) (n := c) (by omega) with ⟨q, w⟩ | ⟨q, w⟩
            · exact absurd hx w
            · rw [q, if_neg (by decide)]; rfl
      · by_cases e : i = c
        · subst e
          rw [pk_us, pk_us]
          exact ⟨rfl, hx⟩
        · rw [pk_un e, pk_un e]
          exact h1 i (by omega)
      · obtain ⟨j, hj, e⟩ := (h2 i hi).2.1
        exact ⟨j, by omega, e⟩
    have rx : ¬ x = -1 → sxh_hasObject x (nI c) = 0 → sxh_makeClass x xp (nI c) = some (-1, xp, nI c) := fun a b => by
      unfold sxh_makeClass
      rw [if_neg e8, if_neg a, hh_hasClass, b, if_pos rfl]
    rcases pk_ix x (n := c) (by omega) with hx | hx | hx
    · by_cases a : x < -1
      · apply ref
        · unfold sm_addClass
          rw [if_pos a]
        · exact rx (fun q => by rw [q] at a; exact absurd a (by decide)) (if_pos hx)
      · exact acc (Or.inl (hh_m1 hx a))
    · obtain ⟨g1, g2, g3⟩ := hh_ge0 (by omega) hx
      apply ref
      · unfold sm_addClass
        rw [if_neg g2, if_pos hx]
      · refine rx g3 ?_
        unfold sxh_hasObject
        rw [if_neg g1, if_pos hx]
    · exact acc (Or.inr hx)
theorem hh_addObject (h : hh_I c n mp mk ms mr sk sl xp xk xs xf xr) (x z ch : Int32) :
    ∃ r n' mk' ms' xk' xs' ch', sm_addObject x z (nI c) (nI n) mk ms = some (r, nI n', mk', ms') ∧ sxq_addObject x z (nI c) xk xs (nI n) ch = some (r, xk', xs', nI n', ch') ∧ hh_I c n' mp mk' ms' mr sk sl xp xk' xs' xf xr ∧ ((ch' = ch ∧ n' = n ∧ mk' = mk ∧ ms' = ms ∧ xk' = xk ∧ xs' = xs) ∨ ch' = 1) := by
  have hI := h
  obtain ⟨hc, hn, h1, h2, h3, h4, h5⟩ := h
  have ref : sm_addObject x z (nI c) (nI n) mk ms = some (-1, nI n, mk, ms) → sxh_makeObject x z (nI c) xk xs (nI n) ch = some (-1, xk, xs, nI n, ch) → ∃ r n' mk' ms' xk' xs' ch', sm_addObject x z (nI c) (nI n) mk ms = some (r, nI n', mk', ms') ∧ sxq_addObject x z (nI c) xk xs (nI n) ch = some (r, xk', xs', nI n', ch') ∧ hh_I c n' mp mk' ms' mr sk sl xp xk' xs' xf xr ∧ ((ch' = ch ∧ n' = n ∧ mk' = mk ∧ ms' = ms ∧ xk' = xk ∧ xs' = xs) ∨ ch' = 1) := fun a b => by
    refine ⟨-1, n, mk, ms, xk, xs, ch, a, ?_, hI, Or.inl ⟨rfl, rfl, rfl, rfl, rfl, rfl⟩⟩
    unfold sxq_addObject
    rw [b]; rfl
  have hm : ¬ ((¬ x < 0 ∧ ¬ nI c ≤ x) ∧ ¬ z < 1 ∧ ¬ 1000 < z ∧ nI n < 24) → sm_addObject x z (nI c) (nI n) mk ms = some (-1, nI n, mk, ms) := fun hn => by
    unfold sm_addObject
    by_cases a : x < 0
    · rw [if_pos a]
    · rw [if_neg a]
      by_cases b : nI c ≤ x
      · rw [if_pos b]
      · rw [if_neg b]
        by_cases d : z < 1
        · rw [if_pos d]
        · rw [if_neg d]
          by_cases e : 1000 < z
          · rw [if_pos e]
          · rw [if_neg e, if_neg (fun q => hn ⟨⟨a, b⟩, d, e, q⟩)]
  have hle : ∀ z : Int32, (z ≤ 1000) ↔ ¬ 1000 < z := fun z => by rw [Int32.le_iff_toInt_le, Int32.lt_iff_toInt_lt]; omega
  have hxr : ¬ ((¬ x < 0 ∧ ¬ nI c ≤ x) ∧ ¬ z < 1 ∧ ¬ 1000 < z ∧ nI n < 24) → sxh_makeObject x z (nI c) xk xs (nI n) ch = some (-1, xk, xs, nI n, ch) := fun hne => by
    unfold sxh_makeObject
    by_cases q : (24 : Int32) ≤ nI n
    · rw [if_pos q]
    · have q2 : nI n < 24 := (nI_ltI (b := 24) (by omega) (by omega)).mpr (by
        have : ¬ 24 ≤ n := fun w => q ((nI_leI (a := 24) (by omega) (by omega)).mpr w)
        omega)
      rw [if_neg q]
      by_cases a : sxh_hasClass x (nI c) = 0
      · rw [if_pos a]
      · rw [if_neg a]
        by_cases d : z < 1
        · rw [if_pos d]
        · rw [if_neg d]
          by_cases e : 1000 < z
          · rw [if_neg (fun w => (hle z).mp w e)]
          · refine absurd ⟨?_, d, e, q2⟩ hne
            rw [hh_hasClass] at a
            rcases hh_has (x := x) (n := c) (by omega) with ⟨w, _⟩ | ⟨_, j, hj, rfl⟩
            · exact absurd w a
            · exact ⟨nI_pos (by omega), hh_nle hj (by omega)⟩
  by_cases hok : (¬ x < 0 ∧ ¬ nI c ≤ x) ∧ ¬ z < 1 ∧ ¬ 1000 < z ∧ nI n < 24
  · obtain ⟨⟨a, b⟩, d, e, f⟩ := hok
    have hn24 : n < 24 := (nI_ltI (b := 24) (by omega) (by omega)).mp f
    obtain ⟨j, hj, rfl⟩ : ∃ j, j < c ∧ x = nI j := by
      rcases pk_ix x (n := c) (by omega) with w | w | w
      · exact absurd w a
      · exact absurd w b
      · exact w
    refine ⟨nI n + 1 - 1, n + 1, upd mk n (nI j), upd ms n z, upd xk n (nI j), upd xs n z, 1, ?_, ?_, ⟨hc, by omega, h1, fun i hi => ?_, fun i hi => ?_, fun o ho => ⟨(h4 o ho).1, fun w => (h4 o ho).2 (by omega)⟩, fun o ho => ?_⟩, Or.inr rfl⟩
    · unfold sm_addObject
      rw [if_neg a, if_neg b, if_neg d, if_neg e, if_pos f, if_pos (hb_I (by omega) (by omega)), if_pos (hb_I (by omega) (by omega)), nI_clamp (by omega), nI_succ]
    · unfold sxq_addObject sxh_makeObject
      rw [if_neg (fun q => by have := (nI_leI (a := 24) (by omega) (by omega)).mp q; omega), hh_hasClass]
      have e0 : sxh_hasObject (nI j) (nI c) = 1 := by
        unfold sxh_hasObject
        rw [if_neg a, if_neg b]
      rw [e0, if_neg (by decide), if_neg d, if_pos ((hle z).mpr e), if_pos (hb_I (by omega) (by omega)), if_pos (hb_I (by omega) (by omega)), nI_clamp (by omega), nI_succ]
      rfl
    · by_cases w : i = n
      · subst w
        rw [pk_us, pk_us, pk_us, pk_us]
        exact ⟨rfl, ⟨j, hj, rfl⟩, rfl⟩
      · rw [pk_un w, pk_un w, pk_un w, pk_un w]
        exact h2 i (by omega)
    · obtain ⟨k, w1, w2, w3, w4, w5, w6⟩ := h3 i hi
      refine ⟨k, w1, w2, w3, w4, fun q => ?_, fun q => w6 (by omega)⟩
      obtain ⟨t, q1, q2⟩ := w5 q
      exact ⟨t, by omega, q2⟩
    · rw [h5 o ho]
      constructor
      · rintro ⟨w1, w2⟩; exact ⟨by omega, w2⟩
      · rintro ⟨w1, w2⟩
        refine ⟨?_, w2⟩
        apply Classical.byContradiction
        intro w
        exact w2 ((h4 o (by omega)).2 (by omega))
  · exact ref (hm hok) (hxr hok)
theorem hh_setRoot (h : hh_I c n mp mk ms mr sk sl xp xk xs xf xr) (x z ch : Int32) (hz : z = 0 ∨ z = 1) :
    ∃ r mr' xr' ch', sm_setRoot x z (nI n) mr = some (r, mr') ∧ sxq_setRoot x z (nI n) xr ch = (r, xr', ch') ∧ (r = 0 ∨ r = 1) ∧ hh_I c n mp mk ms mr' sk sl xp xk xs xf xr' ∧ ((ch' = ch ∧ mr' = mr ∧ xr' = xr) ∨ ch' = 1) := by
  have hI := h
  obtain ⟨hc, hn, h1, h2, h3, h4, h5⟩ := h
  unfold sm_setRoot sxq_setRoot
  rw [hh_there]
  rcases hh_has (x := x) (n := n) (by omega) with ⟨w, _⟩ | ⟨w, j, hj, rfl⟩
  · rw [w, if_pos rfl, if_pos rfl]
    exact ⟨0, mr, xr, ch, rfl, rfl, Or.inl rfl, hI, Or.inl ⟨rfl, rfl, rfl⟩⟩
  · rw [w, if_neg (by decide : ¬ (1 : Int32) = 0), if_neg (by decide : ¬ (1 : Int32) = 0), if_pos (hb_I (by omega) (by omega)), if_pos hz, nI_clamp (by omega)]
    refine ⟨1, upd mr j z, _, _, rfl, rfl, Or.inr rfl, ⟨hc, hn, h1, h2, h3, fun o ho => ?_, fun o ho => ?_⟩, Or.inr ?_⟩
    · by_cases e : o = j
      · subst e
        rw [pk_us]
        exact ⟨hz, fun q => by omega⟩
      · rw [pk_un e]
        exact h4 o ho
    · unfold sxh_markRoot
      by_cases z0 : z = 0
      · rw [if_pos z0]
        show bt (xr &&& (((1 : Int32) <<< (nI j &&& 31)) ^^^ (-1))) o = true ↔ _
        rw [b_and, hb_not _ ho, hb_one (by omega) ho, Bool.and_eq_true, h5 o ho]
        by_cases e : o = j
        · subst e
          rw [pk_us, z0]
          simp
        · rw [pk_un e]
          simp [e]
      · rw [if_neg z0]
        show bt (xr ||| ((1 : Int32) <<< (nI j &&& 31))) o = true ↔ _
        rw [b_or, hb_one (by omega) ho, Bool.or_eq_true, h5 o ho]
        by_cases e : o = j
        · subst e
          rw [pk_us]
          simp [z0, hj]
        · rw [pk_un e]
          simp [e]
    · unfold sxh_markRoot
      by_cases z0 : z = 0
      · rw [if_pos z0]
      · rw [if_neg z0]
theorem hh_set (h : hh_I c n mp mk ms mr sk sl xp xk xs xf xr) (x f k v ch : Int32) :
    ∃ r sk' sl' xf' ch', sm_set x f k v (nI n) sk sl = some (r, sk', sl') ∧ sxq_set x f k v xf (nI n) ch = some (r, xf', ch') ∧ (r = 0 ∨ r = 1) ∧ hh_I c n mp mk ms mr sk' sl' xp xk xs xf' xr ∧ ((ch' = ch ∧ sk' = sk ∧ sl' = sl ∧ xf' = xf) ∨ ch' = 1) := by
  have hI := h
  obtain ⟨hc, hn, h1, h2, h3, h4, h5⟩ := h
  have ref : sm_set x f k v (nI n) sk sl = some (0, sk, sl) → sxq_set x f k v xf (nI n) ch = some (0, xf, ch) → ∃ r sk' sl' xf' ch', sm_set x f k v (nI n) sk sl = some (r, sk', sl') ∧ sxq_set x f k v xf (nI n) ch = some (r, xf', ch') ∧ (r = 0 ∨ r = 1) ∧ hh_I c n mp mk ms mr sk' sl' xp xk xs xf' xr ∧ ((ch' = ch ∧ sk' = sk ∧ sl' = sl ∧ xf' = xf) ∨ ch' = 1) := fun a b =>
    ⟨0, sk, sl, xf, ch, a, b, Or.inl rfl, hI, Or.inl ⟨rfl, rfl, rfl, rfl⟩⟩
  rcases hh_has (x := x) (n := n) (by omega) with ⟨w, _⟩ | ⟨w, o, ho, rfl⟩
  · apply ref
    · unfold sm_set
      rw [hh_there, w, if_pos rfl]
    · unfold sxq_set
      rw [w, if_pos rfl]
  · by_cases hf : f < 0 ∨ 3 < f
    · apply ref
      · unfold sm_set
        rw [hh_there, w, if_neg (by decide)]
        by_cases a : f < 0
        · rw [if_pos a]
        · rcases hf with hf | hf
          · exact absurd hf a
          · rw [if_neg a, if_pos hf]
      · unfold sxq_set
        rw [w, if_neg (by decide)]
        by_cases a : f < 0
        · rw [if_pos a]
        · rcases hf with hf | hf
          · exact absurd hf a
          · have : ¬ f < 4 := by
              rw [Int32.lt_iff_toInt_lt, show (3 : Int32).toInt = 3 from by decide] at hf
              rw [Int32.lt_iff_toInt_lt, show (4 : Int32).toInt = 4 from by decide]
              omega
            rw [if_neg a, if_neg this]
    · obtain ⟨g, hg, rfl⟩ : ∃ g, g < 4 ∧ f = nI g := by
        rcases pk_ix f (n := 4) (by omega) with q | q | q
        · exact absurd (Or.inl q) hf
        · refine absurd (Or.inr ?_) hf
          rw [Int32.le_iff_toInt_le, nI_toInt (by omega)] at q
          rw [Int32.lt_iff_toInt_lt, show (3 : Int32).toInt = 3 from by decide]
          omega
        · exact q
      have f1 : ¬ nI g < 0 := fun q => hf (Or.inl q)
      have f2 : ¬ 3 < nI g := fun q => hf (Or.inr q)
      have f3 : nI g < 4 := (nI_ltI (b := 4) (by omega) (by omega)).mpr hg
      have ix : (4 * nI o) + nI g = nI (4 * o + g) := by rw [show (4 : Int32) = nI 4 from rfl, pk_mul, nI_add]
      have ix2 : (nI o * 4) + nI g = nI (4 * o + g) := by rw [show (4 : Int32) = nI 4 from rfl, pk_mul, nI_add, Nat.mul_comm]
      have iI : hq_I (nI (4 * o + g)) 96 = true := hb_I (by omega) (by omega)
      have put : ∀ (b : Nat) (y : Int32), b < 3 → (b = 0 → y = 0) → (b = 2 → ∃ t, t < n ∧ y = nI t) → hh_I c n mp mk ms mr (upd sk (4 * o + g) (nI b)) (upd sl (4 * o + g) y) xp xk xs (vp_updL xf (4 * o + g) (hv b y)) xr := fun b y hb hb0 hb2 => by
        refine ⟨hc, hn, h1, h2, fun i hi => ?_, h4, h5⟩
        by_cases e : i = 4 * o + g
        · subst e
          rw [pk_us, pk_us, pk_uLs]
          exact ⟨b, hb, rfl, rfl, hb0, hb2, fun q => by omega⟩
        · rw [pk_un e, pk_un e, pk_uLn e]
          exact h3 i hi
      have pf : ∀ y : Int64, sxh_putField (nI o) (nI g) y xf ch = some (vp_updL xf (4 * o + g) y, 1) := fun y => by
        unfold sxh_putField
        rw [ix2, if_pos iI, nI_clamp (by omega)]
      have j42 : ∀ k' : Int32, sm_set_J42 (nI o) (nI g) k' v (nI n) sk sl = some (1, upd sk (4 * o + g) k', upd sl (4 * o + g) (if k' = 0 then 0 else v)) := fun k' => by
        unfold sm_set_J42
        rw [ix, if_pos iI, if_pos iI, if_pos iI, nI_clamp (by omega)]
        by_cases a : k' = 0
        · rw [if_pos a, if_pos a]
        · rw [if_neg a, if_neg a]
      have mo : sm_set (nI o) (nI g) k v (nI n) sk sl = if k < 0 then some (0, sk, sl) else if 2 < k then some (0, sk, sl) else if k = 2 then if sxh_hasObject v (nI n) = 0 then some (0, sk, sl) else sm_set_J42 (nI o) (nI g) k v (nI n) sk sl else sm_set_J42 (nI o) (nI g) k v (nI n) sk sl := by
        unfold sm_set
        rw [hh_there, hh_there, w, if_neg (by decide), if_neg f1, if_neg f2]
      have xo : sxq_set (nI o) (nI g) k v xf (nI n) ch = if k = 0 then some (1, vp_updL xf (4 * o + g) (hv 0 0), 1) else if k = 1 then some (1, vp_updL xf (4 * o + g) (hv 1 v), 1) else if k = 2 then if sxh_hasObject v (nI n) = 0 then some (0, xf, ch) else some (1, vp_updL xf (4 * o + g) (hv 2 v), 1) else some (0, xf, ch) := by
        unfold sxq_set
        rw [w, if_neg (by decide), if_neg f1, if_pos f3, pf, pf, pf, hv_00, hv_number, hv_link]
        rfl
      rw [mo, xo]
      by_cases k0 : k = 0
      · subst k0
        rw [if_neg (by decide), if_neg (by decide), if_neg (by decide), if_pos rfl, j42, if_pos rfl]
        exact ⟨1, _, _, _, _, rfl, rfl, Or.inr rfl, put 0 0 (by decide) (fun _ => rfl) (fun q => by cases q), Or.inr rfl⟩
      · by_cases k1 : k = 1
        · subst k1
          rw [if_neg (by decide), if_neg (by decide), if_neg (by decide), if_neg (by decide), if_pos rfl, j42, if_neg (by decide)]
          exact ⟨1, _, _, _, _, rfl, rfl, Or.inr rfl, put 1 v (by decide) (fun q => by cases q) (fun q => by cases q), Or.inr rfl⟩
        · by_cases k2 : k = 2
          · subst k2
            rw [if_neg (by decide : ¬ (2 : Int32) < 0), if_neg (by decide : ¬ (2 : Int32) < 2), if_pos (rfl : (2 : Int32) = 2), if_neg (by decide : ¬ (2 : Int32) = 0), if_neg (by decide : ¬ (2 : Int32) = 1), if_pos (rfl : (2 : Int32) = 2)]
            rcases hh_has (x := v) (n := n) (by omega) with ⟨q, _⟩ | ⟨q, t, ht, rfl⟩
            · rw [q, if_pos (rfl : (0 : Int32) = 0), if_pos (rfl : (0 : Int32) = 0)]
              exact ⟨0, sk, sl, xf, ch, rfl, rfl, Or.inl rfl, hI, Or.inl ⟨rfl, rfl, rfl, rfl⟩⟩
            · rw [q, if_neg (by decide : ¬ (1 : Int32) = 0), if_neg (by decide : ¬ (1 : Int32) = 0), j42, if_neg (by decide : ¬ (2 : Int32) = 0)]
              exact ⟨1, _, _, _, _, rfl, rfl, Or.inr rfl, put 2 (nI t) (by decide) (fun q => by cases q) (fun _ => ⟨t, ht, rfl⟩), Or.inr rfl⟩
          · rw [if_neg k0, if_neg k1, if_neg k2, if_neg k2]
            refine ⟨0, sk, sl, xf, ch, ?_, rfl, Or.inl rfl, hI, Or.inl ⟨rfl, rfl, rfl, rfl⟩⟩
            by_cases a : k < 0
            · rw [if_pos a]
            · rw [if_neg a]
              by_cases b : 2 < k
              · rw [if_pos b]
              · exfalso
                rcases pk_ix k (n := 3) (by omega) with q | q | ⟨j, hj, rfl⟩
                · exact a q
                · apply b
                  rw [Int32.le_iff_toInt_le, nI_toInt (by omega)] at q
                  rw [Int32.lt_iff_toInt_lt, show (2 : Int32).toInt = 2 from by decide]
                  omega
                · rcases (by omega : j = 0 ∨ j = 1 ∨ j = 2) with rfl | rfl | rfl
                  · exact k0 rfl
                  · exact k1 rfl
                  · exact k2 rfl
end
