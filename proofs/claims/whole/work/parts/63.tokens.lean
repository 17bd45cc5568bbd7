/-! token: class and reference take and refuse alike -/
theorem ht_inAny {brk : Nat → Int32} {j : Nat} (hj : j ≤ 40) : ∃ v, sxt_isInsideE brk (nI j) = some v := by
  cases j with
  | zero => exact ⟨0, rfl⟩
  | succ j =>
    unfold sxt_isInsideE
    rw [if_neg (nI_nle (by omega) (by omega)), nI_pred, if_pos (hb_I (by omega) (by omega))]
    by_cases q : brk (nI j).toNatClampNeg = 0
    · exact ⟨0, if_pos q⟩
    · exact ⟨1, if_neg q⟩
theorem ht_eAny {brk : Nat → Int32} {j : Nat} (hj : j ≤ 40) (x iw : Int32) : ∃ v, sxt_placeAfterE x brk (nI j) iw = some v := by
  obtain ⟨u, hu⟩ := ht_inAny (brk := brk) hj
  unfold sxt_placeAfterE
  rw [hu, Option.bind_some]
  repeat' split
  all_goals exact ⟨_, rfl⟩
theorem ht_uAny {brk : Nat → Int32} {j : Nat} (hj : j ≤ 40) (x iw cx : Int32) : ∃ v, sxt_placeAfterU x brk (nI j) iw cx = some v := by
  obtain ⟨u, hu⟩ := ht_eAny (brk := brk) hj x iw
  unfold sxt_placeAfterU sxt_placeAfterU_J64
  rw [hu, Option.bind_some]
  repeat' split
  all_goals exact ⟨_, rfl⟩
theorem ht_pAny {brk : Nat → Int32} {j : Nat} (hj : j ≤ 40) (x pl iw cx : Int32) : ∃ v, sxt_placeAfter x brk (nI j) pl iw cx = some v := by
  obtain ⟨u, hu⟩ := ht_uAny (brk := brk) hj x iw cx
  unfold sxt_placeAfter
  rw [hu, Option.bind_some]
  repeat' split
  all_goals exact ⟨_, rfl⟩
theorem ht_out {x : Int32} {brk : Nat → Int32} {bc pl iw cx : Int32} {p : Nat} (hp : p < 9) (hpl : pl = nI p) (hX : ∃ cm st, hg_X p cm st brk bc iw cx ∧ (hg_pr st).length ≤ 40) (h : x < 0 ∨ 24 < x) : sxt_placeAfter x brk bc pl iw cx = some (-1) := by
  have hne : ∀ k : Nat, k < 25 → ¬ x = nI k := fun k hk q => by
    subst q
    rcases h with h | h
    · exact nI_pos (by omega) h
    · have := (nI_ltI (a := 24) (by omega) (by omega)).mp h
      omega
  have n : ∀ k : Nat, k < 25 → ∀ {α : Type} {a b : α}, (if x = nI k then a else b) = b := fun k hk _ a b => if_neg (hne k hk)
  have pS : sxt_placeInS x = -1 := (n 6 (by decide)).trans ((n 7 (by decide)).trans ((n 8 (by decide)).trans ((n 9 (by decide)).trans ((n 10 (by decide)).trans ((n 11 (by decide)).trans (n 12 (by decide)))))))
  have pD : sxt_placeAfterDistinct x = -1 := (n 2 (by decide)).trans ((n 17 (by decide)).trans pS)
  have pW : sxt_placeAfterWholeSelect x bc = -1 := (n 5 (by decide)).trans ((n 7 (by decide)).trans (n 24 (by decide)))
  subst hpl
  obtain ⟨cm, st, hX, hl⟩ := hX
  have pE : p = 5 → sxt_placeAfterE x brk bc iw = some (-1) := fun h5 => by
    subst h5
    obtain ⟨hM, hbc, hiw, hcx, h1, h2⟩ := hX
    obtain ⟨_, he⟩ := h1 ⟨by decide, by decide⟩
    have hin : ∃ v, sxt_isInsideE brk bc = some v := by
      rw [hbc]
      exact ht_inAny hl
    obtain ⟨v, hv⟩ := hin
    unfold sxt_placeAfterE
    rw [hv, Option.bind_some, pW]
    by_cases q : v = 0
    · rw [if_pos q]
      by_cases q2 : iw = 0
      · rw [if_pos q2]; exact n 3 (by decide)
      · rw [if_neg q2]
    · rw [if_neg q]; exact n 7 (by decide)
  rcases (by omega : p = 0 ∨ p = 1 ∨ p = 2 ∨ p = 3 ∨ p = 4 ∨ p = 5 ∨ p = 6 ∨ p = 7 ∨ p = 8) with rfl | rfl | rfl | rfl | rfl | rfl | rfl | rfl | rfl
  · exact n 0 (by decide)
  · exact (n 1 (by decide)).trans (congrArg some pD)
  · exact congrArg some pD
  · exact (n 17 (by decide)).trans (congrArg some pS)
  · exact congrArg some pS
  · show ((sxt_placeAfterU x brk bc iw cx).bind fun v => some v) = _
    have pU : sxt_placeAfterU x brk bc iw cx = (sxt_placeAfterE x brk bc iw).bind fun v => some v := (n 13 (by decide)).trans ((n 14 (by decide)).trans ((n 15 (by decide)).trans ((n 16 (by decide)).trans ((n 17 (by decide)).trans ((n 18 (by decide)).trans ((n 19 (by decide)).trans ((n 20 (by decide)).trans ((n 21 (by decide)).trans ((n 22 (by decide)).trans (n 23 (by decide)))))))))))
    rw [pU, pE rfl]
    rfl
  · exact congrArg some ((n 6 (by decide)).trans ((n 7 (by decide)).trans ((n 8 (by decide)).trans (n 9 (by decide)))))
  · exact (n 4 (by decide)).trans (congrArg some pW)
  · rfl
/-- numbers: the reference's fits, the class's isNumberAllowed -/
theorem ht_fits {c cc : Nat} {n : Int32} (hc : c < 25) (hcc : cc < 2 ^ 31) : ∃ a, (a = 0 ∨ a = 1) ∧ sxq_isNumberAllowed (nI c) n (nI cc) = some a ∧ sm_fits (nI c) n (nI cc) = a ∧ (a = 1 → ht_N cc c n) := by
  have H : sxh_hasClass n (nI cc) = 0 ∨ (sxh_hasClass n (nI cc) = 1 ∧ ∃ j, j < cc ∧ n = nI j) := by
    rcases hh_has (x := n) (n := cc) hcc with ⟨a, _⟩ | ⟨a, b⟩
    · exact Or.inl a
    · exact Or.inr ⟨a, b⟩
  have cls : c = 8 ∨ c = 9 → ∃ a, (a = 0 ∨ a = 1) ∧ (if sxh_hasClass n (nI cc) = 0 ∨ sxh_hasClass n (nI cc) = 1 then some (sxh_hasClass n (nI cc)) else none) = some a ∧ sm_fits_J12 n (nI cc) = a ∧ (a = 1 → ht_N cc c n) := fun h => by
    rcases H with a | ⟨a, b⟩
    · exact ⟨0, Or.inl rfl, by rw [a]; rfl, a, fun q => absurd q (by decide)⟩
    · exact ⟨1, Or.inr rfl, by rw [a]; rfl, a, fun _ => ⟨fun _ => b, fun q => by omega, fun q => by omega⟩⟩
  have num : ∀ k : Nat, k < 2 ^ 31 → ((¬ n < 0 ∧ ¬ nI k ≤ n) ↔ ∃ j, j < k ∧ n = nI j) := fun k hk => by
    constructor
    · rintro ⟨a, b⟩
      rcases pk_ix n hk with w | w | w
      · exact absurd w a
      · exact absurd w b
      · exact w
    · rintro ⟨j, hj, rfl⟩
      exact ⟨nI_pos (by omega), hh_nle hj hk⟩
  have le4 : (4 ≤ n) ↔ 3 < n := by rw [Int32.le_iff_toInt_le, Int32.lt_iff_toInt_lt, show (4 : Int32).toInt = 4 from by decide, show (3 : Int32).toInt = 3 from by decide]; omega
  have le6 : (6 ≤ n) ↔ 5 < n := by rw [Int32.le_iff_toInt_le, Int32.lt_iff_toInt_lt, show (6 : Int32).toInt = 6 from by decide, show (5 : Int32).toInt = 5 from by decide]; omega
  have triv : ¬ (c = 8 ∨ c = 9 ∨ c = 13 ∨ c = 14) → ht_N cc c n := fun h => ⟨fun q => by omega, fun q => by omega, fun q => by omega⟩
  rcases hg_c hc with rfl | rfl | rfl | rfl | rfl | rfl | rfl | rfl | rfl | rfl | rfl | rfl | rfl | rfl | rfl | rfl | rfl | rfl | rfl | rfl | rfl | rfl | rfl | rfl | rfl
  · exact ⟨1, Or.inr rfl, rfl, rfl, fun _ => triv (by decide)⟩
  · exact ⟨1, Or.inr rfl, rfl, rfl, fun _ => triv (by decide)⟩
  · exact ⟨1, Or.inr rfl, rfl, rfl, fun _ => triv (by decide)⟩
  · exact ⟨1, Or.inr rfl, rfl, rfl, fun _ => triv (by decide)⟩
  · exact ⟨1, Or.inr rfl, rfl, rfl, fun _ => triv (by decide)⟩
  · exact ⟨1, Or.inr rfl, rfl, rfl, fun _ => triv (by decide)⟩
  · exact ⟨1, Or.inr rfl, rfl, rfl, fun _ => triv (by decide)⟩
  · exact ⟨1, Or.inr rfl, rfl, rfl, fun _ => triv (by decide)⟩
  · exact cls (Or.inl rfl)
  · exact cls (Or.inr rfl)
  · exact ⟨1, Or.inr rfl, rfl, rfl, fun _ => triv (by decide)⟩
  · exact ⟨1, Or.inr rfl, rfl, rfl, fun _ => triv (by decide)⟩
  · exact ⟨1, Or.inr rfl, rfl, rfl, fun _ => triv (by decide)⟩
  · show ∃ a, (a = 0 ∨ a = 1) ∧ (if n < 0 then some (0 : Int32) else if 4 ≤ n then some 0 else some 1) = some a ∧ (if n < 0 then (0 : Int32) else if 3 < n then 0 else 1) = a ∧ (a = 1 → ht_N cc 13 n)
    by_cases a : n < 0
    · rw [if_pos a, if_pos a]; exact ⟨0, Or.inl rfl, rfl, rfl, fun q => absurd q (by decide)⟩
    · rw [if_neg a, if_neg a]
      by_cases b : 4 ≤ n
      · rw [if_pos b, if_pos (le4.mp b)]; exact ⟨0, Or.inl rfl, rfl, rfl, fun q => absurd q (by decide)⟩
      · rw [if_neg b, if_neg (fun q => b (le4.mpr q))]
        exact ⟨1, Or.inr rfl, rfl, rfl, fun _ => ⟨fun q => by omega, fun _ => (num 4 (by decide)).mp ⟨a, b⟩, fun q => by omega⟩⟩
  · show ∃ a, (a = 0 ∨ a = 1) ∧ (if n < 0 then some (0 : Int32) else if 6 ≤ n then some 0 else some 1) = some a ∧ (if n < 0 then (0 : Int32) else if 5 < n then 0 else 1) = a ∧ (a = 1 → ht_N cc 14 n)
    by_cases a : n < 0
    · rw [if_pos a, if_pos a]; exact ⟨0, Or.inl rfl, rfl, rfl, fun q => absurd q (by decide)⟩
    · rw [if_neg a, if_neg a]
      by_cases b : 6 ≤ n
      · rw [if_pos b, if_pos (le6.mp b)]; exact ⟨0, Or.inl rfl, rfl, rfl, fun q => absurd q (by decide)⟩
      · rw [if_neg b, if_neg (fun q => b (le6.mpr q))]
        exact ⟨1, Or.inr rfl, rfl, rfl, fun _ => ⟨fun q => by omega, fun q => by omega, fun _ => (num 6 (by decide)).mp ⟨a, b⟩⟩⟩
  · exact ⟨1, Or.inr rfl, rfl, rfl, fun _ => triv (by decide)⟩
  · exact ⟨1, Or.inr rfl, rfl, rfl, fun _ => triv (by decide)⟩
  · exact ⟨1, Or.inr rfl, rfl, rfl, fun _ => triv (by decide)⟩
  · exact ⟨1, Or.inr rfl, rfl, rfl, fun _ => triv (by decide)⟩
  · exact ⟨1, Or.inr rfl, rfl, rfl, fun _ => triv (by decide)⟩
  · exact ⟨1, Or.inr rfl, rfl, rfl, fun _ => triv (by decide)⟩
  · exact ⟨1, Or.inr rfl, rfl, rfl, fun _ => triv (by decide)⟩
  · exact ⟨1, Or.inr rfl, rfl, rfl, fun _ => triv (by decide)⟩
  · exact ⟨1, Or.inr rfl, rfl, rfl, fun _ => triv (by decide)⟩
  · exact ⟨1, Or.inr rfl, rfl, rfl, fun _ => triv (by decide)⟩
/-- outside 0 .. 24 the class allows every number, and its places refuse -/
theorem ht_allow {x n k : Int32} (h : x < 0 ∨ 24 < x) : sxq_isNumberAllowed x n k = some 1 := by
  have hne : ∀ k : Nat, k < 25 → ¬ x = nI k := fun k hk q => by
    subst q
    rcases h with h | h
    · exact nI_pos (by omega) h
    · have := (nI_ltI (a := 24) (by omega) (by omega)).mp h
      omega
  have n' : ∀ k : Nat, k < 25 → ∀ {α : Type} {a b : α}, (if x = nI k then a else b) = b := fun k hk _ a b => if_neg (hne k hk)
  exact (n' 8 (by decide)).trans ((n' 9 (by decide)).trans ((n' 10 (by decide)).trans ((n' 11 (by decide)).trans ((n' 12 (by decide)).trans ((n' 13 (by decide)).trans (n' 14 (by decide)))))))
section
variable {cc k : Nat} {tk : Nat → Nat} {p : Nat} {cm : Bool} {st : List Nat} {mc mn xc xn brk : Nat → Int32} {bc pl iw cx : Int32}
theorem ht_len (h : ht_I cc k tk p cm st mc mn xc xn brk bc pl iw cx) : p < 9 ∧ st.length ≤ k ∧ (hg_pr st).length ≤ k := by
  obtain ⟨h1, h2, h3, h4, h5⟩ := h
  obtain ⟨a, b, _⟩ := hg_inv h1 (fun i hi => (h2 i hi).1) k (Nat.le_refl _) p cm st h3
  have := hg_pr_len st
  exact ⟨a, b, by omega⟩
theorem ht_more {cc' : Nat} (hcc : cc ≤ cc') (h : ht_I cc k tk p cm st mc mn xc xn brk bc pl iw cx) : ht_I cc' k tk p cm st mc mn xc xn brk bc pl iw cx := by
  obtain ⟨h1, h2, h3⟩ := h
  refine ⟨h1, fun i hi => ?_, h3⟩
  obtain ⟨a, b, c, d, e1, e2, e3⟩ := h2 i hi
  exact ⟨a, b, c, d, fun q => by obtain ⟨j, q1, q2⟩ := e1 q; exact ⟨j, by omega, q2⟩, e2, e3⟩
theorem ht_token (h : ht_I cc k tk p cm st mc mn xc xn brk bc pl iw cx) (hcc : cc < 2 ^ 31) (c n w0 c0 o0 : Int32) (opn : Nat → Int32) :
    (∃ mc' mn' w1 c1 o1 opn', sm_token c n (nI cc) (nI k) mc mn w0 c0 o0 opn = some (0, nI k, mc', mn', w1, c1, o1, opn') ∧ ht_I cc k tk p cm st mc' mn' xc xn brk bc pl iw cx ∧
      (sxq_isNumberAllowed c n (nI cc) = some 0 ∨ (sxq_isNumberAllowed c n (nI cc) = some 1 ∧ sxt_take c n xc xn (nI k) brk bc pl iw cx = some (0, xc, xn, nI k, brk, bc, pl, iw, cx)))) ∨
    (∃ mc' mn' w1 c1 o1 opn' tk' p' cm' st' xc' xn' brk' bc' pl' iw' cx', sm_token c n (nI cc) (nI k) mc mn w0 c0 o0 opn = some (1, nI (k + 1), mc', mn', w1, c1, o1, opn') ∧ sxq_isNumberAllowed c n (nI cc) = some 1 ∧
      sxt_take c n xc xn (nI k) brk bc pl iw cx = some (1, xc', xn', nI (k + 1), brk', bc', pl', iw', cx') ∧ k < 40 ∧ c = nI (tk' k) ∧ ht_I cc (k + 1) tk' p' cm' st' mc' mn' xc' xn' brk' bc' pl' iw' cx') := by
  have hI := h
  obtain ⟨g1, g2, g3⟩ := ht_len h
  obtain ⟨h1, h2, h3, h4, h5⟩ := h
  have tref : sxt_placeAfter c brk bc pl iw cx = some (-1) → sxt_take c n xc xn (nI k) brk bc pl iw cx = some (0, xc, xn, nI k, brk, bc, pl, iw, cx) := fun q => by
    unfold sxt_take
    rw [q, Option.bind_some]
    by_cases e : (40 : Int32) ≤ nI k
    · rw [if_pos e]
    · rw [if_neg e, if_pos rfl]
  by_cases hout : c < 0 ∨ 24 < c
  · left
    refine ⟨mc, mn, w0, c0, o0, opn, ?_, hI, Or.inr ⟨ht_allow hout, tref (ht_out g1 h4 ⟨cm, st, h5, by omega⟩ hout)⟩⟩
    unfold sm_token
    by_cases a : c < 0
    · rw [if_pos a]
    · rw [if_neg a, if_pos (hout.resolve_left a)]
  · have c1 : ¬ c < 0 := fun q => hout (Or.inl q)
    have c2 : ¬ 24 < c := fun q => hout (Or.inr q)
    obtain ⟨cn, hcn, rfl⟩ : ∃ j, j < 25 ∧ c = nI j := by
      rcases pk_ix c (n := 25) (by omega) with q | q | q
      · exact absurd q c1
      · refine absurd ?_ c2
        rw [Int32.le_iff_toInt_le, nI_toInt (by omega)] at q
        rw [Int32.lt_iff_toInt_lt, show (24 : Int32).toInt = 24 from by decide]
        omega
      · exact q
    obtain ⟨a, a01, f1, f2, f3⟩ := ht_fits (n := n) hcn hcc
    have px := hg_x hcn g1 (st := st) (cm := cm) (brk := brk) (bc := bc) (iw := iw) (cx := cx)
    have pany : ∃ v, sxt_placeAfter (nI cn) brk bc pl iw cx = some v := by
      rw [h5.2.1]
      exact ht_pAny (by omega) _ _ _ _
    by_cases hk : k = 40
    · left
      subst hk
      refine ⟨mc, mn, w0, c0, o0, opn, ?_, hI, ?_⟩
      · unfold sm_token
        rw [if_neg c1, if_neg c2, if_pos (by decide)]
      · rcases a01 with rfl | rfl
        · exact Or.inl f1
        · refine Or.inr ⟨f1, ?_⟩
          obtain ⟨v, hv⟩ := pany
          unfold sxt_take
          rw [hv, Option.bind_some, if_pos (by decide)]
    · have e40 : ¬ (40 : Int32) ≤ nI k := fun q => by have := (nI_leI (a := 40) (by omega) (by omega)).mp q; omega
      rcases a01 with rfl | rfl
      · left
        refine ⟨mc, mn, w0, c0, o0, opn, ?_, hI, Or.inl f1⟩
        unfold sm_token
        rw [if_neg c1, if_neg c2, if_neg e40, f2, if_pos rfl]
      · have hI40 : hq_I (nI k) 40 = true := hb_I (by omega) (by omega)
        have tk2 : ∀ i, i ≤ k → (fun i => if i = k then cn else tk i) i < 25 ∧ upd mc k (nI cn) i = nI ((fun i => if i = k then cn else tk i) i) := fun i hi => by
          show (if i = k then cn else tk i) < 25 ∧ upd mc k (nI cn) i = nI (if i = k then cn else tk i)
          by_cases e : i = k
          · subst e; rw [if_pos rfl, pk_us]; exact ⟨hcn, rfl⟩
          · rw [if_neg e, pk_un e]; exact ⟨(h2 i (by omega)).1, (h2 i (by omega)).2.1⟩
        have hr2 : hg_run (fun i => if i = k then cn else tk i) k = some (p, cm, st) := by
          rw [← h3]
          exact hg_run_to k (fun i hi => if_neg (by omega))
        have hrk : hg_run (fun i => if i = k then cn else tk i) (k + 1) = hg_step cn p cm st := by
          show (hg_run (fun i => if i = k then cn else tk i) k).bind _ = _
          rw [hr2]
          show hg_step (if k = k then cn else tk k) p cm st = _
          rw [if_pos rfl]
        obtain ⟨f, x1, x2, x3, x4, l1, l2⟩ := qm_L59 (mc := upd mc k (nI cn)) (by omega) tk2 hr2 k 0 kF 0 false [] opn (by omega) (hb_kF (by omega)) rfl True.intro
        have l1 : sm_token_L59 kF 1 0 (nI k) (upd mc k (nI cn)) 0 0 0 opn = some (f, x1, x2, x3, x4) := l1
        have mt : sm_token (nI cn) n (nI cc) (nI k) mc mn w0 c0 o0 opn = sm_token_J90 f (nI cc) (nI k) (upd mc k (nI cn)) (upd mn k n) x1 x2 x3 x4 := by
          unfold sm_token
          rw [if_neg c1, if_neg c2, if_neg e40, f2, if_neg (by decide), if_pos hI40, if_pos hI40, nI_clamp (by omega)]
          show (sm_token_L59 kF 1 0 (nI k) (upd mc k (nI cn)) 0 0 0 opn).bind _ = _
          rw [l1]
          rfl
        have old : ∀ i, i < k → tk i < 25 ∧ upd mc k (nI cn) i = nI (tk i) ∧ xc i = nI (tk i) ∧ xn i = upd mn k n i ∧ ht_N cc (tk i) (upd mn k n i) := fun i hi => by
          rw [pk_un (by omega), pk_un (by omega)]
          exact h2 i hi
        rw [hrk] at l2
        rcases px (by omega) h5 with ⟨q1, q2⟩ | ⟨p', cm', st', brk', bc', iw', cx', q1, q2, q3, q4, q5⟩
        · left
          rcases l2 with ⟨rfl, _⟩ | ⟨_, v, hv⟩
          · exact ⟨_, _, _, _, _, _, mt, ⟨h1, old, h3, h4, h5⟩, Or.inr ⟨f1, tref (by rw [h4]; exact q2)⟩⟩
          · rw [q1] at hv; cases hv
        · right
          rcases l2 with ⟨_, hv⟩ | ⟨rfl, _⟩
          · rw [q1] at hv; cases hv
          · refine ⟨upd mc k (nI cn), upd mn k n, x1, x2, x3, x4, (fun i => if i = k then cn else tk i), p', cm', st', upd xc k (nI cn), upd xn k n, brk', bc', nI p', iw', cx', ?_, f1, ?_, by omega, ?_, by omega, fun i hi => ?_, hrk.trans q1, rfl, q5⟩
            · rw [mt]
              unfold sm_token_J90
              rw [if_neg (by decide), if_pos (Or.inr rfl), nI_1]
            · unfold sxt_take
              rw [h4, q3, Option.bind_some, if_neg e40, if_neg (hh_ne1 (by omega)), if_pos hI40, if_pos hI40, q4, Option.bind_some, nI_clamp (by omega), nI_1]
            · show nI cn = nI (if k = k then cn else tk k)
              rw [if_pos rfl]
            · show (if i = k then cn else tk i) < 25 ∧ upd mc k (nI cn) i = nI (if i = k then cn else tk i) ∧ upd xc k (nI cn) i = nI (if i = k then cn else tk i) ∧ upd xn k n i = upd mn k n i ∧ ht_N cc (if i = k then cn else tk i) (upd mn k n i)
              by_cases e : i = k
              · subst e
                rw [if_pos rfl, pk_us, pk_us, pk_us, pk_us]
                exact ⟨hcn, rfl, rfl, rfl, f3 rfl⟩
              · rw [if_neg e, pk_un e, pk_un e, pk_un e, pk_un e]
                exact h2 i (by omega)
end
