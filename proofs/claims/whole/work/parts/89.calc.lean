/-! one step of a calculation: class and reference alike -/
theorem he_lcL {n o : Nat} {sk sl : Nat → Int32} (hn : n ≤ 24) : ∀ (q j fuel : Nat), j + q = 4 * n → q < fuel → sm_along_L122 fuel (nI o) (hs_lc sk sl o j) (nI j) (nI n) sk sl = some (hs_lc sk sl o (4 * n)) := by
  have e4 : (4 : Int32) * nI n = nI (4 * n) := pk_mul 4 n
  intro q
  induction q with
  | zero =>
    intro j fuel hj hf
    obtain ⟨m, rfl⟩ : ∃ m, fuel = m + 1 := ⟨fuel - 1, by omega⟩
    show sm_along_L122_B (sm_along_L122 m) (nI o) (hs_lc sk sl o j) (nI j) (nI n) sk sl = _
    unfold sm_along_L122_B
    have hj : j = 4 * n := by omega
    rw [e4, if_pos ((nI_leI (by omega) (by omega)).mpr (by omega)), hj]
  | succ q ih =>
    intro j fuel hj hf
    obtain ⟨m, rfl⟩ : ∃ m, fuel = m + 1 := ⟨fuel - 1, by omega⟩
    have this := ih (j + 1) m (by omega) (by omega)
    rw [show hs_lc sk sl o (j + 1) = if sk j = 2 ∧ sl j = nI o then hs_lc sk sl o j + 1 else hs_lc sk sl o j from rfl] at this
    show sm_along_L122_B (sm_along_L122 m) (nI o) (hs_lc sk sl o j) (nI j) (nI n) sk sl = _
    unfold sm_along_L122_B
    rw [e4, if_neg (hh_nle (by omega) (by omega)), if_pos (hb_I (by omega) (by omega)), nI_clamp (by omega), nI_1]
    by_cases a : sk j = 2
    · rw [if_pos a, if_pos (hb_I (by omega) (by omega))]
      by_cases b : sl j = nI o
      · rw [if_pos ⟨a, b⟩] at this
        rw [if_pos b]
        exact this
      · rw [if_neg (fun q => b q.2)] at this
        rw [if_neg b]
        exact this
    · rw [if_neg (fun q => a q.1)] at this
      rw [if_neg a]
      exact this
def he_Al (n : Nat) (mk ms sk sl kp xk xs : Nat → Int32) (xf : Nat → Int64) (lc rz im : Nat → Int32) : Prop :=
  ∀ (c j : Nat) (v : Nat × Int32), (c = 13 ∧ j < 4) ∨ (c = 14 ∧ j < 6) → v.1 < 3 → he_v n v → ∃ u, he_v n u ∧ sxc_valueOfUnary (hv v.1 v.2) xk xs xf (nI n) lc rz im (nI c) (nI j) = some (hv u.1 u.2) ∧
    ∀ (vs : List (Nat × Int32)) (vk va : Nat → Int32), vs.length < 41 → he_V n (v :: vs) vk va → he_Rs n u vs (sm_along (nI c) (nI j) (nI n) mk ms sk sl kp 0 (nI (vs.length + 1)) vk va)
section
variable {cc n : Nat} {mp mk ms mr sk sl xp xk xs kp : Nat → Int32} {xf : Nat → Int64} {xr : Int32} {lf lc rs rz im : Nat → Int32} {so sr re : Int32}
theorem he_al (h : hh_I cc n mp mk ms mr sk sl xp xk xs xf xr) (hs : hs_V n mr sk sl xs xr lf lc rs rz im so sr re) (hkp : ∀ i, i < n → hs_K n mr sk sl kp i) : he_Al n mk ms sk sl kp xk xs xf lc rz im := by
  intro c j v hcj v3 hvv
  have hn := h.2.1
  have c17 : ¬ nI c = 17 := he_q 17 17 rfl (by omega) (by omega) (by omega : ¬ c = 17)
  have v4 : v.1 < 4 := by omega
  by_cases v0 : v.1 = 0
  · have x0 := hvv.2.1 v0
    refine ⟨v, hvv, ?_, fun vs vk va hl hV => ?_⟩
    · unfold sxc_valueOfUnary
      rw [if_neg c17, hv_isEmpty v4, if_pos (show v.1 = 0 ∧ v.2 = 0 from ⟨v0, x0⟩), if_neg (by decide : ¬ (1 : Int32) = 0), v0, x0, hv_00]
    · have hV0 := hV
      obtain ⟨_, _, hk, ha, _⟩ : v.1 < 3 ∧ he_v n v ∧ vk vs.length = nI v.1 ∧ va vs.length = v.2 ∧ he_V n vs vk va := hV
      unfold sm_along
      rw [nI_pred, if_pos (hb_I hl (by omega)), if_pos (hb_I hl (by omega)), nI_clamp (by omega), hk, if_neg (show ¬ nI v.1 = 1 from fun q => by have := (nI_eq (b := 1) (by omega) (by omega)).mp q; omega)]
      unfold sm_along_J36
      rw [if_neg (show ¬ nI v.1 = 2 from fun q => by have := (nI_eq (b := 2) (by omega) (by omega)).mp q; omega)]
      exact ⟨_, _, _, _, rfl, Or.inr ⟨v3, rfl, rfl, hV0⟩⟩
  · by_cases v1 : v.1 = 1
    · refine ⟨(3, -2), he_v3 (by decide), ?_, fun vs vk va hl hV => ?_⟩
      · unfold sxc_valueOfUnary
        rw [if_neg c17, hv_isEmpty v4, if_neg (show ¬ (v.1 = 0 ∧ v.2 = 0) from fun q => v0 q.1), if_pos (rfl : (0 : Int32) = 0), hv_isLink v4, if_neg (by omega : ¬ v.1 = 2), if_pos (rfl : (0 : Int32) = 0), hv_error]
      · obtain ⟨_, _, hk, ha, _⟩ : v.1 < 3 ∧ he_v n v ∧ vk vs.length = nI v.1 ∧ va vs.length = v.2 ∧ he_V n vs vk va := hV
        unfold sm_along
        rw [nI_pred, if_pos (hb_I hl (by omega)), if_pos (hb_I hl (by omega)), nI_clamp (by omega), hk, if_pos (show nI v.1 = 1 by rw [v1]; rfl)]
        unfold sm_along_J36
        rw [if_neg (show ¬ nI v.1 = 2 from fun q => by have := (nI_eq (b := 2) (by omega) (by omega)).mp q; omega)]
        exact ⟨_, _, _, _, rfl, Or.inl ⟨rfl, rfl, by decide⟩⟩
    · have v2 : v.1 = 2 := by omega
      obtain ⟨o, ho, hx⟩ := hvv.2.2.1 v2
      have has1 : sxh_hasObject (nI o) (nI n) = 1 := by
        unfold sxh_hasObject
        rw [if_neg (nI_pos (by omega)), if_neg (hh_nle ho (by omega))]
      have i24 : hq_I (nI o) 24 = true := hb_I (by omega) (by omega)
      have cl : (nI o).toNatClampNeg = o := nI_clamp (by omega)
      have PC : sxc_valueOfUnary (hv v.1 v.2) xk xs xf (nI n) lc rz im (nI c) (nI j) = if nI c = 13 then (sxh_fieldOf (nI o) (nI j) xf).bind (fun v99 => some v99) else (sxc_factOf (nI o) (nI j) xk xs lc rz im).bind (fun v112 => some v112) := by
        unfold sxc_valueOfUnary
        rw [if_neg c17, hv_isEmpty v4, if_neg (show ¬ (v.1 = 0 ∧ v.2 = 0) from fun q => v0 q.1), if_pos (rfl : (0 : Int32) = 0), hv_isLink v4, if_pos v2, if_neg (by decide : ¬ (1 : Int32) = 0), hv_contentOf, hx, has1, if_neg (by decide : ¬ (1 : Int32) = 0)]
      have PR : ∀ (vs : List (Nat × Int32)) (vk va : Nat → Int32), vs.length < 41 → he_V n (v :: vs) vk va → he_V n vs vk va ∧ sm_along (nI c) (nI j) (nI n) mk ms sk sl kp 0 (nI (vs.length + 1)) vk va = sm_along_J36 (nI c) (nI j) 2 (nI o) (nI n) mk ms sk sl kp 0 (nI (vs.length + 1)) vk va := fun vs vk va hl hV => by
        obtain ⟨_, _, hk, ha, hV'⟩ : v.1 < 3 ∧ he_v n v ∧ vk vs.length = nI v.1 ∧ va vs.length = v.2 ∧ he_V n vs vk va := hV
        refine ⟨hV', ?_⟩
        unfold sm_along
        rw [nI_pred, if_pos (hb_I hl (by omega)), if_pos (hb_I hl (by omega)), nI_clamp (by omega), hk, ha, hx, v2, if_neg (by decide : ¬ nI 2 = 1)]
        rfl
      rcases hcj with ⟨rfl, hj⟩ | ⟨rfl, hj⟩
      · obtain ⟨b, b3, hsk, hxf, hb0, hb2, _⟩ := h.2.2.2.2.1 (4 * o + j) (by omega)
        have ix : nI o * 4 + nI j = nI (4 * o + j) := by
          rw [show nI o * 4 = nI (o * 4) from pk_mul o 4, nI_add, Nat.mul_comm]
        have im4 : 4 * nI o + nI j = nI (4 * o + j) := by
          rw [show 4 * nI o = nI (4 * o) from pk_mul 4 o, nI_add]
        have hu : he_v n (b, sl (4 * o + j)) := ⟨show b < 4 by omega, hb0, hb2, fun q => by have q : b = 3 := q; omega⟩
        refine ⟨(b, sl (4 * o + j)), hu, ?_, fun vs vk va hl hV => ?_⟩
        · rw [PC, if_pos (by decide : nI 13 = 13)]
          unfold sxh_fieldOf
          rw [ix, if_pos (hb_I (by omega) (by omega)), nI_clamp (by omega), Option.bind_some, hxf]
        · obtain ⟨hV', e⟩ := PR vs vk va hl hV
          rw [e]
          unfold sm_along_J36
          rw [if_pos (rfl : (2 : Int32) = 2), if_pos (by decide : nI 13 = 13), im4, if_pos (hb_I (by omega) (by omega)), if_pos (hb_I (by omega) (by omega)), nI_clamp (by omega), hsk]
          exact he_gv (u := (b, sl (4 * o + j))) hl b3 hu (Or.inr rfl) (nI_pred _) hV'
      · have F : ∀ (x : Int32), sxc_factOf (nI o) (nI j) xk xs lc rz im = some (sxv_number x) → (∀ (vs : List (Nat × Int32)) (vk va : Nat → Int32), sm_along_J36 (nI 14) (nI j) 2 (nI o) (nI n) mk ms sk sl kp 0 (nI (vs.length + 1)) vk va = (sm_give 1 x 1 (nI (vs.length + 1)) vk va).bind fun v => some (0, v.1, v.2.1, v.2.2)) →
            ∃ u, he_v n u ∧ sxc_valueOfUnary (hv v.1 v.2) xk xs xf (nI n) lc rz im (nI 14) (nI j) = some (hv u.1 u.2) ∧ ∀ (vs : List (Nat × Int32)) (vk va : Nat → Int32), vs.length < 41 → he_V n (v :: vs) vk va → he_Rs n u vs (sm_along (nI 14) (nI j) (nI n) mk ms sk sl kp 0 (nI (vs.length + 1)) vk va) := fun x h1 h2 => by
          refine ⟨(1, x), he_v1, ?_, fun vs vk va hl hV => ?_⟩
          · rw [PC, if_neg (by decide : ¬ nI 14 = 13), h1, Option.bind_some, hv_number]
          · obtain ⟨hV', e⟩ := PR vs vk va hl hV
            rw [e, h2]
            exact he_gv (u := (1, x)) hl (by decide : (1 : Nat) < 3) he_v1 (Or.inr rfl) (nI_pred _) hV'
        have j6 : j = 0 ∨ j = 1 ∨ j = 2 ∨ j = 3 ∨ j = 4 ∨ j = 5 := by omega
        rcases j6 with rfl | rfl | rfl | rfl | rfl | rfl
        · refine F (nI o) ?_ (fun vs vk va => ?_)
          · unfold sxc_factOf
            rw [if_pos (by decide : nI 0 = 0)]
          · unfold sm_along_J36
            rw [if_pos (rfl : (2 : Int32) = 2), if_neg (by decide : ¬ nI 14 = 13), if_neg (by decide : ¬ nI 0 = 4), if_neg (by decide : ¬ nI 0 = 5), if_pos (by decide : nI 0 = 0)]
        · refine F (mk o) ?_ (fun vs vk va => ?_)
          · unfold sxc_factOf sxh_classOf
            rw [if_neg (by decide : ¬ nI 1 = 0), if_pos (by decide : nI 1 = 1), if_pos i24, cl, Option.bind_some, (h.2.2.2.1 o ho).1]
          · unfold sm_along_J36
            rw [if_pos (rfl : (2 : Int32) = 2), if_neg (by decide : ¬ nI 14 = 13), if_neg (by decide : ¬ nI 1 = 4), if_neg (by decide : ¬ nI 1 = 5), if_neg (by decide : ¬ nI 1 = 0), if_pos (by decide : nI 1 = 1), if_pos i24, cl]
        · refine F (ms o) ?_ (fun vs vk va => ?_)
          · unfold sxc_factOf sxh_sizeOf
            rw [if_neg (by decide : ¬ nI 2 = 0), if_neg (by decide : ¬ nI 2 = 1), if_pos (by decide : nI 2 = 2), if_pos i24, cl, Option.bind_some, (h.2.2.2.1 o ho).2.2]
          · unfold sm_along_J36
            rw [if_pos (rfl : (2 : Int32) = 2), if_neg (by decide : ¬ nI 14 = 13), if_neg (by decide : ¬ nI 2 = 4), if_neg (by decide : ¬ nI 2 = 5), if_neg (by decide : ¬ nI 2 = 0), if_neg (by decide : ¬ nI 2 = 1), if_pos (by decide : nI 2 = 2), if_pos i24, cl]
        · refine F (hs_sum ms (kp o) n) ?_ (fun vs vk va => ?_)
          · unfold sxc_factOf sxs_retainedSizeOf
            rw [if_neg (by decide : ¬ nI 3 = 0), if_neg (by decide : ¬ nI 3 = 1), if_neg (by decide : ¬ nI 3 = 2), if_pos (by decide : nI 3 = 3), if_pos i24, cl, Option.bind_some, (hs.2.2.2.2.2.1 o ho).2, hs_K_eq (hkp o ho) (hs.2.2.2.2.2.1 o ho).1, hs_sum_to n (fun i hi => (h.2.2.2.1 i hi).2.2)]
          · unfold sm_along_J36
            rw [if_pos (rfl : (2 : Int32) = 2), if_neg (by decide : ¬ nI 14 = 13), if_neg (by decide : ¬ nI 3 = 4), if_neg (by decide : ¬ nI 3 = 5), if_neg (by decide : ¬ nI 3 = 0), if_neg (by decide : ¬ nI 3 = 1), if_neg (by decide : ¬ nI 3 = 2), if_pos i24, cl, qm_sum _ hn, Option.bind_some]
        · obtain ⟨r, i1, i2⟩ := qm_immediate (kp := kp) hn ho
          have e : r = im o := hs_imm_eq i2 (hs_imm_to (fun i hi => hs_K_eq (hs.2.2.2.2.2.1 i hi).1 (hkp i hi)) (hs.2.2.2.2.2.2 o ho))
          have hf : sxc_factOf (nI o) (nI 4) xk xs lc rz im = if r = -1 then some 0 else some (sxv_link r) := by
            unfold sxc_factOf sxs_immediateDominatorOf
            rw [if_neg (by decide : ¬ nI 4 = 0), if_neg (by decide : ¬ nI 4 = 1), if_neg (by decide : ¬ nI 4 = 2), if_neg (by decide : ¬ nI 4 = 3), if_pos (by decide : nI 4 = 4), if_pos i24, cl, Option.bind_some, e]
          have hm : ∀ (vs : List (Nat × Int32)) (vk va : Nat → Int32), sm_along_J36 (nI 14) (nI 4) 2 (nI o) (nI n) mk ms sk sl kp 0 (nI (vs.length + 1)) vk va = if 0 ≤ r then (sm_give 2 r 1 (nI (vs.length + 1)) vk va).bind (fun v => some (0, v.1, v.2.1, v.2.2)) else (sm_give 0 r 1 (nI (vs.length + 1)) vk va).bind (fun v => some (0, v.1, v.2.1, v.2.2)) := fun vs vk va => by
            unfold sm_along_J36
            rw [if_pos (rfl : (2 : Int32) = 2), if_neg (by decide : ¬ nI 14 = 13), if_pos (by decide : nI 4 = 4), i1, Option.bind_some]
          rcases i2 with ⟨d, hd, hrd, _⟩ | ⟨hr, _⟩
          · refine ⟨(2, nI d), he_v2 hd, ?_, fun vs vk va hl hV => ?_⟩
            · rw [PC, if_neg (by decide : ¬ nI 14 = 13), hf, hrd, if_neg (hh_ne1 (by omega)), Option.bind_some, hv_link]
            · obtain ⟨hV', e⟩ := PR vs vk va hl hV
              rw [e, hm, hrd, if_pos (nI_pos' (by omega))]
              exact he_gv (u := (2, nI d)) hl (by decide : (2 : Nat) < 3) (he_v2 hd) (Or.inr rfl) (nI_pred _) hV'
          · refine ⟨(0, 0), he_v0, ?_, fun vs vk va hl hV => ?_⟩
            · rw [PC, if_neg (by decide : ¬ nI 14 = 13), hf, if_pos hr, Option.bind_some, hv_00]
            · obtain ⟨hV', e⟩ := PR vs vk va hl hV
              rw [e, hm, hr, if_neg (by decide : ¬ (0 : Int32) ≤ -1)]
              exact he_gv (u := (0, 0)) hl (by decide : (0 : Nat) < 3) he_v0 (Or.inl rfl) (nI_pred _) hV'
        · refine F (hs_lc sk sl o (4 * n)) ?_ (fun vs vk va => ?_)
          · unfold sxc_factOf sxs_linkCountOf
            rw [if_neg (by decide : ¬ nI 5 = 0), if_neg (by decide : ¬ nI 5 = 1), if_neg (by decide : ¬ nI 5 = 2), if_neg (by decide : ¬ nI 5 = 3), if_neg (by decide : ¬ nI 5 = 4), if_pos (by decide : nI 5 = 5), if_pos i24, cl, Option.bind_some, hs.2.2.2.1 o ho]
          · have e := he_lcL (o := o) (sk := sk) (sl := sl) hn (4 * n) 0 kF (by omega) (hb_kF (by omega))
            have e : sm_along_L122 kF (nI o) 0 0 (nI n) sk sl = some (hs_lc sk sl o (4 * n)) := e
            unfold sm_along_J36
            rw [if_pos (rfl : (2 : Int32) = 2), if_neg (by decide : ¬ nI 14 = 13), if_neg (by decide : ¬ nI 5 = 4), if_pos (by decide : nI 5 = 5), e, Option.bind_some]
end
/-! the class's side: leaves, one operand, two operands -/
section
variable {n : Nat} {l2 : Int32} {xk xs : Nat → Int32} {xf : Nat → Int64} {a4 : Int32} {lc rz im : Nat → Int32}
def he_D (n : Nat) (l2 : Int32) (xk xs : Nat → Int32) (xf : Nat → Int64) (a4 : Int32) (lc rz im : Nat → Int32) (d : hd_X) (u : Nat × Int32) : Prop := d l2 xk xs xf a4 lc rz im = some (hv u.1 u.2) ∧ he_v n u
theorem he_Dleaf {c : Int32} {x : Int32} {u : Nat × Int32} (hu : he_v n u) (h : sxc_valueOfLeaf l2 c x = hv u.1 u.2) : he_D n l2 xk xs xf a4 lc rz im (hd_leaf c x) u := by
  refine ⟨?_, hu⟩
  unfold hd_leaf hd_mk sxc_valueOf
  rw [if_pos (by decide : (0 : Int32) ≤ 40), if_pos rfl, h]
theorem he_Dun {d : hd_X} {u w : Nat × Int32} {c x : Int32} (h : he_D n l2 xk xs xf a4 lc rz im d u) (h3 : u.1 = 3 → w = u) (h1 : u.1 < 3 → sxc_valueOfUnary (hv u.1 u.2) xk xs xf a4 lc rz im c x = some (hv w.1 w.2) ∧ he_v n w) : he_D n l2 xk xs xf a4 lc rz im (hd_un c x d) w := by
  have e : hd_un c x d l2 xk xs xf a4 lc rz im = if sxv_isError (hv u.1 u.2) = 0 then (sxc_valueOfUnary (hv u.1 u.2) xk xs xf a4 lc rz im c x).bind (fun v61 => some v61) else some (hv u.1 u.2) := by
    unfold hd_un hd_mk sxc_valueOf
    rw [if_pos (by decide : (0 : Int32) ≤ 40), if_neg (Option.some_ne_none 0), h.1, Option.bind_some, if_pos (rfl : (none : Option Nat) = none)]
  unfold he_D
  rw [e, hv_isError h.2.1]
  by_cases e3 : u.1 = 3
  · rw [if_pos e3, if_neg (by decide : ¬ (1 : Int32) = 0), h3 e3]
    exact ⟨rfl, h.2⟩
  · have lt : u.1 < 3 := by have := h.2.1; omega
    rw [if_neg e3, if_pos (rfl : (0 : Int32) = 0), (h1 lt).1, Option.bind_some]
    exact ⟨rfl, (h1 lt).2⟩
theorem he_Dbin {d1 d2 : hd_X} {a b w : Nat × Int32} {c : Int32} (h1 : he_D n l2 xk xs xf a4 lc rz im d1 a) (h2 : he_D n l2 xk xs xf a4 lc rz im d2 b) (hw : he_v n w) (k3 : a.1 = 3 → w = a) (ks : a.1 < 3 → ¬ sxc_settles c (hv a.1 a.2) = 0 → sxv_truthOf (hv a.1 a.2) = hv w.1 w.2)
    (kn : a.1 < 3 → sxc_settles c (hv a.1 a.2) = 0 → (b.1 = 3 → w = b) ∧ (b.1 < 3 → sxc_valueOfBinary c (hv a.1 a.2) (hv b.1 b.2) = hv w.1 w.2)) : he_D n l2 xk xs xf a4 lc rz im (hd_bin c 0 d1 d2) w := by
  have e : hd_bin c 0 d1 d2 l2 xk xs xf a4 lc rz im = if sxv_isError (hv a.1 a.2) = 0 then (if sxc_settles c (hv a.1 a.2) = 0 then (if sxv_isError (hv b.1 b.2) = 0 then some (sxc_valueOfBinary c (hv a.1 a.2) (hv b.1 b.2)) else some (hv b.1 b.2)) else some (sxv_truthOf (hv a.1 a.2))) else some (hv a.1 a.2) := by
    unfold hd_bin hd_mk sxc_valueOf
    rw [if_pos (by decide : (0 : Int32) ≤ 40), if_neg (Option.some_ne_none 0), h1.1, Option.bind_some, if_neg (Option.some_ne_none 0), h2.1, Option.bind_some]
  refine ⟨?_, hw⟩
  rw [e, hv_isError h1.2.1]
  by_cases e3 : a.1 = 3
  · rw [if_pos e3, if_neg (by decide : ¬ (1 : Int32) = 0), k3 e3]
  · have lt : a.1 < 3 := by have := h1.2.1; omega
    rw [if_neg e3, if_pos (rfl : (0 : Int32) = 0)]
    by_cases s : sxc_settles c (hv a.1 a.2) = 0
    · rw [if_pos s, hv_isError h2.2.1]
      by_cases b3 : b.1 = 3
      · rw [if_pos b3, if_neg (by decide : ¬ (1 : Int32) = 0), (kn lt s).1 b3]
      · rw [if_neg b3, if_pos (rfl : (0 : Int32) = 0), (kn lt s).2 (by have := h2.2.1; omega)]
    · rw [if_neg s, ks lt s]
end
theorem he_f1 : sxv_flag 1 = hv 1 1 := by decide
theorem he_f0 : sxv_flag 0 = hv 1 0 := by decide
theorem he_cnot {a : Nat × Int32} {a1 a2 : Nat → Int32} {a3 : Nat → Int64} {a4 : Int32} {a5 a6 a7 : Nat → Int32} {x : Int32} (h3 : a.1 < 3) (h0 : a.1 = 0 → a.2 = 0) : sxc_valueOfUnary (hv a.1 a.2) a1 a2 a3 a4 a5 a6 a7 17 x = some (hv (he_nt a).1 (he_nt a).2) := by
  unfold sxc_valueOfUnary he_nt
  rw [if_pos (rfl : (17 : Int32) = 17), hv_truthOf (by omega) _ h0, if_neg (by omega : ¬ a.1 = 3)]
  by_cases e : a.1 = 2
  · rw [if_pos e, if_pos e, hv_isError (by decide : 3 < 4), if_pos rfl, if_neg (by decide : ¬ (1 : Int32) = 0)]
  · rw [if_neg e, if_neg e]
    by_cases x0 : a.2 = 0
    · rw [if_pos x0, if_pos x0, hv_isError (by decide : 1 < 4), if_neg (by decide : ¬ (1 : Nat) = 3), if_pos (rfl : (0 : Int32) = 0), hv_10, if_pos ((lg_cmp_eq _ _).mpr rfl), he_f1]
    · rw [if_neg x0, if_neg x0, hv_isError (by decide : 1 < 4), if_neg (by decide : ¬ (1 : Nat) = 3), if_pos (rfl : (0 : Int32) = 0), hv_11, if_neg (fun q => absurd ((lg_cmp_eq _ _).mp q) (by decide)), he_f0]
theorem he_ctr {a : Nat × Int32} (h3 : a.1 < 3) (h0 : a.1 = 0 → a.2 = 0) : sxv_truthOf (hv a.1 a.2) = hv (he_tr a).1 (he_tr a).2 := by
  unfold he_tr
  rw [hv_truthOf (by omega) _ h0, if_neg (by omega : ¬ a.1 = 3)]
  by_cases e : a.1 = 2
  · rw [if_pos e, if_pos e]
  · rw [if_neg e, if_neg e]
    by_cases x0 : a.2 = 0
    · rw [if_pos x0, if_pos x0]
    · rw [if_neg x0, if_neg x0]
theorem he_st {c : Nat} (hc : 18 ≤ c ∧ c ≤ 23) (x : Int64) : sxc_settles (nI c) x = 0 := by
  unfold sxc_settles
  rw [if_neg (he_q 16 16 rfl (by omega) (by omega) (by omega : ¬ c = 16)), if_neg (he_q 15 15 rfl (by omega) (by omega) (by omega : ¬ c = 15))]
theorem he_st16 {a : Nat × Int32} (h3 : a.1 < 3) (h0 : a.1 = 0 → a.2 = 0) : sxc_settles (nI 16) (hv a.1 a.2) = if a.1 = 2 then 1 else if a.2 = 0 then 1 else 0 := by
  unfold sxc_settles
  rw [if_pos (by decide : nI 16 = 16)]
  unfold sxc_settles_J14
  rw [hv_truthOf (by omega) _ h0, if_neg (by omega : ¬ a.1 = 3), if_neg (by decide : ¬ nI 16 = 15)]
  by_cases e : a.1 = 2
  · rw [if_pos e, if_pos e, hv_isError (by decide : 3 < 4), if_pos rfl, if_neg (by decide : ¬ (1 : Int32) = 0)]
  · rw [if_neg e, if_neg e]
    unfold sxc_settles_J42
    by_cases x0 : a.2 = 0
    · rw [if_pos x0, if_pos x0, hv_isError (by decide : 1 < 4), if_neg (by decide : ¬ (1 : Nat) = 3), if_pos (rfl : (0 : Int32) = 0), hv_10, if_pos ((lg_cmp_eq _ _).mpr rfl)]
    · rw [if_neg x0, if_neg x0, hv_isError (by decide : 1 < 4), if_neg (by decide : ¬ (1 : Nat) = 3), if_pos (rfl : (0 : Int32) = 0), hv_11, if_neg (fun q => absurd ((lg_cmp_eq _ _).mp q) (by decide))]
theorem he_st15 {a : Nat × Int32} (h3 : a.1 < 3) (h0 : a.1 = 0 → a.2 = 0) : sxc_settles (nI 15) (hv a.1 a.2) = if a.1 = 2 then 1 else if a.2 = 0 then 0 else 1 := by
  unfold sxc_settles
  rw [if_neg (by decide : ¬ nI 15 = 16), if_pos (by decide : nI 15 = 15)]
  unfold sxc_settles_J14
  rw [hv_truthOf (by omega) _ h0, if_neg (by omega : ¬ a.1 = 3), if_pos (by decide : nI 15 = 15)]
  by_cases e : a.1 = 2
  · rw [if_pos e, if_pos e, hv_isError (by decide : 3 < 4), if_pos rfl, if_neg (by decide : ¬ (1 : Int32) = 0)]
  · rw [if_neg e, if_neg e]
    unfold sxc_settles_J42
    by_cases x0 : a.2 = 0
    · rw [if_pos x0, if_pos x0, hv_isError (by decide : 1 < 4), if_neg (by decide : ¬ (1 : Nat) = 3), if_pos (rfl : (0 : Int32) = 0), hv_10, if_neg (fun q => absurd ((lg_cmp_eq _ _).mp q) (by decide))]
    · rw [if_neg x0, if_neg x0, hv_isError (by decide : 1 < 4), if_neg (by decide : ¬ (1 : Nat) = 3), if_pos (rfl : (0 : Int32) = 0), hv_11, if_pos ((lg_cmp_eq _ _).mpr rfl)]
theorem he_vbi {c : Nat} {a b : Nat × Int32} (hc : 18 ≤ c ∧ c ≤ 23) (a3 : a.1 < 3) (a0 : a.1 = 0 → a.2 = 0) (b3 : b.1 < 3) (b0 : b.1 = 0 → b.2 = 0) : sxc_valueOfBinary (nI c) (hv a.1 a.2) (hv b.1 b.2) = hv (he_bi c a b).1 (he_bi c a b).2 := by
  have eq : (lg_cmp (hv a.1 a.2) (hv b.1 b.2) = 0) ↔ a.1 = b.1 ∧ a.2 = b.2 := by rw [lg_cmp_eq, hv_inj (by omega) (by omega)]
  have em : ∀ x : Nat × Int32, (x.1 = 0 → x.2 = 0) → ((x.1 = 0 ∧ x.2 = 0) ↔ x.1 = 0) := fun x h => ⟨fun q => q.1, fun q => ⟨q, h q⟩⟩
  have ar : 20 ≤ c → sxc_valueOfArithmetic (nI c) (hv a.1 a.2) (hv b.1 b.2) = hv (he_bi c a b).1 (he_bi c a b).2 := fun h20 => by
    unfold sxc_valueOfArithmetic he_bi
    rw [if_neg (by omega : ¬ c = 18), if_neg (by omega : ¬ c = 19), hv_isLink (by omega), hv_isLink (by omega)]
    by_cases a2 : a.1 = 2
    · rw [if_pos a2, if_pos a2, if_neg (by decide : ¬ (1 : Int32) = 0), hv_error]
    · rw [if_neg a2, if_neg a2, if_pos (rfl : (0 : Int32) = 0)]
      by_cases b2 : b.1 = 2
      · rw [if_pos b2, if_pos b2, if_neg (by decide : ¬ (1 : Int32) = 0), hv_error]
      · rw [if_neg b2, if_neg b2, if_pos (rfl : (0 : Int32) = 0), hv_isEmpty (by omega), hv_isEmpty (by omega)]
        have J : ∀ q : ¬ (a.1 = 1 ∧ b.1 = 1), sxc_valueOfArithmetic_J34 (nI c) = hv (if c = 20 then (if a.1 = 1 ∧ b.1 = 1 ∧ ¬ b.2 ≤ a.2 then ((1 : Nat), (1 : Int32)) else (1, 0)) else if a.1 = 1 ∧ b.1 = 1 then (1, if c = 21 then a.2 + b.2 else if c = 22 then a.2 - b.2 else a.2 * b.2) else (0, 0)).1 (if c = 20 then (if a.1 = 1 ∧ b.1 = 1 ∧ ¬ b.2 ≤ a.2 then ((1 : Nat), (1 : Int32)) else (1, 0)) else if a.1 = 1 ∧ b.1 = 1 then (1, if c = 21 then a.2 + b.2 else if c = 22 then a.2 - b.2 else a.2 * b.2) else (0, 0)).2 := fun q => by
          unfold sxc_valueOfArithmetic_J34
          by_cases c20 : c = 20
          · rw [if_pos c20, if_pos (show nI c = 20 by rw [c20]; rfl), if_neg (show ¬ (a.1 = 1 ∧ b.1 = 1 ∧ ¬ b.2 ≤ a.2) from fun w => q ⟨w.1, w.2.1⟩), hv_10]
          · rw [if_neg c20, if_neg (he_q 20 20 rfl (by omega) (by omega) c20), if_neg q, hv_00]
        by_cases a00 : a.1 = 0
        · rw [if_pos ((em a a0).mpr a00), if_neg (by decide : ¬ (1 : Int32) = 0)]
          exact J (fun q => by omega)
        · rw [if_neg (show ¬ (a.1 = 0 ∧ a.2 = 0) from fun q => a00 q.1), if_pos (rfl : (0 : Int32) = 0)]
          by_cases b00 : b.1 = 0
          · rw [if_pos ((em b b0).mpr b00), if_neg (by decide : ¬ (1 : Int32) = 0)]
            exact J (fun q => by omega)
          · rw [if_neg (show ¬ (b.1 = 0 ∧ b.2 = 0) from fun q => b00 q.1), if_pos (rfl : (0 : Int32) = 0), hv_contentOf, hv_contentOf]
            have ab : a.1 = 1 ∧ b.1 = 1 := ⟨by omega, by omega⟩
            by_cases c20 : c = 20
            · rw [if_pos c20, if_pos (show nI c = 20 by rw [c20]; rfl)]
              by_cases le : b.2 ≤ a.2
              · rw [if_pos le, if_neg (show ¬ (a.1 = 1 ∧ b.1 = 1 ∧ ¬ b.2 ≤ a.2) from fun w => w.2.2 le), he_f0]
              · rw [if_neg le, if_pos (show a.1 = 1 ∧ b.1 = 1 ∧ ¬ b.2 ≤ a.2 from ⟨ab.1, ab.2, le⟩), he_f1]
            · rw [if_neg c20, if_neg (he_q 20 20 rfl (by omega) (by omega) c20), if_pos ab]
              by_cases c21 : c = 21
              · rw [if_pos c21, if_pos (show nI c = 21 by rw [c21]; rfl), hv_number]
              · rw [if_neg c21, if_neg (he_q 21 21 rfl (by omega) (by omega) c21)]
                by_cases c22 : c = 22
                · rw [if_pos c22, if_pos (show nI c = 22 by rw [c22]; rfl), hv_number]
                · rw [if_neg c22, if_neg (he_q 22 22 rfl (by omega) (by omega) c22), hv_number]
  have c6 : c = 18 ∨ c = 19 ∨ 20 ≤ c := by omega
  unfold sxc_valueOfBinary
  rw [if_neg (he_q 15 15 rfl (by omega) (by omega) (by omega : ¬ c = 15)), if_neg (he_q 16 16 rfl (by omega) (by omega) (by omega : ¬ c = 16)), if_neg (he_q 17 17 rfl (by omega) (by omega) (by omega : ¬ c = 17))]
  rcases c6 with rfl | rfl | h20
  · rw [if_pos (by decide : nI 18 = 18)]
    unfold he_bi
    rw [if_pos rfl]
    by_cases e : a.1 = b.1 ∧ a.2 = b.2
    · rw [if_pos (eq.mpr e), if_pos e, he_f1]
    · rw [if_neg (fun q => e (eq.mp q)), if_neg e, he_f0]
  · rw [if_neg (by decide : ¬ nI 19 = 18), if_pos (by decide : nI 19 = 19)]
    unfold he_bi
    rw [if_neg (by decide : ¬ 19 = 18), if_pos rfl]
    by_cases e : a.1 = b.1 ∧ a.2 = b.2
    · rw [if_pos (eq.mpr e), if_pos e, he_f0]
    · rw [if_neg (fun q => e (eq.mp q)), if_neg e, he_f1]
  · rw [if_neg (he_q 18 18 rfl (by omega) (by omega) (by omega : ¬ c = 18)), if_neg (he_q 19 19 rfl (by omega) (by omega) (by omega : ¬ c = 19))]
    exact ar h20
