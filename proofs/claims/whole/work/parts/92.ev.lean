/-! what the reference works out of an e is what the class's tree of it means -/
def he_fin (k : Nat) (tk : Nat → Nat) (p : Nat) : Prop := p < k ∧ (tk p = 3 ∨ tk p = 5 ∨ tk p = 7 ∨ tk p = 24 ∨ ¬ he_lv (tk p) = 0)
def he_S (n k : Nat) (tk : Nat → Nat) (mc mn mk ms sk sl kp : Nat → Int32) (self : Int32) (lv p : Nat) (vs : List (Nat × Int32)) (ws : List Nat) (p1 : Nat) (u : Nat × Int32) : Prop :=
  (u.1 = 3 ∧ he_Run n k mc mn mk ms sk sl kp self p vs ws u) ∨ ∃ vs2 pend, he_C pend vs2 u vs ∧ (∀ w ∈ pend, (15 ≤ w ∧ w ≤ 23) ∧ he_lo lv ≤ he_rk w ∧ (¬ he_lv (tk p1) = 0 → he_rk (tk p1) ≤ he_rk w)) ∧ ∀ r, he_Run n k mc mn mk ms sk sl kp self p1 vs2 (pend ++ ws) r → he_Run n k mc mn mk ms sk sl kp self p vs ws r
def he_P1 (n k : Nat) (mc mn mk ms sk sl kp : Nat → Int32) (self : Int32) (p0 p : Nat) (u : Nat × Int32) : Prop :=
  ∀ (vs : List (Nat × Int32)) (ws : List Nat), (u.1 = 3 ∧ he_Run n k mc mn mk ms sk sl kp self p0 vs ws u) ∨ (u.1 < 3 ∧ ∀ r, he_Run n k mc mn mk ms sk sl kp self p (u :: vs) ws r → he_Run n k mc mn mk ms sk sl kp self p0 vs ws r)
def he_EV (n k : Nat) (tk : Nat → Nat) (mc mn mk ms sk sl kp : Nat → Int32) (self : Int32) (xk xs : Nat → Int32) (xf : Nat → Int64) (lc rz im : Nat → Int32) (rec : Int32 → Nat → Option (hd_X × Nat × Nat)) : Prop :=
  ∀ (lv p : Nat) (res : hd_X × Nat × Nat), 1 ≤ lv → lv ≤ 6 → rec (nI lv) p = some res → he_fin k tk res.2.2 → he_lv (tk res.2.2) < lv ∧ ∃ u, he_D n self xk xs xf (nI n) lc rz im res.1 u ∧ ∀ vs ws, he_stop (he_r lv) ws → he_S n k tk mc mn mk ms sk sl kp self lv p vs ws res.2.2 u
theorem he_vb15 {c : Nat} {x y : Int64} (hc : c = 15 ∨ c = 16) : sxc_valueOfBinary (nI c) x y = sxv_truthOf y := by
  unfold sxc_valueOfBinary
  rcases hc with rfl | rfl
  · rw [if_pos (by decide : nI 15 = 15)]
  · rw [if_neg (by decide : ¬ nI 16 = 15), if_pos (by decide : nI 16 = 16)]
theorem he_18 {w : Nat} (h1 : 15 ≤ w ∧ w ≤ 23) (h2 : ¬ w = 17) (h3 : ¬ (w = 15 ∨ w = 16)) : 18 ≤ w ∧ w ≤ 23 := by omega
section
variable {n k : Nat} {tk : Nat → Nat} {mc mn mk ms sk sl kp xk xs lc rz im C N : Nat → Int32} {xf : Nat → Int64} {self : Int32}
theorem he_evS (hK : he_K n k tk mc mn C N) (hal : he_Al n mk ms sk sl kp xk xs xf lc rz im) {p0 : Nat} : ∀ (m : Nat) (d : hd_X) (h p : Nat) (res : hd_X × Nat × Nat), rd_steps C N m d h p = some res → ∀ u, he_D n self xk xs xf (nI n) lc rz im d u → he_P1 n k mc mn mk ms sk sl kp self p0 p u → ∃ u', he_D n self xk xs xf (nI n) lc rz im res.1 u' ∧ he_P1 n k mc mn mk ms sk sl kp self p0 res.2.2 u' := by
  intro m
  induction m with
  | zero => intro d h p res hu; cases hu
  | succ m ih =>
    intro d h p res hu u hD hP
    obtain ⟨hp, hu⟩ := hq_ok (show (if p ≤ 40 then (if C p = 13 ∨ C p = 14 then rd_steps C N m (hd_un (C p) (N p) d) (h + 1) (p + 1) else some (d, h, p)) else none) = some res from hu)
    by_cases hc : C p = 13 ∨ C p = 14
    · rw [if_pos hc] at hu
      obtain ⟨c, j, hp1, hcj, hCc, hm, hj, hN⟩ : ∃ c j, p < k ∧ ((c = 13 ∧ j < 4) ∨ (c = 14 ∧ j < 6)) ∧ C p = nI c ∧ mc p = nI c ∧ mn p = nI j ∧ N p = nI j := by
        rcases hc with hc | hc
        · obtain ⟨a, b, e⟩ := he_is (c := 13) hK hc (by decide)
          obtain ⟨_, _, _, q1, q2, _⟩ := hK.2.2.1 p a
          obtain ⟨j, j1, j2⟩ := q2 b
          exact ⟨13, j, a, Or.inl ⟨rfl, j1⟩, hc, e, j2, by rw [q1, j2]⟩
        · obtain ⟨a, b, e⟩ := he_is (c := 14) hK hc (by decide)
          obtain ⟨_, _, _, q1, _, q2⟩ := hK.2.2.1 p a
          obtain ⟨j, j1, j2⟩ := q2 b
          exact ⟨14, j, a, Or.inr ⟨rfl, j1⟩, hc, e, j2, by rw [q1, j2]⟩
      rw [hCc, hN] at hu
      have hc2 : c = 13 ∨ c = 14 := by omega
      by_cases u3 : u.1 = 3
      · refine ih _ _ _ _ hu u (he_Dun hD (fun _ => rfl) (fun q => by omega)) (fun vs ws => ?_)
        rcases hP vs ws with ⟨a, b⟩ | ⟨a, _⟩
        · exact Or.inl ⟨a, b⟩
        · omega
      · have ult : u.1 < 3 := by have := hD.2.1; omega
        obtain ⟨w, hw, hcw, hrw⟩ := hal c j u hcj ult hD.2
        refine ih _ _ _ _ hu w (he_Dun hD (fun q => absurd q u3) (fun _ => ⟨hcw, hw⟩)) (fun vs ws => ?_)
        rcases hP vs ws with ⟨a, _⟩ | ⟨_, hR⟩
        · exact absurd a u3
        · by_cases w3 : w.1 = 3
          · exact Or.inl ⟨w3, hR w (he_al3 hK.2.1 hp1 hm hc2 hj hw w3 (fun vk va => hrw vs vk va))⟩
          · have wlt : w.1 < 3 := by have := hw.1; omega
            exact Or.inr ⟨wlt, fun r hr => hR r (he_al1 hK.2.1 hp1 hm hc2 hj wlt (fun vk va => hrw vs vk va) hr)⟩
    · rw [if_neg hc] at hu
      cases hu
      exact ⟨u, hD, hP⟩
theorem he_evM (hK : he_K n k tk mc mn C N) (hal : he_Al n mk ms sk sl kp xk xs xf lc rz im) (ho : ∃ o, o < n ∧ self = nI o) {rec : Int32 → Nat → Option (hd_X × Nat × Nat)} (hrec : he_EV n k tk mc mn mk ms sk sl kp self xk xs xf lc rz im rec) {p : Nat} {res : hd_X × Nat × Nat} (hu : rd_M C N rec p = some res) : ∃ u, he_D n self xk xs xf (nI n) lc rz im res.1 u ∧ he_P1 n k mc mn mk ms sk sl kp self p res.2.2 u := by
  obtain ⟨o, ho, hself⟩ := ho
  unfold rd_M at hu
  by_cases h6 : C p = 6
  · rw [if_pos h6] at hu
    obtain ⟨u1, h1, hu⟩ := hq_bind hu
    obtain ⟨hle, hu⟩ := hq_ok hu
    obtain ⟨h7, hu⟩ := hq_ok hu
    obtain ⟨a, b, e⟩ := he_is (c := 6) hK h6 (by decide)
    obtain ⟨a7, b7, e7⟩ := he_is (c := 7) hK h7 (by decide)
    obtain ⟨_, u, hD, hS⟩ := hrec 1 (p + 1) u1 (by decide) (by decide) h1 ⟨a7, Or.inr (Or.inr (Or.inl b7))⟩
    refine he_evS hK hal _ _ _ _ _ hu u hD (fun vs ws => ?_)
    have u4 := hD.2.1
    rcases hS vs (6 :: ws) (Or.inl rfl) with ⟨u3, hR⟩ | ⟨vs2, pend, hC, hp, hR⟩
    · exact Or.inl ⟨u3, he_open hK.2.1 a e hR⟩
    · by_cases u3 : u.1 = 3
      · exact Or.inl ⟨u3, he_open hK.2.1 a e (hR u (he_close hK.2.1 a7 e7 hC (fun w hw => (hp w hw).1) (fun _ => rfl) hD.2.2.2.2 (fun q => by omega) u4))⟩
      · exact Or.inr ⟨by omega, fun r hr => he_open hK.2.1 a e (hR r (he_close hK.2.1 a7 e7 hC (fun w hw => (hp w hw).1) (fun q => absurd q u3) hD.2.2.2.2 (fun _ => hr) u4))⟩
  · rw [if_neg h6] at hu
    obtain ⟨hl, hu⟩ := hq_ok hu
    rcases hl with hl | hl | hl
    · obtain ⟨a, b, e⟩ := he_is (c := 10) hK hl (by decide)
      rw [hl, (hK.2.2.1 p a).2.2.2.1] at hu
      refine he_evS hK hal _ _ _ _ _ hu (1, mn p) (he_Dleaf he_v1 (hv_number _)) (fun vs ws => Or.inr ⟨(by decide : (1 : Nat) < 3), fun r hr => ?_⟩)
      exact he_leaf (x := mn p) hK.2.1 a (by decide : (1 : Nat) < 3) he_v1 (Or.inr rfl) (by rw [e]; exact he_t10) hr
    · obtain ⟨a, b, e⟩ := he_is (c := 11) hK hl (by decide)
      rw [hl] at hu
      refine he_evS hK hal _ _ _ _ _ hu (0, 0) (he_Dleaf he_v0 hv_00.symm) (fun vs ws => Or.inr ⟨by decide, fun r hr => ?_⟩)
      exact he_leaf (x := self) hK.2.1 a (by decide) he_v0 (Or.inl rfl) (by rw [e]; exact he_t11) hr
    · obtain ⟨a, b, e⟩ := he_is (c := 12) hK hl (by decide)
      rw [hl] at hu
      refine he_evS hK hal _ _ _ _ _ hu (2, self) (he_Dleaf (by rw [hself]; exact he_v2 ho) (hv_link _)) (fun vs ws => Or.inr ⟨(by decide : (2 : Nat) < 3), fun r hr => ?_⟩)
      exact he_leaf (x := self) hK.2.1 a (by decide : (2 : Nat) < 3) (by rw [hself]; exact he_v2 ho) (Or.inr rfl) (by rw [e]; exact he_t12) hr
theorem he_lfin (hK : he_K n k tk mc mn C N) {rec : Int32 → Nat → Option (hd_X × Nat × Nat)} {lv : Nat} (h1 : 1 ≤ lv) (h6 : lv ≤ 6) {m : Nat} {d : hd_X} {h p : Nat} {res : hd_X × Nat × Nat} (hu : rd_loop C rec (nI lv) m d h p = some res) (hf : he_fin k tk res.2.2) : he_fin k tk p := by
  cases m with
  | zero => cases hu
  | succ m =>
    obtain ⟨hp, hu⟩ := hq_ok (show (if p ≤ 40 then (if sxr_levelOf (C p) < nI lv then some (d, h, p) else (rec (sxr_levelOf (C p) + 1) (p + 1)).bind fun u => if p + 2 ≤ u.2.2 then rd_loop C rec (nI lv) m (hd_bin (C p) 0 d u.1) (max h u.2.1 + 1) u.2.2 else none) else none) = some res from hu)
    by_cases hl : sxr_levelOf (C p) < nI lv
    · rw [if_pos hl] at hu
      cases hu
      exact hf
    · obtain ⟨a1, a2, _⟩ := he_lvof hK h1 h6 hl
      exact ⟨a1, Or.inr (Or.inr (Or.inr (Or.inr (by omega))))⟩
/-- one operator with its right operand -/
theorem he_evB (hK : he_K n k tk mc mn C N) {lv p p1 p2 : Nat} {d d2 : hd_X} {u b : Nat × Int32} (hp1 : p1 < k) (hl1 : 1 ≤ lv) (hl : lv ≤ he_lv (tk p1)) (hm : mc p1 = nI (tk p1)) (ht : tk p1 < 25) (h2 : he_lv (tk p2) < he_lv (tk p1) + 1) (hf2 : he_fin k tk p2) (h12 : p1 + 2 ≤ p2)
    (hsc : ∀ c, c = 15 ∨ c = 16 → ∀ (dd : Nat) (r : Int32), he_cd c (he_lv (tk p1) + 1) dd → he_Sc k mc c p2 dd r → he_Sc k mc c (p1 + 1) dd r)
    (hD : he_D n self xk xs xf (nI n) lc rz im d u) (hS : ∀ vs ws, he_stop (he_r lv) ws → he_S n k tk mc mn mk ms sk sl kp self lv p vs ws p1 u) (hDb : he_D n self xk xs xf (nI n) lc rz im d2 b) (hSb : ∀ vs ws, he_stop (he_r (he_lv (tk p1) + 1)) ws → he_S n k tk mc mn mk ms sk sl kp self (he_lv (tk p1) + 1) (p1 + 1) vs ws p2 b) :
    ∃ w, he_D n self xk xs xf (nI n) lc rz im (hd_bin (nI (tk p1)) 0 d d2) w ∧ ∀ vs ws, he_stop (he_r lv) ws → he_S n k tk mc mn mk ms sk sl kp self lv p vs ws p2 w := by
  have hk := hK.2.1
  have hop := (he_lv_op (tk p1) ht).resolve_left (by omega)
  have hp2 := hf2.1
  obtain ⟨t2, _, m2, _⟩ := hK.2.2.1 p2 hp2
  have hrk : he_rk (tk p1) = he_r (he_lv (tk p1)) := hop.2.2.2
  have hstop : ∀ ws, he_stop (he_r lv) ws → he_stop (he_rk (tk p1)) ws := fun ws h => he_stop_mono (by rw [hrk]; exact he_r_mono hl) ws h
  have htop : ∀ ws, he_stop (he_r (he_lv (tk p1) + 1)) (tk p1 :: ws) := fun ws => Or.inr ⟨hop.1, by rw [hrk]; exact he_r_lt⟩
  have hpp : ∀ {pend : List Nat}, (∀ w ∈ pend, (15 ≤ w ∧ w ≤ 23) ∧ he_lo lv ≤ he_rk w ∧ (¬ he_lv (tk p1) = 0 → he_rk (tk p1) ≤ he_rk w)) → ∀ w ∈ pend, (15 ≤ w ∧ w ≤ 23) ∧ he_rk (tk p1) ≤ he_rk w := fun h w hw => ⟨(h w hw).1, (h w hw).2.2 (by omega)⟩
  have hr2 : ¬ he_lv (tk p2) = 0 → he_rk (tk p2) ≤ he_rk (tk p1) := fun q => by
    have := (he_lv_op (tk p2) t2).resolve_left q
    rw [this.2.2.2, hrk]
    exact he_r_mono (by omega)
  have hnew : ∀ {pend : List Nat}, (∀ w ∈ pend, (15 ≤ w ∧ w ≤ 23) ∧ he_lo (he_lv (tk p1) + 1) ≤ he_rk w ∧ (¬ he_lv (tk p2) = 0 → he_rk (tk p2) ≤ he_rk w)) → ∀ w ∈ pend ++ [tk p1], (15 ≤ w ∧ w ≤ 23) ∧ he_lo lv ≤ he_rk w ∧ (¬ he_lv (tk p2) = 0 → he_rk (tk p2) ≤ he_rk w) := fun h w hw => by
    rcases List.mem_append.mp hw with hw | hw
    · have q := h w hw
      exact ⟨q.1, Nat.le_trans (he_lo_mono (by omega)) q.2.1, q.2.2⟩
    · rw [List.mem_singleton.mp hw]
      exact ⟨hop.1, by rw [hrk]; exact Nat.le_trans (he_lo_mono hl) he_lo_r, hr2⟩
  have has : ∀ (pend ws : List Nat), (pend ++ [tk p1]) ++ ws = pend ++ tk p1 :: ws := fun pend ws => by rw [List.append_assoc]; rfl
  by_cases u3 : u.1 = 3
  · refine ⟨u, he_Dbin hD hDb hD.2 (fun _ => rfl) (fun q => by omega) (fun q => by omega), fun vs ws hs => ?_⟩
    rcases hS vs ws hs with ⟨_, hR⟩ | ⟨vs2, pend, hC, hp, hR⟩
    · exact Or.inl ⟨u3, hR⟩
    · refine Or.inl ⟨u3, hR u ?_⟩
      by_cases hc : tk p1 = 15 ∨ tk p1 = 16
      · exact he_brF hk hp1 hm hc hC (hpp hp) (hstop ws hs) u3 (hD.2.2.2.2 u3)
      · exact he_oper hk hp1 hm (he_18 hop.1 hop.2.1 hc) hC (hpp hp) (hstop ws hs) (fun _ => rfl) hD.2.2.2.2 (fun q => by omega) hD.2.1
  · have ult : u.1 < 3 := by have := hD.2.1; omega
    have hS : ∀ vs ws, he_stop (he_r lv) ws → ∃ vs2 pend, he_C pend vs2 u vs ∧ (∀ w ∈ pend, (15 ≤ w ∧ w ≤ 23) ∧ he_lo lv ≤ he_rk w ∧ (¬ he_lv (tk p1) = 0 → he_rk (tk p1) ≤ he_rk w)) ∧ ∀ r, he_Run n k mc mn mk ms sk sl kp self p1 vs2 (pend ++ ws) r → he_Run n k mc mn mk ms sk sl kp self p vs ws r := fun vs ws hs => by
      rcases hS vs ws hs with ⟨q, _⟩ | q
      · exact absurd q u3
      · exact q
    by_cases hc : tk p1 = 15 ∨ tk p1 = 16
    · by_cases u2 : u.1 = 2
      · have hst : ¬ sxc_settles (nI (tk p1)) (hv u.1 u.2) = 0 := by
          rcases hc with hc | hc
          · rw [hc, he_st15 ult hD.2.2.1, if_pos u2]; decide
          · rw [hc, he_st16 ult hD.2.2.1, if_pos u2]; decide
        refine ⟨(3, -3), he_Dbin hD hDb (he_v3 (by decide)) (fun q => absurd q u3) (fun _ _ => ?_) (fun _ q => absurd q hst), fun vs ws hs => ?_⟩
        · rw [he_ctr ult hD.2.2.1]
          unfold he_tr
          rw [if_pos u2]
        · obtain ⟨vs2, pend, hC, hp, hR⟩ := hS vs ws hs
          exact Or.inl ⟨rfl, hR _ (he_br2 hk hp1 hm hc hC (hpp hp) (hstop ws hs) u2)⟩
      · have ul2 : u.1 < 2 := by omega
        by_cases hh : (tk p1 = 16 ∧ u.2 = 0) ∨ (tk p1 = 15 ∧ ¬ u.2 = 0)
        · have hst : ¬ sxc_settles (nI (tk p1)) (hv u.1 u.2) = 0 := by
            rcases hh with ⟨hc, x0⟩ | ⟨hc, x0⟩
            · rw [hc, he_st16 ult hD.2.2.1, if_neg u2, if_pos x0]; decide
            · rw [hc, he_st15 ult hD.2.2.1, if_neg u2, if_neg x0]; decide
          refine ⟨he_tr u, he_Dbin hD hDb (he_tr_v u) (fun q => absurd q u3) (fun _ _ => he_ctr ult hD.2.2.1) (fun _ q => absurd q hst), fun vs ws hs => ?_⟩
          obtain ⟨vs2, pend, hC, hp, hR⟩ := hS vs ws hs
          have hns : ¬ sm_stops (nI (tk p2)) (nI (tk p1)) = 0 := by
            rcases hc with hc | hc
            · rw [hc]
              rw [hc] at h2
              exact he_stq15 (tk p2) t2 (by rcases hf2.2 with q | q | q | q | q
                                            · exact Or.inl q
                                            · exact Or.inr (Or.inl q)
                                            · exact Or.inr (Or.inr (Or.inl q))
                                            · exact Or.inr (Or.inr (Or.inr (Or.inl q)))
                                            · exact Or.inr (Or.inr (Or.inr (Or.inr ⟨q, h2⟩))))
            · rw [hc]
              rw [hc] at h2
              exact he_stq16 (tk p2) t2 (by rcases hf2.2 with q | q | q | q | q
                                            · exact Or.inl q
                                            · exact Or.inr (Or.inl q)
                                            · exact Or.inr (Or.inr (Or.inl q))
                                            · exact Or.inr (Or.inr (Or.inr (Or.inl q)))
                                            · exact Or.inr (Or.inr (Or.inr (Or.inr ⟨q, h2⟩))))
          have hcd : he_cd (tk p1) (he_lv (tk p1) + 1) 0 := by
            rcases hc with hc | hc
            · rw [hc]; exact Or.inr (Or.inl ⟨rfl, by decide⟩)
            · rw [hc]; exact Or.inr (Or.inr ⟨rfl, by decide⟩)
          have sc := hsc (tk p1) hc 0 (nI p2) hcd (he_scE hk hp2 m2 hns)
          refine Or.inr ⟨he_tr u :: vs, [], ⟨rfl, ?_⟩, fun w hw => (by cases hw), fun r hr => hR r ?_⟩
          · unfold he_tr
            rw [if_neg u2]
            split
            · exact (by decide : ¬ (1 : Nat) = 3)
            · exact (by decide : ¬ (1 : Nat) = 3)
          · exact he_brS hk hp1 hm hc hC (hpp hp) (hstop ws hs) ul2 hh (by omega) sc hr
        · have hst : sxc_settles (nI (tk p1)) (hv u.1 u.2) = 0 := by
            rcases hc with hc | hc
            · rw [hc, he_st15 ult hD.2.2.1, if_neg u2]
              by_cases x0 : u.2 = 0
              · rw [if_pos x0]
              · exact absurd (Or.inr ⟨hc, x0⟩) hh
            · rw [hc, he_st16 ult hD.2.2.1, if_neg u2]
              by_cases x0 : u.2 = 0
              · exact absurd (Or.inl ⟨hc, x0⟩) hh
              · rw [if_neg x0]
          have hh2 : (tk p1 = 16 ∧ ¬ u.2 = 0) ∨ (tk p1 = 15 ∧ u.2 = 0) := by
            rcases hc with hc | hc
            · right
              refine ⟨hc, ?_⟩
              apply Classical.byContradiction
              intro x0
              exact hh (Or.inr ⟨hc, x0⟩)
            · left
              exact ⟨hc, fun x0 => hh (Or.inl ⟨hc, x0⟩)⟩
          have hvb : b.1 < 3 → sxc_valueOfBinary (nI (tk p1)) (hv u.1 u.2) (hv b.1 b.2) = hv (he_tr b).1 (he_tr b).2 := fun b3 => by
            rw [← he_ctr b3 hDb.2.2.1]
            exact he_vb15 hc
          have hw : he_v n (if b.1 = 3 then b else he_tr b) := by
            split
            · exact hDb.2
            · exact he_tr_v b
          refine ⟨if b.1 = 3 then b else he_tr b, he_Dbin hD hDb hw (fun q => absurd q u3) (fun _ q => absurd hst q) (fun _ _ => ⟨fun b3 => by rw [if_pos b3], fun b3 => ?_⟩), fun vs ws hs => ?_⟩
          · rw [hvb b3, if_neg (by omega)]
          · obtain ⟨vs2, pend, hC, hp, hR⟩ := hS vs ws hs
            rcases hSb vs (tk p1 :: ws) (htop ws) with ⟨b3, hRb⟩ | ⟨vs3, pendR, hCb, hpb, hRb⟩
            · rw [if_pos b3]
              exact Or.inl ⟨b3, hR b (he_brH hk hp1 hm hc hC (hpp hp) (hstop ws hs) ul2 hh2 hRb)⟩
            · refine Or.inr ⟨vs3, pendR ++ [tk p1], ?_, hnew hpb, fun r hr => hR r (he_brH hk hp1 hm hc hC (hpp hp) (hstop ws hs) ul2 hh2 (hRb r (by rw [← has]; exact hr)))⟩
              refine he_C_app ?_ pendR vs3 hCb
              by_cases b3 : b.1 = 3
              · exact Or.inl ⟨b3, if_pos b3⟩
              · refine Or.inr ⟨b3, he_tr b, vs, ?_, ?_⟩
                · rw [he_op1 (by omega), if_neg (by omega)]
                · rw [if_neg b3]
                  by_cases w3 : (he_tr b).1 = 3
                  · rw [if_pos w3]
                  · rw [if_neg w3]
                    exact ⟨rfl, w3⟩
    · have hc18 : 18 ≤ tk p1 ∧ tk p1 ≤ 23 := he_18 hop.1 hop.2.1 hc
      have hw : he_v n (if b.1 = 3 then b else he_bi (tk p1) u b) := by
        split
        · exact hDb.2
        · exact he_bi_v _ _ _
      refine ⟨if b.1 = 3 then b else he_bi (tk p1) u b, he_Dbin hD hDb hw (fun q => absurd q u3) (fun _ q => absurd (he_st hc18 _) q) (fun _ _ => ⟨fun b3 => by rw [if_pos b3], fun b3 => ?_⟩), fun vs ws hs => ?_⟩
      · rw [if_neg (by omega), he_vbi hc18 ult hD.2.2.1 b3 hDb.2.2.1]
      · obtain ⟨vs2, pend, hC, hp, hR⟩ := hS vs ws hs
        rcases hSb (u :: vs) (tk p1 :: ws) (htop ws) with ⟨b3, hRb⟩ | ⟨vs3, pendR, hCb, hpb, hRb⟩
        · rw [if_pos b3]
          exact Or.inl ⟨b3, hR b (he_oper hk hp1 hm hc18 hC (hpp hp) (hstop ws hs) (fun q => absurd q u3) hD.2.2.2.2 (fun _ => hRb) hD.2.1)⟩
        · refine Or.inr ⟨vs3, pendR ++ [tk p1], ?_, hnew hpb, fun r hr => hR r (he_oper hk hp1 hm hc18 hC (hpp hp) (hstop ws hs) (fun q => absurd q u3) hD.2.2.2.2 (fun _ => hRb r (by rw [← has]; exact hr)) hD.2.1)⟩
          refine he_C_app ?_ pendR vs3 hCb
          by_cases b3 : b.1 = 3
          · exact Or.inl ⟨b3, if_pos b3⟩
          · refine Or.inr ⟨b3, he_bi (tk p1) u b, vs, ?_, ?_⟩
            · rw [he_op2 (by omega)]
            · rw [if_neg b3]
              by_cases w3 : (he_bi (tk p1) u b).1 = 3
              · rw [if_pos w3]
              · rw [if_neg w3]
                exact ⟨rfl, w3⟩
theorem he_evL (hK : he_K n k tk mc mn C N) {rec : Int32 → Nat → Option (hd_X × Nat × Nat)} (hrec : he_EV n k tk mc mn mk ms sk sl kp self xk xs xf lc rz im rec) (hsc : ∀ c, c = 15 ∨ c = 16 → he_SC k mc c rec) {lv p : Nat} (h1 : 1 ≤ lv) (h6 : lv ≤ 6) : ∀ (m : Nat) (d : hd_X) (h p1 : Nat) (res : hd_X × Nat × Nat), rd_loop C rec (nI lv) m d h p1 = some res → he_fin k tk res.2.2 → ∀ u, he_D n self xk xs xf (nI n) lc rz im d u → (∀ vs ws, he_stop (he_r lv) ws → he_S n k tk mc mn mk ms sk sl kp self lv p vs ws p1 u) →
    he_lv (tk res.2.2) < lv ∧ ∃ u', he_D n self xk xs xf (nI n) lc rz im res.1 u' ∧ ∀ vs ws, he_stop (he_r lv) ws → he_S n k tk mc mn mk ms sk sl kp self lv p vs ws res.2.2 u' := by
  intro m
  induction m with
  | zero => intro d h p1 res hu; cases hu
  | succ m ih =>
    intro d h p1 res hu hf u hD hS
    obtain ⟨hp, hu⟩ := hq_ok (show (if p1 ≤ 40 then (if sxr_levelOf (C p1) < nI lv then some (d, h, p1) else (rec (sxr_levelOf (C p1) + 1) (p1 + 1)).bind fun u => if p1 + 2 ≤ u.2.2 then rd_loop C rec (nI lv) m (hd_bin (C p1) 0 d u.1) (max h u.2.1 + 1) u.2.2 else none) else none) = some res from hu)
    by_cases hl : sxr_levelOf (C p1) < nI lv
    · rw [if_pos hl] at hu
      cases hu
      exact ⟨he_lvlt hK h6 hf.1 hl, u, hD, hS⟩
    · rw [if_neg hl] at hu
      obtain ⟨a1, a2, a3, a4, a5, a6⟩ := he_lvof hK h1 h6 hl
      obtain ⟨u2, hr, hu⟩ := hq_bind hu
      obtain ⟨hle, hu⟩ := hq_ok hu
      rw [a3, nI_1] at hr
      have hop := (he_lv_op (tk p1) a6).resolve_left (by omega)
      have hf2 := he_lfin hK h1 h6 hu hf
      obtain ⟨hl2, b, hDb, hSb⟩ := hrec (he_lv (tk p1) + 1) (p1 + 1) u2 (by omega) (by omega) hr hf2
      obtain ⟨w, hDw, hSw⟩ := he_evB hK a1 h1 a2 a5 a6 hl2 hf2 hle (fun c hc dd r hcd hs => hsc c hc (he_lv (tk p1) + 1) (p1 + 1) u2 (by omega) (by omega) hr dd r hcd hs) hD hS hDb hSb
      rw [a4] at hu
      exact ih _ _ _ _ hu hf w hDw hSw
theorem he_ev (hK : he_K n k tk mc mn C N) (hal : he_Al n mk ms sk sl kp xk xs xf lc rz im) (ho : ∃ o, o < n ∧ self = nI o) : ∀ m, he_EV n k tk mc mn mk ms sk sl kp self xk xs xf lc rz im (rd_E C N m) := by
  intro m
  induction m with
  | zero => intro lv p res _ _ hu; cases hu
  | succ m ih =>
    intro lv p res h1 h6 hu hf
    have hscan : ∀ c, c = 15 ∨ c = 16 → he_SC k mc c (rd_E C N m) := fun c hc => he_scan hc hK m
    obtain ⟨hp, hu⟩ := hq_ok (show (if p ≤ 40 then (if C p = 17 then (if nI lv ≤ 3 then (rd_E C N m 3 (p + 1)).bind fun u => if p + 2 ≤ u.2.2 then rd_loop C (rd_E C N m) (nI lv) 100 (hd_un 17 0 u.1) (u.2.1 + 1) u.2.2 else none else none) else (rd_M C N (rd_E C N m) p).bind fun u => if p + 1 ≤ u.2.2 then rd_loop C (rd_E C N m) (nI lv) 100 u.1 u.2.1 u.2.2 else none) else none) = some res from hu)
    by_cases h17 : C p = 17
    · rw [if_pos h17] at hu
      obtain ⟨h3, hu⟩ := hq_ok hu
      obtain ⟨u1, hr, hu⟩ := hq_bind hu
      obtain ⟨hle, hu⟩ := hq_ok hu
      obtain ⟨a, b, e⟩ := he_is (c := 17) hK h17 (by decide)
      have h3 : lv ≤ 3 := (nI_leI (b := 3) (by omega) (by omega)).mp h3
      have hf1 := he_lfin hK h1 h6 hu hf
      obtain ⟨hl1, u, hD, hS⟩ := ih 3 (p + 1) u1 (by decide) (by decide) hr hf1
      obtain ⟨t1, _⟩ := hK.2.2.1 u1.2.2 hf1.1
      have hlo3 : he_lo lv ≤ 3 := by unfold he_lo; rw [if_pos h3]; exact h3
      have hlt : ¬ he_lv (tk u1.2.2) = 0 → he_rk (tk u1.2.2) ≤ 3 := fun q => by
        have w := (he_lv_op (tk u1.2.2) t1).resolve_left q
        rw [w.2.2.2]
        unfold he_r
        rw [if_pos (by omega)]
        omega
      have hw : he_v n (if u.1 = 3 then u else he_nt u) := by
        split
        · exact hD.2
        · exact he_nt_v u
      have hD2 : he_D n self xk xs xf (nI n) lc rz im (hd_un 17 0 u1.1) (if u.1 = 3 then u else he_nt u) := he_Dun hD (fun q => if_pos q) (fun q => by
        rw [if_neg (by omega : ¬ u.1 = 3)]
        exact ⟨he_cnot q hD.2.2.1, he_nt_v u⟩)
      refine he_evL hK ih hscan h1 h6 _ _ _ _ _ hu hf _ hD2 (fun vs ws hs => ?_)
      rcases hS vs (17 :: ws) (Or.inr ⟨⟨by decide, by decide⟩, by decide⟩) with ⟨u3, hR⟩ | ⟨vs2, pend, hC, hpd, hR⟩
      · rw [if_pos u3]
        exact Or.inl ⟨u3, he_not hK.2.1 a e hR⟩
      · refine Or.inr ⟨vs2, pend ++ [17], ?_, fun w hw => ?_, fun r hr => he_not hK.2.1 a e (hR r (by rw [show pend ++ 17 :: ws = (pend ++ [17]) ++ ws by rw [List.append_assoc]; rfl]; exact hr))⟩
        · refine he_C_app ?_ pend vs2 hC
          by_cases u3 : u.1 = 3
          · exact Or.inl ⟨u3, if_pos u3⟩
          · refine Or.inr ⟨u3, he_nt u, vs, ?_, ?_⟩
            · rw [he_op1 (by decide), if_pos rfl]
            · rw [if_neg u3]
              by_cases w3 : (he_nt u).1 = 3
              · rw [if_pos w3]
              · rw [if_neg w3]
                exact ⟨rfl, w3⟩
        · rcases List.mem_append.mp hw with hw | hw
          · have q := hpd w hw
            exact ⟨q.1, Nat.le_trans (he_lo_mono h3) q.2.1, q.2.2⟩
          · rw [List.mem_singleton.mp hw]
            exact ⟨⟨by decide, by decide⟩, hlo3, hlt⟩
    · rw [if_neg h17] at hu
      obtain ⟨u1, hr, hu⟩ := hq_bind hu
      obtain ⟨hle, hu⟩ := hq_ok hu
      obtain ⟨u, hD, hP⟩ := he_evM hK hal ho ih hr
      refine he_evL hK ih hscan h1 h6 _ _ _ _ _ hu hf u hD (fun vs ws hs => ?_)
      rcases hP vs ws with ⟨u3, hR⟩ | ⟨u3, hR⟩
      · exact Or.inl ⟨u3, hR⟩
      · exact Or.inr ⟨u :: vs, [], ⟨rfl, by omega⟩, fun w hw => (by cases hw), hR⟩
/-- work: an e from a place on -/
theorem he_work (hK : he_K n k tk mc mn C N) (hal : he_Al n mk ms sk sl kp xk xs xf lc rz im) (ho : ∃ o, o < n ∧ self = nI o) {m p : Nat} {res : hd_X × Nat × Nat} (hu : rd_E C N m 1 p = some res) (hp : res.2.2 < k) (he : tk res.2.2 = 3 ∨ tk res.2.2 = 5 ∨ tk res.2.2 = 24 ∨ tk res.2.2 = 7) :
    ∃ u, he_D n self xk xs xf (nI n) lc rz im res.1 u ∧ ∀ (a0 s0 b0 v0 w0 : Int32) (vk va wt : Nat → Int32), ∃ f a b v vk' va' w wt', sm_work (nI p) self (nI n) mk ms sk sl kp (nI k) mc mn 0 a0 s0 b0 v0 vk va w0 wt = some (f, a, self, b, v, vk', va', w, wt') ∧ ((u.1 = 3 ∧ f = u.2 ∧ ¬ f = 0) ∨ (u.1 < 3 ∧ f = 0 ∧ vk' 0 = nI u.1 ∧ va' 0 = u.2)) := by
  obtain ⟨t, _, m2, _⟩ := hK.2.2.1 res.2.2 hp
  have hf2 : tk res.2.2 = 3 ∨ tk res.2.2 = 5 ∨ tk res.2.2 = 7 ∨ tk res.2.2 = 24 ∨ ¬ he_lv (tk res.2.2) = 0 := by
    rcases he with q | q | q | q
    · exact Or.inl q
    · exact Or.inr (Or.inl q)
    · exact Or.inr (Or.inr (Or.inr (Or.inl q)))
    · exact Or.inr (Or.inr (Or.inl q))
  have hf : he_fin k tk res.2.2 := ⟨hp, hf2⟩
  obtain ⟨_, u, hD, hS⟩ := he_ev hK hal ho m 1 p res (by decide) (by decide) hu hf
  refine ⟨u, hD, fun a0 s0 b0 v0 w0 vk va wt => ?_⟩
  have R : he_Run n k mc mn mk ms sk sl kp self p [] [] u := by
    rcases hS [] [] True.intro with ⟨_, hR⟩ | ⟨vs2, pend, hC, hpd, hR⟩
    · exact hR
    · exact hR u (he_end hK.2.1 hp m2 he hC (fun w hw => (hpd w hw).1))
  obtain ⟨f, a, b, v, vk', va', w, wt', e, hres⟩ := R kF vk va wt (by have : 42 < kF := hb_kF (by decide); omega) (Nat.zero_le _) (Nat.zero_le _) True.intro True.intro
  have e : sm_work_L27 kF 1 (nI n) mk ms sk sl kp (nI k) mc mn 0 (nI p) self 0 0 vk va 0 wt = some (f, a, b, v, vk', va', w, wt') := e
  refine ⟨f, a, b, v, vk', va', w, wt', ?_, hres⟩
  unfold sm_work
  rw [e, Option.bind_some]
end
