/-! the law's loop -/
theorem lw_gt {t L : Nat} (hL : L ≤ 2560) (ht : 5 * t ≤ 2600) : (nI L - 5 < nI (5 * t)) ↔ ¬ 5 * t + 5 ≤ L := by
  have e : (nI L - 5).toInt = (L : Int) - 5 := pk_sub_toInt (a := L) (b := 5) (by omega) (by omega)
  rw [Int32.lt_iff_toInt_lt, e, nI_toInt (by omega)]
  omega
section
variable {p : Program} {l : Launch} {e : Env} {s : State} {m : MethodId} {below : List Frame} {meth : Method} {c : Code} {H : Heap} {locs : List Loc} {ls : Array Slot} {D : va_G} {A : Nat → Prop} {cI cZ cL : ClassId} {x0 m0 b L : Nat} {xs : Nat → Int32}
set_option maxHeartbeats 4000000 in
set_option maxRecDepth 100000 in
theorem lw_loop (hx : p.tables.exec = Jvm.exec) (hb : c.code = code) (hr : meth.sig.returnType = ret) (hml : c.maxLocals = 4) (hts : ∀ w ∈ hq_tbl, w.before #[Value.ref b] s = true) (hown : s.vm.findClass "HeapQueriesLaw" = some m.cls) (hlocks : meth.locks = false) (hK : va_K D hq_cl (hq_tys cI cZ cL) s) (hA : ∀ q : Nat, s.heap.size ≤ q → A q) (hAn : ∀ q : Nat, A q → s.heap.size ≤ q) (hN : hq_N s) (hX : va_X b L xs s s.heap) (hbl : b < s.heap.size) (hbA : ¬ A b) (hL : L ≤ 2560) : ∀ (d t : Nat) (ls : Array Slot) (H : Heap), L < 5 * t + 5 * d → t ≤ 512 → lv_has ls 4 [(0, .ref b), (1, .ref x0), (2, .ref m0), (3, .int (nI (5 * t)))] → lw_B l D A cI cZ cL x0 m0 H → va_S A s.heap H [] → W p l e room_1 s m #[Value.ref b] below meth c H [] (100 + 50 * t) (6000 + 250 * t) (lw_Z below #[Value.ref b] s) (F0 m 18 ls []) := by
  intro d
  induction d with
  | zero =>
    intro t ls H hd ht hl hB hS
    refine lv_iload_n hx hb dlw_18 rfl (lv_at hl 3 rfl) ?_
    refine lv_aload_n hx hb dlw_19 rfl (lv_at hl 0 rfl) ?_
    refine va_slen hx hb hX hbl hbA hS dlw_20 ?_
    refine lv_iconst (v := 5) hx hb dlw_21 (by decide) ?_
    refine lv_isub hx hb dlw_22 ?_
    refine lv_icmp_gt (tgt := 473) hx hb dlw_23 (by decide) (fun _ => ?_) (fun hc => absurd ((lw_gt hL (by omega)).mpr (by omega)) hc)
    refine lv_iconst (v := 1) hx hb dlw_473 (by decide) ?_
    refine W.widen (k := 600000) (n := 7302249) (by omega) (by omega) ?_
    exact lw_ret hx hb hr hlocks dlw_474
  | succ d ih =>
    intro t ls H hd ht hl hB hS
    refine lv_iload_n hx hb dlw_18 rfl (lv_at hl 3 rfl) ?_
    refine lv_aload_n hx hb dlw_19 rfl (lv_at hl 0 rfl) ?_
    refine va_slen hx hb hX hbl hbA hS dlw_20 ?_
    refine lv_iconst (v := 5) hx hb dlw_21 (by decide) ?_
    refine lv_isub hx hb dlw_22 ?_
    by_cases h5 : 5 * t + 5 ≤ L
    · refine lv_icmp_gt (tgt := 473) hx hb dlw_23 (by decide) (fun hc => absurd h5 ((lw_gt hL (by omega)).mp hc)) (fun _ => ?_)
      have K : ∀ (H1 : Heap) (locs1 : List Loc), lw_B l D A cI cZ cL x0 m0 H1 → va_S A s.heap H1 locs1 → W p l e room_1 s m #[Value.ref b] below meth c H1 locs1 (100 + 50 * (t + 1)) (6000 + 250 * (t + 1)) (lw_Z below #[Value.ref b] s) (F0 m 467 ls []) := fun H1 locs1 hB1 hS1 => by
        refine lv_iinc (k := 3) (v := nI (5 * (t + 1))) hx hb dlw_467 hl rfl (nI_add (5 * t) 5) (by decide) rfl (fun ls hl => ?_)
        refine lv_goto (tgt := 18) hx hb dlw_470 (by decide) ?_
        refine va_forget (fun q hq => hAn _ (hS1.2.2 q hq)) ?_
        exact ih (t + 1) ls H1 (by omega) (by omega) (lv_sub hl [1, 2, 3, 0] rfl) hB1 ⟨hS1.1, hS1.2.1, fun q hq => by cases hq⟩
      refine lv_aload_n hx hb dlw_26 rfl (lv_at hl 0 rfl) ?_
      refine lv_iload_n hx hb dlw_27 rfl (lv_at hl 3 rfl) ?_
      refine va_sld hx hb hX hbl hbA hS (pk_in (5 * t) L (by omega)) dlw_28 ?_
      refine lv_bipush (v := 15) hx hb dlw_29 (by decide) ?_
      refine lv_iand hx hb dlw_31 ?_
      obtain ⟨j, hj, ej⟩ := pk_andE (xs (nI (5 * t)).toNatClampNeg) (m := 15) 4 (by decide)
      rw [ej]
      have j16 : j = 0 ∨ j = 1 ∨ j = 2 ∨ j = 3 ∨ j = 4 ∨ j = 5 ∨ j = 6 ∨ j = 7 ∨ j = 8 ∨ j = 9 ∨ j = 10 ∨ j = 11 ∨ j = 12 ∨ j = 13 ∨ j = 14 ∨ j = 15 := by omega
      rcases j16 with rfl | rfl | rfl | rfl | rfl | rfl | rfl | rfl | rfl | rfl | rfl | rfl | rfl | rfl | rfl | rfl
      · refine lv_tableIn (tgt := 108) hx hb dlw_32 (by decide) (by decide) (off := 76) (by decide) (by decide) ?_
        exact lw_Bel hB (fun hh hsv hti hri hq e1 e2 hP hD => lwc_0 hx hb hml hts hown hK hA hN hX hbl hbA hL h5 hl hh hsv hti hri hq e1 e2 hP hD hS K)
      · refine lv_tableIn (tgt := 131) hx hb dlw_32 (by decide) (by decide) (off := 99) (by decide) (by decide) ?_
        exact lw_Bel hB (fun hh hsv hti hri hq e1 e2 hP hD => lwc_1 hx hb hml hts hown hK hA hN hX hbl hbA hL h5 hl hh hsv hti hri hq e1 e2 hP hD hS K)
      · refine lv_tableIn (tgt := 164) hx hb dlw_32 (by decide) (by decide) (off := 132) (by decide) (by decide) ?_
        exact lw_Bel hB (fun hh hsv hti hri hq e1 e2 hP hD => lwc_2 hx hb hml hts hown hK hA hN hX hbl hbA hL h5 hl hh hsv hti hri hq e1 e2 hP hD hS K)
      · refine lv_tableIn (tgt := 217) hx hb dlw_32 (by decide) (by decide) (off := 185) (by decide) (by decide) ?_
        exact lw_Bel hB (fun hh hsv hti hri hq e1 e2 hP hD => lwc_3 hx hb hml hts hown hK hA hN hX hbl hbA hL h5 hl hh hsv hti hri hq e1 e2 hP hD hS K)
      · refine lv_tableIn (tgt := 266) hx hb dlw_32 (by decide) (by decide) (off := 234) (by decide) (by decide) ?_
        exact lw_Bel hB (fun hh hsv hti hri hq e1 e2 hP hD => lwc_4 hx hb hml hts hown hK hA hN hX hbl hbA hL h5 hl hh hsv hti hri hq e1 e2 hP hD hS K)
      · refine lv_tableIn (tgt := 289) hx hb dlw_32 (by decide) (by decide) (off := 257) (by decide) (by decide) ?_
        exact lw_Bel hB (fun hh hsv hti hri hq e1 e2 hP hD => lwc_5 hx hb hml hts hown hK hA hN hX hbl hbA hL h5 hl hh hsv hti hri hq e1 e2 hP hD hS K)
      · refine lv_tableIn (tgt := 312) hx hb dlw_32 (by decide) (by decide) (off := 280) (by decide) (by decide) ?_
        exact lw_Bel hB (fun hh hsv hti hri hq e1 e2 hP hD => lwc_6 hx hb hml hts hown hK hA hN hX hbl hbA hL h5 hl hh hsv hti hri hq e1 e2 hP hD hS K)
      · refine lv_tableIn (tgt := 345) hx hb dlw_32 (by decide) (by decide) (off := 313) (by decide) (by decide) ?_
        exact lw_Bel hB (fun hh hsv hti hri hq e1 e2 hP hD => lwc_7 hx hb hml hts hown hK hA hN hX hbl hbA hL h5 hl hh hsv hti hri hq e1 e2 hP hD hS K)
      · refine lv_tableIn (tgt := 358) hx hb dlw_32 (by decide) (by decide) (off := 326) (by decide) (by decide) ?_
        exact lw_Bel hB (fun hh hsv hti hri hq e1 e2 hP hD => lwc_8 hx hb hml hts hown hK hA hN hX hbl hbA hL h5 hl hh hsv hti hri hq e1 e2 hP hD hS K)
      · refine lv_tableIn (tgt := 371) hx hb dlw_32 (by decide) (by decide) (off := 339) (by decide) (by decide) ?_
        exact lw_Bel hB (fun hh hsv hti hri hq e1 e2 hP hD => lwc_9 hx hb hml hts hown hK hA hN hX hbl hbA hL h5 hl hh hsv hti hri hq e1 e2 hP hD hS K)
      · refine lv_tableIn (tgt := 382) hx hb dlw_32 (by decide) (by decide) (off := 350) (by decide) (by decide) ?_
        exact lw_Bel hB (fun hh hsv hti hri hq e1 e2 hP hD => lwc_10 hx hb hml hts hown hK hA hN hX hbl hbA hL h5 hl hh hsv hti hri hq e1 e2 hP hD hS K)
      · refine lv_tableIn (tgt := 395) hx hb dlw_32 (by decide) (by decide) (off := 363) (by decide) (by decide) ?_
        exact lw_Bel hB (fun hh hsv hti hri hq e1 e2 hP hD => lwc_11 hx hb hml hts hown hK hA hN hX hbl hbA hL h5 hl hh hsv hti hri hq e1 e2 hP hD hS K)
      · refine lv_tableIn (tgt := 408) hx hb dlw_32 (by decide) (by decide) (off := 376) (by decide) (by decide) ?_
        exact lw_Bel hB (fun hh hsv hti hri hq e1 e2 hP hD => lwc_12 hx hb hml hts hown hK hA hN hX hbl hbA hL h5 hl hh hsv hti hri hq e1 e2 hP hD hS K)
      · refine lv_tableIn (tgt := 431) hx hb dlw_32 (by decide) (by decide) (off := 399) (by decide) (by decide) ?_
        exact lw_Bel hB (fun hh hsv hti hri hq e1 e2 hP hD => lwc_13 hx hb hml hts hown hK hA hN hX hbl hbA hL h5 hl hh hsv hti hri hq e1 e2 hP hD hS K)
      · refine lv_tableIn (tgt := 454) hx hb dlw_32 (by decide) (by decide) (off := 422) (by decide) (by decide) ?_
        exact lw_Bel hB (fun hh hsv hti hri hq e1 e2 hP hD => lwc_14 hx hb hml hts hown hK hA hN hX hbl hbA hL h5 hl hh hsv hti hri hq e1 e2 hP hD hS K)
      · refine lv_tableOut (tgt := 467) hx hb dlw_32 (Or.inr (by decide)) (by decide) ?_
        exact W.widen (by omega) (by omega) (K H [] hB hS)
    · refine lv_icmp_gt (tgt := 473) hx hb dlw_23 (by decide) (fun _ => ?_) (fun hc => absurd ((lw_gt hL (by omega)).mpr h5) hc)
      refine lv_iconst (v := 1) hx hb dlw_473 (by decide) ?_
      refine W.widen (k := 600000) (n := 7302249) (by omega) (by omega) ?_
      exact lw_ret hx hb hr hlocks dlw_474
end
theorem lw_hh0 : hh_I 0 0 (fun _ => 0) (fun _ => 0) (fun _ => 0) (fun _ => 0) (fun _ => 0) (fun _ => 0) (fun _ => 0) (fun _ => 0) (fun _ => 0) (fun _ => 0) 0 :=
  ⟨by decide, by decide, fun i hi => by omega, fun i hi => by omega, fun i hi => ⟨0, by decide, rfl, hv_00.symm, fun _ => rfl, fun h => absurd h (by decide), fun _ => rfl⟩, fun o ho => ⟨Or.inl rfl, fun _ => rfl⟩, fun o ho => ⟨fun h => (by rw [b_0] at h; cases h), fun h => by omega⟩⟩
theorem lw_hs0 : hs_V 0 (fun _ => 0) (fun _ => 0) (fun _ => 0) (fun _ => 0) 0 (fun _ => 0) (fun _ => 0) (fun _ => 0) (fun _ => 0) (fun _ => 0) 0 0 0 :=
  ⟨rfl, rfl, fun o ho => by omega, fun o ho => by omega, ⟨fun i hi h => (by rw [b_0] at h; cases h), ⟨fun o ho => by omega, fun o t ho => by omega⟩, fun C hC i hi h => (by rw [b_0] at h; cases h)⟩, fun o ho => by omega, fun o ho => by omega⟩
theorem lw_ht0 : ht_I 0 0 (fun _ => 0) 0 false [] (fun _ => 0) (fun _ => 0) (fun _ => 0) (fun _ => 0) (fun _ => 0) 0 0 0 0 :=
  ⟨by decide, fun i hi => by omega, rfl, rfl, True.intro, rfl, Or.inl rfl, Or.inl rfl, fun h => by omega, fun _ t ht => by cases ht⟩
theorem lw_hr0 : hr_I 0 (fun _ => 0) (fun _ => 0) (fun _ => 0) := ⟨by decide, fun i hi => by omega⟩
theorem hq_jm : ∀ j, j < 38 → defaultValue (hty_m j) = vp_V [.int 0, .null, .int 0, .null, .null, .null, .null, .null, .null, .int 0, .null, .null, .int 0, .int 0, .int 0, .null, .int 0, .null, .null, .int 0, .null, .int 0, .int 0, .int 0, .null, .null, .null, .null, .null, .null, .int 0, .int 0, .int 0, .int 0, .null, .null, .int 0, .null] j := by decide +kernel
set_option maxHeartbeats 8000000 in
set_option maxRecDepth 100000 in
theorem lw_go {p : Program} {e : Env} {s : State} {m : MethodId} {below : List Frame} {meth : Method} {c : Code} (l : Launch) {b L : Nat} {xs : Nat → Int32} (hL : L ≤ 2560) (C0 : lw_At p s m meth c b L xs) : W p l e room_1 s m #[Value.ref b] below meth c s.heap [] 0 0 (lw_Z below #[Value.ref b] s) (entryFrame m ([Value.ref b] : List Value).toArray 4) := by
  obtain ⟨hx, hb, hr, hml, hown, hts0, hX, hbl, hlocks, hgv⟩ := C0
  have hown : s.vm.findClass "HeapQueriesLaw" = some m.cls := hown
  have hts : ∀ w ∈ hq_tbl, w.before #[Value.ref b] s = true := fun w hw => hts0 w (List.mem_filter.mp hw).1
  have hkn : ∀ k : Nat, ∃ cC : ClassId, ∃ iS : Nat → Nat, ∀ x : vw_C, hq_cl[k]? = some x → u_Kn s x.1 x.2.1 x.2.2 cC iS := fun k => match k with
    | 0 => by
      obtain ⟨cC, iS, h⟩ := u_known (C := "HeapQueriesModel") (T := hT_m) (N := 38) hts hin_m (hts _ wi_769)
      exact ⟨cC, iS, fun x hx => by cases hx; exact h⟩
    | 1 => by
      obtain ⟨cC, iS, h⟩ := u_known (C := "HeapQueries") (T := hT_xq) (N := 4) hts hin_xq (hts _ wi_770)
      exact ⟨cC, iS, fun x hx => by cases hx; exact h⟩
    | 2 => by
      obtain ⟨cC, iS, h⟩ := u_known (C := "HeapQueries$Heap") (T := hT_xh) (N := 9) hts hin_xh (hts _ wi_711)
      exact ⟨cC, iS, fun x hx => by cases hx; exact h⟩
    | 3 => by
      obtain ⟨cC, iS, h⟩ := u_known (C := "HeapQueries$Survey") (T := hT_xs) (N := 9) hts hin_xs (hts _ wi_706)
      exact ⟨cC, iS, fun x hx => by cases hx; exact h⟩
    | 4 => by
      obtain ⟨cC, iS, h⟩ := u_known (C := "HeapQueries$Text") (T := hT_xt) (N := 8) hts hin_xt (hts _ wi_715)
      exact ⟨cC, iS, fun x hx => by cases hx; exact h⟩
    | 5 => by
      obtain ⟨cC, iS, h⟩ := u_known (C := "HeapQueries$Worker") (T := hT_xw) (N := 3) hts hin_xw (hts _ wi_719)
      exact ⟨cC, iS, fun x hx => by cases hx; exact h⟩
    | 6 => by
      obtain ⟨cC, iS, h⟩ := u_known (C := "HeapQueries$Select") (T := hT_xl) (N := 8) hts hin_xl (hts _ wi_672)
      exact ⟨cC, iS, fun x hx => by cases hx; exact h⟩
    | 7 => by
      obtain ⟨cC, iS, h⟩ := u_known (C := "HeapQueries$Node") (T := hT_xn) (N := 4) hts hin_xn (hts _ wi_619)
      exact ⟨cC, iS, fun x hx => by cases hx; exact h⟩
    | 8 => by
      obtain ⟨cC, iS, h⟩ := u_known (C := "HeapQueries$Reader") (T := hT_xr) (N := 2) hts hin_xr (hts _ wi_728)
      exact ⟨cC, iS, fun x hx => by cases hx; exact h⟩
    | _ + 9 => ⟨0, fun _ => 0, fun x hx => by cases hx⟩
  obtain ⟨D1, hD1⟩ := Classical.axiomOfChoice hkn
  obtain ⟨D2, hD2⟩ := Classical.axiomOfChoice hD1
  obtain ⟨cI, kI, oI, i1, i2, i3⟩ := Cond.arrayClass_spec (hts _ wi_700)
  obtain ⟨cZ, kZ, oZ, z1, z2, z3⟩ := Cond.arrayClass_spec (hts _ wi_723)
  obtain ⟨cL, kL, oL, l1, l2, l3⟩ := Cond.arrayClass_spec (hts _ wi_703)
  have hK : va_K (D1, D2) hq_cl (hq_tys cI cZ cL) s := ⟨fun k x hx => hD2 k x hx, fun k x hx => by
    have hk : k < 3 := (List.getElem?_eq_some_iff.mp hx).1
    have h3 : k = 0 ∨ k = 1 ∨ k = 2 := by omega
    rcases h3 with rfl | rfl | rfl
    · cases hx
      exact ⟨fun n z => ⟨fun k h => (by cases h), kI, i2, oI, i3⟩, i1⟩
    · cases hx
      exact ⟨fun n z => ⟨fun k h => (by cases h), kZ, z2, oZ, z3⟩, z1⟩
    · cases hx
      exact ⟨fun n z => ⟨fun k h => (by cases h), kL, l2, oL, l3⟩, l1⟩⟩
  have hN : hq_N s := ⟨va_Nw.of rfl (hts0 (Cond.methodLinkNest "HeapQueries" 11 yxh_init "HeapQueries") (List.mem_of_getElem? (i := 88) (by decide +kernel))), va_Nw.of rfl (hts0 (Cond.methodLinkNest "HeapQueries$Heap" 27 yxs_init "HeapQueries") (List.mem_of_getElem? (i := 94) (by decide +kernel))), va_Nw.of rfl (hts0 (Cond.methodLinkNest "HeapQueries" 18 yxt_init "HeapQueries") (List.mem_of_getElem? (i := 161) (by decide +kernel))), va_Nw.of rfl (hts0 (Cond.methodLinkNest "HeapQueries" 25 yxw_init "HeapQueries") (List.mem_of_getElem? (i := 192) (by decide +kernel))), va_Nw.of rfl (hts0 (Cond.methodLinkNest "HeapQueries$Reader" 29 yxl_init "HeapQueries") (List.mem_of_getElem? (i := 423) (by decide +kernel)))⟩
  generalize hAe : (fun q : Nat => s.heap.size ≤ q) = A
  have hA : ∀ q : Nat, s.heap.size ≤ q → A q := fun q h => by rw [← hAe]; exact h
  have hAn : ∀ q : Nat, A q → s.heap.size ≤ q := fun q h => by rw [← hAe] at h; exact h
  have hbA : ¬ A b := fun h => by have := hAn b h; omega
  have hS : va_S A s.heap s.heap [] := va_S.rf
  have hP : va_P (D1, D2) hq_cl [] s.heap := fun k x hx => by cases hx
  have hD : va_D A [] := ⟨fun i j x y hx => (by cases hx), fun k x hx => (by cases hx)⟩
  have hl := lv_entry [Value.ref b] (n := 4) (Nat.le_of_ble_eq_true rfl)
  rw [lg_entry_eq]
  generalize (lg_sl ([Value.ref b]) ++ List.replicate (4 - (lg_sl ([Value.ref b])).length) Slot.unset).toArray = ls at hl ⊢
  have hl : lv_has ls 4 [(0, .ref b)] := hl
  refine va_new (ci := 1) (fs := [.null, .null, .null, .null]) hx hb hts hin_xq hty_xq hty_xq_ok hown (hts _ wi_771) (hts _ wi_770) (hts _ wi_209) hK hP hD hS hA rfl hq_jxq (Nat.le_of_ble_eq_true rfl) (Nat.le_of_ble_eq_true rfl) dlw_0 (fun x0 H hP hD hS => ?_)
  refine lv_dup hx hb dlw_3 rfl ?_
  refine hq_callIn (y := yxq_init) (bc := bxq_init) (nL := 1) (rm := { frames := 3, cells := 18, slots := 637, locals := 52 }) (mc := 18) (ms := 637) (As := []) (b := x0) hx hb hml hown hts hK hA hN hP hD hS (cxq_init (q0 := 0) (a := x0) rfl) wi_772 wi_773 wi_209 wi_774 rfl 0 rfl (by decide +kernel) ⟨rfl, rfl⟩ ⟨Nat.le_of_ble_eq_true rfl, Nat.le_of_ble_eq_true rfl⟩ hl.1 rfl (Nat.le_of_ble_eq_true rfl) dlw_4 ⟨Nat.le_of_ble_eq_true rfl, Nat.le_of_ble_eq_true rfl⟩ (fun o w1 H locs hpost hP hD hS => ?_)
  obtain ⟨rfl, b5, b5_b7, b5_b15, b5_b23, b5_b31, b5_b37, b5_b37_b7, b5_b37_b15, b5_b37_b23, b5_b37_b31, b5_b37_b39, b5_b37_b47, b16, b16_b7, b16_b15, b16_b23, b27, b27_b8, rfl⟩ := hpost
  have hP : va_P (D1, D2) hq_cl ([(x0, .inr (1, [.ref b5, .ref b16, .ref b27, .null])), (b5, .inr (2, [.ref b5_b7, .int 0, .ref b5_b15, .ref b5_b23, .ref b5_b31, .int 0, .int 0, .ref b5_b37, .int 0])), (b5_b7, .inl (cI, 8, .inl fun _ => 0)), (b5_b15, .inl (cI, 24, .inl fun _ => 0)), (b5_b23, .inl (cI, 24, .inl fun _ => 0)), (b5_b31, .inl (cL, 96, .inr (.inl fun _ => 0))), (b5_b37, .inr (3, [.ref b5_b37_b7, .ref b5_b37_b15, .ref b5_b37_b23, .ref b5_b37_b31, .ref b5_b37_b39, .ref b5_b37_b47, .int 0, .int 0, .int 0])), (b5_b37_b7, .inl (cI, 24, .inl fun _ => 0)), (b5_b37_b15, .inl (cI, 24, .inl fun _ => 0)), (b5_b37_b23, .inl (cI, 24, .inl fun _ => 0)), (b5_b37_b31, .inl (cI, 24, .inl fun _ => 0)), (b5_b37_b39, .inl (cI, 24, .inl fun _ => 0)), (b5_b37_b47, .inl (cI, 24, .inl fun _ => 0)), (b16, .inr (4, [.ref b16_b7, .ref b16_b15, .int 0, .ref b16_b23, .int 0, .int 0, .int 0, .int 0])), (b16_b7, .inl (cI, 40, .inl fun _ => 0)), (b16_b15, .inl (cI, 40, .inl fun _ => 0)), (b16_b23, .inl (cI, 40, .inl fun _ => 0)), (b27, .inr (5, [.ref b27_b8, .int 0, .int 0])), (b27_b8, .inl (cL, 192, .inr (.inl fun _ => 0)))] : va_W) H := hP
  have hD : va_D A ([(x0, .inr (1, [.ref b5, .ref b16, .ref b27, .null])), (b5, .inr (2, [.ref b5_b7, .int 0, .ref b5_b15, .ref b5_b23, .ref b5_b31, .int 0, .int 0, .ref b5_b37, .int 0])), (b5_b7, .inl (cI, 8, .inl fun _ => 0)), (b5_b15, .inl (cI, 24, .inl fun _ => 0)), (b5_b23, .inl (cI, 24, .inl fun _ => 0)), (b5_b31, .inl (cL, 96, .inr (.inl fun _ => 0))), (b5_b37, .inr (3, [.ref b5_b37_b7, .ref b5_b37_b15, .ref b5_b37_b23, .ref b5_b37_b31, .ref b5_b37_b39, .ref b5_b37_b47, .int 0, .int 0, .int 0])), (b5_b37_b7, .inl (cI, 24, .inl fun _ => 0)), (b5_b37_b15, .inl (cI, 24, .inl fun _ => 0)), (b5_b37_b23, .inl (cI, 24, .inl fun _ => 0)), (b5_b37_b31, .inl (cI, 24, .inl fun _ => 0)), (b5_b37_b39, .inl (cI, 24, .inl fun _ => 0)), (b5_b37_b47, .inl (cI, 24, .inl fun _ => 0)), (b16, .inr (4, [.ref b16_b7, .ref b16_b15, .int 0, .ref b16_b23, .int 0, .int 0, .int 0, .int 0])), (b16_b7, .inl (cI, 40, .inl fun _ => 0)), (b16_b15, .inl (cI, 40, .inl fun _ => 0)), (b16_b23, .inl (cI, 40, .inl fun _ => 0)), (b27, .inr (5, [.ref b27_b8, .int 0, .int 0])), (b27_b8, .inl (cL, 192, .inr (.inl fun _ => 0)))] : va_W) := hD
  refine lv_astore_n (lv' := [(1, .ref x0), (0, .ref b)]) hx hb dlw_7 rfl hl (by decide) rfl (fun ls hl => ?_)
  refine va_new (ci := 0) (fs := [.int 0, .null, .int 0, .null, .null, .null, .null, .null, .null, .int 0, .null, .null, .int 0, .int 0, .int 0, .null, .int 0, .null, .null, .int 0, .null, .int 0, .int 0, .int 0, .null, .null, .null, .null, .null, .null, .int 0, .int 0, .int 0, .int 0, .null, .null, .int 0, .null]) hx hb hts hin_m hty_m hty_m_ok hown (hts _ wi_775) (hts _ wi_769) (hts _ wi_338) hK hP hD hS hA rfl hq_jm (Nat.le_of_ble_eq_true rfl) (Nat.le_of_ble_eq_true rfl) dlw_8 (fun m0 H hP hD hS => ?_)
  refine lv_dup hx hb dlw_11 rfl ?_
  refine hq_callIn (y := ym_init) (bc := bm_init) (nL := 1) (rm := { frames := 1, cells := 22, slots := 1386, locals := 12 }) (mc := 22) (ms := 1386) (As := []) (b := m0) hx hb hml hown hts hK hA hN hP hD hS (cm_init (a := m0) (hz_ce _ _)) wi_776 wi_777 wi_338 wi_778 rfl 0 rfl (by decide +kernel) ⟨rfl, rfl⟩ ⟨Nat.le_of_ble_eq_true rfl, Nat.le_of_ble_eq_true rfl⟩ hl.1 rfl (Nat.le_of_ble_eq_true rfl) dlw_12 ⟨Nat.le_of_ble_eq_true rfl, Nat.le_of_ble_eq_true rfl⟩ (fun o w1 H locs hpost hP hD hS => ?_)
  obtain ⟨rfl, m7, m15, m23, m31, m39, m47, m55, m63, m71, m79, m88, m97, m106, m114, m122, m130, m138, m146, m154, m162, m170, m178, rfl⟩ := hpost
  rw [hz_cs] at hP hD
  have hP := hP.sub (ws' := (hx_w (fun i => [x0, b5, b5_b37, b16, b27, b5_b7, b5_b15, b5_b23, b5_b31, b5_b37_b7, b5_b37_b15, b5_b37_b23, b5_b37_b31, b5_b37_b39, b5_b37_b47, b16_b7, b16_b15, b16_b23, b27_b8].getD i 0) cI cZ cL none (fun _ => 0) 0 (fun _ => 0) (fun _ => 0) (fun _ => 0) 0 0 0 (fun _ => 0) (fun _ => 0) (fun _ => 0) (fun _ => 0) (fun _ => 0) (fun _ => 0) 0 0 0 (fun _ => 0) (fun _ => 0) 0 (fun _ => 0) 0 0 0 0 (fun _ => 0) 0 0 ++ (([] : va_W) ++ (hm_w (fun i => [m0, m7, m15, m23, m31, m39, m47, m55, m63, m71, m79, m88, m97, m106, m114, m122, m130, m138, m146, m154, m162, m170, m178].getD i 0) cI cZ cL 0 (fun _ => 0) 0 (fun _ => 0) (fun _ => 0) (fun _ => 0) (fun _ => 0) (fun _ => 0) (fun _ => 0) 0 (fun _ => 0) (fun _ => 0) 0 0 0 (fun _ => 0) 0 (fun _ => 0) (fun _ => 0) 0 (fun _ => 0) 0 0 0 (fun _ => 0) (fun _ => 0) (fun _ => 0) (fun _ => 0) (fun _ => 0) (fun _ => 0) 0 0 0 0 (fun _ => 0) (fun _ => 0) 0 (fun _ => 0) ++ ([] : va_W))))) [0, 1, 6, 13, 17, 2, 3, 4, 5, 7, 8, 9, 10, 11, 12, 14, 15, 16, 18, 19, 20, 21, 22, 23, 24, 25, 26, 27, 28, 29, 30, 31, 32, 33, 34, 35, 36, 37, 38, 39, 40, 41] rfl
  have hD := hD.sub (ws' := (hx_w (fun i => [x0, b5, b5_b37, b16, b27, b5_b7, b5_b15, b5_b23, b5_b31, b5_b37_b7, b5_b37_b15, b5_b37_b23, b5_b37_b31, b5_b37_b39, b5_b37_b47, b16_b7, b16_b15, b16_b23, b27_b8].getD i 0) cI cZ cL none (fun _ => 0) 0 (fun _ => 0) (fun _ => 0) (fun _ => 0) 0 0 0 (fun _ => 0) (fun _ => 0) (fun _ => 0) (fun _ => 0) (fun _ => 0) (fun _ => 0) 0 0 0 (fun _ => 0) (fun _ => 0) 0 (fun _ => 0) 0 0 0 0 (fun _ => 0) 0 0 ++ (([] : va_W) ++ (hm_w (fun i => [m0, m7, m15, m23, m31, m39, m47, m55, m63, m71, m79, m88, m97, m106, m114, m122, m130, m138, m146, m154, m162, m170, m178].getD i 0) cI cZ cL 0 (fun _ => 0) 0 (fun _ => 0) (fun _ => 0) (fun _ => 0) (fun _ => 0) (fun _ => 0) (fun _ => 0) 0 (fun _ => 0) (fun _ => 0) 0 0 0 (fun _ => 0) 0 (fun _ => 0) (fun _ => 0) 0 (fun _ => 0) 0 0 0 (fun _ => 0) (fun _ => 0) (fun _ => 0) (fun _ => 0) (fun _ => 0) (fun _ => 0) 0 0 0 0 (fun _ => 0) (fun _ => 0) 0 (fun _ => 0) ++ ([] : va_W))))) [0, 1, 6, 13, 17, 2, 3, 4, 5, 7, 8, 9, 10, 11, 12, 14, 15, 16, 18, 19, 20, 21, 22, 23, 24, 25, 26, 27, 28, 29, 30, 31, 32, 33, 34, 35, 36, 37, 38, 39, 40, 41] (by decide) rfl
  refine lv_astore_n (lv' := [(2, .ref m0), (1, .ref x0), (0, .ref b)]) hx hb dlw_15 rfl hl (by decide) rfl (fun ls hl => ?_)
  refine lv_iconst (v := 0) hx hb dlw_16 (by decide) ?_
  refine lv_istore_n (lv' := [(3, .int 0), (2, .ref m0), (1, .ref x0), (0, .ref b)]) hx hb dlw_17 rfl hl (by decide) rfl (fun ls hl => ?_)
  refine va_forget (fun q hq => hAn _ (hS.2.2 q hq)) ?_
  refine W.widen (k := 100 + 50 * 0) (n := 6000 + 250 * 0) (Nat.le_of_ble_eq_true rfl) (Nat.le_of_ble_eq_true rfl) ?_
  exact lw_loop hx hb hr hml hts hown hlocks hK hA hAn hN hX hbl hbA hL (L + 1) 0 ls H (by omega) (by decide) (lv_sub hl [3, 2, 1, 0] rfl) (lw_mk hP hD rfl rfl ⟨0, 0, 0, fun _ => 0, 0, false, [], 0, rfl, rfl, rfl, rfl, rfl, rfl, rfl, rfl, rfl, lw_hh0, fun _ => lw_hs0, lw_ht0, lw_hr0, ⟨fun _ => rfl, fun h => absurd h (by decide)⟩⟩) ⟨hS.1, hS.2.1, fun q hq => by cases hq⟩
