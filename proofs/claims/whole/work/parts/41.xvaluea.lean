theorem dxv_number_0 : decode bxv_number 0 = .ok (.ldc2_w 11, 3) := by decide +kernel
theorem dxv_number_3 : decode bxv_number 3 = .ok (.iload_n 0, 1) := by decide +kernel
theorem dxv_number_4 : decode bxv_number 4 = .ok (.i2l, 1) := by decide +kernel
theorem dxv_number_5 : decode bxv_number 5 = .ok (.ldc2_w 13, 3) := by decide +kernel
theorem dxv_number_8 : decode bxv_number 8 = .ok (.land, 1) := by decide +kernel
theorem dxv_number_9 : decode bxv_number 9 = .ok (.lor, 1) := by decide +kernel
theorem dxv_number_10 : decode bxv_number 10 = .ok (.lreturn, 1) := by decide +kernel
section
variable {l : Launch} {D : va_G} {A : Nat → Prop} {z w : va_W} {q : Nat → Nat} {cI cZ cL : ClassId}
set_option maxHeartbeats 4000000 in
set_option maxRecDepth 100000 in
theorem cxv_number (l0 : Int32) (ur : Int64) (h : sxv_number l0 = ur) : hq_Ct l yxv_number bxv_number 1 (some .long) { frames := 0, cells := 0, slots := 0, locals := 0 } D (hq_tys cI cZ cL) A [.int l0] w w (some (.long ur)) 0 0 := by
  refine hq_of (by decide) ?_ (Nat.le_of_ble_eq_true rfl)
  intro p e s m below meth c R args Q hRm hQ hx hb hr hml hts hown hlocks hnm hP hK hD ls hl hS
  have hl : lv_has ls 1 [(0, .int l0)] := hl
  have hown : s.vm.findClass "HeapQueries$Value" = some m.cls := hown
  unfold sxv_number at h
  refine lv_ldc2 (v := 4294967296) hx hb hown (hts _ wi_11) dxv_number_0 ?_
  refine lv_iload_n hx hb dxv_number_3 rfl (lv_at hl 0 rfl) ?_
  refine lv_i2l (v := l0.toInt64) hx hb dxv_number_4 rfl ?_
  refine lv_ldc2 (v := 4294967295) hx hb hown (hts _ wi_12) dxv_number_5 ?_
  refine lv_land hx hb dxv_number_8 ?_
  refine lv_lor hx hb dxv_number_9 ?_
  exact hq_lret hx hb hr hlocks hQ hK hP hD hS (by rw [← h]) rfl dxv_number_10
end
section
variable {p : Program} {l : Launch} {e : Env} {R : Room} {s : State} {m : MethodId} {args : Array Value} {below : List Frame} {meth : Method} {c : Code} {H H0 : Heap} {locs : List Loc} {cells slots : Nat} {Q : State → Prop}
variable {cc : ByteArray} {pc idx nC : Nat} {ls : Array Slot} {rest : List Value} {D : va_G} {A : Nat → Prop} {own : String} {q : Nat → Nat} {cI cZ cL : ClassId} {z w : va_W}
theorem kxv_number (l0 : Int32) (ur : Int64) (hu : sxv_number l0 = ur) (hx : p.tables.exec = Jvm.exec) (hb : c.code = cc) (hml : c.maxLocals = nC) (hts : ∀ x ∈ hq_tbl, x.before args s = true) (hown : s.vm.findClass own = some m.cls) (hK : va_K D hq_cl (hq_tys cI cZ cL) s) (hP : va_P D hq_cl w H) (hD : va_D A w) (hS : va_S A H0 H locs) (h1 : Cond.methodLink own idx yxv_number ∈ hq_tbl) (hR : 0 + 1 ≤ R.frames ∧ 8 + (1 + 11) + 0 ≤ R.locals) (hls : ls.size = nC) (hW : (rest.map fun v => v.category).sum ≤ 8) (hdg : decode cc pc = .ok (.invokestatic idx, 3)) (hf : cells + 0 ≤ R.cells ∧ slots + 0 ≤ R.slots) (kk : ∀ (H1 : Heap) (locs1 : List Loc), va_P D hq_cl w H1 → va_D A w → va_S A H0 H1 locs1 → W p l e R s m args below meth c H1 locs1 cells slots Q (F0 m (pc + 3) ls (.long ur :: rest))) : W p l e R s m args below meth c H locs cells slots Q (F0 m pc ls (.int l0 :: rest)) :=
  hq_callS hx hb hml hown hts hK hP hD hS (cxv_number l0 ur hu) h1 wi_223 wi_224 wi_225 1 rfl (by decide +kernel) ⟨rfl, rfl⟩ hR hls rfl hW hdg hf kk
end
theorem dxv_link_0 : decode bxv_link 0 = .ok (.ldc2_w 15, 3) := by decide +kernel
theorem dxv_link_3 : decode bxv_link 3 = .ok (.iload_n 0, 1) := by decide +kernel
theorem dxv_link_4 : decode bxv_link 4 = .ok (.i2l, 1) := by decide +kernel
theorem dxv_link_5 : decode bxv_link 5 = .ok (.ldc2_w 13, 3) := by decide +kernel
theorem dxv_link_8 : decode bxv_link 8 = .ok (.land, 1) := by decide +kernel
theorem dxv_link_9 : decode bxv_link 9 = .ok (.lor, 1) := by decide +kernel
theorem dxv_link_10 : decode bxv_link 10 = .ok (.lreturn, 1) := by decide +kernel
section
variable {l : Launch} {D : va_G} {A : Nat → Prop} {z w : va_W} {q : Nat → Nat} {cI cZ cL : ClassId}
set_option maxHeartbeats 4000000 in
set_option maxRecDepth 100000 in
theorem cxv_link (l0 : Int32) (ur : Int64) (h : sxv_link l0 = ur) : hq_Ct l yxv_link bxv_link 1 (some .long) { frames := 0, cells := 0, slots := 0, locals := 0 } D (hq_tys cI cZ cL) A [.int l0] w w (some (.long ur)) 0 0 := by
  refine hq_of (by decide) ?_ (Nat.le_of_ble_eq_true rfl)
  intro p e s m below meth c R args Q hRm hQ hx hb hr hml hts hown hlocks hnm hP hK hD ls hl hS
  have hl : lv_has ls 1 [(0, .int l0)] := hl
  have hown : s.vm.findClass "HeapQueries$Value" = some m.cls := hown
  unfold sxv_link at h
  refine lv_ldc2 (v := 8589934592) hx hb hown (hts _ wi_13) dxv_link_0 ?_
  refine lv_iload_n hx hb dxv_link_3 rfl (lv_at hl 0 rfl) ?_
  refine lv_i2l (v := l0.toInt64) hx hb dxv_link_4 rfl ?_
  refine lv_ldc2 (v := 4294967295) hx hb hown (hts _ wi_12) dxv_link_5 ?_
  refine lv_land hx hb dxv_link_8 ?_
  refine lv_lor hx hb dxv_link_9 ?_
  exact hq_lret hx hb hr hlocks hQ hK hP hD hS (by rw [← h]) rfl dxv_link_10
end
section
variable {p : Program} {l : Launch} {e : Env} {R : Room} {s : State} {m : MethodId} {args : Array Value} {below : List Frame} {meth : Method} {c : Code} {H H0 : Heap} {locs : List Loc} {cells slots : Nat} {Q : State → Prop}
variable {cc : ByteArray} {pc idx nC : Nat} {ls : Array Slot} {rest : List Value} {D : va_G} {A : Nat → Prop} {own : String} {q : Nat → Nat} {cI cZ cL : ClassId} {z w : va_W}
theorem kxv_link (l0 : Int32) (ur : Int64) (hu : sxv_link l0 = ur) (hx : p.tables.exec = Jvm.exec) (hb : c.code = cc) (hml : c.maxLocals = nC) (hts : ∀ x ∈ hq_tbl, x.before args s = true) (hown : s.vm.findClass own = some m.cls) (hK : va_K D hq_cl (hq_tys cI cZ cL) s) (hP : va_P D hq_cl w H) (hD : va_D A w) (hS : va_S A H0 H locs) (h1 : Cond.methodLink own idx yxv_link ∈ hq_tbl) (hR : 0 + 1 ≤ R.frames ∧ 8 + (1 + 11) + 0 ≤ R.locals) (hls : ls.size = nC) (hW : (rest.map fun v => v.category).sum ≤ 8) (hdg : decode cc pc = .ok (.invokestatic idx, 3)) (hf : cells + 0 ≤ R.cells ∧ slots + 0 ≤ R.slots) (kk : ∀ (H1 : Heap) (locs1 : List Loc), va_P D hq_cl w H1 → va_D A w → va_S A H0 H1 locs1 → W p l e R s m args below meth c H1 locs1 cells slots Q (F0 m (pc + 3) ls (.long ur :: rest))) : W p l e R s m args below meth c H locs cells slots Q (F0 m pc ls (.int l0 :: rest)) :=
  hq_callS hx hb hml hown hts hK hP hD hS (cxv_link l0 ur hu) h1 wi_226 wi_224 wi_227 1 rfl (by decide +kernel) ⟨rfl, rfl⟩ hR hls rfl hW hdg hf kk
end
theorem dxv_isLink_0 : decode bxv_isLink 0 = .ok (.lload_n 0, 1) := by decide +kernel
theorem dxv_isLink_1 : decode bxv_isLink 1 = .ok (.bipush 32, 2) := by decide +kernel
theorem dxv_isLink_3 : decode bxv_isLink 3 = .ok (.lushr, 1) := by decide +kernel
theorem dxv_isLink_4 : decode bxv_isLink 4 = .ok (.ldc2_w 21, 3) := by decide +kernel
theorem dxv_isLink_7 : decode bxv_isLink 7 = .ok (.lcmp, 1) := by decide +kernel
theorem dxv_isLink_8 : decode bxv_isLink 8 = .ok (.ifCond .ne 7, 3) := by decide +kernel
theorem dxv_isLink_11 : decode bxv_isLink 11 = .ok (.iconst 1, 1) := by decide +kernel
theorem dxv_isLink_12 : decode bxv_isLink 12 = .ok (.goto 4, 3) := by decide +kernel
theorem dxv_isLink_15 : decode bxv_isLink 15 = .ok (.iconst 0, 1) := by decide +kernel
theorem dxv_isLink_16 : decode bxv_isLink 16 = .ok (.ireturn, 1) := by decide +kernel
section
variable {l : Launch} {D : va_G} {A : Nat → Prop} {z w : va_W} {q : Nat → Nat} {cI cZ cL : ClassId}
set_option maxHeartbeats 4000000 in
set_option maxRecDepth 100000 in
theorem cxv_isLink (l0 : Int64) (ur : Int32) (h : sxv_isLink l0 = ur) : hq_Ct l yxv_isLink bxv_isLink 2 (some .boolean) { frames := 0, cells := 0, slots := 0, locals := 0 } D (hq_tys cI cZ cL) A [.long l0] w w (some (.int ur)) 0 0 := by
  refine hq_of (by decide) ?_ (Nat.le_of_ble_eq_true rfl)
  intro p e s m below meth c R args Q hRm hQ hx hb hr hml hts hown hlocks hnm hP hK hD ls hl hS
  have hl : lv_has ls 2 [(0, .long l0)] := hl
  have hown : s.vm.findClass "HeapQueries$Value" = some m.cls := hown
  unfold sxv_isLink at h
  refine lv_lload_n hx hb dxv_isLink_0 rfl (lv_at hl 0 rfl) ?_
  refine lv_bipush (v := 32) hx hb dxv_isLink_1 (by decide) ?_
  refine lv_lushr (v := (l0.toUInt64 >>> ((32 : Int32).toInt64.toUInt64 &&& Int64.toUInt64 63)).toInt64) hx hb dxv_isLink_3 rfl ?_
  refine lv_ldc2 (v := 2) hx hb hown (hts _ wi_20) dxv_isLink_4 ?_
  refine W.lcmp hx hb dxv_isLink_7 ?_
  refine lv_if_ne (tgt := 15) hx hb dxv_isLink_8 (by decide) (fun hc => ?_) (fun hc => ?_)
  · have h := (if_neg hc).symm.trans h
    refine lv_iconst (v := 0) hx hb dxv_isLink_15 (by decide) ?_
    exact hq_zret hx hb hr hlocks hQ hK hP hD hS (by decide) (by rw [← h]) rfl dxv_isLink_16
  · have h := (if_pos hc).symm.trans h
    refine lv_iconst (v := 1) hx hb dxv_isLink_11 (by decide) ?_
    refine lv_goto (tgt := 16) hx hb dxv_isLink_12 (by decide) ?_
    exact hq_zret hx hb hr hlocks hQ hK hP hD hS (by decide) (by rw [← h]) rfl dxv_isLink_16
end
section
variable {p : Program} {l : Launch} {e : Env} {R : Room} {s : State} {m : MethodId} {args : Array Value} {below : List Frame} {meth : Method} {c : Code} {H H0 : Heap} {locs : List Loc} {cells slots : Nat} {Q : State → Prop}
variable {cc : ByteArray} {pc idx nC : Nat} {ls : Array Slot} {rest : List Value} {D : va_G} {A : Nat → Prop} {own : String} {q : Nat → Nat} {cI cZ cL : ClassId} {z w : va_W}
theorem kxv_isLink (l0 : Int64) (ur : Int32) (hu : sxv_isLink l0 = ur) (hx : p.tables.exec = Jvm.exec) (hb : c.code = cc) (hml : c.maxLocals = nC) (hts : ∀ x ∈ hq_tbl, x.before args s = true) (hown : s.vm.findClass own = some m.cls) (hK : va_K D hq_cl (hq_tys cI cZ cL) s) (hP : va_P D hq_cl w H) (hD : va_D A w) (hS : va_S A H0 H locs) (h1 : Cond.methodLink own idx yxv_isLink ∈ hq_tbl) (hR : 0 + 1 ≤ R.frames ∧ 8 + (2 + 11) + 0 ≤ R.locals) (hls : ls.size = nC) (hW : (rest.map fun v => v.category).sum ≤ 8) (hdg : decode cc pc = .ok (.invokestatic idx, 3)) (hf : cells + 0 ≤ R.cells ∧ slots + 0 ≤ R.slots) (kk : ∀ (H1 : Heap) (locs1 : List Loc), va_P D hq_cl w H1 → va_D A w → va_S A H0 H1 locs1 → W p l e R s m args below meth c H1 locs1 cells slots Q (F0 m (pc + 3) ls (.int ur :: rest))) : W p l e R s m args below meth c H locs cells slots Q (F0 m pc ls (.long l0 :: rest)) :=
  hq_callS hx hb hml hown hts hK hP hD hS (cxv_isLink l0 ur hu) h1 wi_246 wi_224 wi_247 1 rfl (by decide +kernel) ⟨rfl, rfl⟩ hR hls rfl hW hdg hf kk
end
theorem dxv_contentOf_0 : decode bxv_contentOf 0 = .ok (.lload_n 0, 1) := by decide +kernel
theorem dxv_contentOf_1 : decode bxv_contentOf 1 = .ok (.l2i, 1) := by decide +kernel
theorem dxv_contentOf_2 : decode bxv_contentOf 2 = .ok (.ireturn, 1) := by decide +kernel
section
variable {l : Launch} {D : va_G} {A : Nat → Prop} {z w : va_W} {q : Nat → Nat} {cI cZ cL : ClassId}
set_option maxHeartbeats 4000000 in
set_option maxRecDepth 100000 in
theorem cxv_contentOf (l0 : Int64) (ur : Int32) (h : sxv_contentOf l0 = ur) : hq_Ct l yxv_contentOf bxv_contentOf 2 (some .int) { frames := 0, cells := 0, slots := 0, locals := 0 } D (hq_tys cI cZ cL) A [.long l0] w w (some (.int ur)) 0 0 := by
  refine hq_of (by decide) ?_ (Nat.le_of_ble_eq_true rfl)
  intro p e s m below meth c R args Q hRm hQ hx hb hr hml hts hown hlocks hnm hP hK hD ls hl hS
  have hl : lv_has ls 2 [(0, .long l0)] := hl
  have hown : s.vm.findClass "HeapQueries$Value" = some m.cls := hown
  unfold sxv_contentOf at h
  refine lv_lload_n hx hb dxv_contentOf_0 rfl (lv_at hl 0 rfl) ?_
  refine lv_l2i (v := l0.toInt32) hx hb dxv_contentOf_1 rfl ?_
  exact hq_iret hx hb hr hlocks hQ hK hP hD hS (by rw [← h]) rfl dxv_contentOf_2
end
section
variable {p : Program} {l : Launch} {e : Env} {R : Room} {s : State} {m : MethodId} {args : Array Value} {below : List Frame} {meth : Method} {c : Code} {H H0 : Heap} {locs : List Loc} {cells slots : Nat} {Q : State → Prop}
variable {cc : ByteArray} {pc idx nC : Nat} {ls : Array Slot} {rest : List Value} {D : va_G} {A : Nat → Prop} {own : String} {q : Nat → Nat} {cI cZ cL : ClassId} {z w : va_W}
theorem kxv_contentOf (l0 : Int64) (ur : Int32) (hu : sxv_contentOf l0 = ur) (hx : p.tables.exec = Jvm.exec) (hb : c.code = cc) (hml : c.maxLocals = nC) (hts : ∀ x ∈ hq_tbl, x.before args s = true) (hown : s.vm.findClass own = some m.cls) (hK : va_K D hq_cl (hq_tys cI cZ cL) s) (hP : va_P D hq_cl w H) (hD : va_D A w) (hS : va_S A H0 H locs) (h1 : Cond.methodLink own idx yxv_contentOf ∈ hq_tbl) (hR : 0 + 1 ≤ R.frames ∧ 8 + (2 + 11) + 0 ≤ R.locals) (hls : ls.size = nC) (hW : (rest.map fun v => v.category).sum ≤ 8) (hdg : decode cc pc = .ok (.invokestatic idx, 3)) (hf : cells + 0 ≤ R.cells ∧ slots + 0 ≤ R.slots) (kk : ∀ (H1 : Heap) (locs1 : List Loc), va_P D hq_cl w H1 → va_D A w → va_S A H0 H1 locs1 → W p l e R s m args below meth c H1 locs1 cells slots Q (F0 m (pc + 3) ls (.int ur :: rest))) : W p l e R s m args below meth c H locs cells slots Q (F0 m pc ls (.long l0 :: rest)) :=
  hq_callS hx hb hml hown hts hK hP hD hS (cxv_contentOf l0 ur hu) h1 wi_248 wi_224 wi_249 1 rfl (by decide +kernel) ⟨rfl, rfl⟩ hR hls rfl hW hdg hf kk
end
theorem djn_numberOfTrailingZeros_0 : decode bjn_numberOfTrailingZeros 0 = .ok (.iload_n 0, 1) := by decide +kernel
theorem djn_numberOfTrailingZeros_1 : decode bjn_numberOfTrailingZeros 1 = .ok (.iconst (-1), 1) := by decide +kernel
theorem djn_numberOfTrailingZeros_2 : decode bjn_numberOfTrailingZeros 2 = .ok (.ixor, 1) := by decide +kernel
theorem djn_numberOfTrailingZeros_3 : decode bjn_numberOfTrailingZeros 3 = .ok (.iload_n 0, 1) := by decide +kernel
theorem djn_numberOfTrailingZeros_4 : decode bjn_numberOfTrailingZeros 4 = .ok (.iconst 1, 1) := by decide +kernel
theorem djn_numberOfTrailingZeros_5 : decode bjn_numberOfTrailingZeros 5 = .ok (.isub, 1) := by decide +kernel
theorem djn_numberOfTrailingZeros_6 : decode bjn_numberOfTrailingZeros 6 = .ok (.iand, 1) := by decide +kernel
theorem djn_numberOfTrailingZeros_7 : decode bjn_numberOfTrailingZeros 7 = .ok (.istore_n 0, 1) := by decide +kernel
theorem djn_numberOfTrailingZeros_8 : decode bjn_numberOfTrailingZeros 8 = .ok (.iload_n 0, 1) := by decide +kernel
theorem djn_numberOfTrailingZeros_9 : decode bjn_numberOfTrailingZeros 9 = .ok (.ifCond .gt 8, 3) := by decide +kernel
theorem djn_numberOfTrailingZeros_12 : decode bjn_numberOfTrailingZeros 12 = .ok (.iload_n 0, 1) := by decide +kernel
theorem djn_numberOfTrailingZeros_13 : decode bjn_numberOfTrailingZeros 13 = .ok (.bipush 32, 2) := by decide +kernel
theorem djn_numberOfTrailingZeros_15 : decode bjn_numberOfTrailingZeros 15 = .ok (.iand, 1) := by decide +kernel
theorem djn_numberOfTrailingZeros_16 : decode bjn_numberOfTrailingZeros 16 = .ok (.ireturn, 1) := by decide +kernel
theorem djn_numberOfTrailingZeros_17 : decode bjn_numberOfTrailingZeros 17 = .ok (.iconst 1, 1) := by decide +kernel
theorem djn_numberOfTrailingZeros_18 : decode bjn_numberOfTrailingZeros 18 = .ok (.istore_n 1, 1) := by decide +kernel
theorem djn_numberOfTrailingZeros_19 : decode bjn_numberOfTrailingZeros 19 = .ok (.iload_n 0, 1) := by decide +kernel
theorem djn_numberOfTrailingZeros_20 : decode bjn_numberOfTrailingZeros 20 = .ok (.ldc_w 264, 3) := by decide +kernel
theorem djn_numberOfTrailingZeros_23 : decode bjn_numberOfTrailingZeros 23 = .ok (.if_icmp .le 11, 3) := by decide +kernel
theorem djn_numberOfTrailingZeros_26 : decode bjn_numberOfTrailingZeros 26 = .ok (.iinc 1 16, 3) := by decide +kernel
theorem djn_numberOfTrailingZeros_29 : decode bjn_numberOfTrailingZeros 29 = .ok (.iload_n 0, 1) := by decide +kernel
theorem djn_numberOfTrailingZeros_30 : decode bjn_numberOfTrailingZeros 30 = .ok (.bipush 16, 2) := by decide +kernel
theorem djn_numberOfTrailingZeros_32 : decode bjn_numberOfTrailingZeros 32 = .ok (.iushr, 1) := by decide +kernel
theorem djn_numberOfTrailingZeros_33 : decode bjn_numberOfTrailingZeros 33 = .ok (.istore_n 0, 1) := by decide +kernel
theorem djn_numberOfTrailingZeros_34 : decode bjn_numberOfTrailingZeros 34 = .ok (.iload_n 0, 1) := by decide +kernel
theorem djn_numberOfTrailingZeros_35 : decode bjn_numberOfTrailingZeros 35 = .ok (.sipush 256, 3) := by decide +kernel
theorem djn_numberOfTrailingZeros_38 : decode bjn_numberOfTrailingZeros 38 = .ok (.if_icmp .le 11, 3) := by decide +kernel
theorem djn_numberOfTrailingZeros_41 : decode bjn_numberOfTrailingZeros 41 = .ok (.iinc 1 8, 3) := by decide +kernel
theorem djn_numberOfTrailingZeros_44 : decode bjn_numberOfTrailingZeros 44 = .ok (.iload_n 0, 1) := by decide +kernel
theorem djn_numberOfTrailingZeros_45 : decode bjn_numberOfTrailingZeros 45 = .ok (.bipush 8, 2) := by decide +kernel
theorem djn_numberOfTrailingZeros_47 : decode bjn_numberOfTrailingZeros 47 = .ok (.iushr, 1) := by decide +kernel
theorem djn_numberOfTrailingZeros_48 : decode bjn_numberOfTrailingZeros 48 = .ok (.istore_n 0, 1) := by decide +kernel
theorem djn_numberOfTrailingZeros_49 : decode bjn_numberOfTrailingZeros 49 = .ok (.iload_n 0, 1) := by decide +kernel
theorem djn_numberOfTrailingZeros_50 : decode bjn_numberOfTrailingZeros 50 = .ok (.bipush 16, 2) := by decide +kernel
theorem djn_numberOfTrailingZeros_52 : decode bjn_numberOfTrailingZeros 52 = .ok (.if_icmp .le 10, 3) := by decide +kernel
theorem djn_numberOfTrailingZeros_55 : decode bjn_numberOfTrailingZeros 55 = .ok (.iinc 1 4, 3) := by decide +kernel
theorem djn_numberOfTrailingZeros_58 : decode bjn_numberOfTrailingZeros 58 = .ok (.iload_n 0, 1) := by decide +kernel
theorem djn_numberOfTrailingZeros_59 : decode bjn_numberOfTrailingZeros 59 = .ok (.iconst 4, 1) := by decide +kernel
theorem djn_numberOfTrailingZeros_60 : decode bjn_numberOfTrailingZeros 60 = .ok (.iushr, 1) := by decide +kernel
theorem djn_numberOfTrailingZeros_61 : decode bjn_numberOfTrailingZeros 61 = .ok (.istore_n 0, 1) := by decide +kernel
theorem djn_numberOfTrailingZeros_62 : decode bjn_numberOfTrailingZeros 62 = .ok (.iload_n 0, 1) := by decide +kernel
theorem djn_numberOfTrailingZeros_63 : decode bjn_numberOfTrailingZeros 63 = .ok (.iconst 4, 1) := by decide +kernel
theorem djn_numberOfTrailingZeros_64 : decode bjn_numberOfTrailingZeros 64 = .ok (.if_icmp .le 10, 3) := by decide +kernel
theorem djn_numberOfTrailingZeros_67 : decode bjn_numberOfTrailingZeros 67 = .ok (.iinc 1 2, 3) := by decide +kernel
theorem djn_numberOfTrailingZeros_70 : decode bjn_numberOfTrailingZeros 70 = .ok (.iload_n 0, 1) := by decide +kernel
theorem djn_numberOfTrailingZeros_71 : decode bjn_numberOfTrailingZeros 71 = .ok (.iconst 2, 1) := by decide +kernel
theorem djn_numberOfTrailingZeros_72 : decode bjn_numberOfTrailingZeros 72 = .ok (.iushr, 1) := by decide +kernel
theorem djn_numberOfTrailingZeros_73 : decode bjn_numberOfTrailingZeros 73 = .ok (.istore_n 0, 1) := by decide +kernel
theorem djn_numberOfTrailingZeros_74 : decode bjn_numberOfTrailingZeros 74 = .ok (.iload_n 1, 1) := by decide +kernel
theorem djn_numberOfTrailingZeros_75 : decode bjn_numberOfTrailingZeros 75 = .ok (.iload_n 0, 1) := by decide +kernel
theorem djn_numberOfTrailingZeros_76 : decode bjn_numberOfTrailingZeros 76 = .ok (.iconst 1, 1) := by decide +kernel
theorem djn_numberOfTrailingZeros_77 : decode bjn_numberOfTrailingZeros 77 = .ok (.iushr, 1) := by decide +kernel
theorem djn_numberOfTrailingZeros_78 : decode bjn_numberOfTrailingZeros 78 = .ok (.iadd, 1) := by decide +kernel
theorem djn_numberOfTrailingZeros_79 : decode bjn_numberOfTrailingZeros 79 = .ok (.ireturn, 1) := by decide +kernel
section
variable {l : Launch} {D : va_G} {A : Nat → Prop} {z w : va_W} {q : Nat → Nat} {cI cZ cL : ClassId}
set_option maxHeartbeats 4000000 in
set_option maxRecDepth 100000 in
theorem cjn_numberOfTrailingZeros (l0 : Int32) (ur : Int32) (h : sjn_numberOfTrailingZeros l0 = ur) : hq_Ct l yjn_numberOfTrailingZeros bjn_numberOfTrailingZeros 2 (some .int) { frames := 0, cells := 0, slots := 0, locals := 0 } D (hq_tys cI cZ cL) A [.int l0] w w (some (.int ur)) 0 0 := by
  refine hq_of (by decide) ?_ (Nat.le_of_ble_eq_true rfl)
  intro p e s m below meth c R args Q hRm hQ hx hb hr hml hts hown hlocks hnm hP hK hD ls hl hS
  have hl : lv_has ls 2 [(0, .int l0)] := hl
  have hown : s.vm.findClass "java/lang/Integer" = some m.cls := hown
  unfold sjn_numberOfTrailingZeros at h
  have J74 : ∀ (l0 : Int32) (l1 : Int32) {ls : Array Slot} {H : Heap} {locs : List Loc}, lv_has ls 2 [(0, .int l0), (1, .int l1)] → va_P D hq_cl w H → va_D A w → va_S A s.heap H locs → sjn_numberOfTrailingZeros_J74 l0 l1 = ur → W p l e R s m args below meth c H locs 0 0 Q (F0 m 74 ls []) := by
    intro l0 l1 ls H locs hl hP hD hS h
    unfold sjn_numberOfTrailingZeros_J74 at h
    refine lv_iload_n hx hb djn_numberOfTrailingZeros_74 rfl (lv_at hl 1 rfl) ?_
    refine lv_iload_n hx hb djn_numberOfTrailingZeros_75 rfl (lv_at hl 0 rfl) ?_
    refine lv_iconst (v := 1) hx hb djn_numberOfTrailingZeros_76 (by decide) ?_
    refine lv_iushr (v := (l0.toUInt32 >>> ((1 : Int32).toUInt32 &&& Int32.toUInt32 31)).toInt32) hx hb djn_numberOfTrailingZeros_77 rfl ?_
    refine lv_iadd hx hb djn_numberOfTrailingZeros_78 ?_
    exact hq_iret hx hb hr hlocks hQ hK hP hD hS (by rw [← h]) rfl djn_numberOfTrailingZeros_79
  have J62 : ∀ (l0 : Int32) (l1 : Int32) {ls : Array Slot} {H : Heap} {locs : List Loc}, lv_has ls 2 [(0, .int l0), (1, .int l1)] → va_P D hq_cl w H → va_D A w → va_S A s.heap H locs → sjn_numberOfTrailingZeros_J62 l0 l1 = ur → W p l e R s m args below meth c H locs 0 0 Q (F0 m 62 ls []) := by
    intro l0 l1 ls H locs hl hP hD hS h
    unfold sjn_numberOfTrailingZeros_J62 at h
    refine lv_iload_n hx hb djn_numberOfTrailingZeros_62 rfl (lv_at hl 0 rfl) ?_
    refine lv_iconst (v := 4) hx hb djn_numberOfTrailingZeros_63 (by decide) ?_
    refine lv_icmp_le (tgt := 74) hx hb djn_numberOfTrailingZeros_64 (by decide) (fun hc => ?_) (fun hc => ?_)
    · have h := (if_pos hc).symm.trans h
      exact J74 l0 l1 hl hP hD hS h
    · have h := (if_neg hc).symm.trans h
      refine lv_iinc (k := 1) (v := l1 + 2) (lv' := [(1, .int (l1 + 2)), (0, .int l0)]) hx hb djn_numberOfTrailingZeros_67 hl rfl (congrArg (fun j => l1 + j) (by decide)) (by decide) rfl (fun ls hl => ?_)
      refine lv_iload_n hx hb djn_numberOfTrailingZeros_70 rfl (lv_at hl 1 rfl) ?_
      refine lv_iconst (v := 2) hx hb djn_numberOfTrailingZeros_71 (by decide) ?_
      refine lv_iushr (v := (l0.toUInt32 >>> ((2 : Int32).toUInt32 &&& Int32.toUInt32 31)).toInt32) hx hb djn_numberOfTrailingZeros_72 rfl ?_
      refine lv_istore_n (lv' := [(0, .int ((l0.toUInt32 >>> ((2 : Int32).toUInt32 &&& Int32.toUInt32 31)).toInt32)), (1, .int (l1 + 2))]) hx hb djn_numberOfTrailingZeros_73 rfl hl (by decide) rfl (fun ls hl => ?_)
      exact J74 ((l0.toUInt32 >>> ((2 : Int32).toUInt32 &&& Int32.toUInt32 31)).toInt32) (l1 + 2) hl hP hD hS h
  have J49 : ∀ (l0 : Int32) (l1 : Int32) {ls : Array Slot} {H : Heap} {locs : List Loc}, lv_has ls 2 [(0, .int l0), (1, .int l1)] → va_P D hq_cl w H → va_D A w → va_S A s.heap H locs → sjn_numberOfTrailingZeros_J49 l0 l1 = ur → W p l e R s m args below meth c H locs 0 0 Q (F0 m 49 ls []) := by
    intro l0 l1 ls H locs hl hP hD hS h
    unfold sjn_numberOfTrailingZeros_J49 at h
    refine lv_iload_n hx hb djn_numberOfTrailingZeros_49 rfl (lv_at hl 0 rfl) ?_
    refine lv_bipush (v := 16) hx hb djn_numberOfTrailingZeros_50 (by decide) ?_
    refine lv_icmp_le (tgt := 62) hx hb djn_numberOfTrailingZeros_52 (by decide) (fun hc => ?_) (fun hc => ?_)
    · have h := (if_pos hc).symm.trans h
      exact J62 l0 l1 hl hP hD hS h
    · have h := (if_neg hc).symm.trans h
      refine lv_iinc (k := 1) (v := l1 + 4) (lv' := [(1, .int (l1 + 4)), (0, .int l0)]) hx hb djn_numberOfTrailingZeros_55 hl rfl (congrArg (fun j => l1 + j) (by decide)) (by decide) rfl (fun ls hl => ?_)
      refine lv_iload_n hx hb djn_numberOfTrailingZeros_58 rfl (lv_at hl 1 rfl) ?_
      refine lv_iconst (v := 4) hx hb djn_numberOfTrailingZeros_59 (by decide) ?_
      refine lv_iushr (v := (l0.toUInt32 >>> ((4 : Int32).toUInt32 &&& Int32.toUInt32 31)).toInt32) hx hb djn_numberOfTrailingZeros_60 rfl ?_
      refine lv_istore_n (lv' := [(0, .int ((l0.toUInt32 >>> ((4 : Int32).toUInt32 &&& Int32.toUInt32 31)).toInt32)), (1, .int (l1 + 4))]) hx hb djn_numberOfTrailingZeros_61 rfl hl (by decide) rfl (fun ls hl => ?_)
      exact J62 ((l0.toUInt32 >>> ((4 : Int32).toUInt32 &&& Int32.toUInt32 31)).toInt32) (l1 + 4) hl hP hD hS h
  have J34 : ∀ (l0 : Int32) (l1 : Int32) {ls : Array Slot} {H : Heap} {locs : List Loc}, lv_has ls 2 [(0, .int l0), (1, .int l1)] → va_P D hq_cl w H → va_D A w → va_S A s.heap H locs → sjn_numberOfTrailingZeros_J34 l0 l1 = ur → W p l e R s m args below meth c H locs 0 0 Q (F0 m 34 ls []) := by
    intro l0 l1 ls H locs hl hP hD hS h
    unfold sjn_numberOfTrailingZeros_J34 at h
    refine lv_iload_n hx hb djn_numberOfTrailingZeros_34 rfl (lv_at hl 0 rfl) ?_
    refine lv_sipush (v := 256) hx hb djn_numberOfTrailingZeros_35 (by decide) ?_
    refine lv_icmp_le (tgt := 49) hx hb djn_numberOfTrailingZeros_38 (by decide) (fun hc => ?_) (fun hc => ?_)
    · have h := (if_pos hc).symm.trans h
      exact J49 l0 l1 hl hP hD hS h
    · have h := (if_neg hc).symm.trans h
      refine lv_iinc (k := 1) (v := l1 + 8) (lv' := [(1, .int (l1 + 8)), (0, .int l0)]) hx hb djn_numberOfTrailingZeros_41 hl rfl (congrArg (fun j => l1 + j) (by decide)) (by decide) rfl (fun ls hl => ?_)
      refine lv_iload_n hx hb djn_numberOfTrailingZeros_44 rfl (lv_at hl 1 rfl) ?_
      refine lv_bipush (v := 8) hx hb djn_numberOfTrailingZeros_45 (by decide) ?_
      refine lv_iushr (v := (l0.toUInt32 >>> ((8 : Int32).toUInt32 &&& Int32.toUInt32 31)).toInt32) hx hb djn_numberOfTrailingZeros_47 rfl ?_
      refine lv_istore_n (lv' := [(0, .int ((l0.toUInt32 >>> ((8 : Int32).toUInt32 &&& Int32.toUInt32 31)).toInt32)), (1, .int (l1 + 8))]) hx hb djn_numberOfTrailingZeros_48 rfl hl (by decide) rfl (fun ls hl => ?_)
      exact J49 ((l0.toUInt32 >>> ((8 : Int32).toUInt32 &&& Int32.toUInt32 31)).toInt32) (l1 + 8) hl hP hD hS h
  refine lv_iload_n hx hb djn_numberOfTrailingZeros_0 rfl (lv_at hl 0 rfl) ?_
  refine lv_iconst (v := (-1)) hx hb djn_numberOfTrailingZeros_1 (by decide) ?_
  refine lv_ixor hx hb djn_numberOfTrailingZeros_2 ?_
  refine lv_iload_n hx hb djn_numberOfTrailingZeros_3 rfl (lv_at hl 0 rfl) ?_
  refine lv_iconst (v := 1) hx hb djn_numberOfTrailingZeros_4 (by decide) ?_
  refine lv_isub hx hb djn_numberOfTrailingZeros_5 ?_
  refine lv_iand hx hb djn_numberOfTrailingZeros_6 ?_
  refine lv_istore_n (lv' := [(0, .int ((l0 ^^^ (-1)) &&& (l0 - 1)))]) hx hb djn_numberOfTrailingZeros_7 rfl hl (by decide) rfl (fun ls hl => ?_)
  refine lv_iload_n hx hb djn_numberOfTrailingZeros_8 rfl (lv_at hl 0 rfl) ?_
  refine lv_if_gt (tgt := 17) hx hb djn_numberOfTrailingZeros_9 (by decide) (fun hc => ?_) (fun hc => ?_)
  · have h := (if_pos hc).symm.trans h
    refine lv_iconst (v := 1) hx hb djn_numberOfTrailingZeros_17 (by decide) ?_
    refine lv_istore_n (lv' := [(1, .int 1), (0, .int ((l0 ^^^ (-1)) &&& (l0 - 1)))]) hx hb djn_numberOfTrailingZeros_18 rfl hl (by decide) rfl (fun ls hl => ?_)
    refine lv_iload_n hx hb djn_numberOfTrailingZeros_19 rfl (lv_at hl 1 rfl) ?_
    refine lv_ldcw (v := 65536) hx hb hown (hts _ wi_27) djn_numberOfTrailingZeros_20 ?_
    refine lv_icmp_le (tgt := 34) hx hb djn_numberOfTrailingZeros_23 (by decide) (fun hc => ?_) (fun hc => ?_)
    · have h := (if_pos hc).symm.trans h
      exact J34 ((l0 ^^^ (-1)) &&& (l0 - 1)) 1 (lv_sub hl [1, 0] rfl) hP hD hS h
    · have h := (if_neg hc).symm.trans h
      refine lv_iinc (k := 0) (v := 1 + 16) (lv' := [(1, .int (1 + 16)), (0, .int ((l0 ^^^ (-1)) &&& (l0 - 1)))]) hx hb djn_numberOfTrailingZeros_26 hl rfl (congrArg (fun j => 1 + j) (by decide)) (by decide) rfl (fun ls hl => ?_)
      refine lv_iload_n hx hb djn_numberOfTrailingZeros_29 rfl (lv_at hl 1 rfl) ?_
      refine lv_bipush (v := 16) hx hb djn_numberOfTrailingZeros_30 (by decide) ?_
      refine lv_iushr (v := (((l0 ^^^ (-1)) &&& (l0 - 1)).toUInt32 >>> ((16 : Int32).toUInt32 &&& Int32.toUInt32 31)).toInt32) hx hb djn_numberOfTrailingZeros_32 rfl ?_
      refine lv_istore_n (lv' := [(0, .int ((((l0 ^^^ (-1)) &&& (l0 - 1)).toUInt32 >>> ((16 : Int32).toUInt32 &&& Int32.toUInt32 31)).toInt32)), (1, .int (1 + 16))]) hx hb djn_numberOfTrailingZeros_33 rfl hl (by decide) rfl (fun ls hl => ?_)
      exact J34 ((((l0 ^^^ (-1)) &&& (l0 - 1)).toUInt32 >>> ((16 : Int32).toUInt32 &&& Int32.toUInt32 31)).toInt32) (1 + 16) hl hP hD hS h
  · have h := (if_neg hc).symm.trans h
    refine lv_iload_n hx hb djn_numberOfTrailingZeros_12 rfl (lv_at hl 0 rfl) ?_
    refine lv_bipush (v := 32) hx hb djn_numberOfTrailingZeros_13 (by decide) ?_
    refine lv_iand hx hb djn_numberOfTrailingZeros_15 ?_
    exact hq_iret hx hb hr hlocks hQ hK hP hD hS (by rw [← h]) rfl djn_numberOfTrailingZeros_16
end
section
variable {p : Program} {l : Launch} {e : Env} {R : Room} {s : State} {m : MethodId} {args : Array Value} {below : List Frame} {meth : Method} {c : Code} {H H0 : Heap} {locs : List Loc} {cells slots : Nat} {Q : State → Prop}
variable {cc : ByteArray} {pc idx nC : Nat} {ls : Array Slot} {rest : List Value} {D : va_G} {A : Nat → Prop} {own : String} {q : Nat → Nat} {cI cZ cL : ClassId} {z w : va_W}
theorem kjn_numberOfTrailingZeros (l0 : Int32) (ur : Int32) (hu : sjn_numberOfTrailingZeros l0 = ur) (hx : p.tables.exec = Jvm.exec) (hb : c.code = cc) (hml : c.maxLocals = nC) (hts : ∀ x ∈ hq_tbl, x.before args s = true) (hown : s.vm.findClass own = some m.cls) (hK : va_K D hq_cl (hq_tys cI cZ cL) s) (hP : va_P D hq_cl w H) (hD : va_D A w) (hS : va_S A H0 H locs) (h1 : Cond.methodLink own idx yjn_numberOfTrailingZeros ∈ hq_tbl) (hR : 0 + 1 ≤ R.frames ∧ 8 + (2 + 11) + 0 ≤ R.locals) (hls : ls.size = nC) (hW : (rest.map fun v => v.category).sum ≤ 8) (hdg : decode cc pc = .ok (.invokestatic idx, 3)) (hf : cells + 0 ≤ R.cells ∧ slots + 0 ≤ R.slots) (kk : ∀ (H1 : Heap) (locs1 : List Loc), va_P D hq_cl w H1 → va_D A w → va_S A H0 H1 locs1 → W p l e R s m args below meth c H1 locs1 cells slots Q (F0 m (pc + 3) ls (.int ur :: rest))) : W p l e R s m args below meth c H locs cells slots Q (F0 m pc ls (.int l0 :: rest)) :=
  hq_callS hx hb hml hown hts hK hP hD hS (cjn_numberOfTrailingZeros l0 ur hu) h1 wi_254 wi_255 wi_256 1 rfl (by decide +kernel) ⟨rfl, rfl⟩ hR hls rfl hW hdg hf kk
end
theorem dxv_kindOf_0 : decode bxv_kindOf 0 = .ok (.lload_n 0, 1) := by decide +kernel
theorem dxv_kindOf_1 : decode bxv_kindOf 1 = .ok (.bipush 32, 2) := by decide +kernel
theorem dxv_kindOf_3 : decode bxv_kindOf 3 = .ok (.lushr, 1) := by decide +kernel
theorem dxv_kindOf_4 : decode bxv_kindOf 4 = .ok (.l2i, 1) := by decide +kernel
theorem dxv_kindOf_5 : decode bxv_kindOf 5 = .ok (.ireturn, 1) := by decide +kernel
section
variable {l : Launch} {D : va_G} {A : Nat → Prop} {z w : va_W} {q : Nat → Nat} {cI cZ cL : ClassId}
set_option maxHeartbeats 4000000 in
set_option maxRecDepth 100000 in
theorem cxv_kindOf (l0 : Int64) (ur : Int32) (h : sxv_kindOf l0 = ur) : hq_Ct l yxv_kindOf bxv_kindOf 2 (some .int) { frames := 0, cells := 0, slots := 0, locals := 0 } D (hq_tys cI cZ cL) A [.long l0] w w (some (.int ur)) 0 0 := by
  refine hq_of (by decide) ?_ (Nat.le_of_ble_eq_true rfl)
  intro p e s m below meth c R args Q hRm hQ hx hb hr hml hts hown hlocks hnm hP hK hD ls hl hS
  have hl : lv_has ls 2 [(0, .long l0)] := hl
  have hown : s.vm.findClass "HeapQueries$Value" = some m.cls := hown
  unfold sxv_kindOf at h
  refine lv_lload_n hx hb dxv_kindOf_0 rfl (lv_at hl 0 rfl) ?_
  refine lv_bipush (v := 32) hx hb dxv_kindOf_1 (by decide) ?_
  refine lv_lushr (v := (l0.toUInt64 >>> ((32 : Int32).toInt64.toUInt64 &&& Int64.toUInt64 63)).toInt64) hx hb dxv_kindOf_3 rfl ?_
  refine lv_l2i (v := ((l0.toUInt64 >>> ((32 : Int32).toInt64.toUInt64 &&& Int64.toUInt64 63)).toInt64).toInt32) hx hb dxv_kindOf_4 rfl ?_
  exact hq_iret hx hb hr hlocks hQ hK hP hD hS (by rw [← h]) rfl dxv_kindOf_5
end
section
variable {p : Program} {l : Launch} {e : Env} {R : Room} {s : State} {m : MethodId} {args : Array Value} {below : List Frame} {meth : Method} {c : Code} {H H0 : Heap} {locs : List Loc} {cells slots : Nat} {Q : State → Prop}
variable {cc : ByteArray} {pc idx nC : Nat} {ls : Array Slot} {rest : List Value} {D : va_G} {A : Nat → Prop} {own : String} {q : Nat → Nat} {cI cZ cL : ClassId} {z w : va_W}
theorem kxv_kindOf (l0 : Int64) (ur : Int32) (hu : sxv_kindOf l0 = ur) (hx : p.tables.exec = Jvm.exec) (hb : c.code = cc) (hml : c.maxLocals = nC) (hts : ∀ x ∈ hq_tbl, x.before args s = true) (hown : s.vm.findClass own = some m.cls) (hK : va_K D hq_cl (hq_tys cI cZ cL) s) (hP : va_P D hq_cl w H) (hD : va_D A w) (hS : va_S A H0 H locs) (h1 : Cond.methodLink own idx yxv_kindOf ∈ hq_tbl) (hR : 0 + 1 ≤ R.frames ∧ 8 + (2 + 11) + 0 ≤ R.locals) (hls : ls.size = nC) (hW : (rest.map fun v => v.category).sum ≤ 8) (hdg : decode cc pc = .ok (.invokestatic idx, 3)) (hf : cells + 0 ≤ R.cells ∧ slots + 0 ≤ R.slots) (kk : ∀ (H1 : Heap) (locs1 : List Loc), va_P D hq_cl w H1 → va_D A w → va_S A H0 H1 locs1 → W p l e R s m args below meth c H1 locs1 cells slots Q (F0 m (pc + 3) ls (.int ur :: rest))) : W p l e R s m args below meth c H locs cells slots Q (F0 m pc ls (.long l0 :: rest)) :=
  hq_callS hx hb hml hown hts hK hP hD hS (cxv_kindOf l0 ur hu) h1 wi_322 wi_224 wi_323 1 rfl (by decide +kernel) ⟨rfl, rfl⟩ hR hls rfl hW hdg hf kk
end
theorem dxv_isError_0 : decode bxv_isError 0 = .ok (.lload_n 0, 1) := by decide +kernel
theorem dxv_isError_1 : decode bxv_isError 1 = .ok (.bipush 32, 2) := by decide +kernel
theorem dxv_isError_3 : decode bxv_isError 3 = .ok (.lushr, 1) := by decide +kernel
theorem dxv_isError_4 : decode bxv_isError 4 = .ok (.ldc2_w 23, 3) := by decide +kernel
theorem dxv_isError_7 : decode bxv_isError 7 = .ok (.lcmp, 1) := by decide +kernel
theorem dxv_isError_8 : decode bxv_isError 8 = .ok (.ifCond .ne 7, 3) := by decide +kernel
theorem dxv_isError_11 : decode bxv_isError 11 = .ok (.iconst 1, 1) := by decide +kernel
theorem dxv_isError_12 : decode bxv_isError 12 = .ok (.goto 4, 3) := by decide +kernel
theorem dxv_isError_15 : decode bxv_isError 15 = .ok (.iconst 0, 1) := by decide +kernel
theorem dxv_isError_16 : decode bxv_isError 16 = .ok (.ireturn, 1) := by decide +kernel
section
variable {l : Launch} {D : va_G} {A : Nat → Prop} {z w : va_W} {q : Nat → Nat} {cI cZ cL : ClassId}
set_option maxHeartbeats 4000000 in
set_option maxRecDepth 100000 in
theorem cxv_isError (l0 : Int64) (ur : Int32) (h : sxv_isError l0 = ur) : hq_Ct l yxv_isError bxv_isError 2 (some .boolean) { frames := 0, cells := 0, slots := 0, locals := 0 } D (hq_tys cI cZ cL) A [.long l0] w w (some (.int ur)) 0 0 := by
  refine hq_of (by decide) ?_ (Nat.le_of_ble_eq_true rfl)
  intro p e s m below meth c R args Q hRm hQ hx hb hr hml hts hown hlocks hnm hP hK hD ls hl hS
  have hl : lv_has ls 2 [(0, .long l0)] := hl
  have hown : s.vm.findClass "HeapQueries$Value" = some m.cls := hown
  unfold sxv_isError at h
  refine lv_lload_n hx hb dxv_isError_0 rfl (lv_at hl 0 rfl) ?_
  refine lv_bipush (v := 32) hx hb dxv_isError_1 (by decide) ?_
  refine lv_lushr (v := (l0.toUInt64 >>> ((32 : Int32).toInt64.toUInt64 &&& Int64.toUInt64 63)).toInt64) hx hb dxv_isError_3 rfl ?_
  refine lv_ldc2 (v := 3) hx hb hown (hts _ wi_142) dxv_isError_4 ?_
  refine W.lcmp hx hb dxv_isError_7 ?_
  refine lv_if_ne (tgt := 15) hx hb dxv_isError_8 (by decide) (fun hc => ?_) (fun hc => ?_)
  · have h := (if_neg hc).symm.trans h
    refine lv_iconst (v := 0) hx hb dxv_isError_15 (by decide) ?_
    exact hq_zret hx hb hr hlocks hQ hK hP hD hS (by decide) (by rw [← h]) rfl dxv_isError_16
  · have h := (if_pos hc).symm.trans h
    refine lv_iconst (v := 1) hx hb dxv_isError_11 (by decide) ?_
    refine lv_goto (tgt := 16) hx hb dxv_isError_12 (by decide) ?_
    exact hq_zret hx hb hr hlocks hQ hK hP hD hS (by decide) (by rw [← h]) rfl dxv_isError_16
end
section
variable {p : Program} {l : Launch} {e : Env} {R : Room} {s : State} {m : MethodId} {args : Array Value} {below : List Frame} {meth : Method} {c : Code} {H H0 : Heap} {locs : List Loc} {cells slots : Nat} {Q : State → Prop}
variable {cc : ByteArray} {pc idx nC : Nat} {ls : Array Slot} {rest : List Value} {D : va_G} {A : Nat → Prop} {own : String} {q : Nat → Nat} {cI cZ cL : ClassId} {z w : va_W}
theorem kxv_isError (l0 : Int64) (ur : Int32) (hu : sxv_isError l0 = ur) (hx : p.tables.exec = Jvm.exec) (hb : c.code = cc) (hml : c.maxLocals = nC) (hts : ∀ x ∈ hq_tbl, x.before args s = true) (hown : s.vm.findClass own = some m.cls) (hK : va_K D hq_cl (hq_tys cI cZ cL) s) (hP : va_P D hq_cl w H) (hD : va_D A w) (hS : va_S A H0 H locs) (h1 : Cond.methodLink own idx yxv_isError ∈ hq_tbl) (hR : 0 + 1 ≤ R.frames ∧ 8 + (2 + 11) + 0 ≤ R.locals) (hls : ls.size = nC) (hW : (rest.map fun v => v.category).sum ≤ 8) (hdg : decode cc pc = .ok (.invokestatic idx, 3)) (hf : cells + 0 ≤ R.cells ∧ slots + 0 ≤ R.slots) (kk : ∀ (H1 : Heap) (locs1 : List Loc), va_P D hq_cl w H1 → va_D A w → va_S A H0 H1 locs1 → W p l e R s m args below meth c H1 locs1 cells slots Q (F0 m (pc + 3) ls (.int ur :: rest))) : W p l e R s m args below meth c H locs cells slots Q (F0 m pc ls (.long l0 :: rest)) :=
  hq_callS hx hb hml hown hts hK hP hD hS (cxv_isError l0 ur hu) h1 wi_485 wi_224 wi_486 1 rfl (by decide +kernel) ⟨rfl, rfl⟩ hR hls rfl hW hdg hf kk
end
theorem dxv_error_0 : decode bxv_error 0 = .ok (.ldc2_w 17, 3) := by decide +kernel
theorem dxv_error_3 : decode bxv_error 3 = .ok (.iload_n 0, 1) := by decide +kernel
theorem dxv_error_4 : decode bxv_error 4 = .ok (.i2l, 1) := by decide +kernel
theorem dxv_error_5 : decode bxv_error 5 = .ok (.ldc2_w 13, 3) := by decide +kernel
theorem dxv_error_8 : decode bxv_error 8 = .ok (.land, 1) := by decide +kernel
theorem dxv_error_9 : decode bxv_error 9 = .ok (.lor, 1) := by decide +kernel
theorem dxv_error_10 : decode bxv_error 10 = .ok (.lreturn, 1) := by decide +kernel
section
variable {l : Launch} {D : va_G} {A : Nat → Prop} {z w : va_W} {q : Nat → Nat} {cI cZ cL : ClassId}
set_option maxHeartbeats 4000000 in
set_option maxRecDepth 100000 in
theorem cxv_error (l0 : Int32) (ur : Int64) (h : sxv_error l0 = ur) : hq_Ct l yxv_error bxv_error 1 (some .long) { frames := 0, cells := 0, slots := 0, locals := 0 } D (hq_tys cI cZ cL) A [.int l0] w w (some (.long ur)) 0 0 := by
  refine hq_of (by decide) ?_ (Nat.le_of_ble_eq_true rfl)
  intro p e s m below meth c R args Q hRm hQ hx hb hr hml hts hown hlocks hnm hP hK hD ls hl hS
  have hl : lv_has ls 1 [(0, .int l0)] := hl
  have hown : s.vm.findClass "HeapQueries$Value" = some m.cls := hown
  unfold sxv_error at h
  refine lv_ldc2 (v := 12884901888) hx hb hown (hts _ wi_143) dxv_error_0 ?_
  refine lv_iload_n hx hb dxv_error_3 rfl (lv_at hl 0 rfl) ?_
  refine lv_i2l (v := l0.toInt64) hx hb dxv_error_4 rfl ?_
  refine lv_ldc2 (v := 4294967295) hx hb hown (hts _ wi_12) dxv_error_5 ?_
  refine lv_land hx hb dxv_error_8 ?_
  refine lv_lor hx hb dxv_error_9 ?_
  exact hq_lret hx hb hr hlocks hQ hK hP hD hS (by rw [← h]) rfl dxv_error_10
end
section
variable {p : Program} {l : Launch} {e : Env} {R : Room} {s : State} {m : MethodId} {args : Array Value} {below : List Frame} {meth : Method} {c : Code} {H H0 : Heap} {locs : List Loc} {cells slots : Nat} {Q : State → Prop}
variable {cc : ByteArray} {pc idx nC : Nat} {ls : Array Slot} {rest : List Value} {D : va_G} {A : Nat → Prop} {own : String} {q : Nat → Nat} {cI cZ cL : ClassId} {z w : va_W}
theorem kxv_error (l0 : Int32) (ur : Int64) (hu : sxv_error l0 = ur) (hx : p.tables.exec = Jvm.exec) (hb : c.code = cc) (hml : c.maxLocals = nC) (hts : ∀ x ∈ hq_tbl, x.before args s = true) (hown : s.vm.findClass own = some m.cls) (hK : va_K D hq_cl (hq_tys cI cZ cL) s) (hP : va_P D hq_cl w H) (hD : va_D A w) (hS : va_S A H0 H locs) (h1 : Cond.methodLink own idx yxv_error ∈ hq_tbl) (hR : 0 + 1 ≤ R.frames ∧ 8 + (1 + 11) + 0 ≤ R.locals) (hls : ls.size = nC) (hW : (rest.map fun v => v.category).sum ≤ 8) (hdg : decode cc pc = .ok (.invokestatic idx, 3)) (hf : cells + 0 ≤ R.cells ∧ slots + 0 ≤ R.slots) (kk : ∀ (H1 : Heap) (locs1 : List Loc), va_P D hq_cl w H1 → va_D A w → va_S A H0 H1 locs1 → W p l e R s m args below meth c H1 locs1 cells slots Q (F0 m (pc + 3) ls (.long ur :: rest))) : W p l e R s m args below meth c H locs cells slots Q (F0 m pc ls (.int l0 :: rest)) :=
  hq_callS hx hb hml hown hts hK hP hD hS (cxv_error l0 ur hu) h1 wi_487 wi_224 wi_488 1 rfl (by decide +kernel) ⟨rfl, rfl⟩ hR hls rfl hW hdg hf kk
end
theorem dxv_flag_0 : decode bxv_flag 0 = .ok (.iload_n 0, 1) := by decide +kernel
theorem dxv_flag_1 : decode bxv_flag 1 = .ok (.ifCond .eq 9, 3) := by decide +kernel
theorem dxv_flag_4 : decode bxv_flag 4 = .ok (.ldc2_w 19, 3) := by decide +kernel
theorem dxv_flag_7 : decode bxv_flag 7 = .ok (.goto 6, 3) := by decide +kernel
theorem dxv_flag_10 : decode bxv_flag 10 = .ok (.ldc2_w 11, 3) := by decide +kernel
theorem dxv_flag_13 : decode bxv_flag 13 = .ok (.lreturn, 1) := by decide +kernel
section
variable {l : Launch} {D : va_G} {A : Nat → Prop} {z w : va_W} {q : Nat → Nat} {cI cZ cL : ClassId}
set_option maxHeartbeats 4000000 in
set_option maxRecDepth 100000 in
theorem cxv_flag (l0 : Int32) (ur : Int64) (h : sxv_flag l0 = ur) : hq_Ct l yxv_flag bxv_flag 1 (some .long) { frames := 0, cells := 0, slots := 0, locals := 0 } D (hq_tys cI cZ cL) A [.int l0] w w (some (.long ur)) 0 0 := by
  refine hq_of (by decide) ?_ (Nat.le_of_ble_eq_true rfl)
  intro p e s m below meth c R args Q hRm hQ hx hb hr hml hts hown hlocks hnm hP hK hD ls hl hS
  have hl : lv_has ls 1 [(0, .int l0)] := hl
  have hown : s.vm.findClass "HeapQueries$Value" = some m.cls := hown
  unfold sxv_flag at h
  refine lv_iload_n hx hb dxv_flag_0 rfl (lv_at hl 0 rfl) ?_
  refine lv_if_eq (tgt := 10) hx hb dxv_flag_1 (by decide) (fun hc => ?_) (fun hc => ?_)
  · have h := (if_pos hc).symm.trans h
    refine lv_ldc2 (v := 4294967296) hx hb hown (hts _ wi_11) dxv_flag_10 ?_
    exact hq_lret hx hb hr hlocks hQ hK hP hD hS (by rw [← h]) rfl dxv_flag_13
  · have h := (if_neg hc).symm.trans h
    refine lv_ldc2 (v := 4294967297) hx hb hown (hts _ wi_144) dxv_flag_4 ?_
    refine lv_goto (tgt := 13) hx hb dxv_flag_7 (by decide) ?_
    exact hq_lret hx hb hr hlocks hQ hK hP hD hS (by rw [← h]) rfl dxv_flag_13
end
section
variable {p : Program} {l : Launch} {e : Env} {R : Room} {s : State} {m : MethodId} {args : Array Value} {below : List Frame} {meth : Method} {c : Code} {H H0 : Heap} {locs : List Loc} {cells slots : Nat} {Q : State → Prop}
variable {cc : ByteArray} {pc idx nC : Nat} {ls : Array Slot} {rest : List Value} {D : va_G} {A : Nat → Prop} {own : String} {q : Nat → Nat} {cI cZ cL : ClassId} {z w : va_W}
theorem kxv_flag (l0 : Int32) (ur : Int64) (hu : sxv_flag l0 = ur) (hx : p.tables.exec = Jvm.exec) (hb : c.code = cc) (hml : c.maxLocals = nC) (hts : ∀ x ∈ hq_tbl, x.before args s = true) (hown : s.vm.findClass own = some m.cls) (hK : va_K D hq_cl (hq_tys cI cZ cL) s) (hP : va_P D hq_cl w H) (hD : va_D A w) (hS : va_S A H0 H locs) (h1 : Cond.methodLink own idx yxv_flag ∈ hq_tbl) (hR : 0 + 1 ≤ R.frames ∧ 8 + (1 + 11) + 0 ≤ R.locals) (hls : ls.size = nC) (hW : (rest.map fun v => v.category).sum ≤ 8) (hdg : decode cc pc = .ok (.invokestatic idx, 3)) (hf : cells + 0 ≤ R.cells ∧ slots + 0 ≤ R.slots) (kk : ∀ (H1 : Heap) (locs1 : List Loc), va_P D hq_cl w H1 → va_D A w → va_S A H0 H1 locs1 → W p l e R s m args below meth c H1 locs1 cells slots Q (F0 m (pc + 3) ls (.long ur :: rest))) : W p l e R s m args below meth c H locs cells slots Q (F0 m pc ls (.int l0 :: rest)) :=
  hq_callS hx hb hml hown hts hK hP hD hS (cxv_flag l0 ur hu) h1 wi_489 wi_224 wi_490 1 rfl (by decide +kernel) ⟨rfl, rfl⟩ hR hls rfl hW hdg hf kk
end
theorem dxv_truthOf_0 : decode bxv_truthOf 0 = .ok (.lload_n 0, 1) := by decide +kernel
theorem dxv_truthOf_1 : decode bxv_truthOf 1 = .ok (.invokestatic 25, 3) := by decide +kernel
theorem dxv_truthOf_4 : decode bxv_truthOf 4 = .ok (.ifCond .eq 5, 3) := by decide +kernel
theorem dxv_truthOf_7 : decode bxv_truthOf 7 = .ok (.lload_n 0, 1) := by decide +kernel
theorem dxv_truthOf_8 : decode bxv_truthOf 8 = .ok (.lreturn, 1) := by decide +kernel
theorem dxv_truthOf_9 : decode bxv_truthOf 9 = .ok (.lload_n 0, 1) := by decide +kernel
theorem dxv_truthOf_10 : decode bxv_truthOf 10 = .ok (.invokestatic 29, 3) := by decide +kernel
theorem dxv_truthOf_13 : decode bxv_truthOf 13 = .ok (.ifCond .eq 9, 3) := by decide +kernel
theorem dxv_truthOf_16 : decode bxv_truthOf 16 = .ok (.bipush (-3), 2) := by decide +kernel
theorem dxv_truthOf_18 : decode bxv_truthOf 18 = .ok (.invokestatic 32, 3) := by decide +kernel
theorem dxv_truthOf_21 : decode bxv_truthOf 21 = .ok (.lreturn, 1) := by decide +kernel
theorem dxv_truthOf_22 : decode bxv_truthOf 22 = .ok (.lload_n 0, 1) := by decide +kernel
theorem dxv_truthOf_23 : decode bxv_truthOf 23 = .ok (.lconst 0, 1) := by decide +kernel
theorem dxv_truthOf_24 : decode bxv_truthOf 24 = .ok (.lcmp, 1) := by decide +kernel
theorem dxv_truthOf_25 : decode bxv_truthOf 25 = .ok (.ifCond .eq 15, 3) := by decide +kernel
theorem dxv_truthOf_28 : decode bxv_truthOf 28 = .ok (.lload_n 0, 1) := by decide +kernel
theorem dxv_truthOf_29 : decode bxv_truthOf 29 = .ok (.ldc2_w 11, 3) := by decide +kernel
theorem dxv_truthOf_32 : decode bxv_truthOf 32 = .ok (.lcmp, 1) := by decide +kernel
theorem dxv_truthOf_33 : decode bxv_truthOf 33 = .ok (.ifCond .eq 7, 3) := by decide +kernel
theorem dxv_truthOf_36 : decode bxv_truthOf 36 = .ok (.iconst 1, 1) := by decide +kernel
theorem dxv_truthOf_37 : decode bxv_truthOf 37 = .ok (.goto 4, 3) := by decide +kernel
theorem dxv_truthOf_40 : decode bxv_truthOf 40 = .ok (.iconst 0, 1) := by decide +kernel
theorem dxv_truthOf_41 : decode bxv_truthOf 41 = .ok (.invokestatic 36, 3) := by decide +kernel
theorem dxv_truthOf_44 : decode bxv_truthOf 44 = .ok (.lreturn, 1) := by decide +kernel
section
variable {l : Launch} {D : va_G} {A : Nat → Prop} {z w : va_W} {q : Nat → Nat} {cI cZ cL : ClassId}
set_option maxHeartbeats 4000000 in
set_option maxRecDepth 100000 in
theorem cxv_truthOf (l0 : Int64) (ur : Int64) (h : sxv_truthOf l0 = ur) : hq_Ct l yxv_truthOf bxv_truthOf 2 (some .long) { frames := 1, cells := 0, slots := 0, locals := 21 } D (hq_tys cI cZ cL) A [.long l0] w w (some (.long ur)) 0 0 := by
  refine hq_of (by decide) ?_ (Nat.le_of_ble_eq_true rfl)
  intro p e s m below meth c R args Q hRm hQ hx hb hr hml hts hown hlocks hnm hP hK hD ls hl hS
  have hl : lv_has ls 2 [(0, .long l0)] := hl
  have hown : s.vm.findClass "HeapQueries$Value" = some m.cls := hown
  unfold sxv_truthOf at h
  refine lv_lload_n hx hb dxv_truthOf_0 rfl (lv_at hl 0 rfl) ?_
  refine kxv_isError l0 (sxv_isError l0) rfl hx hb hml hts hown hK hP hD hS wi_145 (by rw [hRm]; exact ⟨Nat.le_of_ble_eq_true rfl, Nat.le_of_ble_eq_true rfl⟩) hl.1 (Nat.le_of_ble_eq_true rfl) dxv_truthOf_1 ⟨Nat.zero_le _, Nat.zero_le _⟩ (fun H locs hP hD hS => ?_)
  refine lv_if_eq (tgt := 9) hx hb dxv_truthOf_4 (by decide) (fun hc => ?_) (fun hc => ?_)
  · have h := (if_pos hc).symm.trans h
    refine lv_lload_n hx hb dxv_truthOf_9 rfl (lv_at hl 0 rfl) ?_
    refine kxv_isLink l0 (sxv_isLink l0) rfl hx hb hml hts hown hK hP hD hS wi_146 (by rw [hRm]; exact ⟨Nat.le_of_ble_eq_true rfl, Nat.le_of_ble_eq_true rfl⟩) hl.1 (Nat.le_of_ble_eq_true rfl) dxv_truthOf_10 ⟨Nat.zero_le _, Nat.zero_le _⟩ (fun H locs hP hD hS => ?_)
    refine lv_if_eq (tgt := 22) hx hb dxv_truthOf_13 (by decide) (fun hc => ?_) (fun hc => ?_)
    · have h := (if_pos hc).symm.trans h
      refine lv_lload_n hx hb dxv_truthOf_22 rfl (lv_at hl 0 rfl) ?_
      refine lv_lconst (v := 0) hx hb dxv_truthOf_23 (by decide) ?_
      refine W.lcmp hx hb dxv_truthOf_24 ?_
      refine lv_if_eq (tgt := 40) hx hb dxv_truthOf_25 (by decide) (fun hc => ?_) (fun hc => ?_)
      · have h := (if_pos hc).symm.trans h
        refine lv_iconst (v := 0) hx hb dxv_truthOf_40 (by decide) ?_
        refine kxv_flag 0 (sxv_flag 0) rfl hx hb hml hts hown hK hP hD hS wi_147 (by rw [hRm]; exact ⟨Nat.le_of_ble_eq_true rfl, Nat.le_of_ble_eq_true rfl⟩) hl.1 (Nat.le_of_ble_eq_true rfl) dxv_truthOf_41 ⟨Nat.zero_le _, Nat.zero_le _⟩ (fun H locs hP hD hS => ?_)
        exact hq_lret hx hb hr hlocks hQ hK hP hD hS (by rw [← h]) rfl dxv_truthOf_44
      · have h := (if_neg hc).symm.trans h
        refine lv_lload_n hx hb dxv_truthOf_28 rfl (lv_at hl 0 rfl) ?_
        refine lv_ldc2 (v := 4294967296) hx hb hown (hts _ wi_11) dxv_truthOf_29 ?_
        refine W.lcmp hx hb dxv_truthOf_32 ?_
        refine lv_if_eq (tgt := 40) hx hb dxv_truthOf_33 (by decide) (fun hc => ?_) (fun hc => ?_)
        · have h := (if_pos hc).symm.trans h
          refine lv_iconst (v := 0) hx hb dxv_truthOf_40 (by decide) ?_
          refine kxv_flag 0 (sxv_flag 0) rfl hx hb hml hts hown hK hP hD hS wi_147 (by rw [hRm]; exact ⟨Nat.le_of_ble_eq_true rfl, Nat.le_of_ble_eq_true rfl⟩) hl.1 (Nat.le_of_ble_eq_true rfl) dxv_truthOf_41 ⟨Nat.zero_le _, Nat.zero_le _⟩ (fun H locs hP hD hS => ?_)
          exact hq_lret hx hb hr hlocks hQ hK hP hD hS (by rw [← h]) rfl dxv_truthOf_44
        · have h := (if_neg hc).symm.trans h
          refine lv_iconst (v := 1) hx hb dxv_truthOf_36 (by decide) ?_
          refine lv_goto (tgt := 41) hx hb dxv_truthOf_37 (by decide) ?_
          refine kxv_flag 1 (sxv_flag 1) rfl hx hb hml hts hown hK hP hD hS wi_147 (by rw [hRm]; exact ⟨Nat.le_of_ble_eq_true rfl, Nat.le_of_ble_eq_true rfl⟩) hl.1 (Nat.le_of_ble_eq_true rfl) dxv_truthOf_41 ⟨Nat.zero_le _, Nat.zero_le _⟩ (fun H locs hP hD hS => ?_)
          exact hq_lret hx hb hr hlocks hQ hK hP hD hS (by rw [← h]) rfl dxv_truthOf_44
    · have h := (if_neg hc).symm.trans h
      refine lv_bipush (v := (-3)) hx hb dxv_truthOf_16 (by decide) ?_
      refine kxv_error (-3) (sxv_error (-3)) rfl hx hb hml hts hown hK hP hD hS wi_148 (by rw [hRm]; exact ⟨Nat.le_of_ble_eq_true rfl, Nat.le_of_ble_eq_true rfl⟩) hl.1 (Nat.le_of_ble_eq_true rfl) dxv_truthOf_18 ⟨Nat.zero_le _, Nat.zero_le _⟩ (fun H locs hP hD hS => ?_)
      exact hq_lret hx hb hr hlocks hQ hK hP hD hS (by rw [← h]) rfl dxv_truthOf_21
  · have h := (if_neg hc).symm.trans h
    refine lv_lload_n hx hb dxv_truthOf_7 rfl (lv_at hl 0 rfl) ?_
    exact hq_lret hx hb hr hlocks hQ hK hP hD hS (by rw [← h]) rfl dxv_truthOf_8
end
section
variable {p : Program} {l : Launch} {e : Env} {R : Room} {s : State} {m : MethodId} {args : Array Value} {below : List Frame} {meth : Method} {c : Code} {H H0 : Heap} {locs : List Loc} {cells slots : Nat} {Q : State → Prop}
variable {cc : ByteArray} {pc idx nC : Nat} {ls : Array Slot} {rest : List Value} {D : va_G} {A : Nat → Prop} {own : String} {q : Nat → Nat} {cI cZ cL : ClassId} {z w : va_W}
theorem kxv_truthOf (l0 : Int64) (ur : Int64) (hu : sxv_truthOf l0 = ur) (hx : p.tables.exec = Jvm.exec) (hb : c.code = cc) (hml : c.maxLocals = nC) (hts : ∀ x ∈ hq_tbl, x.before args s = true) (hown : s.vm.findClass own = some m.cls) (hK : va_K D hq_cl (hq_tys cI cZ cL) s) (hP : va_P D hq_cl w H) (hD : va_D A w) (hS : va_S A H0 H locs) (h1 : Cond.methodLink own idx yxv_truthOf ∈ hq_tbl) (hR : 1 + 1 ≤ R.frames ∧ 8 + (2 + 11) + 21 ≤ R.locals) (hls : ls.size = nC) (hW : (rest.map fun v => v.category).sum ≤ 8) (hdg : decode cc pc = .ok (.invokestatic idx, 3)) (hf : cells + 0 ≤ R.cells ∧ slots + 0 ≤ R.slots) (kk : ∀ (H1 : Heap) (locs1 : List Loc), va_P D hq_cl w H1 → va_D A w → va_S A H0 H1 locs1 → W p l e R s m args below meth c H1 locs1 cells slots Q (F0 m (pc + 3) ls (.long ur :: rest))) : W p l e R s m args below meth c H locs cells slots Q (F0 m pc ls (.long l0 :: rest)) :=
  hq_callS hx hb hml hown hts hK hP hD hS (cxv_truthOf l0 ur hu) h1 wi_491 wi_224 wi_492 1 rfl (by decide +kernel) ⟨rfl, rfl⟩ hR hls rfl hW hdg hf kk
end
theorem dxv_isEmpty_0 : decode bxv_isEmpty 0 = .ok (.lload_n 0, 1) := by decide +kernel
theorem dxv_isEmpty_1 : decode bxv_isEmpty 1 = .ok (.lconst 0, 1) := by decide +kernel
theorem dxv_isEmpty_2 : decode bxv_isEmpty 2 = .ok (.lcmp, 1) := by decide +kernel
theorem dxv_isEmpty_3 : decode bxv_isEmpty 3 = .ok (.ifCond .ne 7, 3) := by decide +kernel
theorem dxv_isEmpty_6 : decode bxv_isEmpty 6 = .ok (.iconst 1, 1) := by decide +kernel
theorem dxv_isEmpty_7 : decode bxv_isEmpty 7 = .ok (.goto 4, 3) := by decide +kernel
theorem dxv_isEmpty_10 : decode bxv_isEmpty 10 = .ok (.iconst 0, 1) := by decide +kernel
theorem dxv_isEmpty_11 : decode bxv_isEmpty 11 = .ok (.ireturn, 1) := by decide +kernel
section
variable {l : Launch} {D : va_G} {A : Nat → Prop} {z w : va_W} {q : Nat → Nat} {cI cZ cL : ClassId}
set_option maxHeartbeats 4000000 in
set_option maxRecDepth 100000 in
theorem cxv_isEmpty (l0 : Int64) (ur : Int32) (h : sxv_isEmpty l0 = ur) : hq_Ct l yxv_isEmpty bxv_isEmpty 2 (some .boolean) { frames := 0, cells := 0, slots := 0, locals := 0 } D (hq_tys cI cZ cL) A [.long l0] w w (some (.int ur)) 0 0 := by
  refine hq_of (by decide) ?_ (Nat.le_of_ble_eq_true rfl)
  intro p e s m below meth c R args Q hRm hQ hx hb hr hml hts hown hlocks hnm hP hK hD ls hl hS
  have hl : lv_has ls 2 [(0, .long l0)] := hl
  have hown : s.vm.findClass "HeapQueries$Value" = some m.cls := hown
  unfold sxv_isEmpty at h
  refine lv_lload_n hx hb dxv_isEmpty_0 rfl (lv_at hl 0 rfl) ?_
  refine lv_lconst (v := 0) hx hb dxv_isEmpty_1 (by decide) ?_
  refine W.lcmp hx hb dxv_isEmpty_2 ?_
  refine lv_if_ne (tgt := 10) hx hb dxv_isEmpty_3 (by decide) (fun hc => ?_) (fun hc => ?_)
  · have h := (if_neg hc).symm.trans h
    refine lv_iconst (v := 0) hx hb dxv_isEmpty_10 (by decide) ?_
    exact hq_zret hx hb hr hlocks hQ hK hP hD hS (by decide) (by rw [← h]) rfl dxv_isEmpty_11
  · have h := (if_pos hc).symm.trans h
    refine lv_iconst (v := 1) hx hb dxv_isEmpty_6 (by decide) ?_
    refine lv_goto (tgt := 11) hx hb dxv_isEmpty_7 (by decide) ?_
    exact hq_zret hx hb hr hlocks hQ hK hP hD hS (by decide) (by rw [← h]) rfl dxv_isEmpty_11
end
section
variable {p : Program} {l : Launch} {e : Env} {R : Room} {s : State} {m : MethodId} {args : Array Value} {below : List Frame} {meth : Method} {c : Code} {H H0 : Heap} {locs : List Loc} {cells slots : Nat} {Q : State → Prop}
variable {cc : ByteArray} {pc idx nC : Nat} {ls : Array Slot} {rest : List Value} {D : va_G} {A : Nat → Prop} {own : String} {q : Nat → Nat} {cI cZ cL : ClassId} {z w : va_W}
theorem kxv_isEmpty (l0 : Int64) (ur : Int32) (hu : sxv_isEmpty l0 = ur) (hx : p.tables.exec = Jvm.exec) (hb : c.code = cc) (hml : c.maxLocals = nC) (hts : ∀ x ∈ hq_tbl, x.before args s = true) (hown : s.vm.findClass own = some m.cls) (hK : va_K D hq_cl (hq_tys cI cZ cL) s) (hP : va_P D hq_cl w H) (hD : va_D A w) (hS : va_S A H0 H locs) (h1 : Cond.methodLink own idx yxv_isEmpty ∈ hq_tbl) (hR : 0 + 1 ≤ R.frames ∧ 8 + (2 + 11) + 0 ≤ R.locals) (hls : ls.size = nC) (hW : (rest.map fun v => v.category).sum ≤ 8) (hdg : decode cc pc = .ok (.invokestatic idx, 3)) (hf : cells + 0 ≤ R.cells ∧ slots + 0 ≤ R.slots) (kk : ∀ (H1 : Heap) (locs1 : List Loc), va_P D hq_cl w H1 → va_D A w → va_S A H0 H1 locs1 → W p l e R s m args below meth c H1 locs1 cells slots Q (F0 m (pc + 3) ls (.int ur :: rest))) : W p l e R s m args below meth c H locs cells slots Q (F0 m pc ls (.long l0 :: rest)) :=
  hq_callS hx hb hml hown hts hK hP hD hS (cxv_isEmpty l0 ur hu) h1 wi_493 wi_224 wi_494 1 rfl (by decide +kernel) ⟨rfl, rfl⟩ hR hls rfl hW hdg hf kk
end
theorem dxv_isNumber_0 : decode bxv_isNumber 0 = .ok (.lload_n 0, 1) := by decide +kernel
theorem dxv_isNumber_1 : decode bxv_isNumber 1 = .ok (.bipush 32, 2) := by decide +kernel
theorem dxv_isNumber_3 : decode bxv_isNumber 3 = .ok (.lushr, 1) := by decide +kernel
theorem dxv_isNumber_4 : decode bxv_isNumber 4 = .ok (.lconst 1, 1) := by decide +kernel
theorem dxv_isNumber_5 : decode bxv_isNumber 5 = .ok (.lcmp, 1) := by decide +kernel
theorem dxv_isNumber_6 : decode bxv_isNumber 6 = .ok (.ifCond .ne 7, 3) := by decide +kernel
theorem dxv_isNumber_9 : decode bxv_isNumber 9 = .ok (.iconst 1, 1) := by decide +kernel
theorem dxv_isNumber_10 : decode bxv_isNumber 10 = .ok (.goto 4, 3) := by decide +kernel
theorem dxv_isNumber_13 : decode bxv_isNumber 13 = .ok (.iconst 0, 1) := by decide +kernel
theorem dxv_isNumber_14 : decode bxv_isNumber 14 = .ok (.ireturn, 1) := by decide +kernel
section
variable {l : Launch} {D : va_G} {A : Nat → Prop} {z w : va_W} {q : Nat → Nat} {cI cZ cL : ClassId}
set_option maxHeartbeats 4000000 in
set_option maxRecDepth 100000 in
theorem cxv_isNumber (l0 : Int64) (ur : Int32) (h : sxv_isNumber l0 = ur) : hq_Ct l yxv_isNumber bxv_isNumber 2 (some .boolean) { frames := 0, cells := 0, slots := 0, locals := 0 } D (hq_tys cI cZ cL) A [.long l0] w w (some (.int ur)) 0 0 := by
  refine hq_of (by decide) ?_ (Nat.le_of_ble_eq_true rfl)
  intro p e s m below meth c R args Q hRm hQ hx hb hr hml hts hown hlocks hnm hP hK hD ls hl hS
  have hl : lv_has ls 2 [(0, .long l0)] := hl
  have hown : s.vm.findClass "HeapQueries$Value" = some m.cls := hown
  unfold sxv_isNumber at h
  refine lv_lload_n hx hb dxv_isNumber_0 rfl (lv_at hl 0 rfl) ?_
  refine lv_bipush (v := 32) hx hb dxv_isNumber_1 (by decide) ?_
  refine lv_lushr (v := (l0.toUInt64 >>> ((32 : Int32).toInt64.toUInt64 &&& Int64.toUInt64 63)).toInt64) hx hb dxv_isNumber_3 rfl ?_
  refine lv_lconst (v := 1) hx hb dxv_isNumber_4 (by decide) ?_
  refine W.lcmp hx hb dxv_isNumber_5 ?_
  refine lv_if_ne (tgt := 13) hx hb dxv_isNumber_6 (by decide) (fun hc => ?_) (fun hc => ?_)
  · have h := (if_neg hc).symm.trans h
    refine lv_iconst (v := 0) hx hb dxv_isNumber_13 (by decide) ?_
    exact hq_zret hx hb hr hlocks hQ hK hP hD hS (by decide) (by rw [← h]) rfl dxv_isNumber_14
  · have h := (if_pos hc).symm.trans h
    refine lv_iconst (v := 1) hx hb dxv_isNumber_9 (by decide) ?_
    refine lv_goto (tgt := 14) hx hb dxv_isNumber_10 (by decide) ?_
    exact hq_zret hx hb hr hlocks hQ hK hP hD hS (by decide) (by rw [← h]) rfl dxv_isNumber_14
end
section
variable {p : Program} {l : Launch} {e : Env} {R : Room} {s : State} {m : MethodId} {args : Array Value} {below : List Frame} {meth : Method} {c : Code} {H H0 : Heap} {locs : List Loc} {cells slots : Nat} {Q : State → Prop}
variable {cc : ByteArray} {pc idx nC : Nat} {ls : Array Slot} {rest : List Value} {D : va_G} {A : Nat → Prop} {own : String} {q : Nat → Nat} {cI cZ cL : ClassId} {z w : va_W}
theorem kxv_isNumber (l0 : Int64) (ur : Int32) (hu : sxv_isNumber l0 = ur) (hx : p.tables.exec = Jvm.exec) (hb : c.code = cc) (hml : c.maxLocals = nC) (hts : ∀ x ∈ hq_tbl, x.before args s = true) (hown : s.vm.findClass own = some m.cls) (hK : va_K D hq_cl (hq_tys cI cZ cL) s) (hP : va_P D hq_cl w H) (hD : va_D A w) (hS : va_S A H0 H locs) (h1 : Cond.methodLink own idx yxv_isNumber ∈ hq_tbl) (hR : 0 + 1 ≤ R.frames ∧ 8 + (2 + 11) + 0 ≤ R.locals) (hls : ls.size = nC) (hW : (rest.map fun v => v.category).sum ≤ 8) (hdg : decode cc pc = .ok (.invokestatic idx, 3)) (hf : cells + 0 ≤ R.cells ∧ slots + 0 ≤ R.slots) (kk : ∀ (H1 : Heap) (locs1 : List Loc), va_P D hq_cl w H1 → va_D A w → va_S A H0 H1 locs1 → W p l e R s m args below meth c H1 locs1 cells slots Q (F0 m (pc + 3) ls (.int ur :: rest))) : W p l e R s m args below meth c H locs cells slots Q (F0 m pc ls (.long l0 :: rest)) :=
  hq_callS hx hb hml hown hts hK hP hD hS (cxv_isNumber l0 ur hu) h1 wi_559 wi_224 wi_560 1 rfl (by decide +kernel) ⟨rfl, rfl⟩ hR hls rfl hW hdg hf kk
end
