theorem dm_work_0 : decode bm_work 0 = .ok (.aload_n 0, 1) := by decide +kernel
theorem dm_work_1 : decode bm_work 1 = .ok (.iload_n 1, 1) := by decide +kernel
theorem dm_work_2 : decode bm_work 2 = .ok (.putfield 186, 3) := by decide +kernel
theorem dm_work_5 : decode bm_work 5 = .ok (.aload_n 0, 1) := by decide +kernel
theorem dm_work_6 : decode bm_work 6 = .ok (.iload_n 2, 1) := by decide +kernel
theorem dm_work_7 : decode bm_work 7 = .ok (.putfield 189, 3) := by decide +kernel
theorem dm_work_10 : decode bm_work 10 = .ok (.aload_n 0, 1) := by decide +kernel
theorem dm_work_11 : decode bm_work 11 = .ok (.iconst 0, 1) := by decide +kernel
theorem dm_work_12 : decode bm_work 12 = .ok (.putfield 192, 3) := by decide +kernel
theorem dm_work_15 : decode bm_work 15 = .ok (.aload_n 0, 1) := by decide +kernel
theorem dm_work_16 : decode bm_work 16 = .ok (.iconst 0, 1) := by decide +kernel
theorem dm_work_17 : decode bm_work 17 = .ok (.putfield 195, 3) := by decide +kernel
theorem dm_work_20 : decode bm_work 20 = .ok (.aload_n 0, 1) := by decide +kernel
theorem dm_work_21 : decode bm_work 21 = .ok (.iconst 0, 1) := by decide +kernel
theorem dm_work_22 : decode bm_work 22 = .ok (.putfield 198, 3) := by decide +kernel
theorem dm_work_25 : decode bm_work 25 = .ok (.iconst 1, 1) := by decide +kernel
theorem dm_work_26 : decode bm_work 26 = .ok (.istore_n 3, 1) := by decide +kernel
theorem dm_work_27 : decode bm_work 27 = .ok (.iload_n 3, 1) := by decide +kernel
theorem dm_work_28 : decode bm_work 28 = .ok (.ifCond .eq 61, 3) := by decide +kernel
theorem dm_work_31 : decode bm_work 31 = .ok (.aload_n 0, 1) := by decide +kernel
theorem dm_work_32 : decode bm_work 32 = .ok (.getfield 143, 3) := by decide +kernel
theorem dm_work_35 : decode bm_work 35 = .ok (.ifCond .ne 54, 3) := by decide +kernel
theorem dm_work_38 : decode bm_work 38 = .ok (.aload_n 0, 1) := by decide +kernel
theorem dm_work_39 : decode bm_work 39 = .ok (.getfield 186, 3) := by decide +kernel
theorem dm_work_42 : decode bm_work 42 = .ok (.aload_n 0, 1) := by decide +kernel
theorem dm_work_43 : decode bm_work 43 = .ok (.getfield 131, 3) := by decide +kernel
theorem dm_work_46 : decode bm_work 46 = .ok (.if_icmp .ge 43, 3) := by decide +kernel
theorem dm_work_49 : decode bm_work 49 = .ok (.aload_n 0, 1) := by decide +kernel
theorem dm_work_50 : decode bm_work 50 = .ok (.dup, 1) := by decide +kernel
theorem dm_work_51 : decode bm_work 51 = .ok (.getfield 186, 3) := by decide +kernel
theorem dm_work_54 : decode bm_work 54 = .ok (.iconst 1, 1) := by decide +kernel
theorem dm_work_55 : decode bm_work 55 = .ok (.iadd, 1) := by decide +kernel
theorem dm_work_56 : decode bm_work 56 = .ok (.putfield 186, 3) := by decide +kernel
theorem dm_work_59 : decode bm_work 59 = .ok (.aload_n 0, 1) := by decide +kernel
theorem dm_work_60 : decode bm_work 60 = .ok (.aload_n 0, 1) := by decide +kernel
theorem dm_work_61 : decode bm_work 61 = .ok (.getfield 32, 3) := by decide +kernel
theorem dm_work_64 : decode bm_work 64 = .ok (.aload_n 0, 1) := by decide +kernel
theorem dm_work_65 : decode bm_work 65 = .ok (.getfield 186, 3) := by decide +kernel
theorem dm_work_68 : decode bm_work 68 = .ok (.iconst 1, 1) := by decide +kernel
theorem dm_work_69 : decode bm_work 69 = .ok (.isub, 1) := by decide +kernel
theorem dm_work_70 : decode bm_work 70 = .ok (.iaload, 1) := by decide +kernel
theorem dm_work_71 : decode bm_work 71 = .ok (.aload_n 0, 1) := by decide +kernel
theorem dm_work_72 : decode bm_work 72 = .ok (.getfield 35, 3) := by decide +kernel
theorem dm_work_75 : decode bm_work 75 = .ok (.aload_n 0, 1) := by decide +kernel
theorem dm_work_76 : decode bm_work 76 = .ok (.getfield 186, 3) := by decide +kernel
theorem dm_work_79 : decode bm_work 79 = .ok (.iconst 1, 1) := by decide +kernel
theorem dm_work_80 : decode bm_work 80 = .ok (.isub, 1) := by decide +kernel
theorem dm_work_81 : decode bm_work 81 = .ok (.iaload, 1) := by decide +kernel
theorem dm_work_82 : decode bm_work 82 = .ok (.invokevirtual 201, 3) := by decide +kernel
theorem dm_work_85 : decode bm_work 85 = .ok (.istore_n 3, 1) := by decide +kernel
theorem dm_work_86 : decode bm_work 86 = .ok (.goto (-59), 3) := by decide +kernel
theorem dm_work_89 : decode bm_work 89 = .ok (.return_, 1) := by decide +kernel
section
variable {l : Launch} {D : va_G} {A : Nat → Prop} {z w : va_W} {q : Nat → Nat} {cI cZ cL : ClassId}
variable {f_classes f_objects f_count f_want f_compared f_open f_rowCount f_many f_seen f_fail f_level f_at f_self f_brackets f_values f_waiting : Int32}
variable {a_parent a_kindOf a_size a_root a_slotKind a_slot a_kept a_code a_number a_opened a_rowKind a_rowValue a_list a_from a_eAt a_whereAt a_source a_distinct a_keeps a_vKind a_v a_waits : Nat → Int32}
set_option maxHeartbeats 4000000 in
set_option maxRecDepth 100000 in
theorem cm_work (l1 : Int32) (l2 : Int32) (ur : Int32 × Int32 × Int32 × Int32 × Int32 × (Nat → Int32) × (Nat → Int32) × Int32 × (Nat → Int32)) (h : sm_work l1 l2 f_objects a_kindOf a_size a_slotKind a_slot a_kept f_count a_code a_number f_fail f_at f_self f_brackets f_values a_vKind a_v f_waiting a_waits = some ur) : hq_Ct l ym_work bm_work 4 none { frames := 5, cells := 0, slots := 0, locals := 116 } D (hq_tys cI cZ cL) A [.ref (q 0), .int l1, .int l2] (hm_w q cI cZ cL f_classes a_parent f_objects a_kindOf a_size a_root a_slotKind a_slot a_kept f_count a_code a_number f_want f_compared f_open a_opened f_rowCount a_rowKind a_rowValue f_many a_list f_seen f_fail f_level a_from a_eAt a_whereAt a_source a_distinct a_keeps f_at f_self f_brackets f_values a_vKind a_v f_waiting a_waits ++ z) (hm_w q cI cZ cL f_classes a_parent f_objects a_kindOf a_size a_root a_slotKind a_slot a_kept f_count a_code a_number f_want f_compared f_open a_opened f_rowCount a_rowKind a_rowValue f_many a_list f_seen ur.1 f_level a_from a_eAt a_whereAt a_source a_distinct a_keeps ur.2.1 ur.2.2.1 ur.2.2.2.1 ur.2.2.2.2.1 ur.2.2.2.2.2.1 ur.2.2.2.2.2.2.1 ur.2.2.2.2.2.2.2.1 ur.2.2.2.2.2.2.2.2 ++ z) none 0 0 := by
  refine hq_of (by decide) ?_ (Nat.le_of_ble_eq_true rfl)
  intro p e s m below meth c R args Q hRm hQ hx hb hr hml hts hown hlocks hnm hP hK hD ls hl hS
  have hl : lv_has ls 4 [(0, .ref (q 0)), (1, .int l1), (2, .int l2)] := hl
  have hown : s.vm.findClass "HeapQueriesModel" = some m.cls := hown
  unfold sm_work at h
  have L27 : ∀ (n : Nat) (l3 : Int32) {f_fail : Int32} {f_at : Int32} {f_self : Int32} {f_brackets : Int32} {f_values : Int32} {a_vKind : Nat → Int32} {a_v : Nat → Int32} {f_waiting : Int32} {a_waits : Nat → Int32} {ls : Array Slot} {H : Heap} {locs : List Loc}, lv_has ls 4 [(0, .ref (q 0)), (3, .int l3)] → va_P D hq_cl (hm_w q cI cZ cL f_classes a_parent f_objects a_kindOf a_size a_root a_slotKind a_slot a_kept f_count a_code a_number f_want f_compared f_open a_opened f_rowCount a_rowKind a_rowValue f_many a_list f_seen f_fail f_level a_from a_eAt a_whereAt a_source a_distinct a_keeps f_at f_self f_brackets f_values a_vKind a_v f_waiting a_waits ++ z) H → va_D A (hm_w q cI cZ cL f_classes a_parent f_objects a_kindOf a_size a_root a_slotKind a_slot a_kept f_count a_code a_number f_want f_compared f_open a_opened f_rowCount a_rowKind a_rowValue f_many a_list f_seen f_fail f_level a_from a_eAt a_whereAt a_source a_distinct a_keeps f_at f_self f_brackets f_values a_vKind a_v f_waiting a_waits ++ z) → va_S A s.heap H locs → ∀ u27, sm_work_L27 n l3 f_objects a_kindOf a_size a_slotKind a_slot a_kept f_count a_code a_number f_fail f_at f_self f_brackets f_values a_vKind a_v f_waiting a_waits = some u27 → (∀ (ls : Array Slot) (H : Heap) (locs : List Loc), lv_has ls 4 [] → va_P D hq_cl (hm_w q cI cZ cL f_classes a_parent f_objects a_kindOf a_size a_root a_slotKind a_slot a_kept f_count a_code a_number f_want f_compared f_open a_opened f_rowCount a_rowKind a_rowValue f_many a_list f_seen u27.1 f_level a_from a_eAt a_whereAt a_source a_distinct a_keeps u27.2.1 f_self u27.2.2.1 u27.2.2.2.1 u27.2.2.2.2.1 u27.2.2.2.2.2.1 u27.2.2.2.2.2.2.1 u27.2.2.2.2.2.2.2 ++ z) H → va_D A (hm_w q cI cZ cL f_classes a_parent f_objects a_kindOf a_size a_root a_slotKind a_slot a_kept f_count a_code a_number f_want f_compared f_open a_opened f_rowCount a_rowKind a_rowValue f_many a_list f_seen u27.1 f_level a_from a_eAt a_whereAt a_source a_distinct a_keeps u27.2.1 f_self u27.2.2.1 u27.2.2.2.1 u27.2.2.2.2.1 u27.2.2.2.2.2.1 u27.2.2.2.2.2.2.1 u27.2.2.2.2.2.2.2 ++ z) → va_S A s.heap H locs → W p l e R s m args below meth c H locs 0 0 Q (F0 m 89 ls [])) → W p l e R s m args below meth c H locs 0 0 Q (F0 m 27 ls []) := by
    intro n
    induction n with
    | zero =>
      intro l3 f_fail f_at f_self f_brackets f_values a_vKind a_v f_waiting a_waits ls H locs hl hP hD hS u27 h kx
      have h : (none : Option (Int32 × Int32 × Int32 × Int32 × (Nat → Int32) × (Nat → Int32) × Int32 × (Nat → Int32))) = some u27 := h
      cases h
    | succ n ih =>
      intro l3 f_fail f_at f_self f_brackets f_values a_vKind a_v f_waiting a_waits ls H locs hl hP hD hS u27 h kx
      have h : sm_work_L27_B (sm_work_L27 n) l3 f_objects a_kindOf a_size a_slotKind a_slot a_kept f_count a_code a_number f_fail f_at f_self f_brackets f_values a_vKind a_v f_waiting a_waits = some u27 := h
      unfold sm_work_L27_B at h
      refine lv_iload_n hx hb dm_work_27 rfl (lv_at hl 1 rfl) ?_
      refine lv_if_eq (tgt := 89) hx hb dm_work_28 (by decide) (fun hc => ?_) (fun hc => ?_)
      · have h := (if_pos hc).symm.trans h
        have h := Option.some.inj h
        subst h
        exact kx ls H locs (lv_sub hl [] rfl) hP hD hS
      · have h := (if_neg hc).symm.trans h
        refine lv_aload_n hx hb dm_work_31 rfl (lv_at hl 0 rfl) ?_
        refine gm_0_fail hx hb hts hown hK hP wi_109 dm_work_32 ?_
        refine lv_if_ne (tgt := 89) hx hb dm_work_35 (by decide) (fun hc => ?_) (fun hc => ?_)
        · have h := (if_neg hc).symm.trans h
          have h := Option.some.inj h
          subst h
          exact kx ls H locs (lv_sub hl [] rfl) hP hD hS
        · have h := (if_pos hc).symm.trans h
          refine lv_aload_n hx hb dm_work_38 rfl (lv_at hl 0 rfl) ?_
          refine gm_0_at hx hb hts hown hK hP wi_115 dm_work_39 ?_
          refine lv_aload_n hx hb dm_work_42 rfl (lv_at hl 0 rfl) ?_
          refine gm_0_count hx hb hts hown hK hP wi_90 dm_work_43 ?_
          refine lv_icmp_ge (tgt := 89) hx hb dm_work_46 (by decide) (fun hc => ?_) (fun hc => ?_)
          · have h := (if_pos hc).symm.trans h
            have h := Option.some.inj h
            subst h
            exact kx ls H locs (lv_sub hl [] rfl) hP hD hS
          · have h := (if_neg hc).symm.trans h
            refine lv_aload_n hx hb dm_work_49 rfl (lv_at hl 0 rfl) ?_
            refine lv_dup hx hb dm_work_50 rfl ?_
            refine gm_0_at hx hb hts hown hK hP wi_115 dm_work_51 ?_
            refine lv_iconst (v := 1) hx hb dm_work_54 (by decide) ?_
            refine lv_iadd hx hb dm_work_55 ?_
            refine pm_0_at hx hb hts hown hK hP hD hS wi_115 dm_work_56 (fun H locs hP hD hS => ?_)
            refine lv_aload_n hx hb dm_work_59 rfl (lv_at hl 0 rfl) ?_
            refine lv_aload_n hx hb dm_work_60 rfl (lv_at hl 0 rfl) ?_
            refine gm_0_code hx hb hts hown hK hP wi_91 dm_work_61 ?_
            refine lv_aload_n hx hb dm_work_64 rfl (lv_at hl 0 rfl) ?_
            refine gm_0_at hx hb hts hown hK hP wi_115 dm_work_65 ?_
            refine lv_iconst (v := 1) hx hb dm_work_68 (by decide) ?_
            refine lv_isub hx hb dm_work_69 ?_
            obtain ⟨hin, h⟩ := hq_idx h
            refine am_8 hx hb hK hP hin dm_work_70 ?_
            refine lv_aload_n hx hb dm_work_71 rfl (lv_at hl 0 rfl) ?_
            refine gm_0_number hx hb hts hown hK hP wi_94 dm_work_72 ?_
            refine lv_aload_n hx hb dm_work_75 rfl (lv_at hl 0 rfl) ?_
            refine gm_0_at hx hb hts hown hK hP wi_115 dm_work_76 ?_
            refine lv_iconst (v := 1) hx hb dm_work_79 (by decide) ?_
            refine lv_isub hx hb dm_work_80 ?_
            obtain ⟨hin, h⟩ := hq_idx h
            refine am_9 hx hb hK hP hin dm_work_81 ?_
            obtain ⟨v82, h82, h⟩ := hq_bind h
            refine km_take (a_code ((f_at + 1) - 1).toNatClampNeg) (a_number ((f_at + 1) - 1).toNatClampNeg) v82 h82 hx hb hml hts hown hK hP hD hS wi_123 (by rw [hRm]; exact ⟨Nat.le_of_ble_eq_true rfl, Nat.le_of_ble_eq_true rfl⟩) hl.1 (Nat.le_of_ble_eq_true rfl) dm_work_82 ⟨Nat.zero_le _, Nat.zero_le _⟩ (fun H locs hP hD hS => ?_)
            refine lv_istore_n (lv' := [(3, .int v82.1), (0, .ref (q 0))]) hx hb dm_work_85 rfl hl (by decide) rfl (fun ls hl => ?_)
            refine lv_goto (tgt := 27) hx hb dm_work_86 (by decide) ?_
            exact ih v82.1 (lv_sub hl [1, 0] rfl) hP hD hS u27 h kx
  refine lv_aload_n hx hb dm_work_0 rfl (lv_at hl 0 rfl) ?_
  refine lv_iload_n hx hb dm_work_1 rfl (lv_at hl 1 rfl) ?_
  refine pm_0_at hx hb hts hown hK hP hD hS wi_115 dm_work_2 (fun H locs hP hD hS => ?_)
  refine lv_aload_n hx hb dm_work_5 rfl (lv_at hl 0 rfl) ?_
  refine lv_iload_n hx hb dm_work_6 rfl (lv_at hl 2 rfl) ?_
  refine pm_0_self hx hb hts hown hK hP hD hS wi_122 dm_work_7 (fun H locs hP hD hS => ?_)
  refine lv_aload_n hx hb dm_work_10 rfl (lv_at hl 0 rfl) ?_
  refine lv_iconst (v := 0) hx hb dm_work_11 (by decide) ?_
  refine pm_0_brackets hx hb hts hown hK hP hD hS wi_121 dm_work_12 (fun H locs hP hD hS => ?_)
  refine lv_aload_n hx hb dm_work_15 rfl (lv_at hl 0 rfl) ?_
  refine lv_iconst (v := 0) hx hb dm_work_16 (by decide) ?_
  refine pm_0_values hx hb hts hown hK hP hD hS wi_105 dm_work_17 (fun H locs hP hD hS => ?_)
  refine lv_aload_n hx hb dm_work_20 rfl (lv_at hl 0 rfl) ?_
  refine lv_iconst (v := 0) hx hb dm_work_21 (by decide) ?_
  refine pm_0_waiting hx hb hts hown hK hP hD hS wi_110 dm_work_22 (fun H locs hP hD hS => ?_)
  refine lv_iconst (v := 1) hx hb dm_work_25 (by decide) ?_
  refine lv_istore_n (lv' := [(3, .int 1), (0, .ref (q 0)), (1, .int l1), (2, .int l2)]) hx hb dm_work_26 rfl hl (by decide) rfl (fun ls hl => ?_)
  obtain ⟨u27, h27, h⟩ := hq_bind h
  refine L27 kF 1 (lv_sub hl [1, 0] rfl) hP hD hS u27 h27 (fun ls H locs hl hP hD hS => ?_)
  have h := Option.some.inj h
  exact hq_vret hx hb hr hlocks hQ hK hP hD hS rfl (by rw [← h]) dm_work_89
end
section
variable {p : Program} {l : Launch} {e : Env} {R : Room} {s : State} {m : MethodId} {args : Array Value} {below : List Frame} {meth : Method} {c : Code} {H H0 : Heap} {locs : List Loc} {cells slots : Nat} {Q : State → Prop}
variable {cc : ByteArray} {pc idx nC : Nat} {ls : Array Slot} {rest : List Value} {D : va_G} {A : Nat → Prop} {own : String} {q : Nat → Nat} {cI cZ cL : ClassId} {z w : va_W}
variable {f_classes f_objects f_count f_want f_compared f_open f_rowCount f_many f_seen f_fail f_level f_at f_self f_brackets f_values f_waiting : Int32}
variable {a_parent a_kindOf a_size a_root a_slotKind a_slot a_kept a_code a_number a_opened a_rowKind a_rowValue a_list a_from a_eAt a_whereAt a_source a_distinct a_keeps a_vKind a_v a_waits : Nat → Int32}
theorem km_work (l1 : Int32) (l2 : Int32) (ur : Int32 × Int32 × Int32 × Int32 × Int32 × (Nat → Int32) × (Nat → Int32) × Int32 × (Nat → Int32)) (hu : sm_work l1 l2 f_objects a_kindOf a_size a_slotKind a_slot a_kept f_count a_code a_number f_fail f_at f_self f_brackets f_values a_vKind a_v f_waiting a_waits = some ur) (hx : p.tables.exec = Jvm.exec) (hb : c.code = cc) (hml : c.maxLocals = nC) (hts : ∀ x ∈ hq_tbl, x.before args s = true) (hown : s.vm.findClass own = some m.cls) (hK : va_K D hq_cl (hq_tys cI cZ cL) s) (hP : va_P D hq_cl (hm_w q cI cZ cL f_classes a_parent f_objects a_kindOf a_size a_root a_slotKind a_slot a_kept f_count a_code a_number f_want f_compared f_open a_opened f_rowCount a_rowKind a_rowValue f_many a_list f_seen f_fail f_level a_from a_eAt a_whereAt a_source a_distinct a_keeps f_at f_self f_brackets f_values a_vKind a_v f_waiting a_waits ++ z) H) (hD : va_D A (hm_w q cI cZ cL f_classes a_parent f_objects a_kindOf a_size a_root a_slotKind a_slot a_kept f_count a_code a_number f_want f_compared f_open a_opened f_rowCount a_rowKind a_rowValue f_many a_list f_seen f_fail f_level a_from a_eAt a_whereAt a_source a_distinct a_keeps f_at f_self f_brackets f_values a_vKind a_v f_waiting a_waits ++ z)) (hS : va_S A H0 H locs) (h1 : Cond.methodLink own idx ym_work ∈ hq_tbl) (hR : 5 + 1 ≤ R.frames ∧ 8 + (4 + 11) + 116 ≤ R.locals) (hls : ls.size = nC) (hW : (rest.map fun v => v.category).sum ≤ 8) (hdg : decode cc pc = .ok (.invokevirtual idx, 3)) (hf : cells + 0 ≤ R.cells ∧ slots + 0 ≤ R.slots) (kk : ∀ (H1 : Heap) (locs1 : List Loc), va_P D hq_cl (hm_w q cI cZ cL f_classes a_parent f_objects a_kindOf a_size a_root a_slotKind a_slot a_kept f_count a_code a_number f_want f_compared f_open a_opened f_rowCount a_rowKind a_rowValue f_many a_list f_seen ur.1 f_level a_from a_eAt a_whereAt a_source a_distinct a_keeps ur.2.1 ur.2.2.1 ur.2.2.2.1 ur.2.2.2.2.1 ur.2.2.2.2.2.1 ur.2.2.2.2.2.2.1 ur.2.2.2.2.2.2.2.1 ur.2.2.2.2.2.2.2.2 ++ z) H1 → va_D A (hm_w q cI cZ cL f_classes a_parent f_objects a_kindOf a_size a_root a_slotKind a_slot a_kept f_count a_code a_number f_want f_compared f_open a_opened f_rowCount a_rowKind a_rowValue f_many a_list f_seen ur.1 f_level a_from a_eAt a_whereAt a_source a_distinct a_keeps ur.2.1 ur.2.2.1 ur.2.2.2.1 ur.2.2.2.2.1 ur.2.2.2.2.2.1 ur.2.2.2.2.2.2.1 ur.2.2.2.2.2.2.2.1 ur.2.2.2.2.2.2.2.2 ++ z) → va_S A H0 H1 locs1 → W p l e R s m args below meth c H1 locs1 cells slots Q (F0 m (pc + 3) ls (rest))) : W p l e R s m args below meth c H locs cells slots Q (F0 m pc ls (.int l2 :: .int l1 :: .ref (q 0) :: rest)) :=
  hq_callV (q0 := 0) hx hb hml hown hts hK hP hD hS (cm_work l1 l2 ur hu) rfl rfl h1 wi_443 wi_444 wi_338 wi_445 2 rfl (by decide +kernel) ⟨rfl, rfl⟩ hR hls rfl hW hdg hf kk
end
theorem dm_look_0 : decode bm_look 0 = .ok (.aload_n 0, 1) := by decide +kernel
theorem dm_look_1 : decode bm_look 1 = .ok (.dup, 1) := by decide +kernel
theorem dm_look_2 : decode bm_look 2 = .ok (.getfield 146, 3) := by decide +kernel
theorem dm_look_5 : decode bm_look 5 = .ok (.iconst 1, 1) := by decide +kernel
theorem dm_look_6 : decode bm_look 6 = .ok (.iadd, 1) := by decide +kernel
theorem dm_look_7 : decode bm_look 7 = .ok (.putfield 146, 3) := by decide +kernel
theorem dm_look_10 : decode bm_look 10 = .ok (.aload_n 0, 1) := by decide +kernel
theorem dm_look_11 : decode bm_look 11 = .ok (.getfield 56, 3) := by decide +kernel
theorem dm_look_14 : decode bm_look 14 = .ok (.aload_n 0, 1) := by decide +kernel
theorem dm_look_15 : decode bm_look 15 = .ok (.getfield 152, 3) := by decide +kernel
theorem dm_look_18 : decode bm_look 18 = .ok (.iaload, 1) := by decide +kernel
theorem dm_look_19 : decode bm_look 19 = .ok (.ifCond .lt 64, 3) := by decide +kernel
theorem dm_look_22 : decode bm_look 22 = .ok (.aload_n 0, 1) := by decide +kernel
theorem dm_look_23 : decode bm_look 23 = .ok (.aload_n 0, 1) := by decide +kernel
theorem dm_look_24 : decode bm_look 24 = .ok (.getfield 56, 3) := by decide +kernel
theorem dm_look_27 : decode bm_look 27 = .ok (.aload_n 0, 1) := by decide +kernel
theorem dm_look_28 : decode bm_look 28 = .ok (.getfield 152, 3) := by decide +kernel
theorem dm_look_31 : decode bm_look 31 = .ok (.iaload, 1) := by decide +kernel
theorem dm_look_32 : decode bm_look 32 = .ok (.iload_n 1, 1) := by decide +kernel
theorem dm_look_33 : decode bm_look 33 = .ok (.invokevirtual 183, 3) := by decide +kernel
theorem dm_look_36 : decode bm_look 36 = .ok (.aload_n 0, 1) := by decide +kernel
theorem dm_look_37 : decode bm_look 37 = .ok (.aload_n 0, 1) := by decide +kernel
theorem dm_look_38 : decode bm_look 38 = .ok (.getfield 143, 3) := by decide +kernel
theorem dm_look_41 : decode bm_look 41 = .ok (.ifCond .ne 18, 3) := by decide +kernel
theorem dm_look_44 : decode bm_look 44 = .ok (.aload_n 0, 1) := by decide +kernel
theorem dm_look_45 : decode bm_look 45 = .ok (.getfield 68, 3) := by decide +kernel
theorem dm_look_48 : decode bm_look 48 = .ok (.iconst 0, 1) := by decide +kernel
theorem dm_look_49 : decode bm_look 49 = .ok (.iaload, 1) := by decide +kernel
theorem dm_look_50 : decode bm_look 50 = .ok (.iconst 2, 1) := by decide +kernel
theorem dm_look_51 : decode bm_look 51 = .ok (.if_icmp .ne 8, 3) := by decide +kernel
theorem dm_look_54 : decode bm_look 54 = .ok (.bipush (-3), 2) := by decide +kernel
theorem dm_look_56 : decode bm_look 56 = .ok (.goto 7, 3) := by decide +kernel
theorem dm_look_59 : decode bm_look 59 = .ok (.aload_n 0, 1) := by decide +kernel
theorem dm_look_60 : decode bm_look 60 = .ok (.getfield 143, 3) := by decide +kernel
theorem dm_look_63 : decode bm_look 63 = .ok (.putfield 143, 3) := by decide +kernel
theorem dm_look_66 : decode bm_look 66 = .ok (.aload_n 0, 1) := by decide +kernel
theorem dm_look_67 : decode bm_look 67 = .ok (.getfield 143, 3) := by decide +kernel
theorem dm_look_70 : decode bm_look 70 = .ok (.ifCond .ne 12, 3) := by decide +kernel
theorem dm_look_73 : decode bm_look 73 = .ok (.aload_n 0, 1) := by decide +kernel
theorem dm_look_74 : decode bm_look 74 = .ok (.getfield 71, 3) := by decide +kernel
theorem dm_look_77 : decode bm_look 77 = .ok (.iconst 0, 1) := by decide +kernel
theorem dm_look_78 : decode bm_look 78 = .ok (.iaload, 1) := by decide +kernel
theorem dm_look_79 : decode bm_look 79 = .ok (.ifCond .ne 4, 3) := by decide +kernel
theorem dm_look_82 : decode bm_look 82 = .ok (.return_, 1) := by decide +kernel
theorem dm_look_83 : decode bm_look 83 = .ok (.aload_n 0, 1) := by decide +kernel
theorem dm_look_84 : decode bm_look 84 = .ok (.aload_n 0, 1) := by decide +kernel
theorem dm_look_85 : decode bm_look 85 = .ok (.getfield 53, 3) := by decide +kernel
theorem dm_look_88 : decode bm_look 88 = .ok (.aload_n 0, 1) := by decide +kernel
theorem dm_look_89 : decode bm_look 89 = .ok (.getfield 152, 3) := by decide +kernel
theorem dm_look_92 : decode bm_look 92 = .ok (.iaload, 1) := by decide +kernel
theorem dm_look_93 : decode bm_look 93 = .ok (.iload_n 1, 1) := by decide +kernel
theorem dm_look_94 : decode bm_look 94 = .ok (.invokevirtual 183, 3) := by decide +kernel
theorem dm_look_97 : decode bm_look 97 = .ok (.aload_n 0, 1) := by decide +kernel
theorem dm_look_98 : decode bm_look 98 = .ok (.getfield 41, 3) := by decide +kernel
theorem dm_look_101 : decode bm_look 101 = .ok (.aload_n 0, 1) := by decide +kernel
theorem dm_look_102 : decode bm_look 102 = .ok (.getfield 149, 3) := by decide +kernel
theorem dm_look_105 : decode bm_look 105 = .ok (.aload_n 0, 1) := by decide +kernel
theorem dm_look_106 : decode bm_look 106 = .ok (.getfield 68, 3) := by decide +kernel
theorem dm_look_109 : decode bm_look 109 = .ok (.iconst 0, 1) := by decide +kernel
theorem dm_look_110 : decode bm_look 110 = .ok (.iaload, 1) := by decide +kernel
theorem dm_look_111 : decode bm_look 111 = .ok (.iastore, 1) := by decide +kernel
theorem dm_look_112 : decode bm_look 112 = .ok (.aload_n 0, 1) := by decide +kernel
theorem dm_look_113 : decode bm_look 113 = .ok (.getfield 44, 3) := by decide +kernel
theorem dm_look_116 : decode bm_look 116 = .ok (.aload_n 0, 1) := by decide +kernel
theorem dm_look_117 : decode bm_look 117 = .ok (.getfield 149, 3) := by decide +kernel
theorem dm_look_120 : decode bm_look 120 = .ok (.aload_n 0, 1) := by decide +kernel
theorem dm_look_121 : decode bm_look 121 = .ok (.getfield 71, 3) := by decide +kernel
theorem dm_look_124 : decode bm_look 124 = .ok (.iconst 0, 1) := by decide +kernel
theorem dm_look_125 : decode bm_look 125 = .ok (.iaload, 1) := by decide +kernel
theorem dm_look_126 : decode bm_look 126 = .ok (.iastore, 1) := by decide +kernel
theorem dm_look_127 : decode bm_look 127 = .ok (.aload_n 0, 1) := by decide +kernel
theorem dm_look_128 : decode bm_look 128 = .ok (.dup, 1) := by decide +kernel
theorem dm_look_129 : decode bm_look 129 = .ok (.getfield 149, 3) := by decide +kernel
theorem dm_look_132 : decode bm_look 132 = .ok (.iconst 1, 1) := by decide +kernel
theorem dm_look_133 : decode bm_look 133 = .ok (.iadd, 1) := by decide +kernel
theorem dm_look_134 : decode bm_look 134 = .ok (.putfield 149, 3) := by decide +kernel
theorem dm_look_137 : decode bm_look 137 = .ok (.return_, 1) := by decide +kernel
section
variable {l : Launch} {D : va_G} {A : Nat → Prop} {z w : va_W} {q : Nat → Nat} {cI cZ cL : ClassId}
variable {f_classes f_objects f_count f_want f_compared f_open f_rowCount f_many f_seen f_fail f_level f_at f_self f_brackets f_values f_waiting : Int32}
variable {a_parent a_kindOf a_size a_root a_slotKind a_slot a_kept a_code a_number a_opened a_rowKind a_rowValue a_list a_from a_eAt a_whereAt a_source a_distinct a_keeps a_vKind a_v a_waits : Nat → Int32}
set_option maxHeartbeats 4000000 in
set_option maxRecDepth 100000 in
theorem cm_look (l1 : Int32) (ur : Int32 × (Nat → Int32) × (Nat → Int32) × Int32 × Int32 × Int32 × Int32 × Int32 × Int32 × (Nat → Int32) × (Nat → Int32) × Int32 × (Nat → Int32)) (h : sm_look l1 f_objects a_kindOf a_size a_slotKind a_slot a_kept f_count a_code a_number f_rowCount a_rowKind a_rowValue f_seen f_fail f_level a_eAt a_whereAt f_at f_self f_brackets f_values a_vKind a_v f_waiting a_waits = some ur) : hq_Ct l ym_look bm_look 2 none { frames := 6, cells := 0, slots := 0, locals := 139 } D (hq_tys cI cZ cL) A [.ref (q 0), .int l1] (hm_w q cI cZ cL f_classes a_parent f_objects a_kindOf a_size a_root a_slotKind a_slot a_kept f_count a_code a_number f_want f_compared f_open a_opened f_rowCount a_rowKind a_rowValue f_many a_list f_seen f_fail f_level a_from a_eAt a_whereAt a_source a_distinct a_keeps f_at f_self f_brackets f_values a_vKind a_v f_waiting a_waits ++ z) (hm_w q cI cZ cL f_classes a_parent f_objects a_kindOf a_size a_root a_slotKind a_slot a_kept f_count a_code a_number f_want f_compared f_open a_opened ur.1 ur.2.1 ur.2.2.1 f_many a_list ur.2.2.2.1 ur.2.2.2.2.1 f_level a_from a_eAt a_whereAt a_source a_distinct a_keeps ur.2.2.2.2.2.1 ur.2.2.2.2.2.2.1 ur.2.2.2.2.2.2.2.1 ur.2.2.2.2.2.2.2.2.1 ur.2.2.2.2.2.2.2.2.2.1 ur.2.2.2.2.2.2.2.2.2.2.1 ur.2.2.2.2.2.2.2.2.2.2.2.1 ur.2.2.2.2.2.2.2.2.2.2.2.2 ++ z) none 0 0 := by
  refine hq_of (by decide) ?_ (Nat.le_of_ble_eq_true rfl)
  intro p e s m below meth c R args Q hRm hQ hx hb hr hml hts hown hlocks hnm hP hK hD ls hl hS
  have hl : lv_has ls 2 [(0, .ref (q 0)), (1, .int l1)] := hl
  have hown : s.vm.findClass "HeapQueriesModel" = some m.cls := hown
  unfold sm_look at h
  have J83 : ∀ (l1 : Int32) {f_rowCount : Int32} {a_rowKind : Nat → Int32} {a_rowValue : Nat → Int32} {f_seen : Int32} {f_fail : Int32} {f_at : Int32} {f_self : Int32} {f_brackets : Int32} {f_values : Int32} {a_vKind : Nat → Int32} {a_v : Nat → Int32} {f_waiting : Int32} {a_waits : Nat → Int32} {ls : Array Slot} {H : Heap} {locs : List Loc}, lv_has ls 2 [(0, .ref (q 0)), (1, .int l1)] → va_P D hq_cl (hm_w q cI cZ cL f_classes a_parent f_objects a_kindOf a_size a_root a_slotKind a_slot a_kept f_count a_code a_number f_want f_compared f_open a_opened f_rowCount a_rowKind a_rowValue f_many a_list f_seen f_fail f_level a_from a_eAt a_whereAt a_source a_distinct a_keeps f_at f_self f_brackets f_values a_vKind a_v f_waiting a_waits ++ z) H → va_D A (hm_w q cI cZ cL f_classes a_parent f_objects a_kindOf a_size a_root a_slotKind a_slot a_kept f_count a_code a_number f_want f_compared f_open a_opened f_rowCount a_rowKind a_rowValue f_many a_list f_seen f_fail f_level a_from a_eAt a_whereAt a_source a_distinct a_keeps f_at f_self f_brackets f_values a_vKind a_v f_waiting a_waits ++ z) → va_S A s.heap H locs → sm_look_J83 l1 f_objects a_kindOf a_size a_slotKind a_slot a_kept f_count a_code a_number f_rowCount a_rowKind a_rowValue f_seen f_fail f_level a_eAt a_whereAt f_at f_self f_brackets f_values a_vKind a_v f_waiting a_waits = some ur → W p l e R s m args below meth c H locs 0 0 Q (F0 m 83 ls []) := by
    intro l1 f_rowCount a_rowKind a_rowValue f_seen f_fail f_at f_self f_brackets f_values a_vKind a_v f_waiting a_waits ls H locs hl hP hD hS h
    unfold sm_look_J83 at h
    refine lv_aload_n hx hb dm_look_83 rfl (lv_at hl 0 rfl) ?_
    refine lv_aload_n hx hb dm_look_84 rfl (lv_at hl 0 rfl) ?_
    refine gm_0_eAt hx hb hts hown hK hP wi_124 dm_look_85 ?_
    refine lv_aload_n hx hb dm_look_88 rfl (lv_at hl 0 rfl) ?_
    refine gm_0_level hx hb hts hown hK hP wi_103 dm_look_89 ?_
    obtain ⟨hin, h⟩ := hq_idx h
    refine am_15 hx hb hK hP hin dm_look_92 ?_
    refine lv_iload_n hx hb dm_look_93 rfl (lv_at hl 1 rfl) ?_
    obtain ⟨v94, h94, h⟩ := hq_bind h
    refine km_work (a_eAt f_level.toNatClampNeg) l1 v94 h94 hx hb hml hts hown hK hP hD hS wi_125 (by rw [hRm]; exact ⟨Nat.le_of_ble_eq_true rfl, Nat.le_of_ble_eq_true rfl⟩) hl.1 (Nat.le_of_ble_eq_true rfl) dm_look_94 ⟨Nat.zero_le _, Nat.zero_le _⟩ (fun H locs hP hD hS => ?_)
    refine lv_aload_n hx hb dm_look_97 rfl (lv_at hl 0 rfl) ?_
    refine gm_0_rowKind hx hb hts hown hK hP wi_101 dm_look_98 ?_
    refine lv_aload_n hx hb dm_look_101 rfl (lv_at hl 0 rfl) ?_
    refine gm_0_rowCount hx hb hts hown hK hP wi_99 dm_look_102 ?_
    refine lv_aload_n hx hb dm_look_105 rfl (lv_at hl 0 rfl) ?_
    refine gm_0_vKind hx hb hts hown hK hP wi_106 dm_look_106 ?_
    refine lv_iconst (v := 0) hx hb dm_look_109 (by decide) ?_
    obtain ⟨hin, h⟩ := hq_idx h
    refine am_20 hx hb hK hP hin dm_look_110 ?_
    obtain ⟨hin, h⟩ := hq_idx h
    refine tm_11 hx hb hK hP hD hS hin dm_look_111 (fun H locs hP hD hS => ?_)
    refine lv_aload_n hx hb dm_look_112 rfl (lv_at hl 0 rfl) ?_
    refine gm_0_rowValue hx hb hts hown hK hP wi_100 dm_look_113 ?_
    refine lv_aload_n hx hb dm_look_116 rfl (lv_at hl 0 rfl) ?_
    refine gm_0_rowCount hx hb hts hown hK hP wi_99 dm_look_117 ?_
    refine lv_aload_n hx hb dm_look_120 rfl (lv_at hl 0 rfl) ?_
    refine gm_0_v hx hb hts hown hK hP wi_107 dm_look_121 ?_
    refine lv_iconst (v := 0) hx hb dm_look_124 (by decide) ?_
    obtain ⟨hin, h⟩ := hq_idx h
    refine am_21 hx hb hK hP hin dm_look_125 ?_
    obtain ⟨hin, h⟩ := hq_idx h
    refine tm_12 hx hb hK hP hD hS hin dm_look_126 (fun H locs hP hD hS => ?_)
    refine lv_aload_n hx hb dm_look_127 rfl (lv_at hl 0 rfl) ?_
    refine lv_dup hx hb dm_look_128 rfl ?_
    refine gm_0_rowCount hx hb hts hown hK hP wi_99 dm_look_129 ?_
    refine lv_iconst (v := 1) hx hb dm_look_132 (by decide) ?_
    refine lv_iadd hx hb dm_look_133 ?_
    refine pm_0_rowCount hx hb hts hown hK hP hD hS wi_99 dm_look_134 (fun H locs hP hD hS => ?_)
    have h := Option.some.inj h
    exact hq_vret hx hb hr hlocks hQ hK hP hD hS rfl (by rw [← h]) dm_look_137
  have J63 : ∀ (l1 : Int32) (s1 : Int32) {f_rowCount : Int32} {a_rowKind : Nat → Int32} {a_rowValue : Nat → Int32} {f_seen : Int32} {f_fail : Int32} {f_at : Int32} {f_self : Int32} {f_brackets : Int32} {f_values : Int32} {a_vKind : Nat → Int32} {a_v : Nat → Int32} {f_waiting : Int32} {a_waits : Nat → Int32} {ls : Array Slot} {H : Heap} {locs : List Loc}, lv_has ls 2 [(0, .ref (q 0)), (1, .int l1)] → va_P D hq_cl (hm_w q cI cZ cL f_classes a_parent f_objects a_kindOf a_size a_root a_slotKind a_slot a_kept f_count a_code a_number f_want f_compared f_open a_opened f_rowCount a_rowKind a_rowValue f_many a_list f_seen f_fail f_level a_from a_eAt a_whereAt a_source a_distinct a_keeps f_at f_self f_brackets f_values a_vKind a_v f_waiting a_waits ++ z) H → va_D A (hm_w q cI cZ cL f_classes a_parent f_objects a_kindOf a_size a_root a_slotKind a_slot a_kept f_count a_code a_number f_want f_compared f_open a_opened f_rowCount a_rowKind a_rowValue f_many a_list f_seen f_fail f_level a_from a_eAt a_whereAt a_source a_distinct a_keeps f_at f_self f_brackets f_values a_vKind a_v f_waiting a_waits ++ z) → va_S A s.heap H locs → sm_look_J63 l1 s1 f_objects a_kindOf a_size a_slotKind a_slot a_kept f_count a_code a_number f_rowCount a_rowKind a_rowValue f_seen f_fail f_level a_eAt a_whereAt f_at f_self f_brackets f_values a_vKind a_v f_waiting a_waits = some ur → W p l e R s m args below meth c H locs 0 0 Q (F0 m 63 ls [.int s1, .ref (q 0)]) := by
    intro l1 s1 f_rowCount a_rowKind a_rowValue f_seen f_fail f_at f_self f_brackets f_values a_vKind a_v f_waiting a_waits ls H locs hl hP hD hS h
    unfold sm_look_J63 at h
    refine pm_0_fail hx hb hts hown hK hP hD hS wi_109 dm_look_63 (fun H locs hP hD hS => ?_)
    refine lv_aload_n hx hb dm_look_66 rfl (lv_at hl 0 rfl) ?_
    refine gm_0_fail hx hb hts hown hK hP wi_109 dm_look_67 ?_
    refine lv_if_ne (tgt := 82) hx hb dm_look_70 (by decide) (fun hc => ?_) (fun hc => ?_)
    · have h := (if_neg hc).symm.trans h
      have h := Option.some.inj h
      exact hq_vret hx hb hr hlocks hQ hK hP hD hS rfl (by rw [← h]) dm_look_82
    · have h := (if_pos hc).symm.trans h
      refine lv_aload_n hx hb dm_look_73 rfl (lv_at hl 0 rfl) ?_
      refine gm_0_v hx hb hts hown hK hP wi_107 dm_look_74 ?_
      refine lv_iconst (v := 0) hx hb dm_look_77 (by decide) ?_
      obtain ⟨hin, h⟩ := hq_idx h
      refine am_21 hx hb hK hP hin dm_look_78 ?_
      refine lv_if_ne (tgt := 83) hx hb dm_look_79 (by decide) (fun hc => ?_) (fun hc => ?_)
      · have h := (if_neg hc).symm.trans h
        exact J83 l1 hl hP hD hS h
      · have h := (if_pos hc).symm.trans h
        have h := Option.some.inj h
        exact hq_vret hx hb hr hlocks hQ hK hP hD hS rfl (by rw [← h]) dm_look_82
  have J59 : ∀ (l1 : Int32) {f_rowCount : Int32} {a_rowKind : Nat → Int32} {a_rowValue : Nat → Int32} {f_seen : Int32} {f_fail : Int32} {f_at : Int32} {f_self : Int32} {f_brackets : Int32} {f_values : Int32} {a_vKind : Nat → Int32} {a_v : Nat → Int32} {f_waiting : Int32} {a_waits : Nat → Int32} {ls : Array Slot} {H : Heap} {locs : List Loc}, lv_has ls 2 [(0, .ref (q 0)), (1, .int l1)] → va_P D hq_cl (hm_w q cI cZ cL f_classes a_parent f_objects a_kindOf a_size a_root a_slotKind a_slot a_kept f_count a_code a_number f_want f_compared f_open a_opened f_rowCount a_rowKind a_rowValue f_many a_list f_seen f_fail f_level a_from a_eAt a_whereAt a_source a_distinct a_keeps f_at f_self f_brackets f_values a_vKind a_v f_waiting a_waits ++ z) H → va_D A (hm_w q cI cZ cL f_classes a_parent f_objects a_kindOf a_size a_root a_slotKind a_slot a_kept f_count a_code a_number f_want f_compared f_open a_opened f_rowCount a_rowKind a_rowValue f_many a_list f_seen f_fail f_level a_from a_eAt a_whereAt a_source a_distinct a_keeps f_at f_self f_brackets f_values a_vKind a_v f_waiting a_waits ++ z) → va_S A s.heap H locs → sm_look_J59 l1 f_objects a_kindOf a_size a_slotKind a_slot a_kept f_count a_code a_number f_rowCount a_rowKind a_rowValue f_seen f_fail f_level a_eAt a_whereAt f_at f_self f_brackets f_values a_vKind a_v f_waiting a_waits = some ur → W p l e R s m args below meth c H locs 0 0 Q (F0 m 59 ls [.ref (q 0)]) := by
    intro l1 f_rowCount a_rowKind a_rowValue f_seen f_fail f_at f_self f_brackets f_values a_vKind a_v f_waiting a_waits ls H locs hl hP hD hS h
    unfold sm_look_J59 at h
    refine lv_aload_n hx hb dm_look_59 rfl (lv_at hl 0 rfl) ?_
    refine gm_0_fail hx hb hts hown hK hP wi_109 dm_look_60 ?_
    exact J63 l1 f_fail hl hP hD hS h
  refine lv_aload_n hx hb dm_look_0 rfl (lv_at hl 0 rfl) ?_
  refine lv_dup hx hb dm_look_1 rfl ?_
  refine gm_0_seen hx hb hts hown hK hP wi_126 dm_look_2 ?_
  refine lv_iconst (v := 1) hx hb dm_look_5 (by decide) ?_
  refine lv_iadd hx hb dm_look_6 ?_
  refine pm_0_seen hx hb hts hown hK hP hD hS wi_126 dm_look_7 (fun H locs hP hD hS => ?_)
  refine lv_aload_n hx hb dm_look_10 rfl (lv_at hl 0 rfl) ?_
  refine gm_0_whereAt hx hb hts hown hK hP wi_127 dm_look_11 ?_
  refine lv_aload_n hx hb dm_look_14 rfl (lv_at hl 0 rfl) ?_
  refine gm_0_level hx hb hts hown hK hP wi_103 dm_look_15 ?_
  obtain ⟨hin, h⟩ := hq_idx h
  refine am_16 hx hb hK hP hin dm_look_18 ?_
  refine lv_if_lt (tgt := 83) hx hb dm_look_19 (by decide) (fun hc => ?_) (fun hc => ?_)
  · have h := (if_pos hc).symm.trans h
    exact J83 l1 hl hP hD hS h
  · have h := (if_neg hc).symm.trans h
    refine lv_aload_n hx hb dm_look_22 rfl (lv_at hl 0 rfl) ?_
    refine lv_aload_n hx hb dm_look_23 rfl (lv_at hl 0 rfl) ?_
    refine gm_0_whereAt hx hb hts hown hK hP wi_127 dm_look_24 ?_
    refine lv_aload_n hx hb dm_look_27 rfl (lv_at hl 0 rfl) ?_
    refine gm_0_level hx hb hts hown hK hP wi_103 dm_look_28 ?_
    obtain ⟨hin, h⟩ := hq_idx h
    refine am_16 hx hb hK hP hin dm_look_31 ?_
    refine lv_iload_n hx hb dm_look_32 rfl (lv_at hl 1 rfl) ?_
    obtain ⟨v33, h33, h⟩ := hq_bind h
    refine km_work (a_whereAt f_level.toNatClampNeg) l1 v33 h33 hx hb hml hts hown hK hP hD hS wi_125 (by rw [hRm]; exact ⟨Nat.le_of_ble_eq_true rfl, Nat.le_of_ble_eq_true rfl⟩) hl.1 (Nat.le_of_ble_eq_true rfl) dm_look_33 ⟨Nat.zero_le _, Nat.zero_le _⟩ (fun H locs hP hD hS => ?_)
    refine lv_aload_n hx hb dm_look_36 rfl (lv_at hl 0 rfl) ?_
    refine lv_aload_n hx hb dm_look_37 rfl (lv_at hl 0 rfl) ?_
    refine gm_0_fail hx hb hts hown hK hP wi_109 dm_look_38 ?_
    refine lv_if_ne (tgt := 59) hx hb dm_look_41 (by decide) (fun hc => ?_) (fun hc => ?_)
    · have h := (if_neg hc).symm.trans h
      exact J59 l1 hl hP hD hS h
    · have h := (if_pos hc).symm.trans h
      refine lv_aload_n hx hb dm_look_44 rfl (lv_at hl 0 rfl) ?_
      refine gm_0_vKind hx hb hts hown hK hP wi_106 dm_look_45 ?_
      refine lv_iconst (v := 0) hx hb dm_look_48 (by decide) ?_
      obtain ⟨hin, h⟩ := hq_idx h
      refine am_20 hx hb hK hP hin dm_look_49 ?_
      refine lv_iconst (v := 2) hx hb dm_look_50 (by decide) ?_
      refine lv_icmp_ne (tgt := 59) hx hb dm_look_51 (by decide) (fun hc => ?_) (fun hc => ?_)
      · have h := (if_neg hc).symm.trans h
        exact J59 l1 hl hP hD hS h
      · have h := (if_pos hc).symm.trans h
        refine lv_bipush (v := (-3)) hx hb dm_look_54 (by decide) ?_
        refine lv_goto (tgt := 63) hx hb dm_look_56 (by decide) ?_
        exact J63 l1 (-3) hl hP hD hS h
end
section
variable {p : Program} {l : Launch} {e : Env} {R : Room} {s : State} {m : MethodId} {args : Array Value} {below : List Frame} {meth : Method} {c : Code} {H H0 : Heap} {locs : List Loc} {cells slots : Nat} {Q : State → Prop}
variable {cc : ByteArray} {pc idx nC : Nat} {ls : Array Slot} {rest : List Value} {D : va_G} {A : Nat → Prop} {own : String} {q : Nat → Nat} {cI cZ cL : ClassId} {z w : va_W}
variable {f_classes f_objects f_count f_want f_compared f_open f_rowCount f_many f_seen f_fail f_level f_at f_self f_brackets f_values f_waiting : Int32}
variable {a_parent a_kindOf a_size a_root a_slotKind a_slot a_kept a_code a_number a_opened a_rowKind a_rowValue a_list a_from a_eAt a_whereAt a_source a_distinct a_keeps a_vKind a_v a_waits : Nat → Int32}
theorem km_look (l1 : Int32) (ur : Int32 × (Nat → Int32) × (Nat → Int32) × Int32 × Int32 × Int32 × Int32 × Int32 × Int32 × (Nat → Int32) × (Nat → Int32) × Int32 × (Nat → Int32)) (hu : sm_look l1 f_objects a_kindOf a_size a_slotKind a_slot a_kept f_count a_code a_number f_rowCount a_rowKind a_rowValue f_seen f_fail f_level a_eAt a_whereAt f_at f_self f_brackets f_values a_vKind a_v f_waiting a_waits = some ur) (hx : p.tables.exec = Jvm.exec) (hb : c.code = cc) (hml : c.maxLocals = nC) (hts : ∀ x ∈ hq_tbl, x.before args s = true) (hown : s.vm.findClass own = some m.cls) (hK : va_K D hq_cl (hq_tys cI cZ cL) s) (hP : va_P D hq_cl (hm_w q cI cZ cL f_classes a_parent f_objects a_kindOf a_size a_root a_slotKind a_slot a_kept f_count a_code a_number f_want f_compared f_open a_opened f_rowCount a_rowKind a_rowValue f_many a_list f_seen f_fail f_level a_from a_eAt a_whereAt a_source a_distinct a_keeps f_at f_self f_brackets f_values a_vKind a_v f_waiting a_waits ++ z) H) (hD : va_D A (hm_w q cI cZ cL f_classes a_parent f_objects a_kindOf a_size a_root a_slotKind a_slot a_kept f_count a_code a_number f_want f_compared f_open a_opened f_rowCount a_rowKind a_rowValue f_many a_list f_seen f_fail f_level a_from a_eAt a_whereAt a_source a_distinct a_keeps f_at f_self f_brackets f_values a_vKind a_v f_waiting a_waits ++ z)) (hS : va_S A H0 H locs) (h1 : Cond.methodLink own idx ym_look ∈ hq_tbl) (hR : 6 + 1 ≤ R.frames ∧ 8 + (2 + 11) + 139 ≤ R.locals) (hls : ls.size = nC) (hW : (rest.map fun v => v.category).sum ≤ 8) (hdg : decode cc pc = .ok (.invokevirtual idx, 3)) (hf : cells + 0 ≤ R.cells ∧ slots + 0 ≤ R.slots) (kk : ∀ (H1 : Heap) (locs1 : List Loc), va_P D hq_cl (hm_w q cI cZ cL f_classes a_parent f_objects a_kindOf a_size a_root a_slotKind a_slot a_kept f_count a_code a_number f_want f_compared f_open a_opened ur.1 ur.2.1 ur.2.2.1 f_many a_list ur.2.2.2.1 ur.2.2.2.2.1 f_level a_from a_eAt a_whereAt a_source a_distinct a_keeps ur.2.2.2.2.2.1 ur.2.2.2.2.2.2.1 ur.2.2.2.2.2.2.2.1 ur.2.2.2.2.2.2.2.2.1 ur.2.2.2.2.2.2.2.2.2.1 ur.2.2.2.2.2.2.2.2.2.2.1 ur.2.2.2.2.2.2.2.2.2.2.2.1 ur.2.2.2.2.2.2.2.2.2.2.2.2 ++ z) H1 → va_D A (hm_w q cI cZ cL f_classes a_parent f_objects a_kindOf a_size a_root a_slotKind a_slot a_kept f_count a_code a_number f_want f_compared f_open a_opened ur.1 ur.2.1 ur.2.2.1 f_many a_list ur.2.2.2.1 ur.2.2.2.2.1 f_level a_from a_eAt a_whereAt a_source a_distinct a_keeps ur.2.2.2.2.2.1 ur.2.2.2.2.2.2.1 ur.2.2.2.2.2.2.2.1 ur.2.2.2.2.2.2.2.2.1 ur.2.2.2.2.2.2.2.2.2.1 ur.2.2.2.2.2.2.2.2.2.2.1 ur.2.2.2.2.2.2.2.2.2.2.2.1 ur.2.2.2.2.2.2.2.2.2.2.2.2 ++ z) → va_S A H0 H1 locs1 → W p l e R s m args below meth c H1 locs1 cells slots Q (F0 m (pc + 3) ls (rest))) : W p l e R s m args below meth c H locs cells slots Q (F0 m pc ls (.int l1 :: .ref (q 0) :: rest)) :=
  hq_callV (q0 := 0) hx hb hml hown hts hK hP hD hS (cm_look l1 ur hu) rfl rfl h1 wi_446 wi_447 wi_338 wi_448 1 rfl (by decide +kernel) ⟨rfl, rfl⟩ hR hls rfl hW hdg hf kk
end
theorem dm_numbers_0 : decode bm_numbers 0 = .ok (.iload_n 1, 1) := by decide +kernel
theorem dm_numbers_1 : decode bm_numbers 1 = .ok (.istore_n 2, 1) := by decide +kernel
theorem dm_numbers_2 : decode bm_numbers 2 = .ok (.iload_n 2, 1) := by decide +kernel
theorem dm_numbers_3 : decode bm_numbers 3 = .ok (.aload_n 0, 1) := by decide +kernel
theorem dm_numbers_4 : decode bm_numbers 4 = .ok (.getfield 149, 3) := by decide +kernel
theorem dm_numbers_7 : decode bm_numbers 7 = .ok (.if_icmp .ge 36, 3) := by decide +kernel
theorem dm_numbers_10 : decode bm_numbers 10 = .ok (.aload_n 0, 1) := by decide +kernel
theorem dm_numbers_11 : decode bm_numbers 11 = .ok (.getfield 143, 3) := by decide +kernel
theorem dm_numbers_14 : decode bm_numbers 14 = .ok (.ifCond .ne 29, 3) := by decide +kernel
theorem dm_numbers_17 : decode bm_numbers 17 = .ok (.aload_n 0, 1) := by decide +kernel
theorem dm_numbers_18 : decode bm_numbers 18 = .ok (.aload_n 0, 1) := by decide +kernel
theorem dm_numbers_19 : decode bm_numbers 19 = .ok (.getfield 41, 3) := by decide +kernel
theorem dm_numbers_22 : decode bm_numbers 22 = .ok (.iload_n 2, 1) := by decide +kernel
theorem dm_numbers_23 : decode bm_numbers 23 = .ok (.iaload, 1) := by decide +kernel
theorem dm_numbers_24 : decode bm_numbers 24 = .ok (.iconst 1, 1) := by decide +kernel
theorem dm_numbers_25 : decode bm_numbers 25 = .ok (.if_icmp .ne 8, 3) := by decide +kernel
theorem dm_numbers_28 : decode bm_numbers 28 = .ok (.bipush (-4), 2) := by decide +kernel
theorem dm_numbers_30 : decode bm_numbers 30 = .ok (.goto 4, 3) := by decide +kernel
theorem dm_numbers_33 : decode bm_numbers 33 = .ok (.iconst 0, 1) := by decide +kernel
theorem dm_numbers_34 : decode bm_numbers 34 = .ok (.putfield 143, 3) := by decide +kernel
theorem dm_numbers_37 : decode bm_numbers 37 = .ok (.iinc 2 1, 3) := by decide +kernel
theorem dm_numbers_40 : decode bm_numbers 40 = .ok (.goto (-38), 3) := by decide +kernel
theorem dm_numbers_43 : decode bm_numbers 43 = .ok (.return_, 1) := by decide +kernel
section
variable {l : Launch} {D : va_G} {A : Nat → Prop} {z w : va_W} {q : Nat → Nat} {cI cZ cL : ClassId}
variable {f_classes f_objects f_count f_want f_compared f_open f_rowCount f_many f_seen f_fail f_level f_at f_self f_brackets f_values f_waiting : Int32}
variable {a_parent a_kindOf a_size a_root a_slotKind a_slot a_kept a_code a_number a_opened a_rowKind a_rowValue a_list a_from a_eAt a_whereAt a_source a_distinct a_keeps a_vKind a_v a_waits : Nat → Int32}
set_option maxHeartbeats 4000000 in
set_option maxRecDepth 100000 in
theorem cm_numbers (l1 : Int32) (ur : Int32) (h : sm_numbers l1 f_rowCount a_rowKind f_fail = some ur) : hq_Ct l ym_numbers bm_numbers 3 none { frames := 0, cells := 0, slots := 0, locals := 0 } D (hq_tys cI cZ cL) A [.ref (q 0), .int l1] (hm_w q cI cZ cL f_classes a_parent f_objects a_kindOf a_size a_root a_slotKind a_slot a_kept f_count a_code a_number f_want f_compared f_open a_opened f_rowCount a_rowKind a_rowValue f_many a_list f_seen f_fail f_level a_from a_eAt a_whereAt a_source a_distinct a_keeps f_at f_self f_brackets f_values a_vKind a_v f_waiting a_waits ++ z) (hm_w q cI cZ cL f_classes a_parent f_objects a_kindOf a_size a_root a_slotKind a_slot a_kept f_count a_code a_number f_want f_compared f_open a_opened f_rowCount a_rowKind a_rowValue f_many a_list f_seen ur f_level a_from a_eAt a_whereAt a_source a_distinct a_keeps f_at f_self f_brackets f_values a_vKind a_v f_waiting a_waits ++ z) none 0 0 := by
  refine hq_of (by decide) ?_ (Nat.le_of_ble_eq_true rfl)
  intro p e s m below meth c R args Q hRm hQ hx hb hr hml hts hown hlocks hnm hP hK hD ls hl hS
  have hl : lv_has ls 3 [(0, .ref (q 0)), (1, .int l1)] := hl
  have hown : s.vm.findClass "HeapQueriesModel" = some m.cls := hown
  unfold sm_numbers at h
  have L2 : ∀ (n : Nat) (l2 : Int32) {f_fail : Int32} {ls : Array Slot} {H : Heap} {locs : List Loc}, lv_has ls 3 [(0, .ref (q 0)), (2, .int l2)] → va_P D hq_cl (hm_w q cI cZ cL f_classes a_parent f_objects a_kindOf a_size a_root a_slotKind a_slot a_kept f_count a_code a_number f_want f_compared f_open a_opened f_rowCount a_rowKind a_rowValue f_many a_list f_seen f_fail f_level a_from a_eAt a_whereAt a_source a_distinct a_keeps f_at f_self f_brackets f_values a_vKind a_v f_waiting a_waits ++ z) H → va_D A (hm_w q cI cZ cL f_classes a_parent f_objects a_kindOf a_size a_root a_slotKind a_slot a_kept f_count a_code a_number f_want f_compared f_open a_opened f_rowCount a_rowKind a_rowValue f_many a_list f_seen f_fail f_level a_from a_eAt a_whereAt a_source a_distinct a_keeps f_at f_self f_brackets f_values a_vKind a_v f_waiting a_waits ++ z) → va_S A s.heap H locs → ∀ u2, sm_numbers_L2 n l2 f_rowCount a_rowKind f_fail = some u2 → (∀ (ls : Array Slot) (H : Heap) (locs : List Loc), lv_has ls 3 [] → va_P D hq_cl (hm_w q cI cZ cL f_classes a_parent f_objects a_kindOf a_size a_root a_slotKind a_slot a_kept f_count a_code a_number f_want f_compared f_open a_opened f_rowCount a_rowKind a_rowValue f_many a_list f_seen u2 f_level a_from a_eAt a_whereAt a_source a_distinct a_keeps f_at f_self f_brackets f_values a_vKind a_v f_waiting a_waits ++ z) H → va_D A (hm_w q cI cZ cL f_classes a_parent f_objects a_kindOf a_size a_root a_slotKind a_slot a_kept f_count a_code a_number f_want f_compared f_open a_opened f_rowCount a_rowKind a_rowValue f_many a_list f_seen u2 f_level a_from a_eAt a_whereAt a_source a_distinct a_keeps f_at f_self f_brackets f_values a_vKind a_v f_waiting a_waits ++ z) → va_S A s.heap H locs → W p l e R s m args below meth c H locs 0 0 Q (F0 m 43 ls [])) → W p l e R s m args below meth c H locs 0 0 Q (F0 m 2 ls []) := by
    intro n
    induction n with
    | zero =>
      intro l2 f_fail ls H locs hl hP hD hS u2 h kx
      have h : (none : Option (Int32)) = some u2 := h
      cases h
    | succ n ih =>
      intro l2 f_fail ls H locs hl hP hD hS u2 h kx
      have h : sm_numbers_L2_B (sm_numbers_L2 n) l2 f_rowCount a_rowKind f_fail = some u2 := h
      unfold sm_numbers_L2_B at h
      refine lv_iload_n hx hb dm_numbers_2 rfl (lv_at hl 1 rfl) ?_
      refine lv_aload_n hx hb dm_numbers_3 rfl (lv_at hl 0 rfl) ?_
      refine gm_0_rowCount hx hb hts hown hK hP wi_99 dm_numbers_4 ?_
      refine lv_icmp_ge (tgt := 43) hx hb dm_numbers_7 (by decide) (fun hc => ?_) (fun hc => ?_)
      · have h := (if_pos hc).symm.trans h
        have h := Option.some.inj h
        subst h
        exact kx ls H locs (lv_sub hl [] rfl) hP hD hS
      · have h := (if_neg hc).symm.trans h
        refine lv_aload_n hx hb dm_numbers_10 rfl (lv_at hl 0 rfl) ?_
        refine gm_0_fail hx hb hts hown hK hP wi_109 dm_numbers_11 ?_
        refine lv_if_ne (tgt := 43) hx hb dm_numbers_14 (by decide) (fun hc => ?_) (fun hc => ?_)
        · have h := (if_neg hc).symm.trans h
          have h := Option.some.inj h
          subst h
          exact kx ls H locs (lv_sub hl [] rfl) hP hD hS
        · have h := (if_pos hc).symm.trans h
          refine lv_aload_n hx hb dm_numbers_17 rfl (lv_at hl 0 rfl) ?_
          refine lv_aload_n hx hb dm_numbers_18 rfl (lv_at hl 0 rfl) ?_
          refine gm_0_rowKind hx hb hts hown hK hP wi_101 dm_numbers_19 ?_
          refine lv_iload_n hx hb dm_numbers_22 rfl (lv_at hl 1 rfl) ?_
          obtain ⟨hin, h⟩ := hq_idx h
          refine am_11 hx hb hK hP hin dm_numbers_23 ?_
          refine lv_iconst (v := 1) hx hb dm_numbers_24 (by decide) ?_
          refine lv_icmp_ne (tgt := 33) hx hb dm_numbers_25 (by decide) (fun hc => ?_) (fun hc => ?_)
          · have h := (if_neg hc).symm.trans h
            refine lv_iconst (v := 0) hx hb dm_numbers_33 (by decide) ?_
            refine pm_0_fail hx hb hts hown hK hP hD hS wi_109 dm_numbers_34 (fun H locs hP hD hS => ?_)
            refine lv_iinc (k := 1) (v := l2 + 1) (lv' := [(2, .int (l2 + 1)), (0, .ref (q 0))]) hx hb dm_numbers_37 hl rfl (congrArg (fun j => l2 + j) (by decide)) (by decide) rfl (fun ls hl => ?_)
            refine lv_goto (tgt := 2) hx hb dm_numbers_40 (by decide) ?_
            exact ih (l2 + 1) (lv_sub hl [1, 0] rfl) hP hD hS u2 h kx
          · have h := (if_pos hc).symm.trans h
            refine lv_bipush (v := (-4)) hx hb dm_numbers_28 (by decide) ?_
            refine lv_goto (tgt := 34) hx hb dm_numbers_30 (by decide) ?_
            refine pm_0_fail hx hb hts hown hK hP hD hS wi_109 dm_numbers_34 (fun H locs hP hD hS => ?_)
            refine lv_iinc (k := 1) (v := l2 + 1) (lv' := [(2, .int (l2 + 1)), (0, .ref (q 0))]) hx hb dm_numbers_37 hl rfl (congrArg (fun j => l2 + j) (by decide)) (by decide) rfl (fun ls hl => ?_)
            refine lv_goto (tgt := 2) hx hb dm_numbers_40 (by decide) ?_
            exact ih (l2 + 1) (lv_sub hl [1, 0] rfl) hP hD hS u2 h kx
  refine lv_iload_n hx hb dm_numbers_0 rfl (lv_at hl 1 rfl) ?_
  refine lv_istore_n (lv' := [(2, .int l1), (0, .ref (q 0)), (1, .int l1)]) hx hb dm_numbers_1 rfl hl (by decide) rfl (fun ls hl => ?_)
  obtain ⟨u2, h2, h⟩ := hq_bind h
  refine L2 kF l1 (lv_sub hl [1, 0] rfl) hP hD hS u2 h2 (fun ls H locs hl hP hD hS => ?_)
  have h := Option.some.inj h
  exact hq_vret hx hb hr hlocks hQ hK hP hD hS rfl (by rw [← h]) dm_numbers_43
end
section
variable {p : Program} {l : Launch} {e : Env} {R : Room} {s : State} {m : MethodId} {args : Array Value} {below : List Frame} {meth : Method} {c : Code} {H H0 : Heap} {locs : List Loc} {cells slots : Nat} {Q : State → Prop}
variable {cc : ByteArray} {pc idx nC : Nat} {ls : Array Slot} {rest : List Value} {D : va_G} {A : Nat → Prop} {own : String} {q : Nat → Nat} {cI cZ cL : ClassId} {z w : va_W}
variable {f_classes f_objects f_count f_want f_compared f_open f_rowCount f_many f_seen f_fail f_level f_at f_self f_brackets f_values f_waiting : Int32}
variable {a_parent a_kindOf a_size a_root a_slotKind a_slot a_kept a_code a_number a_opened a_rowKind a_rowValue a_list a_from a_eAt a_whereAt a_source a_distinct a_keeps a_vKind a_v a_waits : Nat → Int32}
theorem km_numbers (l1 : Int32) (ur : Int32) (hu : sm_numbers l1 f_rowCount a_rowKind f_fail = some ur) (hx : p.tables.exec = Jvm.exec) (hb : c.code = cc) (hml : c.maxLocals = nC) (hts : ∀ x ∈ hq_tbl, x.before args s = true) (hown : s.vm.findClass own = some m.cls) (hK : va_K D hq_cl (hq_tys cI cZ cL) s) (hP : va_P D hq_cl (hm_w q cI cZ cL f_classes a_parent f_objects a_kindOf a_size a_root a_slotKind a_slot a_kept f_count a_code a_number f_want f_compared f_open a_opened f_rowCount a_rowKind a_rowValue f_many a_list f_seen f_fail f_level a_from a_eAt a_whereAt a_source a_distinct a_keeps f_at f_self f_brackets f_values a_vKind a_v f_waiting a_waits ++ z) H) (hD : va_D A (hm_w q cI cZ cL f_classes a_parent f_objects a_kindOf a_size a_root a_slotKind a_slot a_kept f_count a_code a_number f_want f_compared f_open a_opened f_rowCount a_rowKind a_rowValue f_many a_list f_seen f_fail f_level a_from a_eAt a_whereAt a_source a_distinct a_keeps f_at f_self f_brackets f_values a_vKind a_v f_waiting a_waits ++ z)) (hS : va_S A H0 H locs) (h1 : Cond.methodLink own idx ym_numbers ∈ hq_tbl) (hR : 0 + 1 ≤ R.frames ∧ 8 + (3 + 11) + 0 ≤ R.locals) (hls : ls.size = nC) (hW : (rest.map fun v => v.category).sum ≤ 8) (hdg : decode cc pc = .ok (.invokevirtual idx, 3)) (hf : cells + 0 ≤ R.cells ∧ slots + 0 ≤ R.slots) (kk : ∀ (H1 : Heap) (locs1 : List Loc), va_P D hq_cl (hm_w q cI cZ cL f_classes a_parent f_objects a_kindOf a_size a_root a_slotKind a_slot a_kept f_count a_code a_number f_want f_compared f_open a_opened f_rowCount a_rowKind a_rowValue f_many a_list f_seen ur f_level a_from a_eAt a_whereAt a_source a_distinct a_keeps f_at f_self f_brackets f_values a_vKind a_v f_waiting a_waits ++ z) H1 → va_D A (hm_w q cI cZ cL f_classes a_parent f_objects a_kindOf a_size a_root a_slotKind a_slot a_kept f_count a_code a_number f_want f_compared f_open a_opened f_rowCount a_rowKind a_rowValue f_many a_list f_seen ur f_level a_from a_eAt a_whereAt a_source a_distinct a_keeps f_at f_self f_brackets f_values a_vKind a_v f_waiting a_waits ++ z) → va_S A H0 H1 locs1 → W p l e R s m args below meth c H1 locs1 cells slots Q (F0 m (pc + 3) ls (rest))) : W p l e R s m args below meth c H locs cells slots Q (F0 m pc ls (.int l1 :: .ref (q 0) :: rest)) :=
  hq_callV (q0 := 0) hx hb hml hown hts hK hP hD hS (cm_numbers l1 ur hu) rfl rfl h1 wi_449 wi_450 wi_338 wi_451 1 rfl (by decide +kernel) ⟨rfl, rfl⟩ hR hls rfl hW hdg hf kk
end
theorem dm_retain_0 : decode bm_retain 0 = .ok (.iconst 0, 1) := by decide +kernel
theorem dm_retain_1 : decode bm_retain 1 = .ok (.istore_n 2, 1) := by decide +kernel
theorem dm_retain_2 : decode bm_retain 2 = .ok (.iload_n 1, 1) := by decide +kernel
theorem dm_retain_3 : decode bm_retain 3 = .ok (.istore_n 3, 1) := by decide +kernel
theorem dm_retain_4 : decode bm_retain 4 = .ok (.iload_n 3, 1) := by decide +kernel
theorem dm_retain_5 : decode bm_retain 5 = .ok (.aload_n 0, 1) := by decide +kernel
theorem dm_retain_6 : decode bm_retain 6 = .ok (.getfield 149, 3) := by decide +kernel
theorem dm_retain_9 : decode bm_retain 9 = .ok (.if_icmp .ge 34, 3) := by decide +kernel
theorem dm_retain_12 : decode bm_retain 12 = .ok (.aload_n 0, 1) := by decide +kernel
theorem dm_retain_13 : decode bm_retain 13 = .ok (.getfield 41, 3) := by decide +kernel
theorem dm_retain_16 : decode bm_retain 16 = .ok (.iload_n 3, 1) := by decide +kernel
theorem dm_retain_17 : decode bm_retain 17 = .ok (.iaload, 1) := by decide +kernel
theorem dm_retain_18 : decode bm_retain 18 = .ok (.iconst 2, 1) := by decide +kernel
theorem dm_retain_19 : decode bm_retain 19 = .ok (.if_icmp .ne 16, 3) := by decide +kernel
theorem dm_retain_22 : decode bm_retain 22 = .ok (.iload_n 2, 1) := by decide +kernel
theorem dm_retain_23 : decode bm_retain 23 = .ok (.iconst 1, 1) := by decide +kernel
theorem dm_retain_24 : decode bm_retain 24 = .ok (.aload_n 0, 1) := by decide +kernel
theorem dm_retain_25 : decode bm_retain 25 = .ok (.getfield 44, 3) := by decide +kernel
theorem dm_retain_28 : decode bm_retain 28 = .ok (.iload_n 3, 1) := by decide +kernel
theorem dm_retain_29 : decode bm_retain 29 = .ok (.iaload, 1) := by decide +kernel
theorem dm_retain_30 : decode bm_retain 30 = .ok (.ishl, 1) := by decide +kernel
theorem dm_retain_31 : decode bm_retain 31 = .ok (.ior, 1) := by decide +kernel
theorem dm_retain_32 : decode bm_retain 32 = .ok (.goto 4, 3) := by decide +kernel
theorem dm_retain_35 : decode bm_retain 35 = .ok (.iload_n 2, 1) := by decide +kernel
theorem dm_retain_36 : decode bm_retain 36 = .ok (.istore_n 2, 1) := by decide +kernel
theorem dm_retain_37 : decode bm_retain 37 = .ok (.iinc 3 1, 3) := by decide +kernel
theorem dm_retain_40 : decode bm_retain 40 = .ok (.goto (-36), 3) := by decide +kernel
theorem dm_retain_43 : decode bm_retain 43 = .ok (.aload_n 0, 1) := by decide +kernel
theorem dm_retain_44 : decode bm_retain 44 = .ok (.iconst 0, 1) := by decide +kernel
theorem dm_retain_45 : decode bm_retain 45 = .ok (.invokevirtual 88, 3) := by decide +kernel
theorem dm_retain_48 : decode bm_retain 48 = .ok (.aload_n 0, 1) := by decide +kernel
theorem dm_retain_49 : decode bm_retain 49 = .ok (.iload_n 2, 1) := by decide +kernel
theorem dm_retain_50 : decode bm_retain 50 = .ok (.invokevirtual 88, 3) := by decide +kernel
theorem dm_retain_53 : decode bm_retain 53 = .ok (.iconst (-1), 1) := by decide +kernel
theorem dm_retain_54 : decode bm_retain 54 = .ok (.ixor, 1) := by decide +kernel
theorem dm_retain_55 : decode bm_retain 55 = .ok (.iand, 1) := by decide +kernel
theorem dm_retain_56 : decode bm_retain 56 = .ok (.istore_n 3, 1) := by decide +kernel
theorem dm_retain_57 : decode bm_retain 57 = .ok (.aload_n 0, 1) := by decide +kernel
theorem dm_retain_58 : decode bm_retain 58 = .ok (.iload_n 1, 1) := by decide +kernel
theorem dm_retain_59 : decode bm_retain 59 = .ok (.putfield 149, 3) := by decide +kernel
theorem dm_retain_62 : decode bm_retain 62 = .ok (.iconst 0, 1) := by decide +kernel
theorem dm_retain_63 : decode bm_retain 63 = .ok (.istore 4, 2) := by decide +kernel
theorem dm_retain_65 : decode bm_retain 65 = .ok (.iload 4, 2) := by decide +kernel
theorem dm_retain_67 : decode bm_retain 67 = .ok (.aload_n 0, 1) := by decide +kernel
theorem dm_retain_68 : decode bm_retain 68 = .ok (.getfield 81, 3) := by decide +kernel
theorem dm_retain_71 : decode bm_retain 71 = .ok (.if_icmp .ge 50, 3) := by decide +kernel
theorem dm_retain_74 : decode bm_retain 74 = .ok (.iload_n 3, 1) := by decide +kernel
theorem dm_retain_75 : decode bm_retain 75 = .ok (.iload 4, 2) := by decide +kernel
theorem dm_retain_77 : decode bm_retain 77 = .ok (.ishr, 1) := by decide +kernel
theorem dm_retain_78 : decode bm_retain 78 = .ok (.iconst 1, 1) := by decide +kernel
theorem dm_retain_79 : decode bm_retain 79 = .ok (.iand, 1) := by decide +kernel
theorem dm_retain_80 : decode bm_retain 80 = .ok (.iconst 1, 1) := by decide +kernel
theorem dm_retain_81 : decode bm_retain 81 = .ok (.if_icmp .ne 34, 3) := by decide +kernel
theorem dm_retain_84 : decode bm_retain 84 = .ok (.aload_n 0, 1) := by decide +kernel
theorem dm_retain_85 : decode bm_retain 85 = .ok (.getfield 41, 3) := by decide +kernel
theorem dm_retain_88 : decode bm_retain 88 = .ok (.aload_n 0, 1) := by decide +kernel
theorem dm_retain_89 : decode bm_retain 89 = .ok (.getfield 149, 3) := by decide +kernel
theorem dm_retain_92 : decode bm_retain 92 = .ok (.iconst 2, 1) := by decide +kernel
theorem dm_retain_93 : decode bm_retain 93 = .ok (.iastore, 1) := by decide +kernel
theorem dm_retain_94 : decode bm_retain 94 = .ok (.aload_n 0, 1) := by decide +kernel
theorem dm_retain_95 : decode bm_retain 95 = .ok (.getfield 44, 3) := by decide +kernel
theorem dm_retain_98 : decode bm_retain 98 = .ok (.aload_n 0, 1) := by decide +kernel
theorem dm_retain_99 : decode bm_retain 99 = .ok (.getfield 149, 3) := by decide +kernel
theorem dm_retain_102 : decode bm_retain 102 = .ok (.iload 4, 2) := by decide +kernel
theorem dm_retain_104 : decode bm_retain 104 = .ok (.iastore, 1) := by decide +kernel
theorem dm_retain_105 : decode bm_retain 105 = .ok (.aload_n 0, 1) := by decide +kernel
theorem dm_retain_106 : decode bm_retain 106 = .ok (.dup, 1) := by decide +kernel
theorem dm_retain_107 : decode bm_retain 107 = .ok (.getfield 149, 3) := by decide +kernel
theorem dm_retain_110 : decode bm_retain 110 = .ok (.iconst 1, 1) := by decide +kernel
theorem dm_retain_111 : decode bm_retain 111 = .ok (.iadd, 1) := by decide +kernel
theorem dm_retain_112 : decode bm_retain 112 = .ok (.putfield 149, 3) := by decide +kernel
theorem dm_retain_115 : decode bm_retain 115 = .ok (.iinc 4 1, 3) := by decide +kernel
theorem dm_retain_118 : decode bm_retain 118 = .ok (.goto (-53), 3) := by decide +kernel
theorem dm_retain_121 : decode bm_retain 121 = .ok (.return_, 1) := by decide +kernel
section
variable {l : Launch} {D : va_G} {A : Nat → Prop} {z w : va_W} {q : Nat → Nat} {cI cZ cL : ClassId}
variable {f_classes f_objects f_count f_want f_compared f_open f_rowCount f_many f_seen f_fail f_level f_at f_self f_brackets f_values f_waiting : Int32}
variable {a_parent a_kindOf a_size a_root a_slotKind a_slot a_kept a_code a_number a_opened a_rowKind a_rowValue a_list a_from a_eAt a_whereAt a_source a_distinct a_keeps a_vKind a_v a_waits : Nat → Int32}
set_option maxHeartbeats 4000000 in
set_option maxRecDepth 100000 in
theorem cm_retain (l1 : Int32) (ur : Int32 × (Nat → Int32) × (Nat → Int32)) (h : sm_retain l1 f_objects a_root a_slotKind a_slot f_rowCount a_rowKind a_rowValue = some ur) : hq_Ct l ym_retain bm_retain 5 none { frames := 1, cells := 0, slots := 0, locals := 28 } D (hq_tys cI cZ cL) A [.ref (q 0), .int l1] (hm_w q cI cZ cL f_classes a_parent f_objects a_kindOf a_size a_root a_slotKind a_slot a_kept f_count a_code a_number f_want f_compared f_open a_opened f_rowCount a_rowKind a_rowValue f_many a_list f_seen f_fail f_level a_from a_eAt a_whereAt a_source a_distinct a_keeps f_at f_self f_brackets f_values a_vKind a_v f_waiting a_waits ++ z) (hm_w q cI cZ cL f_classes a_parent f_objects a_kindOf a_size a_root a_slotKind a_slot a_kept f_count a_code a_number f_want f_compared f_open a_opened ur.1 ur.2.1 ur.2.2 f_many a_list f_seen f_fail f_level a_from a_eAt a_whereAt a_source a_distinct a_keeps f_at f_self f_brackets f_values a_vKind a_v f_waiting a_waits ++ z) none 0 0 := by
  refine hq_of (by decide) ?_ (Nat.le_of_ble_eq_true rfl)
  intro p e s m below meth c R args Q hRm hQ hx hb hr hml hts hown hlocks hnm hP hK hD ls hl hS
  have hl : lv_has ls 5 [(0, .ref (q 0)), (1, .int l1)] := hl
  have hown : s.vm.findClass "HeapQueriesModel" = some m.cls := hown
  unfold sm_retain at h
  have L65 : ∀ (n : Nat) (l3 : Int32) (l4 : Int32) {f_rowCount : Int32} {a_rowKind : Nat → Int32} {a_rowValue : Nat → Int32} {ls : Array Slot} {H : Heap} {locs : List Loc}, lv_has ls 5 [(0, .ref (q 0)), (3, .int l3), (4, .int l4)] → va_P D hq_cl (hm_w q cI cZ cL f_classes a_parent f_objects a_kindOf a_size a_root a_slotKind a_slot a_kept f_count a_code a_number f_want f_compared f_open a_opened f_rowCount a_rowKind a_rowValue f_many a_list f_seen f_fail f_level a_from a_eAt a_whereAt a_source a_distinct a_keeps f_at f_self f_brackets f_values a_vKind a_v f_waiting a_waits ++ z) H → va_D A (hm_w q cI cZ cL f_classes a_parent f_objects a_kindOf a_size a_root a_slotKind a_slot a_kept f_count a_code a_number f_want f_compared f_open a_opened f_rowCount a_rowKind a_rowValue f_many a_list f_seen f_fail f_level a_from a_eAt a_whereAt a_source a_distinct a_keeps f_at f_self f_brackets f_values a_vKind a_v f_waiting a_waits ++ z) → va_S A s.heap H locs → ∀ u65, sm_retain_L65 n l3 l4 f_objects f_rowCount a_rowKind a_rowValue = some u65 → (∀ (ls : Array Slot) (H : Heap) (locs : List Loc), lv_has ls 5 [] → va_P D hq_cl (hm_w q cI cZ cL f_classes a_parent f_objects a_kindOf a_size a_root a_slotKind a_slot a_kept f_count a_code a_number f_want f_compared f_open a_opened u65.1 u65.2.1 u65.2.2 f_many a_list f_seen f_fail f_level a_from a_eAt a_whereAt a_source a_distinct a_keeps f_at f_self f_brackets f_values a_vKind a_v f_waiting a_waits ++ z) H → va_D A (hm_w q cI cZ cL f_classes a_parent f_objects a_kindOf a_size a_root a_slotKind a_slot a_kept f_count a_code a_number f_want f_compared f_open a_opened u65.1 u65.2.1 u65.2.2 f_many a_list f_seen f_fail f_level a_from a_eAt a_whereAt a_source a_distinct a_keeps f_at f_self f_brackets f_values a_vKind a_v f_waiting a_waits ++ z) → va_S A s.heap H locs → W p l e R s m args below meth c H locs 0 0 Q (F0 m 121 ls [])) → W p l e R s m args below meth c H locs 0 0 Q (F0 m 65 ls []) := by
    intro n
    induction n with
    | zero =>
      intro l3 l4 f_rowCount a_rowKind a_rowValue ls H locs hl hP hD hS u65 h kx
      have h : (none : Option (Int32 × (Nat → Int32) × (Nat → Int32))) = some u65 := h
      cases h
    | succ n ih =>
      intro l3 l4 f_rowCount a_rowKind a_rowValue ls H locs hl hP hD hS u65 h kx
      have h : sm_retain_L65_B (sm_retain_L65 n) l3 l4 f_objects f_rowCount a_rowKind a_rowValue = some u65 := h
      unfold sm_retain_L65_B at h
      refine lv_iload hx hb dm_retain_65 (lv_at hl 2 rfl) ?_
      refine lv_aload_n hx hb dm_retain_67 rfl (lv_at hl 0 rfl) ?_
      refine gm_0_objects hx hb hts hown hK hP wi_68 dm_retain_68 ?_
      refine lv_icmp_ge (tgt := 121) hx hb dm_retain_71 (by decide) (fun hc => ?_) (fun hc => ?_)
      · have h := (if_pos hc).symm.trans h
        have h := Option.some.inj h
        subst h
        exact kx ls H locs (lv_sub hl [] rfl) hP hD hS
      · have h := (if_neg hc).symm.trans h
        refine lv_iload_n hx hb dm_retain_74 rfl (lv_at hl 1 rfl) ?_
        refine lv_iload hx hb dm_retain_75 (lv_at hl 2 rfl) ?_
        refine lv_ishr hx hb dm_retain_77 ?_
        refine lv_iconst (v := 1) hx hb dm_retain_78 (by decide) ?_
        refine lv_iand hx hb dm_retain_79 ?_
        refine lv_iconst (v := 1) hx hb dm_retain_80 (by decide) ?_
        refine lv_icmp_ne (tgt := 115) hx hb dm_retain_81 (by decide) (fun hc => ?_) (fun hc => ?_)
        · have h := (if_neg hc).symm.trans h
          refine lv_iinc (k := 2) (v := l4 + 1) (lv' := [(4, .int (l4 + 1)), (0, .ref (q 0)), (3, .int l3)]) hx hb dm_retain_115 hl rfl (congrArg (fun j => l4 + j) (by decide)) (by decide) rfl (fun ls hl => ?_)
          refine lv_goto (tgt := 65) hx hb dm_retain_118 (by decide) ?_
          exact ih l3 (l4 + 1) (lv_sub hl [1, 2, 0] rfl) hP hD hS u65 h kx
        · have h := (if_pos hc).symm.trans h
          refine lv_aload_n hx hb dm_retain_84 rfl (lv_at hl 0 rfl) ?_
          refine gm_0_rowKind hx hb hts hown hK hP wi_101 dm_retain_85 ?_
          refine lv_aload_n hx hb dm_retain_88 rfl (lv_at hl 0 rfl) ?_
          refine gm_0_rowCount hx hb hts hown hK hP wi_99 dm_retain_89 ?_
          refine lv_iconst (v := 2) hx hb dm_retain_92 (by decide) ?_
          obtain ⟨hin, h⟩ := hq_idx h
          refine tm_11 hx hb hK hP hD hS hin dm_retain_93 (fun H locs hP hD hS => ?_)
          refine lv_aload_n hx hb dm_retain_94 rfl (lv_at hl 0 rfl) ?_
          refine gm_0_rowValue hx hb hts hown hK hP wi_100 dm_retain_95 ?_
          refine lv_aload_n hx hb dm_retain_98 rfl (lv_at hl 0 rfl) ?_
          refine gm_0_rowCount hx hb hts hown hK hP wi_99 dm_retain_99 ?_
          refine lv_iload hx hb dm_retain_102 (lv_at hl 2 rfl) ?_
          obtain ⟨hin, h⟩ := hq_idx h
          refine tm_12 hx hb hK hP hD hS hin dm_retain_104 (fun H locs hP hD hS => ?_)
          refine lv_aload_n hx hb dm_retain_105 rfl (lv_at hl 0 rfl) ?_
          refine lv_dup hx hb dm_retain_106 rfl ?_
          refine gm_0_rowCount hx hb hts hown hK hP wi_99 dm_retain_107 ?_
          refine lv_iconst (v := 1) hx hb dm_retain_110 (by decide) ?_
          refine lv_iadd hx hb dm_retain_111 ?_
          refine pm_0_rowCount hx hb hts hown hK hP hD hS wi_99 dm_retain_112 (fun H locs hP hD hS => ?_)
          refine lv_iinc (k := 2) (v := l4 + 1) (lv' := [(4, .int (l4 + 1)), (0, .ref (q 0)), (3, .int l3)]) hx hb dm_retain_115 hl rfl (congrArg (fun j => l4 + j) (by decide)) (by decide) rfl (fun ls hl => ?_)
          refine lv_goto (tgt := 65) hx hb dm_retain_118 (by decide) ?_
          exact ih l3 (l4 + 1) (lv_sub hl [1, 2, 0] rfl) hP hD hS u65 h kx
  have L4 : ∀ (n : Nat) (l1 : Int32) (l2 : Int32) (l3 : Int32) {f_rowCount : Int32} {a_rowKind : Nat → Int32} {a_rowValue : Nat → Int32} {ls : Array Slot} {H : Heap} {locs : List Loc}, lv_has ls 5 [(0, .ref (q 0)), (1, .int l1), (2, .int l2), (3, .int l3)] → va_P D hq_cl (hm_w q cI cZ cL f_classes a_parent f_objects a_kindOf a_size a_root a_slotKind a_slot a_kept f_count a_code a_number f_want f_compared f_open a_opened f_rowCount a_rowKind a_rowValue f_many a_list f_seen f_fail f_level a_from a_eAt a_whereAt a_source a_distinct a_keeps f_at f_self f_brackets f_values a_vKind a_v f_waiting a_waits ++ z) H → va_D A (hm_w q cI cZ cL f_classes a_parent f_objects a_kindOf a_size a_root a_slotKind a_slot a_kept f_count a_code a_number f_want f_compared f_open a_opened f_rowCount a_rowKind a_rowValue f_many a_list f_seen f_fail f_level a_from a_eAt a_whereAt a_source a_distinct a_keeps f_at f_self f_brackets f_values a_vKind a_v f_waiting a_waits ++ z) → va_S A s.heap H locs → ∀ u4, sm_retain_L4 n l1 l2 l3 f_rowCount a_rowKind a_rowValue = some u4 → (∀ (ls : Array Slot) (H : Heap) (locs : List Loc), lv_has ls 5 [(0, .ref (q 0)), (1, .int l1), (2, .int u4)] → va_P D hq_cl (hm_w q cI cZ cL f_classes a_parent f_objects a_kindOf a_size a_root a_slotKind a_slot a_kept f_count a_code a_number f_want f_compared f_open a_opened f_rowCount a_rowKind a_rowValue f_many a_list f_seen f_fail f_level a_from a_eAt a_whereAt a_source a_distinct a_keeps f_at f_self f_brackets f_values a_vKind a_v f_waiting a_waits ++ z) H → va_D A (hm_w q cI cZ cL f_classes a_parent f_objects a_kindOf a_size a_root a_slotKind a_slot a_kept f_count a_code a_number f_want f_compared f_open a_opened f_rowCount a_rowKind a_rowValue f_many a_list f_seen f_fail f_level a_from a_eAt a_whereAt a_source a_distinct a_keeps f_at f_self f_brackets f_values a_vKind a_v f_waiting a_waits ++ z) → va_S A s.heap H locs → W p l e R s m args below meth c H locs 0 0 Q (F0 m 43 ls [])) → W p l e R s m args below meth c H locs 0 0 Q (F0 m 4 ls []) := by
    intro n
    induction n with
    | zero =>
      intro l1 l2 l3 f_rowCount a_rowKind a_rowValue ls H locs hl hP hD hS u4 h kx
      have h : (none : Option (Int32)) = some u4 := h
      cases h
    | succ n ih =>
      intro l1 l2 l3 f_rowCount a_rowKind a_rowValue ls H locs hl hP hD hS u4 h kx
      have h : sm_retain_L4_B (sm_retain_L4 n) l1 l2 l3 f_rowCount a_rowKind a_rowValue = some u4 := h
      unfold sm_retain_L4_B at h
      refine lv_iload_n hx hb dm_retain_4 rfl (lv_at hl 3 rfl) ?_
      refine lv_aload_n hx hb dm_retain_5 rfl (lv_at hl 0 rfl) ?_
      refine gm_0_rowCount hx hb hts hown hK hP wi_99 dm_retain_6 ?_
      refine lv_icmp_ge (tgt := 43) hx hb dm_retain_9 (by decide) (fun hc => ?_) (fun hc => ?_)
      · have h := (if_pos hc).symm.trans h
        have h := Option.some.inj h
        subst h
        exact kx ls H locs (lv_sub hl [0, 1, 2] rfl) hP hD hS
      · have h := (if_neg hc).symm.trans h
        refine lv_aload_n hx hb dm_retain_12 rfl (lv_at hl 0 rfl) ?_
        refine gm_0_rowKind hx hb hts hown hK hP wi_101 dm_retain_13 ?_
        refine lv_iload_n hx hb dm_retain_16 rfl (lv_at hl 3 rfl) ?_
        obtain ⟨hin, h⟩ := hq_idx h
        refine am_11 hx hb hK hP hin dm_retain_17 ?_
        refine lv_iconst (v := 2) hx hb dm_retain_18 (by decide) ?_
        refine lv_icmp_ne (tgt := 35) hx hb dm_retain_19 (by decide) (fun hc => ?_) (fun hc => ?_)
        · have h := (if_neg hc).symm.trans h
          refine lv_iload_n hx hb dm_retain_35 rfl (lv_at hl 2 rfl) ?_
          refine lv_istore_n (lv' := [(2, .int l2), (0, .ref (q 0)), (1, .int l1), (3, .int l3)]) hx hb dm_retain_36 rfl hl (by decide) rfl (fun ls hl => ?_)
          refine lv_iinc (k := 3) (v := l3 + 1) (lv' := [(3, .int (l3 + 1)), (2, .int l2), (0, .ref (q 0)), (1, .int l1)]) hx hb dm_retain_37 hl rfl (congrArg (fun j => l3 + j) (by decide)) (by decide) rfl (fun ls hl => ?_)
          refine lv_goto (tgt := 4) hx hb dm_retain_40 (by decide) ?_
          exact ih l1 l2 (l3 + 1) (lv_sub hl [2, 3, 1, 0] rfl) hP hD hS u4 h kx
        · have h := (if_pos hc).symm.trans h
          refine lv_iload_n hx hb dm_retain_22 rfl (lv_at hl 2 rfl) ?_
          refine lv_iconst (v := 1) hx hb dm_retain_23 (by decide) ?_
          refine lv_aload_n hx hb dm_retain_24 rfl (lv_at hl 0 rfl) ?_
          refine gm_0_rowValue hx hb hts hown hK hP wi_100 dm_retain_25 ?_
          refine lv_iload_n hx hb dm_retain_28 rfl (lv_at hl 3 rfl) ?_
          obtain ⟨hin, h⟩ := hq_idx h
          refine am_12 hx hb hK hP hin dm_retain_29 ?_
          refine lv_ishl hx hb dm_retain_30 ?_
          refine lv_ior hx hb dm_retain_31 ?_
          refine lv_goto (tgt := 36) hx hb dm_retain_32 (by decide) ?_
          refine lv_istore_n (lv' := [(2, .int (l2 ||| ((1 : Int32) <<< ((a_rowValue l3.toNatClampNeg) &&& 31)))), (0, .ref (q 0)), (1, .int l1), (3, .int l3)]) hx hb dm_retain_36 rfl hl (by decide) rfl (fun ls hl => ?_)
          refine lv_iinc (k := 3) (v := l3 + 1) (lv' := [(3, .int (l3 + 1)), (2, .int (l2 ||| ((1 : Int32) <<< ((a_rowValue l3.toNatClampNeg) &&& 31)))), (0, .ref (q 0)), (1, .int l1)]) hx hb dm_retain_37 hl rfl (congrArg (fun j => l3 + j) (by decide)) (by decide) rfl (fun ls hl => ?_)
          refine lv_goto (tgt := 4) hx hb dm_retain_40 (by decide) ?_
          exact ih l1 (l2 ||| ((1 : Int32) <<< ((a_rowValue l3.toNatClampNeg) &&& 31))) (l3 + 1) (lv_sub hl [2, 3, 1, 0] rfl) hP hD hS u4 h kx
  refine lv_iconst (v := 0) hx hb dm_retain_0 (by decide) ?_
  refine lv_istore_n (lv' := [(2, .int 0), (0, .ref (q 0)), (1, .int l1)]) hx hb dm_retain_1 rfl hl (by decide) rfl (fun ls hl => ?_)
  refine lv_iload_n hx hb dm_retain_2 rfl (lv_at hl 2 rfl) ?_
  refine lv_istore_n (lv' := [(3, .int l1), (2, .int 0), (0, .ref (q 0)), (1, .int l1)]) hx hb dm_retain_3 rfl hl (by decide) rfl (fun ls hl => ?_)
  obtain ⟨u4, h4, h⟩ := hq_bind h
  refine L4 kF l1 0 l1 (lv_sub hl [2, 3, 1, 0] rfl) hP hD hS u4 h4 (fun ls H locs hl hP hD hS => ?_)
  refine lv_aload_n hx hb dm_retain_43 rfl (lv_at hl 0 rfl) ?_
  refine lv_iconst (v := 0) hx hb dm_retain_44 (by decide) ?_
  obtain ⟨v45, h45, h⟩ := hq_bind h
  refine km_reach 0 v45 h45 hx hb hml hts hown hK hP hD hS wi_76 (by rw [hRm]; exact ⟨Nat.le_of_ble_eq_true rfl, Nat.le_of_ble_eq_true rfl⟩) hl.1 (Nat.le_of_ble_eq_true rfl) dm_retain_45 ⟨Nat.zero_le _, Nat.zero_le _⟩ (fun H locs hP hD hS => ?_)
  refine lv_aload_n hx hb dm_retain_48 rfl (lv_at hl 0 rfl) ?_
  refine lv_iload_n hx hb dm_retain_49 rfl (lv_at hl 2 rfl) ?_
  obtain ⟨v50, h50, h⟩ := hq_bind h
  refine km_reach u4 v50 h50 hx hb hml hts hown hK hP hD hS wi_76 (by rw [hRm]; exact ⟨Nat.le_of_ble_eq_true rfl, Nat.le_of_ble_eq_true rfl⟩) hl.1 (Nat.le_of_ble_eq_true rfl) dm_retain_50 ⟨Nat.zero_le _, Nat.zero_le _⟩ (fun H locs hP hD hS => ?_)
  refine lv_iconst (v := (-1)) hx hb dm_retain_53 (by decide) ?_
  refine lv_ixor hx hb dm_retain_54 ?_
  refine lv_iand hx hb dm_retain_55 ?_
  refine lv_istore_n (lv' := [(3, .int (v45 &&& (v50 ^^^ (-1)))), (0, .ref (q 0)), (1, .int l1), (2, .int u4)]) hx hb dm_retain_56 rfl hl (by decide) rfl (fun ls hl => ?_)
  refine lv_aload_n hx hb dm_retain_57 rfl (lv_at hl 1 rfl) ?_
  refine lv_iload_n hx hb dm_retain_58 rfl (lv_at hl 2 rfl) ?_
  refine pm_0_rowCount hx hb hts hown hK hP hD hS wi_99 dm_retain_59 (fun H locs hP hD hS => ?_)
  refine lv_iconst (v := 0) hx hb dm_retain_62 (by decide) ?_
  refine lv_istore (lv' := [(4, .int 0), (3, .int (v45 &&& (v50 ^^^ (-1)))), (0, .ref (q 0)), (1, .int l1), (2, .int u4)]) hx hb dm_retain_63 hl (by decide) rfl (fun ls hl => ?_)
  obtain ⟨u65, h65, h⟩ := hq_bind h
  refine L65 kF (v45 &&& (v50 ^^^ (-1))) 0 (lv_sub hl [2, 1, 0] rfl) hP hD hS u65 h65 (fun ls H locs hl hP hD hS => ?_)
  have h := Option.some.inj h
  exact hq_vret hx hb hr hlocks hQ hK hP hD hS rfl (by rw [← h]) dm_retain_121
end
section
variable {p : Program} {l : Launch} {e : Env} {R : Room} {s : State} {m : MethodId} {args : Array Value} {below : List Frame} {meth : Method} {c : Code} {H H0 : Heap} {locs : List Loc} {cells slots : Nat} {Q : State → Prop}
variable {cc : ByteArray} {pc idx nC : Nat} {ls : Array Slot} {rest : List Value} {D : va_G} {A : Nat → Prop} {own : String} {q : Nat → Nat} {cI cZ cL : ClassId} {z w : va_W}
variable {f_classes f_objects f_count f_want f_compared f_open f_rowCount f_many f_seen f_fail f_level f_at f_self f_brackets f_values f_waiting : Int32}
variable {a_parent a_kindOf a_size a_root a_slotKind a_slot a_kept a_code a_number a_opened a_rowKind a_rowValue a_list a_from a_eAt a_whereAt a_source a_distinct a_keeps a_vKind a_v a_waits : Nat → Int32}
theorem km_retain (l1 : Int32) (ur : Int32 × (Nat → Int32) × (Nat → Int32)) (hu : sm_retain l1 f_objects a_root a_slotKind a_slot f_rowCount a_rowKind a_rowValue = some ur) (hx : p.tables.exec = Jvm.exec) (hb : c.code = cc) (hml : c.maxLocals = nC) (hts : ∀ x ∈ hq_tbl, x.before args s = true) (hown : s.vm.findClass own = some m.cls) (hK : va_K D hq_cl (hq_tys cI cZ cL) s) (hP : va_P D hq_cl (hm_w q cI cZ cL f_classes a_parent f_objects a_kindOf a_size a_root a_slotKind a_slot a_kept f_count a_code a_number f_want f_compared f_open a_opened f_rowCount a_rowKind a_rowValue f_many a_list f_seen f_fail f_level a_from a_eAt a_whereAt a_source a_distinct a_keeps f_at f_self f_brackets f_values a_vKind a_v f_waiting a_waits ++ z) H) (hD : va_D A (hm_w q cI cZ cL f_classes a_parent f_objects a_kindOf a_size a_root a_slotKind a_slot a_kept f_count a_code a_number f_want f_compared f_open a_opened f_rowCount a_rowKind a_rowValue f_many a_list f_seen f_fail f_level a_from a_eAt a_whereAt a_source a_distinct a_keeps f_at f_self f_brackets f_values a_vKind a_v f_waiting a_waits ++ z)) (hS : va_S A H0 H locs) (h1 : Cond.methodLink own idx ym_retain ∈ hq_tbl) (hR : 1 + 1 ≤ R.frames ∧ 8 + (5 + 11) + 28 ≤ R.locals) (hls : ls.size = nC) (hW : (rest.map fun v => v.category).sum ≤ 8) (hdg : decode cc pc = .ok (.invokevirtual idx, 3)) (hf : cells + 0 ≤ R.cells ∧ slots + 0 ≤ R.slots) (kk : ∀ (H1 : Heap) (locs1 : List Loc), va_P D hq_cl (hm_w q cI cZ cL f_classes a_parent f_objects a_kindOf a_size a_root a_slotKind a_slot a_kept f_count a_code a_number f_want f_compared f_open a_opened ur.1 ur.2.1 ur.2.2 f_many a_list f_seen f_fail f_level a_from a_eAt a_whereAt a_source a_distinct a_keeps f_at f_self f_brackets f_values a_vKind a_v f_waiting a_waits ++ z) H1 → va_D A (hm_w q cI cZ cL f_classes a_parent f_objects a_kindOf a_size a_root a_slotKind a_slot a_kept f_count a_code a_number f_want f_compared f_open a_opened ur.1 ur.2.1 ur.2.2 f_many a_list f_seen f_fail f_level a_from a_eAt a_whereAt a_source a_distinct a_keeps f_at f_self f_brackets f_values a_vKind a_v f_waiting a_waits ++ z) → va_S A H0 H1 locs1 → W p l e R s m args below meth c H1 locs1 cells slots Q (F0 m (pc + 3) ls (rest))) : W p l e R s m args below meth c H locs cells slots Q (F0 m pc ls (.int l1 :: .ref (q 0) :: rest)) :=
  hq_callV (q0 := 0) hx hb hml hown hts hK hP hD hS (cm_retain l1 ur hu) rfl rfl h1 wi_452 wi_453 wi_338 wi_454 1 rfl (by decide +kernel) ⟨rfl, rfl⟩ hR hls rfl hW hdg hf kk
end
theorem dm_single_0 : decode bm_single 0 = .ok (.iload_n 1, 1) := by decide +kernel
theorem dm_single_1 : decode bm_single 1 = .ok (.istore_n 2, 1) := by decide +kernel
theorem dm_single_2 : decode bm_single 2 = .ok (.iload_n 1, 1) := by decide +kernel
theorem dm_single_3 : decode bm_single 3 = .ok (.istore_n 3, 1) := by decide +kernel
theorem dm_single_4 : decode bm_single 4 = .ok (.iload_n 3, 1) := by decide +kernel
theorem dm_single_5 : decode bm_single 5 = .ok (.aload_n 0, 1) := by decide +kernel
theorem dm_single_6 : decode bm_single 6 = .ok (.getfield 149, 3) := by decide +kernel
theorem dm_single_9 : decode bm_single 9 = .ok (.if_icmp .ge 108, 3) := by decide +kernel
theorem dm_single_12 : decode bm_single 12 = .ok (.iconst 1, 1) := by decide +kernel
theorem dm_single_13 : decode bm_single 13 = .ok (.istore 4, 2) := by decide +kernel
theorem dm_single_15 : decode bm_single 15 = .ok (.iload_n 1, 1) := by decide +kernel
theorem dm_single_16 : decode bm_single 16 = .ok (.istore 5, 2) := by decide +kernel
theorem dm_single_18 : decode bm_single 18 = .ok (.iload 5, 2) := by decide +kernel
theorem dm_single_20 : decode bm_single 20 = .ok (.iload_n 2, 1) := by decide +kernel
theorem dm_single_21 : decode bm_single 21 = .ok (.if_icmp .ge 53, 3) := by decide +kernel
theorem dm_single_24 : decode bm_single 24 = .ok (.iload 4, 2) := by decide +kernel
theorem dm_single_26 : decode bm_single 26 = .ok (.ifCond .eq 39, 3) := by decide +kernel
theorem dm_single_29 : decode bm_single 29 = .ok (.aload_n 0, 1) := by decide +kernel
theorem dm_single_30 : decode bm_single 30 = .ok (.getfield 41, 3) := by decide +kernel
theorem dm_single_33 : decode bm_single 33 = .ok (.iload 5, 2) := by decide +kernel
theorem dm_single_35 : decode bm_single 35 = .ok (.iaload, 1) := by decide +kernel
theorem dm_single_36 : decode bm_single 36 = .ok (.aload_n 0, 1) := by decide +kernel
theorem dm_single_37 : decode bm_single 37 = .ok (.getfield 41, 3) := by decide +kernel
theorem dm_single_40 : decode bm_single 40 = .ok (.iload_n 3, 1) := by decide +kernel
theorem dm_single_41 : decode bm_single 41 = .ok (.iaload, 1) := by decide +kernel
theorem dm_single_42 : decode bm_single 42 = .ok (.if_icmp .ne 19, 3) := by decide +kernel
theorem dm_single_45 : decode bm_single 45 = .ok (.aload_n 0, 1) := by decide +kernel
theorem dm_single_46 : decode bm_single 46 = .ok (.getfield 44, 3) := by decide +kernel
theorem dm_single_49 : decode bm_single 49 = .ok (.iload 5, 2) := by decide +kernel
theorem dm_single_51 : decode bm_single 51 = .ok (.iaload, 1) := by decide +kernel
theorem dm_single_52 : decode bm_single 52 = .ok (.aload_n 0, 1) := by decide +kernel
theorem dm_single_53 : decode bm_single 53 = .ok (.getfield 44, 3) := by decide +kernel
theorem dm_single_56 : decode bm_single 56 = .ok (.iload_n 3, 1) := by decide +kernel
theorem dm_single_57 : decode bm_single 57 = .ok (.iaload, 1) := by decide +kernel
theorem dm_single_58 : decode bm_single 58 = .ok (.if_icmp .eq 7, 3) := by decide +kernel
theorem dm_single_61 : decode bm_single 61 = .ok (.iconst 1, 1) := by decide +kernel
theorem dm_single_62 : decode bm_single 62 = .ok (.goto 4, 3) := by decide +kernel
theorem dm_single_65 : decode bm_single 65 = .ok (.iconst 0, 1) := by decide +kernel
theorem dm_single_66 : decode bm_single 66 = .ok (.istore 4, 2) := by decide +kernel
theorem dm_single_68 : decode bm_single 68 = .ok (.iinc 5 1, 3) := by decide +kernel
theorem dm_single_71 : decode bm_single 71 = .ok (.goto (-53), 3) := by decide +kernel
theorem dm_single_74 : decode bm_single 74 = .ok (.aload_n 0, 1) := by decide +kernel
theorem dm_single_75 : decode bm_single 75 = .ok (.getfield 41, 3) := by decide +kernel
theorem dm_single_78 : decode bm_single 78 = .ok (.iload_n 2, 1) := by decide +kernel
theorem dm_single_79 : decode bm_single 79 = .ok (.aload_n 0, 1) := by decide +kernel
theorem dm_single_80 : decode bm_single 80 = .ok (.getfield 41, 3) := by decide +kernel
theorem dm_single_83 : decode bm_single 83 = .ok (.iload_n 3, 1) := by decide +kernel
theorem dm_single_84 : decode bm_single 84 = .ok (.iaload, 1) := by decide +kernel
theorem dm_single_85 : decode bm_single 85 = .ok (.iastore, 1) := by decide +kernel
theorem dm_single_86 : decode bm_single 86 = .ok (.aload_n 0, 1) := by decide +kernel
theorem dm_single_87 : decode bm_single 87 = .ok (.getfield 44, 3) := by decide +kernel
theorem dm_single_90 : decode bm_single 90 = .ok (.iload_n 2, 1) := by decide +kernel
theorem dm_single_91 : decode bm_single 91 = .ok (.aload_n 0, 1) := by decide +kernel
theorem dm_single_92 : decode bm_single 92 = .ok (.getfield 44, 3) := by decide +kernel
theorem dm_single_95 : decode bm_single 95 = .ok (.iload_n 3, 1) := by decide +kernel
theorem dm_single_96 : decode bm_single 96 = .ok (.iaload, 1) := by decide +kernel
theorem dm_single_97 : decode bm_single 97 = .ok (.iastore, 1) := by decide +kernel
theorem dm_single_98 : decode bm_single 98 = .ok (.iload 4, 2) := by decide +kernel
theorem dm_single_100 : decode bm_single 100 = .ok (.ifCond .eq 9, 3) := by decide +kernel
theorem dm_single_103 : decode bm_single 103 = .ok (.iload_n 2, 1) := by decide +kernel
theorem dm_single_104 : decode bm_single 104 = .ok (.iconst 1, 1) := by decide +kernel
theorem dm_single_105 : decode bm_single 105 = .ok (.iadd, 1) := by decide +kernel
theorem dm_single_106 : decode bm_single 106 = .ok (.goto 4, 3) := by decide +kernel
theorem dm_single_109 : decode bm_single 109 = .ok (.iload_n 2, 1) := by decide +kernel
theorem dm_single_110 : decode bm_single 110 = .ok (.istore_n 2, 1) := by decide +kernel
theorem dm_single_111 : decode bm_single 111 = .ok (.iinc 3 1, 3) := by decide +kernel
theorem dm_single_114 : decode bm_single 114 = .ok (.goto (-110), 3) := by decide +kernel
theorem dm_single_117 : decode bm_single 117 = .ok (.aload_n 0, 1) := by decide +kernel
theorem dm_single_118 : decode bm_single 118 = .ok (.iload_n 2, 1) := by decide +kernel
theorem dm_single_119 : decode bm_single 119 = .ok (.putfield 149, 3) := by decide +kernel
theorem dm_single_122 : decode bm_single 122 = .ok (.return_, 1) := by decide +kernel
section
variable {l : Launch} {D : va_G} {A : Nat → Prop} {z w : va_W} {q : Nat → Nat} {cI cZ cL : ClassId}
variable {f_classes f_objects f_count f_want f_compared f_open f_rowCount f_many f_seen f_fail f_level f_at f_self f_brackets f_values f_waiting : Int32}
variable {a_parent a_kindOf a_size a_root a_slotKind a_slot a_kept a_code a_number a_opened a_rowKind a_rowValue a_list a_from a_eAt a_whereAt a_source a_distinct a_keeps a_vKind a_v a_waits : Nat → Int32}
set_option maxHeartbeats 4000000 in
set_option maxRecDepth 100000 in
theorem cm_single (l1 : Int32) (ur : Int32 × (Nat → Int32) × (Nat → Int32)) (h : sm_single l1 f_rowCount a_rowKind a_rowValue = some ur) : hq_Ct l ym_single bm_single 6 none { frames := 0, cells := 0, slots := 0, locals := 0 } D (hq_tys cI cZ cL) A [.ref (q 0), .int l1] (hm_w q cI cZ cL f_classes a_parent f_objects a_kindOf a_size a_root a_slotKind a_slot a_kept f_count a_code a_number f_want f_compared f_open a_opened f_rowCount a_rowKind a_rowValue f_many a_list f_seen f_fail f_level a_from a_eAt a_whereAt a_source a_distinct a_keeps f_at f_self f_brackets f_values a_vKind a_v f_waiting a_waits ++ z) (hm_w q cI cZ cL f_classes a_parent f_objects a_kindOf a_size a_root a_slotKind a_slot a_kept f_count a_code a_number f_want f_compared f_open a_opened ur.1 ur.2.1 ur.2.2 f_many a_list f_seen f_fail f_level a_from a_eAt a_whereAt a_source a_distinct a_keeps f_at f_self f_brackets f_values a_vKind a_v f_waiting a_waits ++ z) none 0 0 := by
  refine hq_of (by decide) ?_ (Nat.le_of_ble_eq_true rfl)
  intro p e s m below meth c R args Q hRm hQ hx hb hr hml hts hown hlocks hnm hP hK hD ls hl hS
  have hl : lv_has ls 6 [(0, .ref (q 0)), (1, .int l1)] := hl
  have hown : s.vm.findClass "HeapQueriesModel" = some m.cls := hown
  unfold sm_single at h
  have L18 : ∀ (n : Nat) (l1 : Int32) (l2 : Int32) (l3 : Int32) (l4 : Int32) (l5 : Int32) {f_rowCount : Int32} {a_rowKind : Nat → Int32} {a_rowValue : Nat → Int32} {ls : Array Slot} {H : Heap} {locs : List Loc}, lv_has ls 6 [(0, .ref (q 0)), (1, .int l1), (2, .int l2), (3, .int l3), (4, .int l4), (5, .int l5)] → va_P D hq_cl (hm_w q cI cZ cL f_classes a_parent f_objects a_kindOf a_size a_root a_slotKind a_slot a_kept f_count a_code a_number f_want f_compared f_open a_opened f_rowCount a_rowKind a_rowValue f_many a_list f_seen f_fail f_level a_from a_eAt a_whereAt a_source a_distinct a_keeps f_at f_self f_brackets f_values a_vKind a_v f_waiting a_waits ++ z) H → va_D A (hm_w q cI cZ cL f_classes a_parent f_objects a_kindOf a_size a_root a_slotKind a_slot a_kept f_count a_code a_number f_want f_compared f_open a_opened f_rowCount a_rowKind a_rowValue f_many a_list f_seen f_fail f_level a_from a_eAt a_whereAt a_source a_distinct a_keeps f_at f_self f_brackets f_values a_vKind a_v f_waiting a_waits ++ z) → va_S A s.heap H locs → ∀ u18, sm_single_L18 n l1 l2 l3 l4 l5 a_rowKind a_rowValue = some u18 → (∀ (ls : Array Slot) (H : Heap) (locs : List Loc), lv_has ls 6 [(0, .ref (q 0)), (1, .int l1), (2, .int l2), (3, .int l3), (4, .int u18)] → va_P D hq_cl (hm_w q cI cZ cL f_classes a_parent f_objects a_kindOf a_size a_root a_slotKind a_slot a_kept f_count a_code a_number f_want f_compared f_open a_opened f_rowCount a_rowKind a_rowValue f_many a_list f_seen f_fail f_level a_from a_eAt a_whereAt a_source a_distinct a_keeps f_at f_self f_brackets f_values a_vKind a_v f_waiting a_waits ++ z) H → va_D A (hm_w q cI cZ cL f_classes a_parent f_objects a_kindOf a_size a_root a_slotKind a_slot a_kept f_count a_code a_number f_want f_compared f_open a_opened f_rowCount a_rowKind a_rowValue f_many a_list f_seen f_fail f_level a_from a_eAt a_whereAt a_source a_distinct a_keeps f_at f_self f_brackets f_values a_vKind a_v f_waiting a_waits ++ z) → va_S A s.heap H locs → W p l e R s m args below meth c H locs 0 0 Q (F0 m 74 ls [])) → W p l e R s m args below meth c H locs 0 0 Q (F0 m 18 ls []) := by
    intro n
    induction n with
    | zero =>
      intro l1 l2 l3 l4 l5 f_rowCount a_rowKind a_rowValue ls H locs hl hP hD hS u18 h kx
      have h : (none : Option (Int32)) = some u18 := h
      cases h
    | succ n ih =>
      intro l1 l2 l3 l4 l5 f_rowCount a_rowKind a_rowValue ls H locs hl hP hD hS u18 h kx
      have h : sm_single_L18_B (sm_single_L18 n) l1 l2 l3 l4 l5 a_rowKind a_rowValue = some u18 := h
      unfold sm_single_L18_B at h
      refine lv_iload hx hb dm_single_18 (lv_at hl 5 rfl) ?_
      refine lv_iload_n hx hb dm_single_20 rfl (lv_at hl 2 rfl) ?_
      refine lv_icmp_ge (tgt := 74) hx hb dm_single_21 (by decide) (fun hc => ?_) (fun hc => ?_)
      · have h := (if_pos hc).symm.trans h
        have h := Option.some.inj h
        subst h
        exact kx ls H locs (lv_sub hl [0, 1, 2, 3, 4] rfl) hP hD hS
      · have h := (if_neg hc).symm.trans h
        refine lv_iload hx hb dm_single_24 (lv_at hl 4 rfl) ?_
        refine lv_if_eq (tgt := 65) hx hb dm_single_26 (by decide) (fun hc => ?_) (fun hc => ?_)
        · have h := (if_pos hc).symm.trans h
          refine lv_iconst (v := 0) hx hb dm_single_65 (by decide) ?_
          refine lv_istore (lv' := [(4, .int 0), (0, .ref (q 0)), (1, .int l1), (2, .int l2), (3, .int l3), (5, .int l5)]) hx hb dm_single_66 hl (by decide) rfl (fun ls hl => ?_)
          refine lv_iinc (k := 5) (v := l5 + 1) (lv' := [(5, .int (l5 + 1)), (4, .int 0), (0, .ref (q 0)), (1, .int l1), (2, .int l2), (3, .int l3)]) hx hb dm_single_68 hl rfl (congrArg (fun j => l5 + j) (by decide)) (by decide) rfl (fun ls hl => ?_)
          refine lv_goto (tgt := 18) hx hb dm_single_71 (by decide) ?_
          exact ih l1 l2 l3 0 (l5 + 1) (lv_sub hl [2, 3, 4, 5, 1, 0] rfl) hP hD hS u18 h kx
        · have h := (if_neg hc).symm.trans h
          refine lv_aload_n hx hb dm_single_29 rfl (lv_at hl 0 rfl) ?_
          refine gm_0_rowKind hx hb hts hown hK hP wi_101 dm_single_30 ?_
          refine lv_iload hx hb dm_single_33 (lv_at hl 5 rfl) ?_
          obtain ⟨hin, h⟩ := hq_idx h
          refine am_11 hx hb hK hP hin dm_single_35 ?_
          refine lv_aload_n hx hb dm_single_36 rfl (lv_at hl 0 rfl) ?_
          refine gm_0_rowKind hx hb hts hown hK hP wi_101 dm_single_37 ?_
          refine lv_iload_n hx hb dm_single_40 rfl (lv_at hl 3 rfl) ?_
          obtain ⟨hin, h⟩ := hq_idx h
          refine am_11 hx hb hK hP hin dm_single_41 ?_
          refine lv_icmp_ne (tgt := 61) hx hb dm_single_42 (by decide) (fun hc => ?_) (fun hc => ?_)
          · have h := (if_neg hc).symm.trans h
            refine lv_iconst (v := 1) hx hb dm_single_61 (by decide) ?_
            refine lv_goto (tgt := 66) hx hb dm_single_62 (by decide) ?_
            refine lv_istore (lv' := [(4, .int 1), (0, .ref (q 0)), (1, .int l1), (2, .int l2), (3, .int l3), (5, .int l5)]) hx hb dm_single_66 hl (by decide) rfl (fun ls hl => ?_)
            refine lv_iinc (k := 5) (v := l5 + 1) (lv' := [(5, .int (l5 + 1)), (4, .int 1), (0, .ref (q 0)), (1, .int l1), (2, .int l2), (3, .int l3)]) hx hb dm_single_68 hl rfl (congrArg (fun j => l5 + j) (by decide)) (by decide) rfl (fun ls hl => ?_)
            refine lv_goto (tgt := 18) hx hb dm_single_71 (by decide) ?_
            exact ih l1 l2 l3 1 (l5 + 1) (lv_sub hl [2, 3, 4, 5, 1, 0] rfl) hP hD hS u18 h kx
          · have h := (if_pos hc).symm.trans h
            refine lv_aload_n hx hb dm_single_45 rfl (lv_at hl 0 rfl) ?_
            refine gm_0_rowValue hx hb hts hown hK hP wi_100 dm_single_46 ?_
            refine lv_iload hx hb dm_single_49 (lv_at hl 5 rfl) ?_
            obtain ⟨hin, h⟩ := hq_idx h
            refine am_12 hx hb hK hP hin dm_single_51 ?_
            refine lv_aload_n hx hb dm_single_52 rfl (lv_at hl 0 rfl) ?_
            refine gm_0_rowValue hx hb hts hown hK hP wi_100 dm_single_53 ?_
            refine lv_iload_n hx hb dm_single_56 rfl (lv_at hl 3 rfl) ?_
            obtain ⟨hin, h⟩ := hq_idx h
            refine am_12 hx hb hK hP hin dm_single_57 ?_
            refine lv_icmp_eq (tgt := 65) hx hb dm_single_58 (by decide) (fun hc => ?_) (fun hc => ?_)
            · have h := (if_pos hc).symm.trans h
              refine lv_iconst (v := 0) hx hb dm_single_65 (by decide) ?_
              refine lv_istore (lv' := [(4, .int 0), (0, .ref (q 0)), (1, .int l1), (2, .int l2), (3, .int l3), (5, .int l5)]) hx hb dm_single_66 hl (by decide) rfl (fun ls hl => ?_)
              refine lv_iinc (k := 5) (v := l5 + 1) (lv' := [(5, .int (l5 + 1)), (4, .int 0), (0, .ref (q 0)), (1, .int l1), (2, .int l2), (3, .int l3)]) hx hb dm_single_68 hl rfl (congrArg (fun j => l5 + j) (by decide)) (by decide) rfl (fun ls hl => ?_)
              refine lv_goto (tgt := 18) hx hb dm_single_71 (by decide) ?_
              exact ih l1 l2 l3 0 (l5 + 1) (lv_sub hl [2, 3, 4, 5, 1, 0] rfl) hP hD hS u18 h kx
            · have h := (if_neg hc).symm.trans h
              refine lv_iconst (v := 1) hx hb dm_single_61 (by decide) ?_
              refine lv_goto (tgt := 66) hx hb dm_single_62 (by decide) ?_
              refine lv_istore (lv' := [(4, .int 1), (0, .ref (q 0)), (1, .int l1), (2, .int l2), (3, .int l3), (5, .int l5)]) hx hb dm_single_66 hl (by decide) rfl (fun ls hl => ?_)
              refine lv_iinc (k := 5) (v := l5 + 1) (lv' := [(5, .int (l5 + 1)), (4, .int 1), (0, .ref (q 0)), (1, .int l1), (2, .int l2), (3, .int l3)]) hx hb dm_single_68 hl rfl (congrArg (fun j => l5 + j) (by decide)) (by decide) rfl (fun ls hl => ?_)
              refine lv_goto (tgt := 18) hx hb dm_single_71 (by decide) ?_
              exact ih l1 l2 l3 1 (l5 + 1) (lv_sub hl [2, 3, 4, 5, 1, 0] rfl) hP hD hS u18 h kx
  have L4 : ∀ (n : Nat) (l1 : Int32) (l2 : Int32) (l3 : Int32) {f_rowCount : Int32} {a_rowKind : Nat → Int32} {a_rowValue : Nat → Int32} {ls : Array Slot} {H : Heap} {locs : List Loc}, lv_has ls 6 [(0, .ref (q 0)), (1, .int l1), (2, .int l2), (3, .int l3)] → va_P D hq_cl (hm_w q cI cZ cL f_classes a_parent f_objects a_kindOf a_size a_root a_slotKind a_slot a_kept f_count a_code a_number f_want f_compared f_open a_opened f_rowCount a_rowKind a_rowValue f_many a_list f_seen f_fail f_level a_from a_eAt a_whereAt a_source a_distinct a_keeps f_at f_self f_brackets f_values a_vKind a_v f_waiting a_waits ++ z) H → va_D A (hm_w q cI cZ cL f_classes a_parent f_objects a_kindOf a_size a_root a_slotKind a_slot a_kept f_count a_code a_number f_want f_compared f_open a_opened f_rowCount a_rowKind a_rowValue f_many a_list f_seen f_fail f_level a_from a_eAt a_whereAt a_source a_distinct a_keeps f_at f_self f_brackets f_values a_vKind a_v f_waiting a_waits ++ z) → va_S A s.heap H locs → ∀ u4, sm_single_L4 n l1 l2 l3 f_rowCount a_rowKind a_rowValue = some u4 → (∀ (ls : Array Slot) (H : Heap) (locs : List Loc), lv_has ls 6 [(0, .ref (q 0)), (2, .int u4.1)] → va_P D hq_cl (hm_w q cI cZ cL f_classes a_parent f_objects a_kindOf a_size a_root a_slotKind a_slot a_kept f_count a_code a_number f_want f_compared f_open a_opened f_rowCount u4.2.1 u4.2.2 f_many a_list f_seen f_fail f_level a_from a_eAt a_whereAt a_source a_distinct a_keeps f_at f_self f_brackets f_values a_vKind a_v f_waiting a_waits ++ z) H → va_D A (hm_w q cI cZ cL f_classes a_parent f_objects a_kindOf a_size a_root a_slotKind a_slot a_kept f_count a_code a_number f_want f_compared f_open a_opened f_rowCount u4.2.1 u4.2.2 f_many a_list f_seen f_fail f_level a_from a_eAt a_whereAt a_source a_distinct a_keeps f_at f_self f_brackets f_values a_vKind a_v f_waiting a_waits ++ z) → va_S A s.heap H locs → W p l e R s m args below meth c H locs 0 0 Q (F0 m 117 ls [])) → W p l e R s m args below meth c H locs 0 0 Q (F0 m 4 ls []) := by
    intro n
    induction n with
    | zero =>
      intro l1 l2 l3 f_rowCount a_rowKind a_rowValue ls H locs hl hP hD hS u4 h kx
      have h : (none : Option (Int32 × (Nat → Int32) × (Nat → Int32))) = some u4 := h
      cases h
    | succ n ih =>
      intro l1 l2 l3 f_rowCount a_rowKind a_rowValue ls H locs hl hP hD hS u4 h kx
      have h : sm_single_L4_B (sm_single_L4 n) l1 l2 l3 f_rowCount a_rowKind a_rowValue = some u4 := h
      unfold sm_single_L4_B at h
      refine lv_iload_n hx hb dm_single_4 rfl (lv_at hl 3 rfl) ?_
      refine lv_aload_n hx hb dm_single_5 rfl (lv_at hl 0 rfl) ?_
      refine gm_0_rowCount hx hb hts hown hK hP wi_99 dm_single_6 ?_
      refine lv_icmp_ge (tgt := 117) hx hb dm_single_9 (by decide) (fun hc => ?_) (fun hc => ?_)
      · have h := (if_pos hc).symm.trans h
        have h := Option.some.inj h
        subst h
        exact kx ls H locs (lv_sub hl [0, 2] rfl) hP hD hS
      · have h := (if_neg hc).symm.trans h
        refine lv_iconst (v := 1) hx hb dm_single_12 (by decide) ?_
        refine lv_istore (lv' := [(4, .int 1), (0, .ref (q 0)), (1, .int l1), (2, .int l2), (3, .int l3)]) hx hb dm_single_13 hl (by decide) rfl (fun ls hl => ?_)
        refine lv_iload_n hx hb dm_single_15 rfl (lv_at hl 2 rfl) ?_
        refine lv_istore (lv' := [(5, .int l1), (4, .int 1), (0, .ref (q 0)), (1, .int l1), (2, .int l2), (3, .int l3)]) hx hb dm_single_16 hl (by decide) rfl (fun ls hl => ?_)
        obtain ⟨u18, h18, h⟩ := hq_bind h
        refine L18 kF l1 l2 l3 1 l1 (lv_sub hl [2, 3, 4, 5, 1, 0] rfl) hP hD hS u18 h18 (fun ls H locs hl hP hD hS => ?_)
        refine lv_aload_n hx hb dm_single_74 rfl (lv_at hl 0 rfl) ?_
        refine gm_0_rowKind hx hb hts hown hK hP wi_101 dm_single_75 ?_
        refine lv_iload_n hx hb dm_single_78 rfl (lv_at hl 2 rfl) ?_
        refine lv_aload_n hx hb dm_single_79 rfl (lv_at hl 0 rfl) ?_
        refine gm_0_rowKind hx hb hts hown hK hP wi_101 dm_single_80 ?_
        refine lv_iload_n hx hb dm_single_83 rfl (lv_at hl 3 rfl) ?_
        obtain ⟨hin, h⟩ := hq_idx h
        refine am_11 hx hb hK hP hin dm_single_84 ?_
        obtain ⟨hin, h⟩ := hq_idx h
        refine tm_11 hx hb hK hP hD hS hin dm_single_85 (fun H locs hP hD hS => ?_)
        refine lv_aload_n hx hb dm_single_86 rfl (lv_at hl 0 rfl) ?_
        refine gm_0_rowValue hx hb hts hown hK hP wi_100 dm_single_87 ?_
        refine lv_iload_n hx hb dm_single_90 rfl (lv_at hl 2 rfl) ?_
        refine lv_aload_n hx hb dm_single_91 rfl (lv_at hl 0 rfl) ?_
        refine gm_0_rowValue hx hb hts hown hK hP wi_100 dm_single_92 ?_
        refine lv_iload_n hx hb dm_single_95 rfl (lv_at hl 3 rfl) ?_
        obtain ⟨hin, h⟩ := hq_idx h
        refine am_12 hx hb hK hP hin dm_single_96 ?_
        obtain ⟨hin, h⟩ := hq_idx h
        refine tm_12 hx hb hK hP hD hS hin dm_single_97 (fun H locs hP hD hS => ?_)
        refine lv_iload hx hb dm_single_98 (lv_at hl 4 rfl) ?_
        refine lv_if_eq (tgt := 109) hx hb dm_single_100 (by decide) (fun hc => ?_) (fun hc => ?_)
        · have h := (if_pos hc).symm.trans h
          refine lv_iload_n hx hb dm_single_109 rfl (lv_at hl 2 rfl) ?_
          refine lv_istore_n (lv' := [(2, .int l2), (0, .ref (q 0)), (1, .int l1), (3, .int l3), (4, .int u18)]) hx hb dm_single_110 rfl hl (by decide) rfl (fun ls hl => ?_)
          refine lv_iinc (k := 3) (v := l3 + 1) (lv' := [(3, .int (l3 + 1)), (2, .int l2), (0, .ref (q 0)), (1, .int l1), (4, .int u18)]) hx hb dm_single_111 hl rfl (congrArg (fun j => l3 + j) (by decide)) (by decide) rfl (fun ls hl => ?_)
          refine lv_goto (tgt := 4) hx hb dm_single_114 (by decide) ?_
          exact ih l1 l2 (l3 + 1) (lv_sub hl [2, 3, 1, 0] rfl) hP hD hS u4 h kx
        · have h := (if_neg hc).symm.trans h
          refine lv_iload_n hx hb dm_single_103 rfl (lv_at hl 2 rfl) ?_
          refine lv_iconst (v := 1) hx hb dm_single_104 (by decide) ?_
          refine lv_iadd hx hb dm_single_105 ?_
          refine lv_goto (tgt := 110) hx hb dm_single_106 (by decide) ?_
          refine lv_istore_n (lv' := [(2, .int (l2 + 1)), (0, .ref (q 0)), (1, .int l1), (3, .int l3), (4, .int u18)]) hx hb dm_single_110 rfl hl (by decide) rfl (fun ls hl => ?_)
          refine lv_iinc (k := 3) (v := l3 + 1) (lv' := [(3, .int (l3 + 1)), (2, .int (l2 + 1)), (0, .ref (q 0)), (1, .int l1), (4, .int u18)]) hx hb dm_single_111 hl rfl (congrArg (fun j => l3 + j) (by decide)) (by decide) rfl (fun ls hl => ?_)
          refine lv_goto (tgt := 4) hx hb dm_single_114 (by decide) ?_
          exact ih l1 (l2 + 1) (l3 + 1) (lv_sub hl [2, 3, 1, 0] rfl) hP hD hS u4 h kx
  refine lv_iload_n hx hb dm_single_0 rfl (lv_at hl 1 rfl) ?_
  refine lv_istore_n (lv' := [(2, .int l1), (0, .ref (q 0)), (1, .int l1)]) hx hb dm_single_1 rfl hl (by decide) rfl (fun ls hl => ?_)
  refine lv_iload_n hx hb dm_single_2 rfl (lv_at hl 2 rfl) ?_
  refine lv_istore_n (lv' := [(3, .int l1), (2, .int l1), (0, .ref (q 0)), (1, .int l1)]) hx hb dm_single_3 rfl hl (by decide) rfl (fun ls hl => ?_)
  obtain ⟨u4, h4, h⟩ := hq_bind h
  refine L4 kF l1 l1 l1 (lv_sub hl [2, 3, 1, 0] rfl) hP hD hS u4 h4 (fun ls H locs hl hP hD hS => ?_)
  refine lv_aload_n hx hb dm_single_117 rfl (lv_at hl 0 rfl) ?_
  refine lv_iload_n hx hb dm_single_118 rfl (lv_at hl 1 rfl) ?_
  refine pm_0_rowCount hx hb hts hown hK hP hD hS wi_99 dm_single_119 (fun H locs hP hD hS => ?_)
  have h := Option.some.inj h
  exact hq_vret hx hb hr hlocks hQ hK hP hD hS rfl (by rw [← h]) dm_single_122
end
section
variable {p : Program} {l : Launch} {e : Env} {R : Room} {s : State} {m : MethodId} {args : Array Value} {below : List Frame} {meth : Method} {c : Code} {H H0 : Heap} {locs : List Loc} {cells slots : Nat} {Q : State → Prop}
variable {cc : ByteArray} {pc idx nC : Nat} {ls : Array Slot} {rest : List Value} {D : va_G} {A : Nat → Prop} {own : String} {q : Nat → Nat} {cI cZ cL : ClassId} {z w : va_W}
variable {f_classes f_objects f_count f_want f_compared f_open f_rowCount f_many f_seen f_fail f_level f_at f_self f_brackets f_values f_waiting : Int32}
variable {a_parent a_kindOf a_size a_root a_slotKind a_slot a_kept a_code a_number a_opened a_rowKind a_rowValue a_list a_from a_eAt a_whereAt a_source a_distinct a_keeps a_vKind a_v a_waits : Nat → Int32}
theorem km_single (l1 : Int32) (ur : Int32 × (Nat → Int32) × (Nat → Int32)) (hu : sm_single l1 f_rowCount a_rowKind a_rowValue = some ur) (hx : p.tables.exec = Jvm.exec) (hb : c.code = cc) (hml : c.maxLocals = nC) (hts : ∀ x ∈ hq_tbl, x.before args s = true) (hown : s.vm.findClass own = some m.cls) (hK : va_K D hq_cl (hq_tys cI cZ cL) s) (hP : va_P D hq_cl (hm_w q cI cZ cL f_classes a_parent f_objects a_kindOf a_size a_root a_slotKind a_slot a_kept f_count a_code a_number f_want f_compared f_open a_opened f_rowCount a_rowKind a_rowValue f_many a_list f_seen f_fail f_level a_from a_eAt a_whereAt a_source a_distinct a_keeps f_at f_self f_brackets f_values a_vKind a_v f_waiting a_waits ++ z) H) (hD : va_D A (hm_w q cI cZ cL f_classes a_parent f_objects a_kindOf a_size a_root a_slotKind a_slot a_kept f_count a_code a_number f_want f_compared f_open a_opened f_rowCount a_rowKind a_rowValue f_many a_list f_seen f_fail f_level a_from a_eAt a_whereAt a_source a_distinct a_keeps f_at f_self f_brackets f_values a_vKind a_v f_waiting a_waits ++ z)) (hS : va_S A H0 H locs) (h1 : Cond.methodLink own idx ym_single ∈ hq_tbl) (hR : 0 + 1 ≤ R.frames ∧ 8 + (6 + 11) + 0 ≤ R.locals) (hls : ls.size = nC) (hW : (rest.map fun v => v.category).sum ≤ 8) (hdg : decode cc pc = .ok (.invokevirtual idx, 3)) (hf : cells + 0 ≤ R.cells ∧ slots + 0 ≤ R.slots) (kk : ∀ (H1 : Heap) (locs1 : List Loc), va_P D hq_cl (hm_w q cI cZ cL f_classes a_parent f_objects a_kindOf a_size a_root a_slotKind a_slot a_kept f_count a_code a_number f_want f_compared f_open a_opened ur.1 ur.2.1 ur.2.2 f_many a_list f_seen f_fail f_level a_from a_eAt a_whereAt a_source a_distinct a_keeps f_at f_self f_brackets f_values a_vKind a_v f_waiting a_waits ++ z) H1 → va_D A (hm_w q cI cZ cL f_classes a_parent f_objects a_kindOf a_size a_root a_slotKind a_slot a_kept f_count a_code a_number f_want f_compared f_open a_opened ur.1 ur.2.1 ur.2.2 f_many a_list f_seen f_fail f_level a_from a_eAt a_whereAt a_source a_distinct a_keeps f_at f_self f_brackets f_values a_vKind a_v f_waiting a_waits ++ z) → va_S A H0 H1 locs1 → W p l e R s m args below meth c H1 locs1 cells slots Q (F0 m (pc + 3) ls (rest))) : W p l e R s m args below meth c H locs cells slots Q (F0 m pc ls (.int l1 :: .ref (q 0) :: rest)) :=
  hq_callV (q0 := 0) hx hb hml hown hts hK hP hD hS (cm_single l1 ur hu) rfl rfl h1 wi_455 wi_456 wi_338 wi_457 1 rfl (by decide +kernel) ⟨rfl, rfl⟩ hR hls rfl hW hdg hf kk
end
theorem dm_select_0 : decode bm_select 0 = .ok (.aload_n 0, 1) := by decide +kernel
theorem dm_select_1 : decode bm_select 1 = .ok (.invokevirtual 171, 3) := by decide +kernel
theorem dm_select_4 : decode bm_select 4 = .ok (.aload_n 0, 1) := by decide +kernel
theorem dm_select_5 : decode bm_select 5 = .ok (.getfield 149, 3) := by decide +kernel
theorem dm_select_8 : decode bm_select 8 = .ok (.istore_n 1, 1) := by decide +kernel
theorem dm_select_9 : decode bm_select 9 = .ok (.iconst 0, 1) := by decide +kernel
theorem dm_select_10 : decode bm_select 10 = .ok (.istore_n 2, 1) := by decide +kernel
theorem dm_select_11 : decode bm_select 11 = .ok (.iload_n 2, 1) := by decide +kernel
theorem dm_select_12 : decode bm_select 12 = .ok (.aload_n 0, 1) := by decide +kernel
theorem dm_select_13 : decode bm_select 13 = .ok (.getfield 165, 3) := by decide +kernel
theorem dm_select_16 : decode bm_select 16 = .ok (.if_icmp .ge 26, 3) := by decide +kernel
theorem dm_select_19 : decode bm_select 19 = .ok (.aload_n 0, 1) := by decide +kernel
theorem dm_select_20 : decode bm_select 20 = .ok (.getfield 143, 3) := by decide +kernel
theorem dm_select_23 : decode bm_select 23 = .ok (.ifCond .ne 19, 3) := by decide +kernel
theorem dm_select_26 : decode bm_select 26 = .ok (.aload_n 0, 1) := by decide +kernel
theorem dm_select_27 : decode bm_select 27 = .ok (.aload_n 0, 1) := by decide +kernel
theorem dm_select_28 : decode bm_select 28 = .ok (.getfield 47, 3) := by decide +kernel
theorem dm_select_31 : decode bm_select 31 = .ok (.iload_n 2, 1) := by decide +kernel
theorem dm_select_32 : decode bm_select 32 = .ok (.iaload, 1) := by decide +kernel
theorem dm_select_33 : decode bm_select 33 = .ok (.invokevirtual 174, 3) := by decide +kernel
theorem dm_select_36 : decode bm_select 36 = .ok (.iinc 2 1, 3) := by decide +kernel
theorem dm_select_39 : decode bm_select 39 = .ok (.goto (-28), 3) := by decide +kernel
theorem dm_select_42 : decode bm_select 42 = .ok (.aload_n 0, 1) := by decide +kernel
theorem dm_select_43 : decode bm_select 43 = .ok (.getfield 143, 3) := by decide +kernel
theorem dm_select_46 : decode bm_select 46 = .ok (.ifCond .ne 28, 3) := by decide +kernel
theorem dm_select_49 : decode bm_select 49 = .ok (.aload_n 0, 1) := by decide +kernel
theorem dm_select_50 : decode bm_select 50 = .ok (.getfield 65, 3) := by decide +kernel
theorem dm_select_53 : decode bm_select 53 = .ok (.aload_n 0, 1) := by decide +kernel
theorem dm_select_54 : decode bm_select 54 = .ok (.getfield 152, 3) := by decide +kernel
theorem dm_select_57 : decode bm_select 57 = .ok (.baload, 1) := by decide +kernel
theorem dm_select_58 : decode bm_select 58 = .ok (.ifCond .eq 16, 3) := by decide +kernel
theorem dm_select_61 : decode bm_select 61 = .ok (.aload_n 0, 1) := by decide +kernel
theorem dm_select_62 : decode bm_select 62 = .ok (.iload_n 1, 1) := by decide +kernel
theorem dm_select_63 : decode bm_select 63 = .ok (.invokevirtual 162, 3) := by decide +kernel
theorem dm_select_66 : decode bm_select 66 = .ok (.aload_n 0, 1) := by decide +kernel
theorem dm_select_67 : decode bm_select 67 = .ok (.iload_n 1, 1) := by decide +kernel
theorem dm_select_68 : decode bm_select 68 = .ok (.invokevirtual 177, 3) := by decide +kernel
theorem dm_select_71 : decode bm_select 71 = .ok (.goto 27, 3) := by decide +kernel
theorem dm_select_74 : decode bm_select 74 = .ok (.aload_n 0, 1) := by decide +kernel
theorem dm_select_75 : decode bm_select 75 = .ok (.getfield 143, 3) := by decide +kernel
theorem dm_select_78 : decode bm_select 78 = .ok (.ifCond .ne 20, 3) := by decide +kernel
theorem dm_select_81 : decode bm_select 81 = .ok (.aload_n 0, 1) := by decide +kernel
theorem dm_select_82 : decode bm_select 82 = .ok (.getfield 62, 3) := by decide +kernel
theorem dm_select_85 : decode bm_select 85 = .ok (.aload_n 0, 1) := by decide +kernel
theorem dm_select_86 : decode bm_select 86 = .ok (.getfield 152, 3) := by decide +kernel
theorem dm_select_89 : decode bm_select 89 = .ok (.baload, 1) := by decide +kernel
theorem dm_select_90 : decode bm_select 90 = .ok (.ifCond .eq 8, 3) := by decide +kernel
theorem dm_select_93 : decode bm_select 93 = .ok (.aload_n 0, 1) := by decide +kernel
theorem dm_select_94 : decode bm_select 94 = .ok (.iload_n 1, 1) := by decide +kernel
theorem dm_select_95 : decode bm_select 95 = .ok (.invokevirtual 180, 3) := by decide +kernel
theorem dm_select_98 : decode bm_select 98 = .ok (.return_, 1) := by decide +kernel
section
variable {l : Launch} {D : va_G} {A : Nat → Prop} {z w : va_W} {q : Nat → Nat} {cI cZ cL : ClassId}
variable {f_classes f_objects f_count f_want f_compared f_open f_rowCount f_many f_seen f_fail f_level f_at f_self f_brackets f_values f_waiting : Int32}
variable {a_parent a_kindOf a_size a_root a_slotKind a_slot a_kept a_code a_number a_opened a_rowKind a_rowValue a_list a_from a_eAt a_whereAt a_source a_distinct a_keeps a_vKind a_v a_waits : Nat → Int32}
set_option maxHeartbeats 4000000 in
set_option maxRecDepth 100000 in
theorem cm_select  (ur : Int32 × (Nat → Int32) × (Nat → Int32) × Int32 × (Nat → Int32) × Int32 × Int32 × Int32 × Int32 × Int32 × Int32 × (Nat → Int32) × (Nat → Int32) × Int32 × (Nat → Int32)) (h : sm_select a_parent f_objects a_kindOf a_size a_root a_slotKind a_slot a_kept f_count a_code a_number f_rowCount a_rowKind a_rowValue f_many a_list f_seen f_fail f_level a_from a_eAt a_whereAt a_source a_distinct a_keeps f_at f_self f_brackets f_values a_vKind a_v f_waiting a_waits = some ur) : hq_Ct l ym_select bm_select 3 none { frames := 7, cells := 0, slots := 0, locals := 160 } D (hq_tys cI cZ cL) A [.ref (q 0)] (hm_w q cI cZ cL f_classes a_parent f_objects a_kindOf a_size a_root a_slotKind a_slot a_kept f_count a_code a_number f_want f_compared f_open a_opened f_rowCount a_rowKind a_rowValue f_many a_list f_seen f_fail f_level a_from a_eAt a_whereAt a_source a_distinct a_keeps f_at f_self f_brackets f_values a_vKind a_v f_waiting a_waits ++ z) (hm_w q cI cZ cL f_classes a_parent f_objects a_kindOf a_size a_root a_slotKind a_slot a_kept f_count a_code a_number f_want f_compared f_open a_opened ur.1 ur.2.1 ur.2.2.1 ur.2.2.2.1 ur.2.2.2.2.1 ur.2.2.2.2.2.1 ur.2.2.2.2.2.2.1 f_level a_from a_eAt a_whereAt a_source a_distinct a_keeps ur.2.2.2.2.2.2.2.1 ur.2.2.2.2.2.2.2.2.1 ur.2.2.2.2.2.2.2.2.2.1 ur.2.2.2.2.2.2.2.2.2.2.1 ur.2.2.2.2.2.2.2.2.2.2.2.1 ur.2.2.2.2.2.2.2.2.2.2.2.2.1 ur.2.2.2.2.2.2.2.2.2.2.2.2.2.1 ur.2.2.2.2.2.2.2.2.2.2.2.2.2.2 ++ z) none 0 0 := by
  refine hq_of (by decide) ?_ (Nat.le_of_ble_eq_true rfl)
  intro p e s m below meth c R args Q hRm hQ hx hb hr hml hts hown hlocks hnm hP hK hD ls hl hS
  have hl : lv_has ls 3 [(0, .ref (q 0))] := hl
  have hown : s.vm.findClass "HeapQueriesModel" = some m.cls := hown
  unfold sm_select at h
  have J74 : ∀ (l1 : Int32) {f_rowCount : Int32} {a_rowKind : Nat → Int32} {a_rowValue : Nat → Int32} {f_many : Int32} {a_list : Nat → Int32} {f_seen : Int32} {f_fail : Int32} {f_at : Int32} {f_self : Int32} {f_brackets : Int32} {f_values : Int32} {a_vKind : Nat → Int32} {a_v : Nat → Int32} {f_waiting : Int32} {a_waits : Nat → Int32} {ls : Array Slot} {H : Heap} {locs : List Loc}, lv_has ls 3 [(0, .ref (q 0)), (1, .int l1)] → va_P D hq_cl (hm_w q cI cZ cL f_classes a_parent f_objects a_kindOf a_size a_root a_slotKind a_slot a_kept f_count a_code a_number f_want f_compared f_open a_opened f_rowCount a_rowKind a_rowValue f_many a_list f_seen f_fail f_level a_from a_eAt a_whereAt a_source a_distinct a_keeps f_at f_self f_brackets f_values a_vKind a_v f_waiting a_waits ++ z) H → va_D A (hm_w q cI cZ cL f_classes a_parent f_objects a_kindOf a_size a_root a_slotKind a_slot a_kept f_count a_code a_number f_want f_compared f_open a_opened f_rowCount a_rowKind a_rowValue f_many a_list f_seen f_fail f_level a_from a_eAt a_whereAt a_source a_distinct a_keeps f_at f_self f_brackets f_values a_vKind a_v f_waiting a_waits ++ z) → va_S A s.heap H locs → sm_select_J74 l1 a_parent f_objects a_kindOf a_size a_root a_slotKind a_slot a_kept f_count a_code a_number f_rowCount a_rowKind a_rowValue f_many a_list f_seen f_fail f_level a_from a_eAt a_whereAt a_source a_distinct a_keeps f_at f_self f_brackets f_values a_vKind a_v f_waiting a_waits = some ur → W p l e R s m args below meth c H locs 0 0 Q (F0 m 74 ls []) := by
    intro l1 f_rowCount a_rowKind a_rowValue f_many a_list f_seen f_fail f_at f_self f_brackets f_values a_vKind a_v f_waiting a_waits ls H locs hl hP hD hS h
    unfold sm_select_J74 at h
    refine lv_aload_n hx hb dm_select_74 rfl (lv_at hl 0 rfl) ?_
    refine gm_0_fail hx hb hts hown hK hP wi_109 dm_select_75 ?_
    refine lv_if_ne (tgt := 98) hx hb dm_select_78 (by decide) (fun hc => ?_) (fun hc => ?_)
    · have h := (if_neg hc).symm.trans h
      have h := Option.some.inj h
      exact hq_vret hx hb hr hlocks hQ hK hP hD hS rfl (by rw [← h]) dm_select_98
    · have h := (if_pos hc).symm.trans h
      refine lv_aload_n hx hb dm_select_81 rfl (lv_at hl 0 rfl) ?_
      refine gm_0_distinct hx hb hts hown hK hP wi_128 dm_select_82 ?_
      refine lv_aload_n hx hb dm_select_85 rfl (lv_at hl 0 rfl) ?_
      refine gm_0_level hx hb hts hown hK hP wi_103 dm_select_86 ?_
      obtain ⟨hin, h⟩ := hq_idx h
      refine am_18 hx hb hK hP hin dm_select_89 ?_
      refine lv_if_eq (tgt := 98) hx hb dm_select_90 (by decide) (fun hc => ?_) (fun hc => ?_)
      · have h := (if_pos hc).symm.trans h
        have h := Option.some.inj h
        exact hq_vret hx hb hr hlocks hQ hK hP hD hS rfl (by rw [← h]) dm_select_98
      · have h := (if_neg hc).symm.trans h
        refine lv_aload_n hx hb dm_select_93 rfl (lv_at hl 0 rfl) ?_
        refine lv_iload_n hx hb dm_select_94 rfl (lv_at hl 1 rfl) ?_
        obtain ⟨v95, h95, h⟩ := hq_bind h
        refine km_single l1 v95 h95 hx hb hml hts hown hK hP hD hS wi_129 (by rw [hRm]; exact ⟨Nat.le_of_ble_eq_true rfl, Nat.le_of_ble_eq_true rfl⟩) hl.1 (Nat.le_of_ble_eq_true rfl) dm_select_95 ⟨Nat.zero_le _, Nat.zero_le _⟩ (fun H locs hP hD hS => ?_)
        have h := Option.some.inj h
        exact hq_vret hx hb hr hlocks hQ hK hP hD hS rfl (by rw [← h]) dm_select_98
  have J42 : ∀ (l1 : Int32) {f_rowCount : Int32} {a_rowKind : Nat → Int32} {a_rowValue : Nat → Int32} {f_many : Int32} {a_list : Nat → Int32} {f_seen : Int32} {f_fail : Int32} {f_at : Int32} {f_self : Int32} {f_brackets : Int32} {f_values : Int32} {a_vKind : Nat → Int32} {a_v : Nat → Int32} {f_waiting : Int32} {a_waits : Nat → Int32} {ls : Array Slot} {H : Heap} {locs : List Loc}, lv_has ls 3 [(0, .ref (q 0)), (1, .int l1)] → va_P D hq_cl (hm_w q cI cZ cL f_classes a_parent f_objects a_kindOf a_size a_root a_slotKind a_slot a_kept f_count a_code a_number f_want f_compared f_open a_opened f_rowCount a_rowKind a_rowValue f_many a_list f_seen f_fail f_level a_from a_eAt a_whereAt a_source a_distinct a_keeps f_at f_self f_brackets f_values a_vKind a_v f_waiting a_waits ++ z) H → va_D A (hm_w q cI cZ cL f_classes a_parent f_objects a_kindOf a_size a_root a_slotKind a_slot a_kept f_count a_code a_number f_want f_compared f_open a_opened f_rowCount a_rowKind a_rowValue f_many a_list f_seen f_fail f_level a_from a_eAt a_whereAt a_source a_distinct a_keeps f_at f_self f_brackets f_values a_vKind a_v f_waiting a_waits ++ z) → va_S A s.heap H locs → sm_select_J42 l1 a_parent f_objects a_kindOf a_size a_root a_slotKind a_slot a_kept f_count a_code a_number f_rowCount a_rowKind a_rowValue f_many a_list f_seen f_fail f_level a_from a_eAt a_whereAt a_source a_distinct a_keeps f_at f_self f_brackets f_values a_vKind a_v f_waiting a_waits = some ur → W p l e R s m args below meth c H locs 0 0 Q (F0 m 42 ls []) := by
    intro l1 f_rowCount a_rowKind a_rowValue f_many a_list f_seen f_fail f_at f_self f_brackets f_values a_vKind a_v f_waiting a_waits ls H locs hl hP hD hS h
    unfold sm_select_J42 at h
    refine lv_aload_n hx hb dm_select_42 rfl (lv_at hl 0 rfl) ?_
    refine gm_0_fail hx hb hts hown hK hP wi_109 dm_select_43 ?_
    refine lv_if_ne (tgt := 74) hx hb dm_select_46 (by decide) (fun hc => ?_) (fun hc => ?_)
    · have h := (if_neg hc).symm.trans h
      exact J74 l1 hl hP hD hS h
    · have h := (if_pos hc).symm.trans h
      refine lv_aload_n hx hb dm_select_49 rfl (lv_at hl 0 rfl) ?_
      refine gm_0_keeps hx hb hts hown hK hP wi_130 dm_select_50 ?_
      refine lv_aload_n hx hb dm_select_53 rfl (lv_at hl 0 rfl) ?_
      refine gm_0_level hx hb hts hown hK hP wi_103 dm_select_54 ?_
      obtain ⟨hin, h⟩ := hq_idx h
      refine am_19 hx hb hK hP hin dm_select_57 ?_
      refine lv_if_eq (tgt := 74) hx hb dm_select_58 (by decide) (fun hc => ?_) (fun hc => ?_)
      · have h := (if_pos hc).symm.trans h
        exact J74 l1 hl hP hD hS h
      · have h := (if_neg hc).symm.trans h
        refine lv_aload_n hx hb dm_select_61 rfl (lv_at hl 0 rfl) ?_
        refine lv_iload_n hx hb dm_select_62 rfl (lv_at hl 1 rfl) ?_
        obtain ⟨v63, h63, h⟩ := hq_bind h
        refine km_numbers l1 v63 h63 hx hb hml hts hown hK hP hD hS wi_131 (by rw [hRm]; exact ⟨Nat.le_of_ble_eq_true rfl, Nat.le_of_ble_eq_true rfl⟩) hl.1 (Nat.le_of_ble_eq_true rfl) dm_select_63 ⟨Nat.zero_le _, Nat.zero_le _⟩ (fun H locs hP hD hS => ?_)
        refine lv_aload_n hx hb dm_select_66 rfl (lv_at hl 0 rfl) ?_
        refine lv_iload_n hx hb dm_select_67 rfl (lv_at hl 1 rfl) ?_
        obtain ⟨v68, h68, h⟩ := hq_bind h
        refine km_retain l1 v68 h68 hx hb hml hts hown hK hP hD hS wi_132 (by rw [hRm]; exact ⟨Nat.le_of_ble_eq_true rfl, Nat.le_of_ble_eq_true rfl⟩) hl.1 (Nat.le_of_ble_eq_true rfl) dm_select_68 ⟨Nat.zero_le _, Nat.zero_le _⟩ (fun H locs hP hD hS => ?_)
        refine lv_goto (tgt := 98) hx hb dm_select_71 (by decide) ?_
        have h := Option.some.inj h
        exact hq_vret hx hb hr hlocks hQ hK hP hD hS rfl (by rw [← h]) dm_select_98
  have L11 : ∀ (n : Nat) (l1 : Int32) (l2 : Int32) {f_rowCount : Int32} {a_rowKind : Nat → Int32} {a_rowValue : Nat → Int32} {f_many : Int32} {a_list : Nat → Int32} {f_seen : Int32} {f_fail : Int32} {f_at : Int32} {f_self : Int32} {f_brackets : Int32} {f_values : Int32} {a_vKind : Nat → Int32} {a_v : Nat → Int32} {f_waiting : Int32} {a_waits : Nat → Int32} {ls : Array Slot} {H : Heap} {locs : List Loc}, lv_has ls 3 [(0, .ref (q 0)), (1, .int l1), (2, .int l2)] → va_P D hq_cl (hm_w q cI cZ cL f_classes a_parent f_objects a_kindOf a_size a_root a_slotKind a_slot a_kept f_count a_code a_number f_want f_compared f_open a_opened f_rowCount a_rowKind a_rowValue f_many a_list f_seen f_fail f_level a_from a_eAt a_whereAt a_source a_distinct a_keeps f_at f_self f_brackets f_values a_vKind a_v f_waiting a_waits ++ z) H → va_D A (hm_w q cI cZ cL f_classes a_parent f_objects a_kindOf a_size a_root a_slotKind a_slot a_kept f_count a_code a_number f_want f_compared f_open a_opened f_rowCount a_rowKind a_rowValue f_many a_list f_seen f_fail f_level a_from a_eAt a_whereAt a_source a_distinct a_keeps f_at f_self f_brackets f_values a_vKind a_v f_waiting a_waits ++ z) → va_S A s.heap H locs → ∀ u11, sm_select_L11 n l1 l2 f_objects a_kindOf a_size a_slotKind a_slot a_kept f_count a_code a_number f_rowCount a_rowKind a_rowValue f_many a_list f_seen f_fail f_level a_eAt a_whereAt f_at f_self f_brackets f_values a_vKind a_v f_waiting a_waits = some u11 → (∀ (ls : Array Slot) (H : Heap) (locs : List Loc), lv_has ls 3 [(0, .ref (q 0)), (1, .int l1)] → va_P D hq_cl (hm_w q cI cZ cL f_classes a_parent f_objects a_kindOf a_size a_root a_slotKind a_slot a_kept f_count a_code a_number f_want f_compared f_open a_opened u11.1 u11.2.1 u11.2.2.1 f_many a_list u11.2.2.2.1 u11.2.2.2.2.1 f_level a_from a_eAt a_whereAt a_source a_distinct a_keeps u11.2.2.2.2.2.1 u11.2.2.2.2.2.2.1 u11.2.2.2.2.2.2.2.1 u11.2.2.2.2.2.2.2.2.1 u11.2.2.2.2.2.2.2.2.2.1 u11.2.2.2.2.2.2.2.2.2.2.1 u11.2.2.2.2.2.2.2.2.2.2.2.1 u11.2.2.2.2.2.2.2.2.2.2.2.2 ++ z) H → va_D A (hm_w q cI cZ cL f_classes a_parent f_objects a_kindOf a_size a_root a_slotKind a_slot a_kept f_count a_code a_number f_want f_compared f_open a_opened u11.1 u11.2.1 u11.2.2.1 f_many a_list u11.2.2.2.1 u11.2.2.2.2.1 f_level a_from a_eAt a_whereAt a_source a_distinct a_keeps u11.2.2.2.2.2.1 u11.2.2.2.2.2.2.1 u11.2.2.2.2.2.2.2.1 u11.2.2.2.2.2.2.2.2.1 u11.2.2.2.2.2.2.2.2.2.1 u11.2.2.2.2.2.2.2.2.2.2.1 u11.2.2.2.2.2.2.2.2.2.2.2.1 u11.2.2.2.2.2.2.2.2.2.2.2.2 ++ z) → va_S A s.heap H locs → W p l e R s m args below meth c H locs 0 0 Q (F0 m 42 ls [])) → W p l e R s m args below meth c H locs 0 0 Q (F0 m 11 ls []) := by
    intro n
    induction n with
    | zero =>
      intro l1 l2 f_rowCount a_rowKind a_rowValue f_many a_list f_seen f_fail f_at f_self f_brackets f_values a_vKind a_v f_waiting a_waits ls H locs hl hP hD hS u11 h kx
      have h : (none : Option (Int32 × (Nat → Int32) × (Nat → Int32) × Int32 × Int32 × Int32 × Int32 × Int32 × Int32 × (Nat → Int32) × (Nat → Int32) × Int32 × (Nat → Int32))) = some u11 := h
      cases h
    | succ n ih =>
      intro l1 l2 f_rowCount a_rowKind a_rowValue f_many a_list f_seen f_fail f_at f_self f_brackets f_values a_vKind a_v f_waiting a_waits ls H locs hl hP hD hS u11 h kx
      have h : sm_select_L11_B (sm_select_L11 n) l1 l2 f_objects a_kindOf a_size a_slotKind a_slot a_kept f_count a_code a_number f_rowCount a_rowKind a_rowValue f_many a_list f_seen f_fail f_level a_eAt a_whereAt f_at f_self f_brackets f_values a_vKind a_v f_waiting a_waits = some u11 := h
      unfold sm_select_L11_B at h
      refine lv_iload_n hx hb dm_select_11 rfl (lv_at hl 2 rfl) ?_
      refine lv_aload_n hx hb dm_select_12 rfl (lv_at hl 0 rfl) ?_
      refine gm_0_many hx hb hts hown hK hP wi_97 dm_select_13 ?_
      refine lv_icmp_ge (tgt := 42) hx hb dm_select_16 (by decide) (fun hc => ?_) (fun hc => ?_)
      · have h := (if_pos hc).symm.trans h
        have h := Option.some.inj h
        subst h
        exact kx ls H locs (lv_sub hl [0, 1] rfl) hP hD hS
      · have h := (if_neg hc).symm.trans h
        refine lv_aload_n hx hb dm_select_19 rfl (lv_at hl 0 rfl) ?_
        refine gm_0_fail hx hb hts hown hK hP wi_109 dm_select_20 ?_
        refine lv_if_ne (tgt := 42) hx hb dm_select_23 (by decide) (fun hc => ?_) (fun hc => ?_)
        · have h := (if_neg hc).symm.trans h
          have h := Option.some.inj h
          subst h
          exact kx ls H locs (lv_sub hl [0, 1] rfl) hP hD hS
        · have h := (if_pos hc).symm.trans h
          refine lv_aload_n hx hb dm_select_26 rfl (lv_at hl 0 rfl) ?_
          refine lv_aload_n hx hb dm_select_27 rfl (lv_at hl 0 rfl) ?_
          refine gm_0_list hx hb hts hown hK hP wi_96 dm_select_28 ?_
          refine lv_iload_n hx hb dm_select_31 rfl (lv_at hl 2 rfl) ?_
          obtain ⟨hin, h⟩ := hq_idx h
          refine am_13 hx hb hK hP hin dm_select_32 ?_
          obtain ⟨v33, h33, h⟩ := hq_bind h
          refine km_look (a_list l2.toNatClampNeg) v33 h33 hx hb hml hts hown hK hP hD hS wi_133 (by rw [hRm]; exact ⟨Nat.le_of_ble_eq_true rfl, Nat.le_of_ble_eq_true rfl⟩) hl.1 (Nat.le_of_ble_eq_true rfl) dm_select_33 ⟨Nat.zero_le _, Nat.zero_le _⟩ (fun H locs hP hD hS => ?_)
          refine lv_iinc (k := 2) (v := l2 + 1) (lv' := [(2, .int (l2 + 1)), (0, .ref (q 0)), (1, .int l1)]) hx hb dm_select_36 hl rfl (congrArg (fun j => l2 + j) (by decide)) (by decide) rfl (fun ls hl => ?_)
          refine lv_goto (tgt := 11) hx hb dm_select_39 (by decide) ?_
          exact ih l1 (l2 + 1) (lv_sub hl [1, 2, 0] rfl) hP hD hS u11 h kx
  refine lv_aload_n hx hb dm_select_0 rfl (lv_at hl 0 rfl) ?_
  obtain ⟨v1, h1, h⟩ := hq_bind h
  refine km_gather  v1 h1 hx hb hml hts hown hK hP hD hS wi_134 (by rw [hRm]; exact ⟨Nat.le_of_ble_eq_true rfl, Nat.le_of_ble_eq_true rfl⟩) hl.1 (Nat.le_of_ble_eq_true rfl) dm_select_1 ⟨Nat.zero_le _, Nat.zero_le _⟩ (fun H locs hP hD hS => ?_)
  refine lv_aload_n hx hb dm_select_4 rfl (lv_at hl 0 rfl) ?_
  refine gm_0_rowCount hx hb hts hown hK hP wi_99 dm_select_5 ?_
  refine lv_istore_n (lv' := [(1, .int v1.1), (0, .ref (q 0))]) hx hb dm_select_8 rfl hl (by decide) rfl (fun ls hl => ?_)
  refine lv_iconst (v := 0) hx hb dm_select_9 (by decide) ?_
  refine lv_istore_n (lv' := [(2, .int 0), (1, .int v1.1), (0, .ref (q 0))]) hx hb dm_select_10 rfl hl (by decide) rfl (fun ls hl => ?_)
  obtain ⟨u11, h11, h⟩ := hq_bind h
  refine L11 kF v1.1 0 (lv_sub hl [2, 1, 0] rfl) hP hD hS u11 h11 (fun ls H locs hl hP hD hS => ?_)
  exact J42 v1.1 hl hP hD hS h
end
section
variable {p : Program} {l : Launch} {e : Env} {R : Room} {s : State} {m : MethodId} {args : Array Value} {below : List Frame} {meth : Method} {c : Code} {H H0 : Heap} {locs : List Loc} {cells slots : Nat} {Q : State → Prop}
variable {cc : ByteArray} {pc idx nC : Nat} {ls : Array Slot} {rest : List Value} {D : va_G} {A : Nat → Prop} {own : String} {q : Nat → Nat} {cI cZ cL : ClassId} {z w : va_W}
variable {f_classes f_objects f_count f_want f_compared f_open f_rowCount f_many f_seen f_fail f_level f_at f_self f_brackets f_values f_waiting : Int32}
variable {a_parent a_kindOf a_size a_root a_slotKind a_slot a_kept a_code a_number a_opened a_rowKind a_rowValue a_list a_from a_eAt a_whereAt a_source a_distinct a_keeps a_vKind a_v a_waits : Nat → Int32}
theorem km_select  (ur : Int32 × (Nat → Int32) × (Nat → Int32) × Int32 × (Nat → Int32) × Int32 × Int32 × Int32 × Int32 × Int32 × Int32 × (Nat → Int32) × (Nat → Int32) × Int32 × (Nat → Int32)) (hu : sm_select a_parent f_objects a_kindOf a_size a_root a_slotKind a_slot a_kept f_count a_code a_number f_rowCount a_rowKind a_rowValue f_many a_list f_seen f_fail f_level a_from a_eAt a_whereAt a_source a_distinct a_keeps f_at f_self f_brackets f_values a_vKind a_v f_waiting a_waits = some ur) (hx : p.tables.exec = Jvm.exec) (hb : c.code = cc) (hml : c.maxLocals = nC) (hts : ∀ x ∈ hq_tbl, x.before args s = true) (hown : s.vm.findClass own = some m.cls) (hK : va_K D hq_cl (hq_tys cI cZ cL) s) (hP : va_P D hq_cl (hm_w q cI cZ cL f_classes a_parent f_objects a_kindOf a_size a_root a_slotKind a_slot a_kept f_count a_code a_number f_want f_compared f_open a_opened f_rowCount a_rowKind a_rowValue f_many a_list f_seen f_fail f_level a_from a_eAt a_whereAt a_source a_distinct a_keeps f_at f_self f_brackets f_values a_vKind a_v f_waiting a_waits ++ z) H) (hD : va_D A (hm_w q cI cZ cL f_classes a_parent f_objects a_kindOf a_size a_root a_slotKind a_slot a_kept f_count a_code a_number f_want f_compared f_open a_opened f_rowCount a_rowKind a_rowValue f_many a_list f_seen f_fail f_level a_from a_eAt a_whereAt a_source a_distinct a_keeps f_at f_self f_brackets f_values a_vKind a_v f_waiting a_waits ++ z)) (hS : va_S A H0 H locs) (h1 : Cond.methodLink own idx ym_select ∈ hq_tbl) (hR : 7 + 1 ≤ R.frames ∧ 8 + (3 + 11) + 160 ≤ R.locals) (hls : ls.size = nC) (hW : (rest.map fun v => v.category).sum ≤ 8) (hdg : decode cc pc = .ok (.invokevirtual idx, 3)) (hf : cells + 0 ≤ R.cells ∧ slots + 0 ≤ R.slots) (kk : ∀ (H1 : Heap) (locs1 : List Loc), va_P D hq_cl (hm_w q cI cZ cL f_classes a_parent f_objects a_kindOf a_size a_root a_slotKind a_slot a_kept f_count a_code a_number f_want f_compared f_open a_opened ur.1 ur.2.1 ur.2.2.1 ur.2.2.2.1 ur.2.2.2.2.1 ur.2.2.2.2.2.1 ur.2.2.2.2.2.2.1 f_level a_from a_eAt a_whereAt a_source a_distinct a_keeps ur.2.2.2.2.2.2.2.1 ur.2.2.2.2.2.2.2.2.1 ur.2.2.2.2.2.2.2.2.2.1 ur.2.2.2.2.2.2.2.2.2.2.1 ur.2.2.2.2.2.2.2.2.2.2.2.1 ur.2.2.2.2.2.2.2.2.2.2.2.2.1 ur.2.2.2.2.2.2.2.2.2.2.2.2.2.1 ur.2.2.2.2.2.2.2.2.2.2.2.2.2.2 ++ z) H1 → va_D A (hm_w q cI cZ cL f_classes a_parent f_objects a_kindOf a_size a_root a_slotKind a_slot a_kept f_count a_code a_number f_want f_compared f_open a_opened ur.1 ur.2.1 ur.2.2.1 ur.2.2.2.1 ur.2.2.2.2.1 ur.2.2.2.2.2.1 ur.2.2.2.2.2.2.1 f_level a_from a_eAt a_whereAt a_source a_distinct a_keeps ur.2.2.2.2.2.2.2.1 ur.2.2.2.2.2.2.2.2.1 ur.2.2.2.2.2.2.2.2.2.1 ur.2.2.2.2.2.2.2.2.2.2.1 ur.2.2.2.2.2.2.2.2.2.2.2.1 ur.2.2.2.2.2.2.2.2.2.2.2.2.1 ur.2.2.2.2.2.2.2.2.2.2.2.2.2.1 ur.2.2.2.2.2.2.2.2.2.2.2.2.2.2 ++ z) → va_S A H0 H1 locs1 → W p l e R s m args below meth c H1 locs1 cells slots Q (F0 m (pc + 3) ls (rest))) : W p l e R s m args below meth c H locs cells slots Q (F0 m pc ls (.ref (q 0) :: rest)) :=
  hq_callV (q0 := 0) hx hb hml hown hts hK hP hD hS (cm_select  ur hu) rfl rfl h1 wi_458 wi_459 wi_338 wi_460 0 rfl (by decide +kernel) ⟨rfl, rfl⟩ hR hls rfl hW hdg hf kk
end
theorem dm_notice_0 : decode bm_notice 0 = .ok (.aload_n 0, 1) := by decide +kernel
theorem dm_notice_1 : decode bm_notice 1 = .ok (.getfield 32, 3) := by decide +kernel
theorem dm_notice_4 : decode bm_notice 4 = .ok (.iload_n 1, 1) := by decide +kernel
theorem dm_notice_5 : decode bm_notice 5 = .ok (.iaload, 1) := by decide +kernel
theorem dm_notice_6 : decode bm_notice 6 = .ok (.istore_n 3, 1) := by decide +kernel
theorem dm_notice_7 : decode bm_notice 7 = .ok (.iload_n 2, 1) := by decide +kernel
theorem dm_notice_8 : decode bm_notice 8 = .ok (.ifCond .ne 48, 3) := by decide +kernel
theorem dm_notice_11 : decode bm_notice 11 = .ok (.aload_n 0, 1) := by decide +kernel
theorem dm_notice_12 : decode bm_notice 12 = .ok (.getfield 62, 3) := by decide +kernel
theorem dm_notice_15 : decode bm_notice 15 = .ok (.aload_n 0, 1) := by decide +kernel
theorem dm_notice_16 : decode bm_notice 16 = .ok (.getfield 152, 3) := by decide +kernel
theorem dm_notice_19 : decode bm_notice 19 = .ok (.iconst 0, 1) := by decide +kernel
theorem dm_notice_20 : decode bm_notice 20 = .ok (.bastore, 1) := by decide +kernel
theorem dm_notice_21 : decode bm_notice 21 = .ok (.aload_n 0, 1) := by decide +kernel
theorem dm_notice_22 : decode bm_notice 22 = .ok (.getfield 65, 3) := by decide +kernel
theorem dm_notice_25 : decode bm_notice 25 = .ok (.aload_n 0, 1) := by decide +kernel
theorem dm_notice_26 : decode bm_notice 26 = .ok (.getfield 152, 3) := by decide +kernel
theorem dm_notice_29 : decode bm_notice 29 = .ok (.iconst 0, 1) := by decide +kernel
theorem dm_notice_30 : decode bm_notice 30 = .ok (.bastore, 1) := by decide +kernel
theorem dm_notice_31 : decode bm_notice 31 = .ok (.aload_n 0, 1) := by decide +kernel
theorem dm_notice_32 : decode bm_notice 32 = .ok (.getfield 56, 3) := by decide +kernel
theorem dm_notice_35 : decode bm_notice 35 = .ok (.aload_n 0, 1) := by decide +kernel
theorem dm_notice_36 : decode bm_notice 36 = .ok (.getfield 152, 3) := by decide +kernel
theorem dm_notice_39 : decode bm_notice 39 = .ok (.iconst (-1), 1) := by decide +kernel
theorem dm_notice_40 : decode bm_notice 40 = .ok (.iastore, 1) := by decide +kernel
theorem dm_notice_41 : decode bm_notice 41 = .ok (.aload_n 0, 1) := by decide +kernel
theorem dm_notice_42 : decode bm_notice 42 = .ok (.getfield 53, 3) := by decide +kernel
theorem dm_notice_45 : decode bm_notice 45 = .ok (.aload_n 0, 1) := by decide +kernel
theorem dm_notice_46 : decode bm_notice 46 = .ok (.getfield 152, 3) := by decide +kernel
theorem dm_notice_49 : decode bm_notice 49 = .ok (.iload_n 1, 1) := by decide +kernel
theorem dm_notice_50 : decode bm_notice 50 = .ok (.iconst 1, 1) := by decide +kernel
theorem dm_notice_51 : decode bm_notice 51 = .ok (.iadd, 1) := by decide +kernel
theorem dm_notice_52 : decode bm_notice 52 = .ok (.iastore, 1) := by decide +kernel
theorem dm_notice_53 : decode bm_notice 53 = .ok (.goto 216, 3) := by decide +kernel
theorem dm_notice_56 : decode bm_notice 56 = .ok (.iload_n 2, 1) := by decide +kernel
theorem dm_notice_57 : decode bm_notice 57 = .ok (.iconst 2, 1) := by decide +kernel
theorem dm_notice_58 : decode bm_notice 58 = .ok (.if_icmp .gt 78, 3) := by decide +kernel
theorem dm_notice_61 : decode bm_notice 61 = .ok (.iload_n 3, 1) := by decide +kernel
theorem dm_notice_62 : decode bm_notice 62 = .ok (.iconst 1, 1) := by decide +kernel
theorem dm_notice_63 : decode bm_notice 63 = .ok (.if_icmp .eq 8, 3) := by decide +kernel
theorem dm_notice_66 : decode bm_notice 66 = .ok (.iload_n 3, 1) := by decide +kernel
theorem dm_notice_67 : decode bm_notice 67 = .ok (.iconst 2, 1) := by decide +kernel
theorem dm_notice_68 : decode bm_notice 68 = .ok (.if_icmp .ne 68, 3) := by decide +kernel
theorem dm_notice_71 : decode bm_notice 71 = .ok (.aload_n 0, 1) := by decide +kernel
theorem dm_notice_72 : decode bm_notice 72 = .ok (.getfield 62, 3) := by decide +kernel
theorem dm_notice_75 : decode bm_notice 75 = .ok (.aload_n 0, 1) := by decide +kernel
theorem dm_notice_76 : decode bm_notice 76 = .ok (.getfield 152, 3) := by decide +kernel
theorem dm_notice_79 : decode bm_notice 79 = .ok (.aload_n 0, 1) := by decide +kernel
theorem dm_notice_80 : decode bm_notice 80 = .ok (.getfield 62, 3) := by decide +kernel
theorem dm_notice_83 : decode bm_notice 83 = .ok (.aload_n 0, 1) := by decide +kernel
theorem dm_notice_84 : decode bm_notice 84 = .ok (.getfield 152, 3) := by decide +kernel
theorem dm_notice_87 : decode bm_notice 87 = .ok (.baload, 1) := by decide +kernel
theorem dm_notice_88 : decode bm_notice 88 = .ok (.ifCond .ne 8, 3) := by decide +kernel
theorem dm_notice_91 : decode bm_notice 91 = .ok (.iload_n 3, 1) := by decide +kernel
theorem dm_notice_92 : decode bm_notice 92 = .ok (.iconst 1, 1) := by decide +kernel
theorem dm_notice_93 : decode bm_notice 93 = .ok (.if_icmp .ne 7, 3) := by decide +kernel
theorem dm_notice_96 : decode bm_notice 96 = .ok (.iconst 1, 1) := by decide +kernel
theorem dm_notice_97 : decode bm_notice 97 = .ok (.goto 4, 3) := by decide +kernel
theorem dm_notice_100 : decode bm_notice 100 = .ok (.iconst 0, 1) := by decide +kernel
theorem dm_notice_101 : decode bm_notice 101 = .ok (.bastore, 1) := by decide +kernel
theorem dm_notice_102 : decode bm_notice 102 = .ok (.aload_n 0, 1) := by decide +kernel
theorem dm_notice_103 : decode bm_notice 103 = .ok (.getfield 65, 3) := by decide +kernel
theorem dm_notice_106 : decode bm_notice 106 = .ok (.aload_n 0, 1) := by decide +kernel
theorem dm_notice_107 : decode bm_notice 107 = .ok (.getfield 152, 3) := by decide +kernel
theorem dm_notice_110 : decode bm_notice 110 = .ok (.iload_n 3, 1) := by decide +kernel
theorem dm_notice_111 : decode bm_notice 111 = .ok (.iconst 2, 1) := by decide +kernel
theorem dm_notice_112 : decode bm_notice 112 = .ok (.if_icmp .ne 7, 3) := by decide +kernel
theorem dm_notice_115 : decode bm_notice 115 = .ok (.iconst 1, 1) := by decide +kernel
theorem dm_notice_116 : decode bm_notice 116 = .ok (.goto 4, 3) := by decide +kernel
theorem dm_notice_119 : decode bm_notice 119 = .ok (.iconst 0, 1) := by decide +kernel
theorem dm_notice_120 : decode bm_notice 120 = .ok (.bastore, 1) := by decide +kernel
theorem dm_notice_121 : decode bm_notice 121 = .ok (.aload_n 0, 1) := by decide +kernel
theorem dm_notice_122 : decode bm_notice 122 = .ok (.getfield 53, 3) := by decide +kernel
theorem dm_notice_125 : decode bm_notice 125 = .ok (.aload_n 0, 1) := by decide +kernel
theorem dm_notice_126 : decode bm_notice 126 = .ok (.getfield 152, 3) := by decide +kernel
theorem dm_notice_129 : decode bm_notice 129 = .ok (.iload_n 1, 1) := by decide +kernel
theorem dm_notice_130 : decode bm_notice 130 = .ok (.iconst 1, 1) := by decide +kernel
theorem dm_notice_131 : decode bm_notice 131 = .ok (.iadd, 1) := by decide +kernel
theorem dm_notice_132 : decode bm_notice 132 = .ok (.iastore, 1) := by decide +kernel
theorem dm_notice_133 : decode bm_notice 133 = .ok (.goto 136, 3) := by decide +kernel
theorem dm_notice_136 : decode bm_notice 136 = .ok (.iload_n 2, 1) := by decide +kernel
theorem dm_notice_137 : decode bm_notice 137 = .ok (.bipush 6, 2) := by decide +kernel
theorem dm_notice_139 : decode bm_notice 139 = .ok (.if_icmp .ne 55, 3) := by decide +kernel
theorem dm_notice_142 : decode bm_notice 142 = .ok (.aload_n 0, 1) := by decide +kernel
theorem dm_notice_143 : decode bm_notice 143 = .ok (.getfield 59, 3) := by decide +kernel
theorem dm_notice_146 : decode bm_notice 146 = .ok (.aload_n 0, 1) := by decide +kernel
theorem dm_notice_147 : decode bm_notice 147 = .ok (.getfield 152, 3) := by decide +kernel
theorem dm_notice_150 : decode bm_notice 150 = .ok (.iload_n 3, 1) := by decide +kernel
theorem dm_notice_151 : decode bm_notice 151 = .ok (.bipush 6, 2) := by decide +kernel
theorem dm_notice_153 : decode bm_notice 153 = .ok (.if_icmp .ne 7, 3) := by decide +kernel
theorem dm_notice_156 : decode bm_notice 156 = .ok (.iconst (-1), 1) := by decide +kernel
theorem dm_notice_157 : decode bm_notice 157 = .ok (.goto 4, 3) := by decide +kernel
theorem dm_notice_160 : decode bm_notice 160 = .ok (.iload_n 1, 1) := by decide +kernel
theorem dm_notice_161 : decode bm_notice 161 = .ok (.iastore, 1) := by decide +kernel
theorem dm_notice_162 : decode bm_notice 162 = .ok (.iload_n 3, 1) := by decide +kernel
theorem dm_notice_163 : decode bm_notice 163 = .ok (.bipush 6, 2) := by decide +kernel
theorem dm_notice_165 : decode bm_notice 165 = .ok (.if_icmp .ne 104, 3) := by decide +kernel
theorem dm_notice_168 : decode bm_notice 168 = .ok (.aload_n 0, 1) := by decide +kernel
theorem dm_notice_169 : decode bm_notice 169 = .ok (.dup, 1) := by decide +kernel
theorem dm_notice_170 : decode bm_notice 170 = .ok (.getfield 152, 3) := by decide +kernel
theorem dm_notice_173 : decode bm_notice 173 = .ok (.iconst 1, 1) := by decide +kernel
theorem dm_notice_174 : decode bm_notice 174 = .ok (.iadd, 1) := by decide +kernel
theorem dm_notice_175 : decode bm_notice 175 = .ok (.putfield 152, 3) := by decide +kernel
theorem dm_notice_178 : decode bm_notice 178 = .ok (.aload_n 0, 1) := by decide +kernel
theorem dm_notice_179 : decode bm_notice 179 = .ok (.getfield 50, 3) := by decide +kernel
theorem dm_notice_182 : decode bm_notice 182 = .ok (.aload_n 0, 1) := by decide +kernel
theorem dm_notice_183 : decode bm_notice 183 = .ok (.getfield 152, 3) := by decide +kernel
theorem dm_notice_186 : decode bm_notice 186 = .ok (.aload_n 0, 1) := by decide +kernel
theorem dm_notice_187 : decode bm_notice 187 = .ok (.getfield 149, 3) := by decide +kernel
theorem dm_notice_190 : decode bm_notice 190 = .ok (.iastore, 1) := by decide +kernel
theorem dm_notice_191 : decode bm_notice 191 = .ok (.goto 78, 3) := by decide +kernel
theorem dm_notice_194 : decode bm_notice 194 = .ok (.iload_n 2, 1) := by decide +kernel
theorem dm_notice_195 : decode bm_notice 195 = .ok (.bipush 7, 2) := by decide +kernel
theorem dm_notice_197 : decode bm_notice 197 = .ok (.if_icmp .ne 23, 3) := by decide +kernel
theorem dm_notice_200 : decode bm_notice 200 = .ok (.iload_n 3, 1) := by decide +kernel
theorem dm_notice_201 : decode bm_notice 201 = .ok (.iconst 4, 1) := by decide +kernel
theorem dm_notice_202 : decode bm_notice 202 = .ok (.if_icmp .ne 18, 3) := by decide +kernel
theorem dm_notice_205 : decode bm_notice 205 = .ok (.aload_n 0, 1) := by decide +kernel
theorem dm_notice_206 : decode bm_notice 206 = .ok (.getfield 56, 3) := by decide +kernel
theorem dm_notice_209 : decode bm_notice 209 = .ok (.aload_n 0, 1) := by decide +kernel
theorem dm_notice_210 : decode bm_notice 210 = .ok (.getfield 152, 3) := by decide +kernel
theorem dm_notice_213 : decode bm_notice 213 = .ok (.iload_n 1, 1) := by decide +kernel
theorem dm_notice_214 : decode bm_notice 214 = .ok (.iconst 1, 1) := by decide +kernel
theorem dm_notice_215 : decode bm_notice 215 = .ok (.iadd, 1) := by decide +kernel
theorem dm_notice_216 : decode bm_notice 216 = .ok (.iastore, 1) := by decide +kernel
theorem dm_notice_217 : decode bm_notice 217 = .ok (.goto 52, 3) := by decide +kernel
theorem dm_notice_220 : decode bm_notice 220 = .ok (.aload_n 0, 1) := by decide +kernel
theorem dm_notice_221 : decode bm_notice 221 = .ok (.getfield 105, 3) := by decide +kernel
theorem dm_notice_224 : decode bm_notice 224 = .ok (.ifCond .eq 12, 3) := by decide +kernel
theorem dm_notice_227 : decode bm_notice 227 = .ok (.aload_n 0, 1) := by decide +kernel
theorem dm_notice_228 : decode bm_notice 228 = .ok (.getfield 105, 3) := by decide +kernel
theorem dm_notice_231 : decode bm_notice 231 = .ok (.bipush 7, 2) := by decide +kernel
theorem dm_notice_233 : decode bm_notice 233 = .ok (.if_icmp .lt 36, 3) := by decide +kernel
theorem dm_notice_236 : decode bm_notice 236 = .ok (.aload_n 0, 1) := by decide +kernel
theorem dm_notice_237 : decode bm_notice 237 = .ok (.invokevirtual 159, 3) := by decide +kernel
theorem dm_notice_240 : decode bm_notice 240 = .ok (.iload_n 3, 1) := by decide +kernel
theorem dm_notice_241 : decode bm_notice 241 = .ok (.bipush 7, 2) := by decide +kernel
theorem dm_notice_243 : decode bm_notice 243 = .ok (.if_icmp .ne 26, 3) := by decide +kernel
theorem dm_notice_246 : decode bm_notice 246 = .ok (.aload_n 0, 1) := by decide +kernel
theorem dm_notice_247 : decode bm_notice 247 = .ok (.aload_n 0, 1) := by decide +kernel
theorem dm_notice_248 : decode bm_notice 248 = .ok (.getfield 50, 3) := by decide +kernel
theorem dm_notice_251 : decode bm_notice 251 = .ok (.aload_n 0, 1) := by decide +kernel
theorem dm_notice_252 : decode bm_notice 252 = .ok (.getfield 152, 3) := by decide +kernel
theorem dm_notice_255 : decode bm_notice 255 = .ok (.iaload, 1) := by decide +kernel
theorem dm_notice_256 : decode bm_notice 256 = .ok (.invokevirtual 162, 3) := by decide +kernel
theorem dm_notice_259 : decode bm_notice 259 = .ok (.aload_n 0, 1) := by decide +kernel
theorem dm_notice_260 : decode bm_notice 260 = .ok (.dup, 1) := by decide +kernel
theorem dm_notice_261 : decode bm_notice 261 = .ok (.getfield 152, 3) := by decide +kernel
theorem dm_notice_264 : decode bm_notice 264 = .ok (.iconst 1, 1) := by decide +kernel
theorem dm_notice_265 : decode bm_notice 265 = .ok (.isub, 1) := by decide +kernel
theorem dm_notice_266 : decode bm_notice 266 = .ok (.putfield 152, 3) := by decide +kernel
theorem dm_notice_269 : decode bm_notice 269 = .ok (.return_, 1) := by decide +kernel
section
variable {l : Launch} {D : va_G} {A : Nat → Prop} {z w : va_W} {q : Nat → Nat} {cI cZ cL : ClassId}
variable {f_classes f_objects f_count f_want f_compared f_open f_rowCount f_many f_seen f_fail f_level f_at f_self f_brackets f_values f_waiting : Int32}
variable {a_parent a_kindOf a_size a_root a_slotKind a_slot a_kept a_code a_number a_opened a_rowKind a_rowValue a_list a_from a_eAt a_whereAt a_source a_distinct a_keeps a_vKind a_v a_waits : Nat → Int32}
set_option maxHeartbeats 4000000 in
set_option maxRecDepth 100000 in
theorem cm_notice (l1 : Int32) (l2 : Int32) (ur : Int32 × (Nat → Int32) × (Nat → Int32) × Int32 × (Nat → Int32) × Int32 × Int32 × Int32 × (Nat → Int32) × (Nat → Int32) × (Nat → Int32) × (Nat → Int32) × (Nat → Int32) × (Nat → Int32) × Int32 × Int32 × Int32 × Int32 × (Nat → Int32) × (Nat → Int32) × Int32 × (Nat → Int32)) (h : sm_notice l1 l2 a_parent f_objects a_kindOf a_size a_root a_slotKind a_slot a_kept f_count a_code a_number f_want f_rowCount a_rowKind a_rowValue f_many a_list f_seen f_fail f_level a_from a_eAt a_whereAt a_source a_distinct a_keeps f_at f_self f_brackets f_values a_vKind a_v f_waiting a_waits = some ur) : hq_Ct l ym_notice bm_notice 4 none { frames := 8, cells := 0, slots := 0, locals := 182 } D (hq_tys cI cZ cL) A [.ref (q 0), .int l1, .int l2] (hm_w q cI cZ cL f_classes a_parent f_objects a_kindOf a_size a_root a_slotKind a_slot a_kept f_count a_code a_number f_want f_compared f_open a_opened f_rowCount a_rowKind a_rowValue f_many a_list f_seen f_fail f_level a_from a_eAt a_whereAt a_source a_distinct a_keeps f_at f_self f_brackets f_values a_vKind a_v f_waiting a_waits ++ z) (hm_w q cI cZ cL f_classes a_parent f_objects a_kindOf a_size a_root a_slotKind a_slot a_kept f_count a_code a_number f_want f_compared f_open a_opened ur.1 ur.2.1 ur.2.2.1 ur.2.2.2.1 ur.2.2.2.2.1 ur.2.2.2.2.2.1 ur.2.2.2.2.2.2.1 ur.2.2.2.2.2.2.2.1 ur.2.2.2.2.2.2.2.2.1 ur.2.2.2.2.2.2.2.2.2.1 ur.2.2.2.2.2.2.2.2.2.2.1 ur.2.2.2.2.2.2.2.2.2.2.2.1 ur.2.2.2.2.2.2.2.2.2.2.2.2.1 ur.2.2.2.2.2.2.2.2.2.2.2.2.2.1 ur.2.2.2.2.2.2.2.2.2.2.2.2.2.2.1 ur.2.2.2.2.2.2.2.2.2.2.2.2.2.2.2.1 ur.2.2.2.2.2.2.2.2.2.2.2.2.2.2.2.2.1 ur.2.2.2.2.2.2.2.2.2.2.2.2.2.2.2.2.2.1 ur.2.2.2.2.2.2.2.2.2.2.2.2.2.2.2.2.2.2.1 ur.2.2.2.2.2.2.2.2.2.2.2.2.2.2.2.2.2.2.2.1 ur.2.2.2.2.2.2.2.2.2.2.2.2.2.2.2.2.2.2.2.2.1 ur.2.2.2.2.2.2.2.2.2.2.2.2.2.2.2.2.2.2.2.2.2 ++ z) none 0 0 := by
  refine hq_of (by decide) ?_ (Nat.le_of_ble_eq_true rfl)
  intro p e s m below meth c R args Q hRm hQ hx hb hr hml hts hown hlocks hnm hP hK hD ls hl hS
  have hl : lv_has ls 4 [(0, .ref (q 0)), (1, .int l1), (2, .int l2)] := hl
  have hown : s.vm.findClass "HeapQueriesModel" = some m.cls := hown
  unfold sm_notice at h
  have J236 : ∀ (l3 : Int32) {f_rowCount : Int32} {a_rowKind : Nat → Int32} {a_rowValue : Nat → Int32} {f_many : Int32} {a_list : Nat → Int32} {f_seen : Int32} {f_fail : Int32} {f_level : Int32} {a_from : Nat → Int32} {a_eAt : Nat → Int32} {a_whereAt : Nat → Int32} {a_source : Nat → Int32} {a_distinct : Nat → Int32} {a_keeps : Nat → Int32} {f_at : Int32} {f_self : Int32} {f_brackets : Int32} {f_values : Int32} {a_vKind : Nat → Int32} {a_v : Nat → Int32} {f_waiting : Int32} {a_waits : Nat → Int32} {ls : Array Slot} {H : Heap} {locs : List Loc}, lv_has ls 4 [(0, .ref (q 0)), (3, .int l3)] → va_P D hq_cl (hm_w q cI cZ cL f_classes a_parent f_objects a_kindOf a_size a_root a_slotKind a_slot a_kept f_count a_code a_number f_want f_compared f_open a_opened f_rowCount a_rowKind a_rowValue f_many a_list f_seen f_fail f_level a_from a_eAt a_whereAt a_source a_distinct a_keeps f_at f_self f_brackets f_values a_vKind a_v f_waiting a_waits ++ z) H → va_D A (hm_w q cI cZ cL f_classes a_parent f_objects a_kindOf a_size a_root a_slotKind a_slot a_kept f_count a_code a_number f_want f_compared f_open a_opened f_rowCount a_rowKind a_rowValue f_many a_list f_seen f_fail f_level a_from a_eAt a_whereAt a_source a_distinct a_keeps f_at f_self f_brackets f_values a_vKind a_v f_waiting a_waits ++ z) → va_S A s.heap H locs → sm_notice_J236 l3 a_parent f_objects a_kindOf a_size a_root a_slotKind a_slot a_kept f_count a_code a_number f_want f_rowCount a_rowKind a_rowValue f_many a_list f_seen f_fail f_level a_from a_eAt a_whereAt a_source a_distinct a_keeps f_at f_self f_brackets f_values a_vKind a_v f_waiting a_waits = some ur → W p l e R s m args below meth c H locs 0 0 Q (F0 m 236 ls []) := by
    intro l3 f_rowCount a_rowKind a_rowValue f_many a_list f_seen f_fail f_level a_from a_eAt a_whereAt a_source a_distinct a_keeps f_at f_self f_brackets f_values a_vKind a_v f_waiting a_waits ls H locs hl hP hD hS h
    unfold sm_notice_J236 at h
    refine lv_aload_n hx hb dm_notice_236 rfl (lv_at hl 0 rfl) ?_
    obtain ⟨v237, h237, h⟩ := hq_bind h
    refine km_select  v237 h237 hx hb hml hts hown hK hP hD hS wi_135 (by rw [hRm]; exact ⟨Nat.le_of_ble_eq_true rfl, Nat.le_of_ble_eq_true rfl⟩) hl.1 (Nat.le_of_ble_eq_true rfl) dm_notice_237 ⟨Nat.zero_le _, Nat.zero_le _⟩ (fun H locs hP hD hS => ?_)
    refine lv_iload_n hx hb dm_notice_240 rfl (lv_at hl 1 rfl) ?_
    refine lv_bipush (v := 7) hx hb dm_notice_241 (by decide) ?_
    refine lv_icmp_ne (tgt := 269) hx hb dm_notice_243 (by decide) (fun hc => ?_) (fun hc => ?_)
    · have h := (if_neg hc).symm.trans h
      have h := Option.some.inj h
      exact hq_vret hx hb hr hlocks hQ hK hP hD hS rfl (by rw [← h]) dm_notice_269
    · have h := (if_pos hc).symm.trans h
      refine lv_aload_n hx hb dm_notice_246 rfl (lv_at hl 0 rfl) ?_
      refine lv_aload_n hx hb dm_notice_247 rfl (lv_at hl 0 rfl) ?_
      refine gm_0_from hx hb hts hown hK hP wi_104 dm_notice_248 ?_
      refine lv_aload_n hx hb dm_notice_251 rfl (lv_at hl 0 rfl) ?_
      refine gm_0_level hx hb hts hown hK hP wi_103 dm_notice_252 ?_
      obtain ⟨hin, h⟩ := hq_idx h
      refine am_14 hx hb hK hP hin dm_notice_255 ?_
      obtain ⟨v256, h256, h⟩ := hq_bind h
      refine km_numbers (a_from f_level.toNatClampNeg) v256 h256 hx hb hml hts hown hK hP hD hS wi_131 (by rw [hRm]; exact ⟨Nat.le_of_ble_eq_true rfl, Nat.le_of_ble_eq_true rfl⟩) hl.1 (Nat.le_of_ble_eq_true rfl) dm_notice_256 ⟨Nat.zero_le _, Nat.zero_le _⟩ (fun H locs hP hD hS => ?_)
      refine lv_aload_n hx hb dm_notice_259 rfl (lv_at hl 0 rfl) ?_
      refine lv_dup hx hb dm_notice_260 rfl ?_
      refine gm_0_level hx hb hts hown hK hP wi_103 dm_notice_261 ?_
      refine lv_iconst (v := 1) hx hb dm_notice_264 (by decide) ?_
      refine lv_isub hx hb dm_notice_265 ?_
      refine pm_0_level hx hb hts hown hK hP hD hS wi_103 dm_notice_266 (fun H locs hP hD hS => ?_)
      have h := Option.some.inj h
      exact hq_vret hx hb hr hlocks hQ hK hP hD hS rfl (by rw [← h]) dm_notice_269
  have J220 : ∀ (l3 : Int32) {f_rowCount : Int32} {a_rowKind : Nat → Int32} {a_rowValue : Nat → Int32} {f_many : Int32} {a_list : Nat → Int32} {f_seen : Int32} {f_fail : Int32} {f_level : Int32} {a_from : Nat → Int32} {a_eAt : Nat → Int32} {a_whereAt : Nat → Int32} {a_source : Nat → Int32} {a_distinct : Nat → Int32} {a_keeps : Nat → Int32} {f_at : Int32} {f_self : Int32} {f_brackets : Int32} {f_values : Int32} {a_vKind : Nat → Int32} {a_v : Nat → Int32} {f_waiting : Int32} {a_waits : Nat → Int32} {ls : Array Slot} {H : Heap} {locs : List Loc}, lv_has ls 4 [(0, .ref (q 0)), (3, .int l3)] → va_P D hq_cl (hm_w q cI cZ cL f_classes a_parent f_objects a_kindOf a_size a_root a_slotKind a_slot a_kept f_count a_code a_number f_want f_compared f_open a_opened f_rowCount a_rowKind a_rowValue f_many a_list f_seen f_fail f_level a_from a_eAt a_whereAt a_source a_distinct a_keeps f_at f_self f_brackets f_values a_vKind a_v f_waiting a_waits ++ z) H → va_D A (hm_w q cI cZ cL f_classes a_parent f_objects a_kindOf a_size a_root a_slotKind a_slot a_kept f_count a_code a_number f_want f_compared f_open a_opened f_rowCount a_rowKind a_rowValue f_many a_list f_seen f_fail f_level a_from a_eAt a_whereAt a_source a_distinct a_keeps f_at f_self f_brackets f_values a_vKind a_v f_waiting a_waits ++ z) → va_S A s.heap H locs → sm_notice_J220 l3 a_parent f_objects a_kindOf a_size a_root a_slotKind a_slot a_kept f_count a_code a_number f_want f_rowCount a_rowKind a_rowValue f_many a_list f_seen f_fail f_level a_from a_eAt a_whereAt a_source a_distinct a_keeps f_at f_self f_brackets f_values a_vKind a_v f_waiting a_waits = some ur → W p l e R s m args below meth c H locs 0 0 Q (F0 m 220 ls []) := by
    intro l3 f_rowCount a_rowKind a_rowValue f_many a_list f_seen f_fail f_level a_from a_eAt a_whereAt a_source a_distinct a_keeps f_at f_self f_brackets f_values a_vKind a_v f_waiting a_waits ls H locs hl hP hD hS h
    unfold sm_notice_J220 at h
    refine lv_aload_n hx hb dm_notice_220 rfl (lv_at hl 0 rfl) ?_
    refine gm_0_want hx hb hts hown hK hP wi_81 dm_notice_221 ?_
    refine lv_if_eq (tgt := 236) hx hb dm_notice_224 (by decide) (fun hc => ?_) (fun hc => ?_)
    · have h := (if_pos hc).symm.trans h
      exact J236 l3 hl hP hD hS h
    · have h := (if_neg hc).symm.trans h
      refine lv_aload_n hx hb dm_notice_227 rfl (lv_at hl 0 rfl) ?_
      refine gm_0_want hx hb hts hown hK hP wi_81 dm_notice_228 ?_
      refine lv_bipush (v := 7) hx hb dm_notice_231 (by decide) ?_
      refine lv_icmp_lt (tgt := 269) hx hb dm_notice_233 (by decide) (fun hc => ?_) (fun hc => ?_)
      · have h := (if_pos hc).symm.trans h
        have h := Option.some.inj h
        exact hq_vret hx hb hr hlocks hQ hK hP hD hS rfl (by rw [← h]) dm_notice_269
      · have h := (if_neg hc).symm.trans h
        exact J236 l3 hl hP hD hS h
  have J161 : ∀ (l3 : Int32) (s1 : Int32) (s2 : Int32) {f_rowCount : Int32} {a_rowKind : Nat → Int32} {a_rowValue : Nat → Int32} {f_many : Int32} {a_list : Nat → Int32} {f_seen : Int32} {f_fail : Int32} {f_level : Int32} {a_from : Nat → Int32} {a_eAt : Nat → Int32} {a_whereAt : Nat → Int32} {a_source : Nat → Int32} {a_distinct : Nat → Int32} {a_keeps : Nat → Int32} {f_at : Int32} {f_self : Int32} {f_brackets : Int32} {f_values : Int32} {a_vKind : Nat → Int32} {a_v : Nat → Int32} {f_waiting : Int32} {a_waits : Nat → Int32} {ls : Array Slot} {H : Heap} {locs : List Loc}, lv_has ls 4 [(0, .ref (q 0)), (3, .int l3)] → va_P D hq_cl (hm_w q cI cZ cL f_classes a_parent f_objects a_kindOf a_size a_root a_slotKind a_slot a_kept f_count a_code a_number f_want f_compared f_open a_opened f_rowCount a_rowKind a_rowValue f_many a_list f_seen f_fail f_level a_from a_eAt a_whereAt a_source a_distinct a_keeps f_at f_self f_brackets f_values a_vKind a_v f_waiting a_waits ++ z) H → va_D A (hm_w q cI cZ cL f_classes a_parent f_objects a_kindOf a_size a_root a_slotKind a_slot a_kept f_count a_code a_number f_want f_compared f_open a_opened f_rowCount a_rowKind a_rowValue f_many a_list f_seen f_fail f_level a_from a_eAt a_whereAt a_source a_distinct a_keeps f_at f_self f_brackets f_values a_vKind a_v f_waiting a_waits ++ z) → va_S A s.heap H locs → sm_notice_J161 l3 s1 s2 a_parent f_objects a_kindOf a_size a_root a_slotKind a_slot a_kept f_count a_code a_number f_want f_rowCount a_rowKind a_rowValue f_many a_list f_seen f_fail f_level a_from a_eAt a_whereAt a_source a_distinct a_keeps f_at f_self f_brackets f_values a_vKind a_v f_waiting a_waits = some ur → W p l e R s m args below meth c H locs 0 0 Q (F0 m 161 ls [.int s2, .int s1, .ref (q 17)]) := by
    intro l3 s1 s2 f_rowCount a_rowKind a_rowValue f_many a_list f_seen f_fail f_level a_from a_eAt a_whereAt a_source a_distinct a_keeps f_at f_self f_brackets f_values a_vKind a_v f_waiting a_waits ls H locs hl hP hD hS h
    unfold sm_notice_J161 at h
    obtain ⟨hin, h⟩ := hq_idx h
    refine tm_17 hx hb hK hP hD hS hin dm_notice_161 (fun H locs hP hD hS => ?_)
    refine lv_iload_n hx hb dm_notice_162 rfl (lv_at hl 1 rfl) ?_
    refine lv_bipush (v := 6) hx hb dm_notice_163 (by decide) ?_
    refine lv_icmp_ne (tgt := 269) hx hb dm_notice_165 (by decide) (fun hc => ?_) (fun hc => ?_)
    · have h := (if_neg hc).symm.trans h
      have h := Option.some.inj h
      exact hq_vret hx hb hr hlocks hQ hK hP hD hS rfl (by rw [← h]) dm_notice_269
    · have h := (if_pos hc).symm.trans h
      refine lv_aload_n hx hb dm_notice_168 rfl (lv_at hl 0 rfl) ?_
      refine lv_dup hx hb dm_notice_169 rfl ?_
      refine gm_0_level hx hb hts hown hK hP wi_103 dm_notice_170 ?_
      refine lv_iconst (v := 1) hx hb dm_notice_173 (by decide) ?_
      refine lv_iadd hx hb dm_notice_174 ?_
      refine pm_0_level hx hb hts hown hK hP hD hS wi_103 dm_notice_175 (fun H locs hP hD hS => ?_)
      refine lv_aload_n hx hb dm_notice_178 rfl (lv_at hl 0 rfl) ?_
      refine gm_0_from hx hb hts hown hK hP wi_104 dm_notice_179 ?_
      refine lv_aload_n hx hb dm_notice_182 rfl (lv_at hl 0 rfl) ?_
      refine gm_0_level hx hb hts hown hK hP wi_103 dm_notice_183 ?_
      refine lv_aload_n hx hb dm_notice_186 rfl (lv_at hl 0 rfl) ?_
      refine gm_0_rowCount hx hb hts hown hK hP wi_99 dm_notice_187 ?_
      obtain ⟨hin, h⟩ := hq_idx h
      refine tm_14 hx hb hK hP hD hS hin dm_notice_190 (fun H locs hP hD hS => ?_)
      refine lv_goto (tgt := 269) hx hb dm_notice_191 (by decide) ?_
      have h := Option.some.inj h
      exact hq_vret hx hb hr hlocks hQ hK hP hD hS rfl (by rw [← h]) dm_notice_269
  have J136 : ∀ (l1 : Int32) (l2 : Int32) (l3 : Int32) {f_rowCount : Int32} {a_rowKind : Nat → Int32} {a_rowValue : Nat → Int32} {f_many : Int32} {a_list : Nat → Int32} {f_seen : Int32} {f_fail : Int32} {f_level : Int32} {a_from : Nat → Int32} {a_eAt : Nat → Int32} {a_whereAt : Nat → Int32} {a_source : Nat → Int32} {a_distinct : Nat → Int32} {a_keeps : Nat → Int32} {f_at : Int32} {f_self : Int32} {f_brackets : Int32} {f_values : Int32} {a_vKind : Nat → Int32} {a_v : Nat → Int32} {f_waiting : Int32} {a_waits : Nat → Int32} {ls : Array Slot} {H : Heap} {locs : List Loc}, lv_has ls 4 [(0, .ref (q 0)), (1, .int l1), (2, .int l2), (3, .int l3)] → va_P D hq_cl (hm_w q cI cZ cL f_classes a_parent f_objects a_kindOf a_size a_root a_slotKind a_slot a_kept f_count a_code a_number f_want f_compared f_open a_opened f_rowCount a_rowKind a_rowValue f_many a_list f_seen f_fail f_level a_from a_eAt a_whereAt a_source a_distinct a_keeps f_at f_self f_brackets f_values a_vKind a_v f_waiting a_waits ++ z) H → va_D A (hm_w q cI cZ cL f_classes a_parent f_objects a_kindOf a_size a_root a_slotKind a_slot a_kept f_count a_code a_number f_want f_compared f_open a_opened f_rowCount a_rowKind a_rowValue f_many a_list f_seen f_fail f_level a_from a_eAt a_whereAt a_source a_distinct a_keeps f_at f_self f_brackets f_values a_vKind a_v f_waiting a_waits ++ z) → va_S A s.heap H locs → sm_notice_J136 l1 l2 l3 a_parent f_objects a_kindOf a_size a_root a_slotKind a_slot a_kept f_count a_code a_number f_want f_rowCount a_rowKind a_rowValue f_many a_list f_seen f_fail f_level a_from a_eAt a_whereAt a_source a_distinct a_keeps f_at f_self f_brackets f_values a_vKind a_v f_waiting a_waits = some ur → W p l e R s m args below meth c H locs 0 0 Q (F0 m 136 ls []) := by
    intro l1 l2 l3 f_rowCount a_rowKind a_rowValue f_many a_list f_seen f_fail f_level a_from a_eAt a_whereAt a_source a_distinct a_keeps f_at f_self f_brackets f_values a_vKind a_v f_waiting a_waits ls H locs hl hP hD hS h
    unfold sm_notice_J136 at h
    refine lv_iload_n hx hb dm_notice_136 rfl (lv_at hl 2 rfl) ?_
    refine lv_bipush (v := 6) hx hb dm_notice_137 (by decide) ?_
    refine lv_icmp_ne (tgt := 194) hx hb dm_notice_139 (by decide) (fun hc => ?_) (fun hc => ?_)
    · have h := (if_neg hc).symm.trans h
      refine lv_iload_n hx hb dm_notice_194 rfl (lv_at hl 2 rfl) ?_
      refine lv_bipush (v := 7) hx hb dm_notice_195 (by decide) ?_
      refine lv_icmp_ne (tgt := 220) hx hb dm_notice_197 (by decide) (fun hc => ?_) (fun hc => ?_)
      · have h := (if_neg hc).symm.trans h
        exact J220 l3 (lv_sub hl [0, 3] rfl) hP hD hS h
      · have h := (if_pos hc).symm.trans h
        refine lv_iload_n hx hb dm_notice_200 rfl (lv_at hl 3 rfl) ?_
        refine lv_iconst (v := 4) hx hb dm_notice_201 (by decide) ?_
        refine lv_icmp_ne (tgt := 220) hx hb dm_notice_202 (by decide) (fun hc => ?_) (fun hc => ?_)
        · have h := (if_neg hc).symm.trans h
          exact J220 l3 (lv_sub hl [0, 3] rfl) hP hD hS h
        · have h := (if_pos hc).symm.trans h
          refine lv_aload_n hx hb dm_notice_205 rfl (lv_at hl 0 rfl) ?_
          refine gm_0_whereAt hx hb hts hown hK hP wi_127 dm_notice_206 ?_
          refine lv_aload_n hx hb dm_notice_209 rfl (lv_at hl 0 rfl) ?_
          refine gm_0_level hx hb hts hown hK hP wi_103 dm_notice_210 ?_
          refine lv_iload_n hx hb dm_notice_213 rfl (lv_at hl 1 rfl) ?_
          refine lv_iconst (v := 1) hx hb dm_notice_214 (by decide) ?_
          refine lv_iadd hx hb dm_notice_215 ?_
          obtain ⟨hin, h⟩ := hq_idx h
          refine tm_16 hx hb hK hP hD hS hin dm_notice_216 (fun H locs hP hD hS => ?_)
          refine lv_goto (tgt := 269) hx hb dm_notice_217 (by decide) ?_
          have h := Option.some.inj h
          exact hq_vret hx hb hr hlocks hQ hK hP hD hS rfl (by rw [← h]) dm_notice_269
    · have h := (if_pos hc).symm.trans h
      refine lv_aload_n hx hb dm_notice_142 rfl (lv_at hl 0 rfl) ?_
      refine gm_0_source hx hb hts hown hK hP wi_102 dm_notice_143 ?_
      refine lv_aload_n hx hb dm_notice_146 rfl (lv_at hl 0 rfl) ?_
      refine gm_0_level hx hb hts hown hK hP wi_103 dm_notice_147 ?_
      refine lv_iload_n hx hb dm_notice_150 rfl (lv_at hl 3 rfl) ?_
      refine lv_bipush (v := 6) hx hb dm_notice_151 (by decide) ?_
      refine lv_icmp_ne (tgt := 160) hx hb dm_notice_153 (by decide) (fun hc => ?_) (fun hc => ?_)
      · have h := (if_neg hc).symm.trans h
        refine lv_iload_n hx hb dm_notice_160 rfl (lv_at hl 1 rfl) ?_
        exact J161 l3 f_level l1 (lv_sub hl [0, 3] rfl) hP hD hS h
      · have h := (if_pos hc).symm.trans h
        refine lv_iconst (v := (-1)) hx hb dm_notice_156 (by decide) ?_
        refine lv_goto (tgt := 161) hx hb dm_notice_157 (by decide) ?_
        exact J161 l3 f_level (-1) (lv_sub hl [0, 3] rfl) hP hD hS h
  have J120 : ∀ (l1 : Int32) (s1 : Int32) (s2 : Int32) {f_rowCount : Int32} {a_rowKind : Nat → Int32} {a_rowValue : Nat → Int32} {f_many : Int32} {a_list : Nat → Int32} {f_seen : Int32} {f_fail : Int32} {f_level : Int32} {a_from : Nat → Int32} {a_eAt : Nat → Int32} {a_whereAt : Nat → Int32} {a_source : Nat → Int32} {a_distinct : Nat → Int32} {a_keeps : Nat → Int32} {f_at : Int32} {f_self : Int32} {f_brackets : Int32} {f_values : Int32} {a_vKind : Nat → Int32} {a_v : Nat → Int32} {f_waiting : Int32} {a_waits : Nat → Int32} {ls : Array Slot} {H : Heap} {locs : List Loc}, lv_has ls 4 [(0, .ref (q 0)), (1, .int l1)] → va_P D hq_cl (hm_w q cI cZ cL f_classes a_parent f_objects a_kindOf a_size a_root a_slotKind a_slot a_kept f_count a_code a_number f_want f_compared f_open a_opened f_rowCount a_rowKind a_rowValue f_many a_list f_seen f_fail f_level a_from a_eAt a_whereAt a_source a_distinct a_keeps f_at f_self f_brackets f_values a_vKind a_v f_waiting a_waits ++ z) H → va_D A (hm_w q cI cZ cL f_classes a_parent f_objects a_kindOf a_size a_root a_slotKind a_slot a_kept f_count a_code a_number f_want f_compared f_open a_opened f_rowCount a_rowKind a_rowValue f_many a_list f_seen f_fail f_level a_from a_eAt a_whereAt a_source a_distinct a_keeps f_at f_self f_brackets f_values a_vKind a_v f_waiting a_waits ++ z) → va_S A s.heap H locs → sm_notice_J120 l1 s1 s2 a_parent f_objects a_kindOf a_size a_root a_slotKind a_slot a_kept f_count a_code a_number f_want f_rowCount a_rowKind a_rowValue f_many a_list f_seen f_fail f_level a_from a_eAt a_whereAt a_source a_distinct a_keeps f_at f_self f_brackets f_values a_vKind a_v f_waiting a_waits = some ur → W p l e R s m args below meth c H locs 0 0 Q (F0 m 120 ls [.int s2, .int s1, .ref (q 19)]) := by
    intro l1 s1 s2 f_rowCount a_rowKind a_rowValue f_many a_list f_seen f_fail f_level a_from a_eAt a_whereAt a_source a_distinct a_keeps f_at f_self f_brackets f_values a_vKind a_v f_waiting a_waits ls H locs hl hP hD hS h
    unfold sm_notice_J120 at h
    obtain ⟨hin, h⟩ := hq_idx h
    obtain ⟨hz, h⟩ := hq_ok h
    refine tm_19 hx hb hK hP hD hS hin hz dm_notice_120 (fun H locs hP hD hS => ?_)
    refine lv_aload_n hx hb dm_notice_121 rfl (lv_at hl 0 rfl) ?_
    refine gm_0_eAt hx hb hts hown hK hP wi_124 dm_notice_122 ?_
    refine lv_aload_n hx hb dm_notice_125 rfl (lv_at hl 0 rfl) ?_
    refine gm_0_level hx hb hts hown hK hP wi_103 dm_notice_126 ?_
    refine lv_iload_n hx hb dm_notice_129 rfl (lv_at hl 1 rfl) ?_
    refine lv_iconst (v := 1) hx hb dm_notice_130 (by decide) ?_
    refine lv_iadd hx hb dm_notice_131 ?_
    obtain ⟨hin, h⟩ := hq_idx h
    refine tm_15 hx hb hK hP hD hS hin dm_notice_132 (fun H locs hP hD hS => ?_)
    refine lv_goto (tgt := 269) hx hb dm_notice_133 (by decide) ?_
    have h := Option.some.inj h
    exact hq_vret hx hb hr hlocks hQ hK hP hD hS rfl (by rw [← h]) dm_notice_269
  have J101 : ∀ (l1 : Int32) (l3 : Int32) (s1 : Int32) (s2 : Int32) {f_rowCount : Int32} {a_rowKind : Nat → Int32} {a_rowValue : Nat → Int32} {f_many : Int32} {a_list : Nat → Int32} {f_seen : Int32} {f_fail : Int32} {f_level : Int32} {a_from : Nat → Int32} {a_eAt : Nat → Int32} {a_whereAt : Nat → Int32} {a_source : Nat → Int32} {a_distinct : Nat → Int32} {a_keeps : Nat → Int32} {f_at : Int32} {f_self : Int32} {f_brackets : Int32} {f_values : Int32} {a_vKind : Nat → Int32} {a_v : Nat → Int32} {f_waiting : Int32} {a_waits : Nat → Int32} {ls : Array Slot} {H : Heap} {locs : List Loc}, lv_has ls 4 [(0, .ref (q 0)), (1, .int l1), (3, .int l3)] → va_P D hq_cl (hm_w q cI cZ cL f_classes a_parent f_objects a_kindOf a_size a_root a_slotKind a_slot a_kept f_count a_code a_number f_want f_compared f_open a_opened f_rowCount a_rowKind a_rowValue f_many a_list f_seen f_fail f_level a_from a_eAt a_whereAt a_source a_distinct a_keeps f_at f_self f_brackets f_values a_vKind a_v f_waiting a_waits ++ z) H → va_D A (hm_w q cI cZ cL f_classes a_parent f_objects a_kindOf a_size a_root a_slotKind a_slot a_kept f_count a_code a_number f_want f_compared f_open a_opened f_rowCount a_rowKind a_rowValue f_many a_list f_seen f_fail f_level a_from a_eAt a_whereAt a_source a_distinct a_keeps f_at f_self f_brackets f_values a_vKind a_v f_waiting a_waits ++ z) → va_S A s.heap H locs → sm_notice_J101 l1 l3 s1 s2 a_parent f_objects a_kindOf a_size a_root a_slotKind a_slot a_kept f_count a_code a_number f_want f_rowCount a_rowKind a_rowValue f_many a_list f_seen f_fail f_level a_from a_eAt a_whereAt a_source a_distinct a_keeps f_at f_self f_brackets f_values a_vKind a_v f_waiting a_waits = some ur → W p l e R s m args below meth c H locs 0 0 Q (F0 m 101 ls [.int s2, .int s1, .ref (q 18)]) := by
    intro l1 l3 s1 s2 f_rowCount a_rowKind a_rowValue f_many a_list f_seen f_fail f_level a_from a_eAt a_whereAt a_source a_distinct a_keeps f_at f_self f_brackets f_values a_vKind a_v f_waiting a_waits ls H locs hl hP hD hS h
    unfold sm_notice_J101 at h
    obtain ⟨hin, h⟩ := hq_idx h
    obtain ⟨hz, h⟩ := hq_ok h
    refine tm_18 hx hb hK hP hD hS hin hz dm_notice_101 (fun H locs hP hD hS => ?_)
    refine lv_aload_n hx hb dm_notice_102 rfl (lv_at hl 0 rfl) ?_
    refine gm_0_keeps hx hb hts hown hK hP wi_130 dm_notice_103 ?_
    refine lv_aload_n hx hb dm_notice_106 rfl (lv_at hl 0 rfl) ?_
    refine gm_0_level hx hb hts hown hK hP wi_103 dm_notice_107 ?_
    refine lv_iload_n hx hb dm_notice_110 rfl (lv_at hl 2 rfl) ?_
    refine lv_iconst (v := 2) hx hb dm_notice_111 (by decide) ?_
    refine lv_icmp_ne (tgt := 119) hx hb dm_notice_112 (by decide) (fun hc => ?_) (fun hc => ?_)
    · have h := (if_neg hc).symm.trans h
      refine lv_iconst (v := 0) hx hb dm_notice_119 (by decide) ?_
      exact J120 l1 f_level 0 (lv_sub hl [0, 1] rfl) hP hD hS h
    · have h := (if_pos hc).symm.trans h
      refine lv_iconst (v := 1) hx hb dm_notice_115 (by decide) ?_
      refine lv_goto (tgt := 120) hx hb dm_notice_116 (by decide) ?_
      exact J120 l1 f_level 1 (lv_sub hl [0, 1] rfl) hP hD hS h
  have J96 : ∀ (l1 : Int32) (l3 : Int32) (s1 : Int32) {f_rowCount : Int32} {a_rowKind : Nat → Int32} {a_rowValue : Nat → Int32} {f_many : Int32} {a_list : Nat → Int32} {f_seen : Int32} {f_fail : Int32} {f_level : Int32} {a_from : Nat → Int32} {a_eAt : Nat → Int32} {a_whereAt : Nat → Int32} {a_source : Nat → Int32} {a_distinct : Nat → Int32} {a_keeps : Nat → Int32} {f_at : Int32} {f_self : Int32} {f_brackets : Int32} {f_values : Int32} {a_vKind : Nat → Int32} {a_v : Nat → Int32} {f_waiting : Int32} {a_waits : Nat → Int32} {ls : Array Slot} {H : Heap} {locs : List Loc}, lv_has ls 4 [(0, .ref (q 0)), (1, .int l1), (3, .int l3)] → va_P D hq_cl (hm_w q cI cZ cL f_classes a_parent f_objects a_kindOf a_size a_root a_slotKind a_slot a_kept f_count a_code a_number f_want f_compared f_open a_opened f_rowCount a_rowKind a_rowValue f_many a_list f_seen f_fail f_level a_from a_eAt a_whereAt a_source a_distinct a_keeps f_at f_self f_brackets f_values a_vKind a_v f_waiting a_waits ++ z) H → va_D A (hm_w q cI cZ cL f_classes a_parent f_objects a_kindOf a_size a_root a_slotKind a_slot a_kept f_count a_code a_number f_want f_compared f_open a_opened f_rowCount a_rowKind a_rowValue f_many a_list f_seen f_fail f_level a_from a_eAt a_whereAt a_source a_distinct a_keeps f_at f_self f_brackets f_values a_vKind a_v f_waiting a_waits ++ z) → va_S A s.heap H locs → sm_notice_J96 l1 l3 s1 a_parent f_objects a_kindOf a_size a_root a_slotKind a_slot a_kept f_count a_code a_number f_want f_rowCount a_rowKind a_rowValue f_many a_list f_seen f_fail f_level a_from a_eAt a_whereAt a_source a_distinct a_keeps f_at f_self f_brackets f_values a_vKind a_v f_waiting a_waits = some ur → W p l e R s m args below meth c H locs 0 0 Q (F0 m 96 ls [.int s1, .ref (q 18)]) := by
    intro l1 l3 s1 f_rowCount a_rowKind a_rowValue f_many a_list f_seen f_fail f_level a_from a_eAt a_whereAt a_source a_distinct a_keeps f_at f_self f_brackets f_values a_vKind a_v f_waiting a_waits ls H locs hl hP hD hS h
    unfold sm_notice_J96 at h
    refine lv_iconst (v := 1) hx hb dm_notice_96 (by decide) ?_
    refine lv_goto (tgt := 101) hx hb dm_notice_97 (by decide) ?_
    exact J101 l1 l3 s1 1 hl hP hD hS h
  have J71 : ∀ (l1 : Int32) (l3 : Int32) {f_rowCount : Int32} {a_rowKind : Nat → Int32} {a_rowValue : Nat → Int32} {f_many : Int32} {a_list : Nat → Int32} {f_seen : Int32} {f_fail : Int32} {f_level : Int32} {a_from : Nat → Int32} {a_eAt : Nat → Int32} {a_whereAt : Nat → Int32} {a_source : Nat → Int32} {a_distinct : Nat → Int32} {a_keeps : Nat → Int32} {f_at : Int32} {f_self : Int32} {f_brackets : Int32} {f_values : Int32} {a_vKind : Nat → Int32} {a_v : Nat → Int32} {f_waiting : Int32} {a_waits : Nat → Int32} {ls : Array Slot} {H : Heap} {locs : List Loc}, lv_has ls 4 [(0, .ref (q 0)), (1, .int l1), (3, .int l3)] → va_P D hq_cl (hm_w q cI cZ cL f_classes a_parent f_objects a_kindOf a_size a_root a_slotKind a_slot a_kept f_count a_code a_number f_want f_compared f_open a_opened f_rowCount a_rowKind a_rowValue f_many a_list f_seen f_fail f_level a_from a_eAt a_whereAt a_source a_distinct a_keeps f_at f_self f_brackets f_values a_vKind a_v f_waiting a_waits ++ z) H → va_D A (hm_w q cI cZ cL f_classes a_parent f_objects a_kindOf a_size a_root a_slotKind a_slot a_kept f_count a_code a_number f_want f_compared f_open a_opened f_rowCount a_rowKind a_rowValue f_many a_list f_seen f_fail f_level a_from a_eAt a_whereAt a_source a_distinct a_keeps f_at f_self f_brackets f_values a_vKind a_v f_waiting a_waits ++ z) → va_S A s.heap H locs → sm_notice_J71 l1 l3 a_parent f_objects a_kindOf a_size a_root a_slotKind a_slot a_kept f_count a_code a_number f_want f_rowCount a_rowKind a_rowValue f_many a_list f_seen f_fail f_level a_from a_eAt a_whereAt a_source a_distinct a_keeps f_at f_self f_brackets f_values a_vKind a_v f_waiting a_waits = some ur → W p l e R s m args below meth c H locs 0 0 Q (F0 m 71 ls []) := by
    intro l1 l3 f_rowCount a_rowKind a_rowValue f_many a_list f_seen f_fail f_level a_from a_eAt a_whereAt a_source a_distinct a_keeps f_at f_self f_brackets f_values a_vKind a_v f_waiting a_waits ls H locs hl hP hD hS h
    unfold sm_notice_J71 at h
    refine lv_aload_n hx hb dm_notice_71 rfl (lv_at hl 0 rfl) ?_
    refine gm_0_distinct hx hb hts hown hK hP wi_128 dm_notice_72 ?_
    refine lv_aload_n hx hb dm_notice_75 rfl (lv_at hl 0 rfl) ?_
    refine gm_0_level hx hb hts hown hK hP wi_103 dm_notice_76 ?_
    refine lv_aload_n hx hb dm_notice_79 rfl (lv_at hl 0 rfl) ?_
    refine gm_0_distinct hx hb hts hown hK hP wi_128 dm_notice_80 ?_
    refine lv_aload_n hx hb dm_notice_83 rfl (lv_at hl 0 rfl) ?_
    refine gm_0_level hx hb hts hown hK hP wi_103 dm_notice_84 ?_
    obtain ⟨hin, h⟩ := hq_idx h
    refine am_18 hx hb hK hP hin dm_notice_87 ?_
    refine lv_if_ne (tgt := 96) hx hb dm_notice_88 (by decide) (fun hc => ?_) (fun hc => ?_)
    · have h := (if_neg hc).symm.trans h
      exact J96 l1 l3 f_level hl hP hD hS h
    · have h := (if_pos hc).symm.trans h
      refine lv_iload_n hx hb dm_notice_91 rfl (lv_at hl 2 rfl) ?_
      refine lv_iconst (v := 1) hx hb dm_notice_92 (by decide) ?_
      refine lv_icmp_ne (tgt := 100) hx hb dm_notice_93 (by decide) (fun hc => ?_) (fun hc => ?_)
      · have h := (if_neg hc).symm.trans h
        refine lv_iconst (v := 0) hx hb dm_notice_100 (by decide) ?_
        exact J101 l1 l3 f_level 0 hl hP hD hS h
      · have h := (if_pos hc).symm.trans h
        exact J96 l1 l3 f_level hl hP hD hS h
  refine lv_aload_n hx hb dm_notice_0 rfl (lv_at hl 0 rfl) ?_
  refine gm_0_code hx hb hts hown hK hP wi_91 dm_notice_1 ?_
  refine lv_iload_n hx hb dm_notice_4 rfl (lv_at hl 1 rfl) ?_
  obtain ⟨hin, h⟩ := hq_idx h
  refine am_8 hx hb hK hP hin dm_notice_5 ?_
  refine lv_istore_n (lv' := [(3, .int (a_code l1.toNatClampNeg)), (0, .ref (q 0)), (1, .int l1), (2, .int l2)]) hx hb dm_notice_6 rfl hl (by decide) rfl (fun ls hl => ?_)
  refine lv_iload_n hx hb dm_notice_7 rfl (lv_at hl 3 rfl) ?_
  refine lv_if_ne (tgt := 56) hx hb dm_notice_8 (by decide) (fun hc => ?_) (fun hc => ?_)
  · have h := (if_neg hc).symm.trans h
    refine lv_iload_n hx hb dm_notice_56 rfl (lv_at hl 3 rfl) ?_
    refine lv_iconst (v := 2) hx hb dm_notice_57 (by decide) ?_
    refine lv_icmp_gt (tgt := 136) hx hb dm_notice_58 (by decide) (fun hc => ?_) (fun hc => ?_)
    · have h := (if_pos hc).symm.trans h
      exact J136 l1 l2 (a_code l1.toNatClampNeg) (lv_sub hl [1, 2, 3, 0] rfl) hP hD hS h
    · have h := (if_neg hc).symm.trans h
      refine lv_iload_n hx hb dm_notice_61 rfl (lv_at hl 0 rfl) ?_
      refine lv_iconst (v := 1) hx hb dm_notice_62 (by decide) ?_
      refine lv_icmp_eq (tgt := 71) hx hb dm_notice_63 (by decide) (fun hc => ?_) (fun hc => ?_)
      · have h := (if_pos hc).symm.trans h
        exact J71 l1 (a_code l1.toNatClampNeg) (lv_sub hl [1, 2, 0] rfl) hP hD hS h
      · have h := (if_neg hc).symm.trans h
        refine lv_iload_n hx hb dm_notice_66 rfl (lv_at hl 0 rfl) ?_
        refine lv_iconst (v := 2) hx hb dm_notice_67 (by decide) ?_
        refine lv_icmp_ne (tgt := 136) hx hb dm_notice_68 (by decide) (fun hc => ?_) (fun hc => ?_)
        · have h := (if_neg hc).symm.trans h
          exact J136 l1 l2 (a_code l1.toNatClampNeg) (lv_sub hl [1, 2, 3, 0] rfl) hP hD hS h
        · have h := (if_pos hc).symm.trans h
          exact J71 l1 (a_code l1.toNatClampNeg) (lv_sub hl [1, 2, 0] rfl) hP hD hS h
  · have h := (if_pos hc).symm.trans h
    refine lv_aload_n hx hb dm_notice_11 rfl (lv_at hl 1 rfl) ?_
    refine gm_0_distinct hx hb hts hown hK hP wi_128 dm_notice_12 ?_
    refine lv_aload_n hx hb dm_notice_15 rfl (lv_at hl 1 rfl) ?_
    refine gm_0_level hx hb hts hown hK hP wi_103 dm_notice_16 ?_
    refine lv_iconst (v := 0) hx hb dm_notice_19 (by decide) ?_
    obtain ⟨hin, h⟩ := hq_idx h
    refine tm_18 hx hb hK hP hD hS hin (by decide) dm_notice_20 (fun H locs hP hD hS => ?_)
    refine lv_aload_n hx hb dm_notice_21 rfl (lv_at hl 1 rfl) ?_
    refine gm_0_keeps hx hb hts hown hK hP wi_130 dm_notice_22 ?_
    refine lv_aload_n hx hb dm_notice_25 rfl (lv_at hl 1 rfl) ?_
    refine gm_0_level hx hb hts hown hK hP wi_103 dm_notice_26 ?_
    refine lv_iconst (v := 0) hx hb dm_notice_29 (by decide) ?_
    obtain ⟨hin, h⟩ := hq_idx h
    refine tm_19 hx hb hK hP hD hS hin (by decide) dm_notice_30 (fun H locs hP hD hS => ?_)
    refine lv_aload_n hx hb dm_notice_31 rfl (lv_at hl 1 rfl) ?_
    refine gm_0_whereAt hx hb hts hown hK hP wi_127 dm_notice_32 ?_
    refine lv_aload_n hx hb dm_notice_35 rfl (lv_at hl 1 rfl) ?_
    refine gm_0_level hx hb hts hown hK hP wi_103 dm_notice_36 ?_
    refine lv_iconst (v := (-1)) hx hb dm_notice_39 (by decide) ?_
    obtain ⟨hin, h⟩ := hq_idx h
    refine tm_16 hx hb hK hP hD hS hin dm_notice_40 (fun H locs hP hD hS => ?_)
    refine lv_aload_n hx hb dm_notice_41 rfl (lv_at hl 1 rfl) ?_
    refine gm_0_eAt hx hb hts hown hK hP wi_124 dm_notice_42 ?_
    refine lv_aload_n hx hb dm_notice_45 rfl (lv_at hl 1 rfl) ?_
    refine gm_0_level hx hb hts hown hK hP wi_103 dm_notice_46 ?_
    refine lv_iload_n hx hb dm_notice_49 rfl (lv_at hl 2 rfl) ?_
    refine lv_iconst (v := 1) hx hb dm_notice_50 (by decide) ?_
    refine lv_iadd hx hb dm_notice_51 ?_
    obtain ⟨hin, h⟩ := hq_idx h
    refine tm_15 hx hb hK hP hD hS hin dm_notice_52 (fun H locs hP hD hS => ?_)
    refine lv_goto (tgt := 269) hx hb dm_notice_53 (by decide) ?_
    have h := Option.some.inj h
    exact hq_vret hx hb hr hlocks hQ hK hP hD hS rfl (by rw [← h]) dm_notice_269
end
section
variable {p : Program} {l : Launch} {e : Env} {R : Room} {s : State} {m : MethodId} {args : Array Value} {below : List Frame} {meth : Method} {c : Code} {H H0 : Heap} {locs : List Loc} {cells slots : Nat} {Q : State → Prop}
variable {cc : ByteArray} {pc idx nC : Nat} {ls : Array Slot} {rest : List Value} {D : va_G} {A : Nat → Prop} {own : String} {q : Nat → Nat} {cI cZ cL : ClassId} {z w : va_W}
variable {f_classes f_objects f_count f_want f_compared f_open f_rowCount f_many f_seen f_fail f_level f_at f_self f_brackets f_values f_waiting : Int32}
variable {a_parent a_kindOf a_size a_root a_slotKind a_slot a_kept a_code a_number a_opened a_rowKind a_rowValue a_list a_from a_eAt a_whereAt a_source a_distinct a_keeps a_vKind a_v a_waits : Nat → Int32}
theorem km_notice (l1 : Int32) (l2 : Int32) (ur : Int32 × (Nat → Int32) × (Nat → Int32) × Int32 × (Nat → Int32) × Int32 × Int32 × Int32 × (Nat → Int32) × (Nat → Int32) × (Nat → Int32) × (Nat → Int32) × (Nat → Int32) × (Nat → Int32) × Int32 × Int32 × Int32 × Int32 × (Nat → Int32) × (Nat → Int32) × Int32 × (Nat → Int32)) (hu : sm_notice l1 l2 a_parent f_objects a_kindOf a_size a_root a_slotKind a_slot a_kept f_count a_code a_number f_want f_rowCount a_rowKind a_rowValue f_many a_list f_seen f_fail f_level a_from a_eAt a_whereAt a_source a_distinct a_keeps f_at f_self f_brackets f_values a_vKind a_v f_waiting a_waits = some ur) (hx : p.tables.exec = Jvm.exec) (hb : c.code = cc) (hml : c.maxLocals = nC) (hts : ∀ x ∈ hq_tbl, x.before args s = true) (hown : s.vm.findClass own = some m.cls) (hK : va_K D hq_cl (hq_tys cI cZ cL) s) (hP : va_P D hq_cl (hm_w q cI cZ cL f_classes a_parent f_objects a_kindOf a_size a_root a_slotKind a_slot a_kept f_count a_code a_number f_want f_compared f_open a_opened f_rowCount a_rowKind a_rowValue f_many a_list f_seen f_fail f_level a_from a_eAt a_whereAt a_source a_distinct a_keeps f_at f_self f_brackets f_values a_vKind a_v f_waiting a_waits ++ z) H) (hD : va_D A (hm_w q cI cZ cL f_classes a_parent f_objects a_kindOf a_size a_root a_slotKind a_slot a_kept f_count a_code a_number f_want f_compared f_open a_opened f_rowCount a_rowKind a_rowValue f_many a_list f_seen f_fail f_level a_from a_eAt a_whereAt a_source a_distinct a_keeps f_at f_self f_brackets f_values a_vKind a_v f_waiting a_waits ++ z)) (hS : va_S A H0 H locs) (h1 : Cond.methodLink own idx ym_notice ∈ hq_tbl) (hR : 8 + 1 ≤ R.frames ∧ 8 + (4 + 11) + 182 ≤ R.locals) (hls : ls.size = nC) (hW : (rest.map fun v => v.category).sum ≤ 8) (hdg : decode cc pc = .ok (.invokevirtual idx, 3)) (hf : cells + 0 ≤ R.cells ∧ slots + 0 ≤ R.slots) (kk : ∀ (H1 : Heap) (locs1 : List Loc), va_P D hq_cl (hm_w q cI cZ cL f_classes a_parent f_objects a_kindOf a_size a_root a_slotKind a_slot a_kept f_count a_code a_number f_want f_compared f_open a_opened ur.1 ur.2.1 ur.2.2.1 ur.2.2.2.1 ur.2.2.2.2.1 ur.2.2.2.2.2.1 ur.2.2.2.2.2.2.1 ur.2.2.2.2.2.2.2.1 ur.2.2.2.2.2.2.2.2.1 ur.2.2.2.2.2.2.2.2.2.1 ur.2.2.2.2.2.2.2.2.2.2.1 ur.2.2.2.2.2.2.2.2.2.2.2.1 ur.2.2.2.2.2.2.2.2.2.2.2.2.1 ur.2.2.2.2.2.2.2.2.2.2.2.2.2.1 ur.2.2.2.2.2.2.2.2.2.2.2.2.2.2.1 ur.2.2.2.2.2.2.2.2.2.2.2.2.2.2.2.1 ur.2.2.2.2.2.2.2.2.2.2.2.2.2.2.2.2.1 ur.2.2.2.2.2.2.2.2.2.2.2.2.2.2.2.2.2.1 ur.2.2.2.2.2.2.2.2.2.2.2.2.2.2.2.2.2.2.1 ur.2.2.2.2.2.2.2.2.2.2.2.2.2.2.2.2.2.2.2.1 ur.2.2.2.2.2.2.2.2.2.2.2.2.2.2.2.2.2.2.2.2.1 ur.2.2.2.2.2.2.2.2.2.2.2.2.2.2.2.2.2.2.2.2.2 ++ z) H1 → va_D A (hm_w q cI cZ cL f_classes a_parent f_objects a_kindOf a_size a_root a_slotKind a_slot a_kept f_count a_code a_number f_want f_compared f_open a_opened ur.1 ur.2.1 ur.2.2.1 ur.2.2.2.1 ur.2.2.2.2.1 ur.2.2.2.2.2.1 ur.2.2.2.2.2.2.1 ur.2.2.2.2.2.2.2.1 ur.2.2.2.2.2.2.2.2.1 ur.2.2.2.2.2.2.2.2.2.1 ur.2.2.2.2.2.2.2.2.2.2.1 ur.2.2.2.2.2.2.2.2.2.2.2.1 ur.2.2.2.2.2.2.2.2.2.2.2.2.1 ur.2.2.2.2.2.2.2.2.2.2.2.2.2.1 ur.2.2.2.2.2.2.2.2.2.2.2.2.2.2.1 ur.2.2.2.2.2.2.2.2.2.2.2.2.2.2.2.1 ur.2.2.2.2.2.2.2.2.2.2.2.2.2.2.2.2.1 ur.2.2.2.2.2.2.2.2.2.2.2.2.2.2.2.2.2.1 ur.2.2.2.2.2.2.2.2.2.2.2.2.2.2.2.2.2.2.1 ur.2.2.2.2.2.2.2.2.2.2.2.2.2.2.2.2.2.2.2.1 ur.2.2.2.2.2.2.2.2.2.2.2.2.2.2.2.2.2.2.2.2.1 ur.2.2.2.2.2.2.2.2.2.2.2.2.2.2.2.2.2.2.2.2.2 ++ z) → va_S A H0 H1 locs1 → W p l e R s m args below meth c H1 locs1 cells slots Q (F0 m (pc + 3) ls (rest))) : W p l e R s m args below meth c H locs cells slots Q (F0 m pc ls (.int l2 :: .int l1 :: .ref (q 0) :: rest)) :=
  hq_callV (q0 := 0) hx hb hml hown hts hK hP hD hS (cm_notice l1 l2 ur hu) rfl rfl h1 wi_461 wi_462 wi_338 wi_463 2 rfl (by decide +kernel) ⟨rfl, rfl⟩ hR hls rfl hW hdg hf kk
end
theorem dm_run_0 : decode bm_run 0 = .ok (.aload_n 0, 1) := by decide +kernel
theorem dm_run_1 : decode bm_run 1 = .ok (.getfield 131, 3) := by decide +kernel
theorem dm_run_4 : decode bm_run 4 = .ok (.ifCond .eq 19, 3) := by decide +kernel
theorem dm_run_7 : decode bm_run 7 = .ok (.aload_n 0, 1) := by decide +kernel
theorem dm_run_8 : decode bm_run 8 = .ok (.getfield 32, 3) := by decide +kernel
theorem dm_run_11 : decode bm_run 11 = .ok (.aload_n 0, 1) := by decide +kernel
theorem dm_run_12 : decode bm_run 12 = .ok (.getfield 131, 3) := by decide +kernel
theorem dm_run_15 : decode bm_run 15 = .ok (.iconst 1, 1) := by decide +kernel
theorem dm_run_16 : decode bm_run 16 = .ok (.isub, 1) := by decide +kernel
theorem dm_run_17 : decode bm_run 17 = .ok (.iaload, 1) := by decide +kernel
theorem dm_run_18 : decode bm_run 18 = .ok (.bipush 24, 2) := by decide +kernel
theorem dm_run_20 : decode bm_run 20 = .ok (.if_icmp .eq 5, 3) := by decide +kernel
theorem dm_run_23 : decode bm_run 23 = .ok (.iconst (-1), 1) := by decide +kernel
theorem dm_run_24 : decode bm_run 24 = .ok (.ireturn, 1) := by decide +kernel
theorem dm_run_25 : decode bm_run 25 = .ok (.aload_n 0, 1) := by decide +kernel
theorem dm_run_26 : decode bm_run 26 = .ok (.iconst 0, 1) := by decide +kernel
theorem dm_run_27 : decode bm_run 27 = .ok (.putfield 143, 3) := by decide +kernel
theorem dm_run_30 : decode bm_run 30 = .ok (.aload_n 0, 1) := by decide +kernel
theorem dm_run_31 : decode bm_run 31 = .ok (.iconst 0, 1) := by decide +kernel
theorem dm_run_32 : decode bm_run 32 = .ok (.putfield 146, 3) := by decide +kernel
theorem dm_run_35 : decode bm_run 35 = .ok (.aload_n 0, 1) := by decide +kernel
theorem dm_run_36 : decode bm_run 36 = .ok (.iconst 0, 1) := by decide +kernel
theorem dm_run_37 : decode bm_run 37 = .ok (.putfield 149, 3) := by decide +kernel
theorem dm_run_40 : decode bm_run 40 = .ok (.aload_n 0, 1) := by decide +kernel
theorem dm_run_41 : decode bm_run 41 = .ok (.iconst 0, 1) := by decide +kernel
theorem dm_run_42 : decode bm_run 42 = .ok (.putfield 152, 3) := by decide +kernel
theorem dm_run_45 : decode bm_run 45 = .ok (.aload_n 0, 1) := by decide +kernel
theorem dm_run_46 : decode bm_run 46 = .ok (.getfield 50, 3) := by decide +kernel
theorem dm_run_49 : decode bm_run 49 = .ok (.iconst 0, 1) := by decide +kernel
theorem dm_run_50 : decode bm_run 50 = .ok (.iconst 0, 1) := by decide +kernel
theorem dm_run_51 : decode bm_run 51 = .ok (.iastore, 1) := by decide +kernel
theorem dm_run_52 : decode bm_run 52 = .ok (.aload_n 0, 1) := by decide +kernel
theorem dm_run_53 : decode bm_run 53 = .ok (.invokevirtual 96, 3) := by decide +kernel
theorem dm_run_56 : decode bm_run 56 = .ok (.aload_n 0, 1) := by decide +kernel
theorem dm_run_57 : decode bm_run 57 = .ok (.invokevirtual 137, 3) := by decide +kernel
theorem dm_run_60 : decode bm_run 60 = .ok (.iconst 0, 1) := by decide +kernel
theorem dm_run_61 : decode bm_run 61 = .ok (.istore_n 1, 1) := by decide +kernel
theorem dm_run_62 : decode bm_run 62 = .ok (.iload_n 1, 1) := by decide +kernel
theorem dm_run_63 : decode bm_run 63 = .ok (.aload_n 0, 1) := by decide +kernel
theorem dm_run_64 : decode bm_run 64 = .ok (.getfield 131, 3) := by decide +kernel
theorem dm_run_67 : decode bm_run 67 = .ok (.if_icmp .ge 38, 3) := by decide +kernel
theorem dm_run_70 : decode bm_run 70 = .ok (.aload_n 0, 1) := by decide +kernel
theorem dm_run_71 : decode bm_run 71 = .ok (.getfield 143, 3) := by decide +kernel
theorem dm_run_74 : decode bm_run 74 = .ok (.ifCond .ne 31, 3) := by decide +kernel
theorem dm_run_77 : decode bm_run 77 = .ok (.aload_n 0, 1) := by decide +kernel
theorem dm_run_78 : decode bm_run 78 = .ok (.getfield 105, 3) := by decide +kernel
theorem dm_run_81 : decode bm_run 81 = .ok (.istore_n 2, 1) := by decide +kernel
theorem dm_run_82 : decode bm_run 82 = .ok (.aload_n 0, 1) := by decide +kernel
theorem dm_run_83 : decode bm_run 83 = .ok (.aload_n 0, 1) := by decide +kernel
theorem dm_run_84 : decode bm_run 84 = .ok (.getfield 32, 3) := by decide +kernel
theorem dm_run_87 : decode bm_run 87 = .ok (.iload_n 1, 1) := by decide +kernel
theorem dm_run_88 : decode bm_run 88 = .ok (.iaload, 1) := by decide +kernel
theorem dm_run_89 : decode bm_run 89 = .ok (.invokevirtual 140, 3) := by decide +kernel
theorem dm_run_92 : decode bm_run 92 = .ok (.pop, 1) := by decide +kernel
theorem dm_run_93 : decode bm_run 93 = .ok (.aload_n 0, 1) := by decide +kernel
theorem dm_run_94 : decode bm_run 94 = .ok (.iload_n 1, 1) := by decide +kernel
theorem dm_run_95 : decode bm_run 95 = .ok (.iload_n 2, 1) := by decide +kernel
theorem dm_run_96 : decode bm_run 96 = .ok (.invokevirtual 155, 3) := by decide +kernel
theorem dm_run_99 : decode bm_run 99 = .ok (.iinc 1 1, 3) := by decide +kernel
theorem dm_run_102 : decode bm_run 102 = .ok (.goto (-40), 3) := by decide +kernel
theorem dm_run_105 : decode bm_run 105 = .ok (.aload_n 0, 1) := by decide +kernel
theorem dm_run_106 : decode bm_run 106 = .ok (.aload_n 0, 1) := by decide +kernel
theorem dm_run_107 : decode bm_run 107 = .ok (.getfield 143, 3) := by decide +kernel
theorem dm_run_110 : decode bm_run 110 = .ok (.ifCond .ne 10, 3) := by decide +kernel
theorem dm_run_113 : decode bm_run 113 = .ok (.aload_n 0, 1) := by decide +kernel
theorem dm_run_114 : decode bm_run 114 = .ok (.getfield 149, 3) := by decide +kernel
theorem dm_run_117 : decode bm_run 117 = .ok (.goto 4, 3) := by decide +kernel
theorem dm_run_120 : decode bm_run 120 = .ok (.iconst 0, 1) := by decide +kernel
theorem dm_run_121 : decode bm_run 121 = .ok (.putfield 149, 3) := by decide +kernel
theorem dm_run_124 : decode bm_run 124 = .ok (.aload_n 0, 1) := by decide +kernel
theorem dm_run_125 : decode bm_run 125 = .ok (.getfield 143, 3) := by decide +kernel
theorem dm_run_128 : decode bm_run 128 = .ok (.ifCond .ne 10, 3) := by decide +kernel
theorem dm_run_131 : decode bm_run 131 = .ok (.aload_n 0, 1) := by decide +kernel
theorem dm_run_132 : decode bm_run 132 = .ok (.getfield 149, 3) := by decide +kernel
theorem dm_run_135 : decode bm_run 135 = .ok (.goto 7, 3) := by decide +kernel
theorem dm_run_138 : decode bm_run 138 = .ok (.aload_n 0, 1) := by decide +kernel
theorem dm_run_139 : decode bm_run 139 = .ok (.getfield 143, 3) := by decide +kernel
theorem dm_run_142 : decode bm_run 142 = .ok (.ireturn, 1) := by decide +kernel
section
variable {l : Launch} {D : va_G} {A : Nat → Prop} {z w : va_W} {q : Nat → Nat} {cI cZ cL : ClassId}
variable {f_classes f_objects f_count f_want f_compared f_open f_rowCount f_many f_seen f_fail f_level f_at f_self f_brackets f_values f_waiting : Int32}
variable {a_parent a_kindOf a_size a_root a_slotKind a_slot a_kept a_code a_number a_opened a_rowKind a_rowValue a_list a_from a_eAt a_whereAt a_source a_distinct a_keeps a_vKind a_v a_waits : Nat → Int32}
set_option maxHeartbeats 4000000 in
set_option maxRecDepth 100000 in
theorem cm_run  (ur : Int32 × (Nat → Int32) × Int32 × Int32 × Int32 × (Nat → Int32) × Int32 × (Nat → Int32) × (Nat → Int32) × Int32 × (Nat → Int32) × Int32 × Int32 × Int32 × (Nat → Int32) × (Nat → Int32) × (Nat → Int32) × (Nat → Int32) × (Nat → Int32) × (Nat → Int32) × Int32 × Int32 × Int32 × Int32 × (Nat → Int32) × (Nat → Int32) × Int32 × (Nat → Int32)) (h : sm_run a_parent f_objects a_kindOf a_size a_root a_slotKind a_slot a_kept f_count a_code a_number f_want f_compared f_open a_opened f_rowCount a_rowKind a_rowValue f_many a_list f_seen f_fail f_level a_from a_eAt a_whereAt a_source a_distinct a_keeps f_at f_self f_brackets f_values a_vKind a_v f_waiting a_waits = some ur) : hq_Ct l ym_run bm_run 3 (some .int) { frames := 9, cells := 0, slots := 0, locals := 205 } D (hq_tys cI cZ cL) A [.ref (q 0)] (hm_w q cI cZ cL f_classes a_parent f_objects a_kindOf a_size a_root a_slotKind a_slot a_kept f_count a_code a_number f_want f_compared f_open a_opened f_rowCount a_rowKind a_rowValue f_many a_list f_seen f_fail f_level a_from a_eAt a_whereAt a_source a_distinct a_keeps f_at f_self f_brackets f_values a_vKind a_v f_waiting a_waits ++ z) (hm_w q cI cZ cL f_classes a_parent f_objects a_kindOf a_size a_root a_slotKind a_slot ur.2.1 f_count a_code a_number ur.2.2.1 ur.2.2.2.1 ur.2.2.2.2.1 ur.2.2.2.2.2.1 ur.2.2.2.2.2.2.1 ur.2.2.2.2.2.2.2.1 ur.2.2.2.2.2.2.2.2.1 ur.2.2.2.2.2.2.2.2.2.1 ur.2.2.2.2.2.2.2.2.2.2.1 ur.2.2.2.2.2.2.2.2.2.2.2.1 ur.2.2.2.2.2.2.2.2.2.2.2.2.1 ur.2.2.2.2.2.2.2.2.2.2.2.2.2.1 ur.2.2.2.2.2.2.2.2.2.2.2.2.2.2.1 ur.2.2.2.2.2.2.2.2.2.2.2.2.2.2.2.1 ur.2.2.2.2.2.2.2.2.2.2.2.2.2.2.2.2.1 ur.2.2.2.2.2.2.2.2.2.2.2.2.2.2.2.2.2.1 ur.2.2.2.2.2.2.2.2.2.2.2.2.2.2.2.2.2.2.1 ur.2.2.2.2.2.2.2.2.2.2.2.2.2.2.2.2.2.2.2.1 ur.2.2.2.2.2.2.2.2.2.2.2.2.2.2.2.2.2.2.2.2.1 ur.2.2.2.2.2.2.2.2.2.2.2.2.2.2.2.2.2.2.2.2.2.1 ur.2.2.2.2.2.2.2.2.2.2.2.2.2.2.2.2.2.2.2.2.2.2.1 ur.2.2.2.2.2.2.2.2.2.2.2.2.2.2.2.2.2.2.2.2.2.2.2.1 ur.2.2.2.2.2.2.2.2.2.2.2.2.2.2.2.2.2.2.2.2.2.2.2.2.1 ur.2.2.2.2.2.2.2.2.2.2.2.2.2.2.2.2.2.2.2.2.2.2.2.2.2.1 ur.2.2.2.2.2.2.2.2.2.2.2.2.2.2.2.2.2.2.2.2.2.2.2.2.2.2.1 ur.2.2.2.2.2.2.2.2.2.2.2.2.2.2.2.2.2.2.2.2.2.2.2.2.2.2.2 ++ z) (some (.int ur.1)) 0 0 := by
  refine hq_of (by decide) ?_ (Nat.le_of_ble_eq_true rfl)
  intro p e s m below meth c R args Q hRm hQ hx hb hr hml hts hown hlocks hnm hP hK hD ls hl hS
  have hl : lv_has ls 3 [(0, .ref (q 0))] := hl
  have hown : s.vm.findClass "HeapQueriesModel" = some m.cls := hown
  unfold sm_run at h
  have J121 : ∀ (s1 : Int32) {a_kept : Nat → Int32} {f_want : Int32} {f_compared : Int32} {f_open : Int32} {a_opened : Nat → Int32} {f_rowCount : Int32} {a_rowKind : Nat → Int32} {a_rowValue : Nat → Int32} {f_many : Int32} {a_list : Nat → Int32} {f_seen : Int32} {f_fail : Int32} {f_level : Int32} {a_from : Nat → Int32} {a_eAt : Nat → Int32} {a_whereAt : Nat → Int32} {a_source : Nat → Int32} {a_distinct : Nat → Int32} {a_keeps : Nat → Int32} {f_at : Int32} {f_self : Int32} {f_brackets : Int32} {f_values : Int32} {a_vKind : Nat → Int32} {a_v : Nat → Int32} {f_waiting : Int32} {a_waits : Nat → Int32} {ls : Array Slot} {H : Heap} {locs : List Loc}, lv_has ls 3 [(0, .ref (q 0))] → va_P D hq_cl (hm_w q cI cZ cL f_classes a_parent f_objects a_kindOf a_size a_root a_slotKind a_slot a_kept f_count a_code a_number f_want f_compared f_open a_opened f_rowCount a_rowKind a_rowValue f_many a_list f_seen f_fail f_level a_from a_eAt a_whereAt a_source a_distinct a_keeps f_at f_self f_brackets f_values a_vKind a_v f_waiting a_waits ++ z) H → va_D A (hm_w q cI cZ cL f_classes a_parent f_objects a_kindOf a_size a_root a_slotKind a_slot a_kept f_count a_code a_number f_want f_compared f_open a_opened f_rowCount a_rowKind a_rowValue f_many a_list f_seen f_fail f_level a_from a_eAt a_whereAt a_source a_distinct a_keeps f_at f_self f_brackets f_values a_vKind a_v f_waiting a_waits ++ z) → va_S A s.heap H locs → sm_run_J121 s1 a_parent f_objects a_kindOf a_size a_root a_slotKind a_slot a_kept f_count a_code a_number f_want f_compared f_open a_opened f_rowCount a_rowKind a_rowValue f_many a_list f_seen f_fail f_level a_from a_eAt a_whereAt a_source a_distinct a_keeps f_at f_self f_brackets f_values a_vKind a_v f_waiting a_waits = some ur → W p l e R s m args below meth c H locs 0 0 Q (F0 m 121 ls [.int s1, .ref (q 0)]) := by
    intro s1 a_kept f_want f_compared f_open a_opened f_rowCount a_rowKind a_rowValue f_many a_list f_seen f_fail f_level a_from a_eAt a_whereAt a_source a_distinct a_keeps f_at f_self f_brackets f_values a_vKind a_v f_waiting a_waits ls H locs hl hP hD hS h
    unfold sm_run_J121 at h
    refine pm_0_rowCount hx hb hts hown hK hP hD hS wi_99 dm_run_121 (fun H locs hP hD hS => ?_)
    refine lv_aload_n hx hb dm_run_124 rfl (lv_at hl 0 rfl) ?_
    refine gm_0_fail hx hb hts hown hK hP wi_109 dm_run_125 ?_
    refine lv_if_ne (tgt := 138) hx hb dm_run_128 (by decide) (fun hc => ?_) (fun hc => ?_)
    · have h := (if_neg hc).symm.trans h
      refine lv_aload_n hx hb dm_run_138 rfl (lv_at hl 0 rfl) ?_
      refine gm_0_fail hx hb hts hown hK hP wi_109 dm_run_139 ?_
      have h := Option.some.inj h
      exact hq_iret hx hb hr hlocks hQ hK hP hD hS (by rw [← h]) (by rw [← h]) dm_run_142
    · have h := (if_pos hc).symm.trans h
      refine lv_aload_n hx hb dm_run_131 rfl (lv_at hl 0 rfl) ?_
      refine gm_0_rowCount hx hb hts hown hK hP wi_99 dm_run_132 ?_
      refine lv_goto (tgt := 142) hx hb dm_run_135 (by decide) ?_
      have h := Option.some.inj h
      exact hq_iret hx hb hr hlocks hQ hK hP hD hS (by rw [← h]) (by rw [← h]) dm_run_142
  have J105 : ∀ {a_kept : Nat → Int32} {f_want : Int32} {f_compared : Int32} {f_open : Int32} {a_opened : Nat → Int32} {f_rowCount : Int32} {a_rowKind : Nat → Int32} {a_rowValue : Nat → Int32} {f_many : Int32} {a_list : Nat → Int32} {f_seen : Int32} {f_fail : Int32} {f_level : Int32} {a_from : Nat → Int32} {a_eAt : Nat → Int32} {a_whereAt : Nat → Int32} {a_source : Nat → Int32} {a_distinct : Nat → Int32} {a_keeps : Nat → Int32} {f_at : Int32} {f_self : Int32} {f_brackets : Int32} {f_values : Int32} {a_vKind : Nat → Int32} {a_v : Nat → Int32} {f_waiting : Int32} {a_waits : Nat → Int32} {ls : Array Slot} {H : Heap} {locs : List Loc}, lv_has ls 3 [(0, .ref (q 0))] → va_P D hq_cl (hm_w q cI cZ cL f_classes a_parent f_objects a_kindOf a_size a_root a_slotKind a_slot a_kept f_count a_code a_number f_want f_compared f_open a_opened f_rowCount a_rowKind a_rowValue f_many a_list f_seen f_fail f_level a_from a_eAt a_whereAt a_source a_distinct a_keeps f_at f_self f_brackets f_values a_vKind a_v f_waiting a_waits ++ z) H → va_D A (hm_w q cI cZ cL f_classes a_parent f_objects a_kindOf a_size a_root a_slotKind a_slot a_kept f_count a_code a_number f_want f_compared f_open a_opened f_rowCount a_rowKind a_rowValue f_many a_list f_seen f_fail f_level a_from a_eAt a_whereAt a_source a_distinct a_keeps f_at f_self f_brackets f_values a_vKind a_v f_waiting a_waits ++ z) → va_S A s.heap H locs → sm_run_J105 a_parent f_objects a_kindOf a_size a_root a_slotKind a_slot a_kept f_count a_code a_number f_want f_compared f_open a_opened f_rowCount a_rowKind a_rowValue f_many a_list f_seen f_fail f_level a_from a_eAt a_whereAt a_source a_distinct a_keeps f_at f_self f_brackets f_values a_vKind a_v f_waiting a_waits = some ur → W p l e R s m args below meth c H locs 0 0 Q (F0 m 105 ls []) := by
    intro a_kept f_want f_compared f_open a_opened f_rowCount a_rowKind a_rowValue f_many a_list f_seen f_fail f_level a_from a_eAt a_whereAt a_source a_distinct a_keeps f_at f_self f_brackets f_values a_vKind a_v f_waiting a_waits ls H locs hl hP hD hS h
    unfold sm_run_J105 at h
    refine lv_aload_n hx hb dm_run_105 rfl (lv_at hl 0 rfl) ?_
    refine lv_aload_n hx hb dm_run_106 rfl (lv_at hl 0 rfl) ?_
    refine gm_0_fail hx hb hts hown hK hP wi_109 dm_run_107 ?_
    refine lv_if_ne (tgt := 120) hx hb dm_run_110 (by decide) (fun hc => ?_) (fun hc => ?_)
    · have h := (if_neg hc).symm.trans h
      refine lv_iconst (v := 0) hx hb dm_run_120 (by decide) ?_
      exact J121 0 hl hP hD hS h
    · have h := (if_pos hc).symm.trans h
      refine lv_aload_n hx hb dm_run_113 rfl (lv_at hl 0 rfl) ?_
      refine gm_0_rowCount hx hb hts hown hK hP wi_99 dm_run_114 ?_
      refine lv_goto (tgt := 121) hx hb dm_run_117 (by decide) ?_
      exact J121 f_rowCount hl hP hD hS h
  have L62 : ∀ (n : Nat) (l1 : Int32) {a_kept : Nat → Int32} {f_want : Int32} {f_compared : Int32} {f_open : Int32} {a_opened : Nat → Int32} {f_rowCount : Int32} {a_rowKind : Nat → Int32} {a_rowValue : Nat → Int32} {f_many : Int32} {a_list : Nat → Int32} {f_seen : Int32} {f_fail : Int32} {f_level : Int32} {a_from : Nat → Int32} {a_eAt : Nat → Int32} {a_whereAt : Nat → Int32} {a_source : Nat → Int32} {a_distinct : Nat → Int32} {a_keeps : Nat → Int32} {f_at : Int32} {f_self : Int32} {f_brackets : Int32} {f_values : Int32} {a_vKind : Nat → Int32} {a_v : Nat → Int32} {f_waiting : Int32} {a_waits : Nat → Int32} {ls : Array Slot} {H : Heap} {locs : List Loc}, lv_has ls 3 [(0, .ref (q 0)), (1, .int l1)] → va_P D hq_cl (hm_w q cI cZ cL f_classes a_parent f_objects a_kindOf a_size a_root a_slotKind a_slot a_kept f_count a_code a_number f_want f_compared f_open a_opened f_rowCount a_rowKind a_rowValue f_many a_list f_seen f_fail f_level a_from a_eAt a_whereAt a_source a_distinct a_keeps f_at f_self f_brackets f_values a_vKind a_v f_waiting a_waits ++ z) H → va_D A (hm_w q cI cZ cL f_classes a_parent f_objects a_kindOf a_size a_root a_slotKind a_slot a_kept f_count a_code a_number f_want f_compared f_open a_opened f_rowCount a_rowKind a_rowValue f_many a_list f_seen f_fail f_level a_from a_eAt a_whereAt a_source a_distinct a_keeps f_at f_self f_brackets f_values a_vKind a_v f_waiting a_waits ++ z) → va_S A s.heap H locs → ∀ u62, sm_run_L62 n l1 a_parent f_objects a_kindOf a_size a_root a_slotKind a_slot a_kept f_count a_code a_number f_want f_compared f_open a_opened f_rowCount a_rowKind a_rowValue f_many a_list f_seen f_fail f_level a_from a_eAt a_whereAt a_source a_distinct a_keeps f_at f_self f_brackets f_values a_vKind a_v f_waiting a_waits = some u62 → (∀ (ls : Array Slot) (H : Heap) (locs : List Loc), lv_has ls 3 [(0, .ref (q 0))] → va_P D hq_cl (hm_w q cI cZ cL f_classes a_parent f_objects a_kindOf a_size a_root a_slotKind a_slot a_kept f_count a_code a_number u62.1 u62.2.1 u62.2.2.1 u62.2.2.2.1 u62.2.2.2.2.1 u62.2.2.2.2.2.1 u62.2.2.2.2.2.2.1 u62.2.2.2.2.2.2.2.1 u62.2.2.2.2.2.2.2.2.1 u62.2.2.2.2.2.2.2.2.2.1 u62.2.2.2.2.2.2.2.2.2.2.1 u62.2.2.2.2.2.2.2.2.2.2.2.1 u62.2.2.2.2.2.2.2.2.2.2.2.2.1 u62.2.2.2.2.2.2.2.2.2.2.2.2.2.1 u62.2.2.2.2.2.2.2.2.2.2.2.2.2.2.1 u62.2.2.2.2.2.2.2.2.2.2.2.2.2.2.2.1 u62.2.2.2.2.2.2.2.2.2.2.2.2.2.2.2.2.1 u62.2.2.2.2.2.2.2.2.2.2.2.2.2.2.2.2.2.1 u62.2.2.2.2.2.2.2.2.2.2.2.2.2.2.2.2.2.2.1 u62.2.2.2.2.2.2.2.2.2.2.2.2.2.2.2.2.2.2.2.1 u62.2.2.2.2.2.2.2.2.2.2.2.2.2.2.2.2.2.2.2.2.1 u62.2.2.2.2.2.2.2.2.2.2.2.2.2.2.2.2.2.2.2.2.2.1 u62.2.2.2.2.2.2.2.2.2.2.2.2.2.2.2.2.2.2.2.2.2.2.1 u62.2.2.2.2.2.2.2.2.2.2.2.2.2.2.2.2.2.2.2.2.2.2.2.1 u62.2.2.2.2.2.2.2.2.2.2.2.2.2.2.2.2.2.2.2.2.2.2.2.2.1 u62.2.2.2.2.2.2.2.2.2.2.2.2.2.2.2.2.2.2.2.2.2.2.2.2.2 ++ z) H → va_D A (hm_w q cI cZ cL f_classes a_parent f_objects a_kindOf a_size a_root a_slotKind a_slot a_kept f_count a_code a_number u62.1 u62.2.1 u62.2.2.1 u62.2.2.2.1 u62.2.2.2.2.1 u62.2.2.2.2.2.1 u62.2.2.2.2.2.2.1 u62.2.2.2.2.2.2.2.1 u62.2.2.2.2.2.2.2.2.1 u62.2.2.2.2.2.2.2.2.2.1 u62.2.2.2.2.2.2.2.2.2.2.1 u62.2.2.2.2.2.2.2.2.2.2.2.1 u62.2.2.2.2.2.2.2.2.2.2.2.2.1 u62.2.2.2.2.2.2.2.2.2.2.2.2.2.1 u62.2.2.2.2.2.2.2.2.2.2.2.2.2.2.1 u62.2.2.2.2.2.2.2.2.2.2.2.2.2.2.2.1 u62.2.2.2.2.2.2.2.2.2.2.2.2.2.2.2.2.1 u62.2.2.2.2.2.2.2.2.2.2.2.2.2.2.2.2.2.1 u62.2.2.2.2.2.2.2.2.2.2.2.2.2.2.2.2.2.2.1 u62.2.2.2.2.2.2.2.2.2.2.2.2.2.2.2.2.2.2.2.1 u62.2.2.2.2.2.2.2.2.2.2.2.2.2.2.2.2.2.2.2.2.1 u62.2.2.2.2.2.2.2.2.2.2.2.2.2.2.2.2.2.2.2.2.2.1 u62.2.2.2.2.2.2.2.2.2.2.2.2.2.2.2.2.2.2.2.2.2.2.1 u62.2.2.2.2.2.2.2.2.2.2.2.2.2.2.2.2.2.2.2.2.2.2.2.1 u62.2.2.2.2.2.2.2.2.2.2.2.2.2.2.2.2.2.2.2.2.2.2.2.2.1 u62.2.2.2.2.2.2.2.2.2.2.2.2.2.2.2.2.2.2.2.2.2.2.2.2.2 ++ z) → va_S A s.heap H locs → W p l e R s m args below meth c H locs 0 0 Q (F0 m 105 ls [])) → W p l e R s m args below meth c H locs 0 0 Q (F0 m 62 ls []) := by
    intro n
    induction n with
    | zero =>
      intro l1 a_kept f_want f_compared f_open a_opened f_rowCount a_rowKind a_rowValue f_many a_list f_seen f_fail f_level a_from a_eAt a_whereAt a_source a_distinct a_keeps f_at f_self f_brackets f_values a_vKind a_v f_waiting a_waits ls H locs hl hP hD hS u62 h kx
      have h : (none : Option (Int32 × Int32 × Int32 × (Nat → Int32) × Int32 × (Nat → Int32) × (Nat → Int32) × Int32 × (Nat → Int32) × Int32 × Int32 × Int32 × (Nat → Int32) × (Nat → Int32) × (Nat → Int32) × (Nat → Int32) × (Nat → Int32) × (Nat → Int32) × Int32 × Int32 × Int32 × Int32 × (Nat → Int32) × (Nat → Int32) × Int32 × (Nat → Int32))) = some u62 := h
      cases h
    | succ n ih =>
      intro l1 a_kept f_want f_compared f_open a_opened f_rowCount a_rowKind a_rowValue f_many a_list f_seen f_fail f_level a_from a_eAt a_whereAt a_source a_distinct a_keeps f_at f_self f_brackets f_values a_vKind a_v f_waiting a_waits ls H locs hl hP hD hS u62 h kx
      have h : sm_run_L62_B (sm_run_L62 n) l1 a_parent f_objects a_kindOf a_size a_root a_slotKind a_slot a_kept f_count a_code a_number f_want f_compared f_open a_opened f_rowCount a_rowKind a_rowValue f_many a_list f_seen f_fail f_level a_from a_eAt a_whereAt a_source a_distinct a_keeps f_at f_self f_brackets f_values a_vKind a_v f_waiting a_waits = some u62 := h
      unfold sm_run_L62_B at h
      refine lv_iload_n hx hb dm_run_62 rfl (lv_at hl 1 rfl) ?_
      refine lv_aload_n hx hb dm_run_63 rfl (lv_at hl 0 rfl) ?_
      refine gm_0_count hx hb hts hown hK hP wi_90 dm_run_64 ?_
      refine lv_icmp_ge (tgt := 105) hx hb dm_run_67 (by decide) (fun hc => ?_) (fun hc => ?_)
      · have h := (if_pos hc).symm.trans h
        have h := Option.some.inj h
        subst h
        exact kx ls H locs (lv_sub hl [0] rfl) hP hD hS
      · have h := (if_neg hc).symm.trans h
        refine lv_aload_n hx hb dm_run_70 rfl (lv_at hl 0 rfl) ?_
        refine gm_0_fail hx hb hts hown hK hP wi_109 dm_run_71 ?_
        refine lv_if_ne (tgt := 105) hx hb dm_run_74 (by decide) (fun hc => ?_) (fun hc => ?_)
        · have h := (if_neg hc).symm.trans h
          have h := Option.some.inj h
          subst h
          exact kx ls H locs (lv_sub hl [0] rfl) hP hD hS
        · have h := (if_pos hc).symm.trans h
          refine lv_aload_n hx hb dm_run_77 rfl (lv_at hl 0 rfl) ?_
          refine gm_0_want hx hb hts hown hK hP wi_81 dm_run_78 ?_
          refine lv_istore_n (lv' := [(2, .int f_want), (0, .ref (q 0)), (1, .int l1)]) hx hb dm_run_81 rfl hl (by decide) rfl (fun ls hl => ?_)
          refine lv_aload_n hx hb dm_run_82 rfl (lv_at hl 1 rfl) ?_
          refine lv_aload_n hx hb dm_run_83 rfl (lv_at hl 1 rfl) ?_
          refine gm_0_code hx hb hts hown hK hP wi_91 dm_run_84 ?_
          refine lv_iload_n hx hb dm_run_87 rfl (lv_at hl 2 rfl) ?_
          obtain ⟨hin, h⟩ := hq_idx h
          refine am_8 hx hb hK hP hin dm_run_88 ?_
          obtain ⟨v89, h89, h⟩ := hq_bind h
          refine km_step (a_code l1.toNatClampNeg) v89 h89 hx hb hml hts hown hK hP hD hS wi_92 (by rw [hRm]; exact ⟨Nat.le_of_ble_eq_true rfl, Nat.le_of_ble_eq_true rfl⟩) hl.1 (Nat.le_of_ble_eq_true rfl) dm_run_89 ⟨Nat.zero_le _, Nat.zero_le _⟩ (fun H locs hP hD hS => ?_)
          refine lv_pop hx hb dm_run_92 rfl ?_
          refine lv_aload_n hx hb dm_run_93 rfl (lv_at hl 1 rfl) ?_
          refine lv_iload_n hx hb dm_run_94 rfl (lv_at hl 2 rfl) ?_
          refine lv_iload_n hx hb dm_run_95 rfl (lv_at hl 0 rfl) ?_
          obtain ⟨v96, h96, h⟩ := hq_bind h
          refine km_notice l1 f_want v96 h96 hx hb hml hts hown hK hP hD hS wi_136 (by rw [hRm]; exact ⟨Nat.le_of_ble_eq_true rfl, Nat.le_of_ble_eq_true rfl⟩) hl.1 (Nat.le_of_ble_eq_true rfl) dm_run_96 ⟨Nat.zero_le _, Nat.zero_le _⟩ (fun H locs hP hD hS => ?_)
          refine lv_iinc (k := 2) (v := l1 + 1) (lv' := [(1, .int (l1 + 1)), (2, .int f_want), (0, .ref (q 0))]) hx hb dm_run_99 hl rfl (congrArg (fun j => l1 + j) (by decide)) (by decide) rfl (fun ls hl => ?_)
          refine lv_goto (tgt := 62) hx hb dm_run_102 (by decide) ?_
          exact ih (l1 + 1) (lv_sub hl [2, 0] rfl) hP hD hS u62 h kx
  refine lv_aload_n hx hb dm_run_0 rfl (lv_at hl 0 rfl) ?_
  refine gm_0_count hx hb hts hown hK hP wi_90 dm_run_1 ?_
  refine lv_if_eq (tgt := 23) hx hb dm_run_4 (by decide) (fun hc => ?_) (fun hc => ?_)
  · have h := (if_pos hc).symm.trans h
    refine lv_iconst (v := (-1)) hx hb dm_run_23 (by decide) ?_
    have h := Option.some.inj h
    exact hq_iret hx hb hr hlocks hQ hK hP hD hS (by rw [← h]) (by rw [← h]) dm_run_24
  · have h := (if_neg hc).symm.trans h
    refine lv_aload_n hx hb dm_run_7 rfl (lv_at hl 0 rfl) ?_
    refine gm_0_code hx hb hts hown hK hP wi_91 dm_run_8 ?_
    refine lv_aload_n hx hb dm_run_11 rfl (lv_at hl 0 rfl) ?_
    refine gm_0_count hx hb hts hown hK hP wi_90 dm_run_12 ?_
    refine lv_iconst (v := 1) hx hb dm_run_15 (by decide) ?_
    refine lv_isub hx hb dm_run_16 ?_
    obtain ⟨hin, h⟩ := hq_idx h
    refine am_8 hx hb hK hP hin dm_run_17 ?_
    refine lv_bipush (v := 24) hx hb dm_run_18 (by decide) ?_
    refine lv_icmp_eq (tgt := 25) hx hb dm_run_20 (by decide) (fun hc => ?_) (fun hc => ?_)
    · have h := (if_pos hc).symm.trans h
      refine lv_aload_n hx hb dm_run_25 rfl (lv_at hl 0 rfl) ?_
      refine lv_iconst (v := 0) hx hb dm_run_26 (by decide) ?_
      refine pm_0_fail hx hb hts hown hK hP hD hS wi_109 dm_run_27 (fun H locs hP hD hS => ?_)
      refine lv_aload_n hx hb dm_run_30 rfl (lv_at hl 0 rfl) ?_
      refine lv_iconst (v := 0) hx hb dm_run_31 (by decide) ?_
      refine pm_0_seen hx hb hts hown hK hP hD hS wi_126 dm_run_32 (fun H locs hP hD hS => ?_)
      refine lv_aload_n hx hb dm_run_35 rfl (lv_at hl 0 rfl) ?_
      refine lv_iconst (v := 0) hx hb dm_run_36 (by decide) ?_
      refine pm_0_rowCount hx hb hts hown hK hP hD hS wi_99 dm_run_37 (fun H locs hP hD hS => ?_)
      refine lv_aload_n hx hb dm_run_40 rfl (lv_at hl 0 rfl) ?_
      refine lv_iconst (v := 0) hx hb dm_run_41 (by decide) ?_
      refine pm_0_level hx hb hts hown hK hP hD hS wi_103 dm_run_42 (fun H locs hP hD hS => ?_)
      refine lv_aload_n hx hb dm_run_45 rfl (lv_at hl 0 rfl) ?_
      refine gm_0_from hx hb hts hown hK hP wi_104 dm_run_46 ?_
      refine lv_iconst (v := 0) hx hb dm_run_49 (by decide) ?_
      refine lv_iconst (v := 0) hx hb dm_run_50 (by decide) ?_
      obtain ⟨hin, h⟩ := hq_idx h
      refine tm_14 hx hb hK hP hD hS hin dm_run_51 (fun H locs hP hD hS => ?_)
      refine lv_aload_n hx hb dm_run_52 rfl (lv_at hl 0 rfl) ?_
      obtain ⟨v53, h53, h⟩ := hq_bind h
      refine km_keepSets  v53 h53 hx hb hml hts hown hK hP hD hS wi_78 (by rw [hRm]; exact ⟨Nat.le_of_ble_eq_true rfl, Nat.le_of_ble_eq_true rfl⟩) hl.1 (Nat.le_of_ble_eq_true rfl) dm_run_53 ⟨Nat.zero_le _, Nat.zero_le _⟩ (fun H locs hP hD hS => ?_)
      refine lv_aload_n hx hb dm_run_56 rfl (lv_at hl 0 rfl) ?_
      refine km_start  (sm_start f_want f_compared f_open) rfl hx hb hml hts hown hK hP hD hS wi_95 (by rw [hRm]; exact ⟨Nat.le_of_ble_eq_true rfl, Nat.le_of_ble_eq_true rfl⟩) hl.1 (Nat.le_of_ble_eq_true rfl) dm_run_57 ⟨Nat.zero_le _, Nat.zero_le _⟩ (fun H locs hP hD hS => ?_)
      refine lv_iconst (v := 0) hx hb dm_run_60 (by decide) ?_
      refine lv_istore_n (lv' := [(1, .int 0), (0, .ref (q 0))]) hx hb dm_run_61 rfl hl (by decide) rfl (fun ls hl => ?_)
      obtain ⟨u62, h62, h⟩ := hq_bind h
      refine L62 kF 0 (lv_sub hl [1, 0] rfl) hP hD hS u62 h62 (fun ls H locs hl hP hD hS => ?_)
      exact J105  hl hP hD hS h
    · have h := (if_neg hc).symm.trans h
      refine lv_iconst (v := (-1)) hx hb dm_run_23 (by decide) ?_
      have h := Option.some.inj h
      exact hq_iret hx hb hr hlocks hQ hK hP hD hS (by rw [← h]) (by rw [← h]) dm_run_24
end
section
variable {p : Program} {l : Launch} {e : Env} {R : Room} {s : State} {m : MethodId} {args : Array Value} {below : List Frame} {meth : Method} {c : Code} {H H0 : Heap} {locs : List Loc} {cells slots : Nat} {Q : State → Prop}
variable {cc : ByteArray} {pc idx nC : Nat} {ls : Array Slot} {rest : List Value} {D : va_G} {A : Nat → Prop} {own : String} {q : Nat → Nat} {cI cZ cL : ClassId} {z w : va_W}
variable {f_classes f_objects f_count f_want f_compared f_open f_rowCount f_many f_seen f_fail f_level f_at f_self f_brackets f_values f_waiting : Int32}
variable {a_parent a_kindOf a_size a_root a_slotKind a_slot a_kept a_code a_number a_opened a_rowKind a_rowValue a_list a_from a_eAt a_whereAt a_source a_distinct a_keeps a_vKind a_v a_waits : Nat → Int32}
theorem km_run  (ur : Int32 × (Nat → Int32) × Int32 × Int32 × Int32 × (Nat → Int32) × Int32 × (Nat → Int32) × (Nat → Int32) × Int32 × (Nat → Int32) × Int32 × Int32 × Int32 × (Nat → Int32) × (Nat → Int32) × (Nat → Int32) × (Nat → Int32) × (Nat → Int32) × (Nat → Int32) × Int32 × Int32 × Int32 × Int32 × (Nat → Int32) × (Nat → Int32) × Int32 × (Nat → Int32)) (hu : sm_run a_parent f_objects a_kindOf a_size a_root a_slotKind a_slot a_kept f_count a_code a_number f_want f_compared f_open a_opened f_rowCount a_rowKind a_rowValue f_many a_list f_seen f_fail f_level a_from a_eAt a_whereAt a_source a_distinct a_keeps f_at f_self f_brackets f_values a_vKind a_v f_waiting a_waits = some ur) (hx : p.tables.exec = Jvm.exec) (hb : c.code = cc) (hml : c.maxLocals = nC) (hts : ∀ x ∈ hq_tbl, x.before args s = true) (hown : s.vm.findClass own = some m.cls) (hK : va_K D hq_cl (hq_tys cI cZ cL) s) (hP : va_P D hq_cl (hm_w q cI cZ cL f_classes a_parent f_objects a_kindOf a_size a_root a_slotKind a_slot a_kept f_count a_code a_number f_want f_compared f_open a_opened f_rowCount a_rowKind a_rowValue f_many a_list f_seen f_fail f_level a_from a_eAt a_whereAt a_source a_distinct a_keeps f_at f_self f_brackets f_values a_vKind a_v f_waiting a_waits ++ z) H) (hD : va_D A (hm_w q cI cZ cL f_classes a_parent f_objects a_kindOf a_size a_root a_slotKind a_slot a_kept f_count a_code a_number f_want f_compared f_open a_opened f_rowCount a_rowKind a_rowValue f_many a_list f_seen f_fail f_level a_from a_eAt a_whereAt a_source a_distinct a_keeps f_at f_self f_brackets f_values a_vKind a_v f_waiting a_waits ++ z)) (hS : va_S A H0 H locs) (h1 : Cond.methodLink own idx ym_run ∈ hq_tbl) (hR : 9 + 1 ≤ R.frames ∧ 8 + (3 + 11) + 205 ≤ R.locals) (hls : ls.size = nC) (hW : (rest.map fun v => v.category).sum ≤ 8) (hdg : decode cc pc = .ok (.invokevirtual idx, 3)) (hf : cells + 0 ≤ R.cells ∧ slots + 0 ≤ R.slots) (kk : ∀ (H1 : Heap) (locs1 : List Loc), va_P D hq_cl (hm_w q cI cZ cL f_classes a_parent f_objects a_kindOf a_size a_root a_slotKind a_slot ur.2.1 f_count a_code a_number ur.2.2.1 ur.2.2.2.1 ur.2.2.2.2.1 ur.2.2.2.2.2.1 ur.2.2.2.2.2.2.1 ur.2.2.2.2.2.2.2.1 ur.2.2.2.2.2.2.2.2.1 ur.2.2.2.2.2.2.2.2.2.1 ur.2.2.2.2.2.2.2.2.2.2.1 ur.2.2.2.2.2.2.2.2.2.2.2.1 ur.2.2.2.2.2.2.2.2.2.2.2.2.1 ur.2.2.2.2.2.2.2.2.2.2.2.2.2.1 ur.2.2.2.2.2.2.2.2.2.2.2.2.2.2.1 ur.2.2.2.2.2.2.2.2.2.2.2.2.2.2.2.1 ur.2.2.2.2.2.2.2.2.2.2.2.2.2.2.2.2.1 ur.2.2.2.2.2.2.2.2.2.2.2.2.2.2.2.2.2.1 ur.2.2.2.2.2.2.2.2.2.2.2.2.2.2.2.2.2.2.1 ur.2.2.2.2.2.2.2.2.2.2.2.2.2.2.2.2.2.2.2.1 ur.2.2.2.2.2.2.2.2.2.2.2.2.2.2.2.2.2.2.2.2.1 ur.2.2.2.2.2.2.2.2.2.2.2.2.2.2.2.2.2.2.2.2.2.1 ur.2.2.2.2.2.2.2.2.2.2.2.2.2.2.2.2.2.2.2.2.2.2.1 ur.2.2.2.2.2.2.2.2.2.2.2.2.2.2.2.2.2.2.2.2.2.2.2.1 ur.2.2.2.2.2.2.2.2.2.2.2.2.2.2.2.2.2.2.2.2.2.2.2.2.1 ur.2.2.2.2.2.2.2.2.2.2.2.2.2.2.2.2.2.2.2.2.2.2.2.2.2.1 ur.2.2.2.2.2.2.2.2.2.2.2.2.2.2.2.2.2.2.2.2.2.2.2.2.2.2.1 ur.2.2.2.2.2.2.2.2.2.2.2.2.2.2.2.2.2.2.2.2.2.2.2.2.2.2.2 ++ z) H1 → va_D A (hm_w q cI cZ cL f_classes a_parent f_objects a_kindOf a_size a_root a_slotKind a_slot ur.2.1 f_count a_code a_number ur.2.2.1 ur.2.2.2.1 ur.2.2.2.2.1 ur.2.2.2.2.2.1 ur.2.2.2.2.2.2.1 ur.2.2.2.2.2.2.2.1 ur.2.2.2.2.2.2.2.2.1 ur.2.2.2.2.2.2.2.2.2.1 ur.2.2.2.2.2.2.2.2.2.2.1 ur.2.2.2.2.2.2.2.2.2.2.2.1 ur.2.2.2.2.2.2.2.2.2.2.2.2.1 ur.2.2.2.2.2.2.2.2.2.2.2.2.2.1 ur.2.2.2.2.2.2.2.2.2.2.2.2.2.2.1 ur.2.2.2.2.2.2.2.2.2.2.2.2.2.2.2.1 ur.2.2.2.2.2.2.2.2.2.2.2.2.2.2.2.2.1 ur.2.2.2.2.2.2.2.2.2.2.2.2.2.2.2.2.2.1 ur.2.2.2.2.2.2.2.2.2.2.2.2.2.2.2.2.2.2.1 ur.2.2.2.2.2.2.2.2.2.2.2.2.2.2.2.2.2.2.2.1 ur.2.2.2.2.2.2.2.2.2.2.2.2.2.2.2.2.2.2.2.2.1 ur.2.2.2.2.2.2.2.2.2.2.2.2.2.2.2.2.2.2.2.2.2.1 ur.2.2.2.2.2.2.2.2.2.2.2.2.2.2.2.2.2.2.2.2.2.2.1 ur.2.2.2.2.2.2.2.2.2.2.2.2.2.2.2.2.2.2.2.2.2.2.2.1 ur.2.2.2.2.2.2.2.2.2.2.2.2.2.2.2.2.2.2.2.2.2.2.2.2.1 ur.2.2.2.2.2.2.2.2.2.2.2.2.2.2.2.2.2.2.2.2.2.2.2.2.2.1 ur.2.2.2.2.2.2.2.2.2.2.2.2.2.2.2.2.2.2.2.2.2.2.2.2.2.2.1 ur.2.2.2.2.2.2.2.2.2.2.2.2.2.2.2.2.2.2.2.2.2.2.2.2.2.2.2 ++ z) → va_S A H0 H1 locs1 → W p l e R s m args below meth c H1 locs1 cells slots Q (F0 m (pc + 3) ls (.int ur.1 :: rest))) : W p l e R s m args below meth c H locs cells slots Q (F0 m pc ls (.ref (q 0) :: rest)) :=
  hq_callV (q0 := 0) hx hb hml hown hts hK hP hD hS (cm_run  ur hu) rfl rfl h1 wi_464 wi_465 wi_338 wi_466 0 rfl (by decide +kernel) ⟨rfl, rfl⟩ hR hls rfl hW hdg hf kk
end
