theorem dm_pair_0 : decode bm_pair 0 = .ok (.aload_n 0, 1) := by decide +kernel
theorem dm_pair_1 : decode bm_pair 1 = .ok (.getfield 68, 3) := by decide +kernel
theorem dm_pair_4 : decode bm_pair 4 = .ok (.aload_n 0, 1) := by decide +kernel
theorem dm_pair_5 : decode bm_pair 5 = .ok (.getfield 195, 3) := by decide +kernel
theorem dm_pair_8 : decode bm_pair 8 = .ok (.iconst 2, 1) := by decide +kernel
theorem dm_pair_9 : decode bm_pair 9 = .ok (.isub, 1) := by decide +kernel
theorem dm_pair_10 : decode bm_pair 10 = .ok (.iaload, 1) := by decide +kernel
theorem dm_pair_11 : decode bm_pair 11 = .ok (.istore_n 2, 1) := by decide +kernel
theorem dm_pair_12 : decode bm_pair 12 = .ok (.aload_n 0, 1) := by decide +kernel
theorem dm_pair_13 : decode bm_pair 13 = .ok (.getfield 68, 3) := by decide +kernel
theorem dm_pair_16 : decode bm_pair 16 = .ok (.aload_n 0, 1) := by decide +kernel
theorem dm_pair_17 : decode bm_pair 17 = .ok (.getfield 195, 3) := by decide +kernel
theorem dm_pair_20 : decode bm_pair 20 = .ok (.iconst 1, 1) := by decide +kernel
theorem dm_pair_21 : decode bm_pair 21 = .ok (.isub, 1) := by decide +kernel
theorem dm_pair_22 : decode bm_pair 22 = .ok (.iaload, 1) := by decide +kernel
theorem dm_pair_23 : decode bm_pair 23 = .ok (.istore_n 3, 1) := by decide +kernel
theorem dm_pair_24 : decode bm_pair 24 = .ok (.aload_n 0, 1) := by decide +kernel
theorem dm_pair_25 : decode bm_pair 25 = .ok (.getfield 71, 3) := by decide +kernel
theorem dm_pair_28 : decode bm_pair 28 = .ok (.aload_n 0, 1) := by decide +kernel
theorem dm_pair_29 : decode bm_pair 29 = .ok (.getfield 195, 3) := by decide +kernel
theorem dm_pair_32 : decode bm_pair 32 = .ok (.iconst 2, 1) := by decide +kernel
theorem dm_pair_33 : decode bm_pair 33 = .ok (.isub, 1) := by decide +kernel
theorem dm_pair_34 : decode bm_pair 34 = .ok (.iaload, 1) := by decide +kernel
theorem dm_pair_35 : decode bm_pair 35 = .ok (.istore 4, 2) := by decide +kernel
theorem dm_pair_37 : decode bm_pair 37 = .ok (.aload_n 0, 1) := by decide +kernel
theorem dm_pair_38 : decode bm_pair 38 = .ok (.getfield 71, 3) := by decide +kernel
theorem dm_pair_41 : decode bm_pair 41 = .ok (.aload_n 0, 1) := by decide +kernel
theorem dm_pair_42 : decode bm_pair 42 = .ok (.getfield 195, 3) := by decide +kernel
theorem dm_pair_45 : decode bm_pair 45 = .ok (.iconst 1, 1) := by decide +kernel
theorem dm_pair_46 : decode bm_pair 46 = .ok (.isub, 1) := by decide +kernel
theorem dm_pair_47 : decode bm_pair 47 = .ok (.iaload, 1) := by decide +kernel
theorem dm_pair_48 : decode bm_pair 48 = .ok (.istore 5, 2) := by decide +kernel
theorem dm_pair_50 : decode bm_pair 50 = .ok (.iload_n 1, 1) := by decide +kernel
theorem dm_pair_51 : decode bm_pair 51 = .ok (.bipush 19, 2) := by decide +kernel
theorem dm_pair_53 : decode bm_pair 53 = .ok (.if_icmp .gt 52, 3) := by decide +kernel
theorem dm_pair_56 : decode bm_pair 56 = .ok (.iload_n 2, 1) := by decide +kernel
theorem dm_pair_57 : decode bm_pair 57 = .ok (.iload_n 3, 1) := by decide +kernel
theorem dm_pair_58 : decode bm_pair 58 = .ok (.if_icmp .ne 14, 3) := by decide +kernel
theorem dm_pair_61 : decode bm_pair 61 = .ok (.iload 4, 2) := by decide +kernel
theorem dm_pair_63 : decode bm_pair 63 = .ok (.iload 5, 2) := by decide +kernel
theorem dm_pair_65 : decode bm_pair 65 = .ok (.if_icmp .ne 7, 3) := by decide +kernel
theorem dm_pair_68 : decode bm_pair 68 = .ok (.iconst 1, 1) := by decide +kernel
theorem dm_pair_69 : decode bm_pair 69 = .ok (.goto 4, 3) := by decide +kernel
theorem dm_pair_72 : decode bm_pair 72 = .ok (.iconst 0, 1) := by decide +kernel
theorem dm_pair_73 : decode bm_pair 73 = .ok (.istore 6, 2) := by decide +kernel
theorem dm_pair_75 : decode bm_pair 75 = .ok (.aload_n 0, 1) := by decide +kernel
theorem dm_pair_76 : decode bm_pair 76 = .ok (.iconst 1, 1) := by decide +kernel
theorem dm_pair_77 : decode bm_pair 77 = .ok (.iload 6, 2) := by decide +kernel
theorem dm_pair_79 : decode bm_pair 79 = .ok (.iload_n 1, 1) := by decide +kernel
theorem dm_pair_80 : decode bm_pair 80 = .ok (.bipush 18, 2) := by decide +kernel
theorem dm_pair_82 : decode bm_pair 82 = .ok (.if_icmp .ne 7, 3) := by decide +kernel
theorem dm_pair_85 : decode bm_pair 85 = .ok (.iconst 1, 1) := by decide +kernel
theorem dm_pair_86 : decode bm_pair 86 = .ok (.goto 4, 3) := by decide +kernel
theorem dm_pair_89 : decode bm_pair 89 = .ok (.iconst 0, 1) := by decide +kernel
theorem dm_pair_90 : decode bm_pair 90 = .ok (.if_icmp .ne 7, 3) := by decide +kernel
theorem dm_pair_93 : decode bm_pair 93 = .ok (.iconst 1, 1) := by decide +kernel
theorem dm_pair_94 : decode bm_pair 94 = .ok (.goto 4, 3) := by decide +kernel
theorem dm_pair_97 : decode bm_pair 97 = .ok (.iconst 0, 1) := by decide +kernel
theorem dm_pair_98 : decode bm_pair 98 = .ok (.iconst 2, 1) := by decide +kernel
theorem dm_pair_99 : decode bm_pair 99 = .ok (.invokevirtual 207, 3) := by decide +kernel
theorem dm_pair_102 : decode bm_pair 102 = .ok (.goto 100, 3) := by decide +kernel
theorem dm_pair_105 : decode bm_pair 105 = .ok (.iload_n 2, 1) := by decide +kernel
theorem dm_pair_106 : decode bm_pair 106 = .ok (.iconst 2, 1) := by decide +kernel
theorem dm_pair_107 : decode bm_pair 107 = .ok (.if_icmp .eq 8, 3) := by decide +kernel
theorem dm_pair_110 : decode bm_pair 110 = .ok (.iload_n 3, 1) := by decide +kernel
theorem dm_pair_111 : decode bm_pair 111 = .ok (.iconst 2, 1) := by decide +kernel
theorem dm_pair_112 : decode bm_pair 112 = .ok (.if_icmp .ne 12, 3) := by decide +kernel
theorem dm_pair_115 : decode bm_pair 115 = .ok (.aload_n 0, 1) := by decide +kernel
theorem dm_pair_116 : decode bm_pair 116 = .ok (.bipush (-3), 2) := by decide +kernel
theorem dm_pair_118 : decode bm_pair 118 = .ok (.putfield 143, 3) := by decide +kernel
theorem dm_pair_121 : decode bm_pair 121 = .ok (.goto 81, 3) := by decide +kernel
theorem dm_pair_124 : decode bm_pair 124 = .ok (.iload_n 1, 1) := by decide +kernel
theorem dm_pair_125 : decode bm_pair 125 = .ok (.bipush 20, 2) := by decide +kernel
theorem dm_pair_127 : decode bm_pair 127 = .ok (.if_icmp .ne 34, 3) := by decide +kernel
theorem dm_pair_130 : decode bm_pair 130 = .ok (.aload_n 0, 1) := by decide +kernel
theorem dm_pair_131 : decode bm_pair 131 = .ok (.iconst 1, 1) := by decide +kernel
theorem dm_pair_132 : decode bm_pair 132 = .ok (.iload_n 2, 1) := by decide +kernel
theorem dm_pair_133 : decode bm_pair 133 = .ok (.iconst 1, 1) := by decide +kernel
theorem dm_pair_134 : decode bm_pair 134 = .ok (.if_icmp .ne 19, 3) := by decide +kernel
theorem dm_pair_137 : decode bm_pair 137 = .ok (.iload_n 3, 1) := by decide +kernel
theorem dm_pair_138 : decode bm_pair 138 = .ok (.iconst 1, 1) := by decide +kernel
theorem dm_pair_139 : decode bm_pair 139 = .ok (.if_icmp .ne 14, 3) := by decide +kernel
theorem dm_pair_142 : decode bm_pair 142 = .ok (.iload 4, 2) := by decide +kernel
theorem dm_pair_144 : decode bm_pair 144 = .ok (.iload 5, 2) := by decide +kernel
theorem dm_pair_146 : decode bm_pair 146 = .ok (.if_icmp .ge 7, 3) := by decide +kernel
theorem dm_pair_149 : decode bm_pair 149 = .ok (.iconst 1, 1) := by decide +kernel
theorem dm_pair_150 : decode bm_pair 150 = .ok (.goto 4, 3) := by decide +kernel
theorem dm_pair_153 : decode bm_pair 153 = .ok (.iconst 0, 1) := by decide +kernel
theorem dm_pair_154 : decode bm_pair 154 = .ok (.iconst 2, 1) := by decide +kernel
theorem dm_pair_155 : decode bm_pair 155 = .ok (.invokevirtual 207, 3) := by decide +kernel
theorem dm_pair_158 : decode bm_pair 158 = .ok (.goto 44, 3) := by decide +kernel
theorem dm_pair_161 : decode bm_pair 161 = .ok (.aload_n 0, 1) := by decide +kernel
theorem dm_pair_162 : decode bm_pair 162 = .ok (.iload_n 2, 1) := by decide +kernel
theorem dm_pair_163 : decode bm_pair 163 = .ok (.iload_n 3, 1) := by decide +kernel
theorem dm_pair_164 : decode bm_pair 164 = .ok (.imul, 1) := by decide +kernel
theorem dm_pair_165 : decode bm_pair 165 = .ok (.iload_n 1, 1) := by decide +kernel
theorem dm_pair_166 : decode bm_pair 166 = .ok (.bipush 21, 2) := by decide +kernel
theorem dm_pair_168 : decode bm_pair 168 = .ok (.if_icmp .ne 11, 3) := by decide +kernel
theorem dm_pair_171 : decode bm_pair 171 = .ok (.iload 4, 2) := by decide +kernel
theorem dm_pair_173 : decode bm_pair 173 = .ok (.iload 5, 2) := by decide +kernel
theorem dm_pair_175 : decode bm_pair 175 = .ok (.iadd, 1) := by decide +kernel
theorem dm_pair_176 : decode bm_pair 176 = .ok (.goto 22, 3) := by decide +kernel
theorem dm_pair_179 : decode bm_pair 179 = .ok (.iload_n 1, 1) := by decide +kernel
theorem dm_pair_180 : decode bm_pair 180 = .ok (.bipush 22, 2) := by decide +kernel
theorem dm_pair_182 : decode bm_pair 182 = .ok (.if_icmp .ne 11, 3) := by decide +kernel
theorem dm_pair_185 : decode bm_pair 185 = .ok (.iload 4, 2) := by decide +kernel
theorem dm_pair_187 : decode bm_pair 187 = .ok (.iload 5, 2) := by decide +kernel
theorem dm_pair_189 : decode bm_pair 189 = .ok (.isub, 1) := by decide +kernel
theorem dm_pair_190 : decode bm_pair 190 = .ok (.goto 8, 3) := by decide +kernel
theorem dm_pair_193 : decode bm_pair 193 = .ok (.iload 4, 2) := by decide +kernel
theorem dm_pair_195 : decode bm_pair 195 = .ok (.iload 5, 2) := by decide +kernel
theorem dm_pair_197 : decode bm_pair 197 = .ok (.imul, 1) := by decide +kernel
theorem dm_pair_198 : decode bm_pair 198 = .ok (.iconst 2, 1) := by decide +kernel
theorem dm_pair_199 : decode bm_pair 199 = .ok (.invokevirtual 207, 3) := by decide +kernel
theorem dm_pair_202 : decode bm_pair 202 = .ok (.return_, 1) := by decide +kernel
section
variable {l : Launch} {D : va_G} {A : Nat → Prop} {z w : va_W} {q : Nat → Nat} {cI cZ cL : ClassId}
variable {f_classes f_objects f_count f_want f_compared f_open f_rowCount f_many f_seen f_fail f_level f_at f_self f_brackets f_values f_waiting : Int32}
variable {a_parent a_kindOf a_size a_root a_slotKind a_slot a_kept a_code a_number a_opened a_rowKind a_rowValue a_list a_from a_eAt a_whereAt a_source a_distinct a_keeps a_vKind a_v a_waits : Nat → Int32}
set_option maxHeartbeats 4000000 in
set_option maxRecDepth 100000 in
theorem cm_pair (l1 : Int32) (ur : Int32 × Int32 × (Nat → Int32) × (Nat → Int32)) (h : sm_pair l1 f_fail f_values a_vKind a_v = some ur) : hq_Ct l ym_pair bm_pair 7 none { frames := 1, cells := 0, slots := 0, locals := 23 } D (hq_tys cI cZ cL) A [.ref (q 0), .int l1] (hm_w q cI cZ cL f_classes a_parent f_objects a_kindOf a_size a_root a_slotKind a_slot a_kept f_count a_code a_number f_want f_compared f_open a_opened f_rowCount a_rowKind a_rowValue f_many a_list f_seen f_fail f_level a_from a_eAt a_whereAt a_source a_distinct a_keeps f_at f_self f_brackets f_values a_vKind a_v f_waiting a_waits ++ z) (hm_w q cI cZ cL f_classes a_parent f_objects a_kindOf a_size a_root a_slotKind a_slot a_kept f_count a_code a_number f_want f_compared f_open a_opened f_rowCount a_rowKind a_rowValue f_many a_list f_seen ur.1 f_level a_from a_eAt a_whereAt a_source a_distinct a_keeps f_at f_self f_brackets ur.2.1 ur.2.2.1 ur.2.2.2 f_waiting a_waits ++ z) none 0 0 := by
  refine hq_of (by decide) ?_ (Nat.le_of_ble_eq_true rfl)
  intro p e s m below meth c R args Q hRm hQ hx hb hr hml hts hown hlocks hnm hP hK hD ls hl hS
  have hl : lv_has ls 7 [(0, .ref (q 0)), (1, .int l1)] := hl
  have hown : s.vm.findClass "HeapQueriesModel" = some m.cls := hown
  unfold sm_pair at h
  have J90 : ∀ (s1 : Int32) (s2 : Int32) (s3 : Int32) {f_fail : Int32} {f_values : Int32} {a_vKind : Nat → Int32} {a_v : Nat → Int32} {ls : Array Slot} {H : Heap} {locs : List Loc}, lv_has ls 7 [] → va_P D hq_cl (hm_w q cI cZ cL f_classes a_parent f_objects a_kindOf a_size a_root a_slotKind a_slot a_kept f_count a_code a_number f_want f_compared f_open a_opened f_rowCount a_rowKind a_rowValue f_many a_list f_seen f_fail f_level a_from a_eAt a_whereAt a_source a_distinct a_keeps f_at f_self f_brackets f_values a_vKind a_v f_waiting a_waits ++ z) H → va_D A (hm_w q cI cZ cL f_classes a_parent f_objects a_kindOf a_size a_root a_slotKind a_slot a_kept f_count a_code a_number f_want f_compared f_open a_opened f_rowCount a_rowKind a_rowValue f_many a_list f_seen f_fail f_level a_from a_eAt a_whereAt a_source a_distinct a_keeps f_at f_self f_brackets f_values a_vKind a_v f_waiting a_waits ++ z) → va_S A s.heap H locs → sm_pair_J90 s1 s2 s3 f_fail f_values a_vKind a_v = some ur → W p l e R s m args below meth c H locs 0 0 Q (F0 m 90 ls [.int s3, .int s2, .int s1, .ref (q 0)]) := by
    intro s1 s2 s3 f_fail f_values a_vKind a_v ls H locs hl hP hD hS h
    unfold sm_pair_J90 at h
    refine lv_icmp_ne (tgt := 97) hx hb dm_pair_90 (by decide) (fun hc => ?_) (fun hc => ?_)
    · have h := (if_neg hc).symm.trans h
      refine lv_iconst (v := 0) hx hb dm_pair_97 (by decide) ?_
      refine lv_iconst (v := 2) hx hb dm_pair_98 (by decide) ?_
      obtain ⟨v99, h99, h⟩ := hq_bind h
      refine km_give s1 0 2 v99 h99 hx hb hml hts hown hK hP hD hS wi_108 (by rw [hRm]; exact ⟨Nat.le_of_ble_eq_true rfl, Nat.le_of_ble_eq_true rfl⟩) hl.1 (Nat.le_of_ble_eq_true rfl) dm_pair_99 ⟨Nat.zero_le _, Nat.zero_le _⟩ (fun H locs hP hD hS => ?_)
      refine lv_goto (tgt := 202) hx hb dm_pair_102 (by decide) ?_
      have h := Option.some.inj h
      exact hq_vret hx hb hr hlocks hQ hK hP hD hS rfl (by rw [← h]) dm_pair_202
    · have h := (if_pos hc).symm.trans h
      refine lv_iconst (v := 1) hx hb dm_pair_93 (by decide) ?_
      refine lv_goto (tgt := 98) hx hb dm_pair_94 (by decide) ?_
      refine lv_iconst (v := 2) hx hb dm_pair_98 (by decide) ?_
      obtain ⟨v99, h99, h⟩ := hq_bind h
      refine km_give s1 1 2 v99 h99 hx hb hml hts hown hK hP hD hS wi_108 (by rw [hRm]; exact ⟨Nat.le_of_ble_eq_true rfl, Nat.le_of_ble_eq_true rfl⟩) hl.1 (Nat.le_of_ble_eq_true rfl) dm_pair_99 ⟨Nat.zero_le _, Nat.zero_le _⟩ (fun H locs hP hD hS => ?_)
      refine lv_goto (tgt := 202) hx hb dm_pair_102 (by decide) ?_
      have h := Option.some.inj h
      exact hq_vret hx hb hr hlocks hQ hK hP hD hS rfl (by rw [← h]) dm_pair_202
  have J73 : ∀ (l1 : Int32) (s0 : Int32) {f_fail : Int32} {f_values : Int32} {a_vKind : Nat → Int32} {a_v : Nat → Int32} {ls : Array Slot} {H : Heap} {locs : List Loc}, lv_has ls 7 [(0, .ref (q 0)), (1, .int l1)] → va_P D hq_cl (hm_w q cI cZ cL f_classes a_parent f_objects a_kindOf a_size a_root a_slotKind a_slot a_kept f_count a_code a_number f_want f_compared f_open a_opened f_rowCount a_rowKind a_rowValue f_many a_list f_seen f_fail f_level a_from a_eAt a_whereAt a_source a_distinct a_keeps f_at f_self f_brackets f_values a_vKind a_v f_waiting a_waits ++ z) H → va_D A (hm_w q cI cZ cL f_classes a_parent f_objects a_kindOf a_size a_root a_slotKind a_slot a_kept f_count a_code a_number f_want f_compared f_open a_opened f_rowCount a_rowKind a_rowValue f_many a_list f_seen f_fail f_level a_from a_eAt a_whereAt a_source a_distinct a_keeps f_at f_self f_brackets f_values a_vKind a_v f_waiting a_waits ++ z) → va_S A s.heap H locs → sm_pair_J73 l1 s0 f_fail f_values a_vKind a_v = some ur → W p l e R s m args below meth c H locs 0 0 Q (F0 m 73 ls [.int s0]) := by
    intro l1 s0 f_fail f_values a_vKind a_v ls H locs hl hP hD hS h
    unfold sm_pair_J73 at h
    refine lv_istore (lv' := [(6, .int s0), (0, .ref (q 0)), (1, .int l1)]) hx hb dm_pair_73 hl (by decide) rfl (fun ls hl => ?_)
    refine lv_aload_n hx hb dm_pair_75 rfl (lv_at hl 1 rfl) ?_
    refine lv_iconst (v := 1) hx hb dm_pair_76 (by decide) ?_
    refine lv_iload hx hb dm_pair_77 (lv_at hl 0 rfl) ?_
    refine lv_iload_n hx hb dm_pair_79 rfl (lv_at hl 2 rfl) ?_
    refine lv_bipush (v := 18) hx hb dm_pair_80 (by decide) ?_
    refine lv_icmp_ne (tgt := 89) hx hb dm_pair_82 (by decide) (fun hc => ?_) (fun hc => ?_)
    · have h := (if_neg hc).symm.trans h
      refine lv_iconst (v := 0) hx hb dm_pair_89 (by decide) ?_
      exact J90 1 s0 0 (lv_sub hl [] rfl) hP hD hS h
    · have h := (if_pos hc).symm.trans h
      refine lv_iconst (v := 1) hx hb dm_pair_85 (by decide) ?_
      refine lv_goto (tgt := 90) hx hb dm_pair_86 (by decide) ?_
      exact J90 1 s0 1 (lv_sub hl [] rfl) hP hD hS h
  have J72 : ∀ (l1 : Int32) {f_fail : Int32} {f_values : Int32} {a_vKind : Nat → Int32} {a_v : Nat → Int32} {ls : Array Slot} {H : Heap} {locs : List Loc}, lv_has ls 7 [(0, .ref (q 0)), (1, .int l1)] → va_P D hq_cl (hm_w q cI cZ cL f_classes a_parent f_objects a_kindOf a_size a_root a_slotKind a_slot a_kept f_count a_code a_number f_want f_compared f_open a_opened f_rowCount a_rowKind a_rowValue f_many a_list f_seen f_fail f_level a_from a_eAt a_whereAt a_source a_distinct a_keeps f_at f_self f_brackets f_values a_vKind a_v f_waiting a_waits ++ z) H → va_D A (hm_w q cI cZ cL f_classes a_parent f_objects a_kindOf a_size a_root a_slotKind a_slot a_kept f_count a_code a_number f_want f_compared f_open a_opened f_rowCount a_rowKind a_rowValue f_many a_list f_seen f_fail f_level a_from a_eAt a_whereAt a_source a_distinct a_keeps f_at f_self f_brackets f_values a_vKind a_v f_waiting a_waits ++ z) → va_S A s.heap H locs → sm_pair_J72 l1 f_fail f_values a_vKind a_v = some ur → W p l e R s m args below meth c H locs 0 0 Q (F0 m 72 ls []) := by
    intro l1 f_fail f_values a_vKind a_v ls H locs hl hP hD hS h
    unfold sm_pair_J72 at h
    refine lv_iconst (v := 0) hx hb dm_pair_72 (by decide) ?_
    exact J73 l1 0 hl hP hD hS h
  refine lv_aload_n hx hb dm_pair_0 rfl (lv_at hl 0 rfl) ?_
  refine gm_0_vKind hx hb hts hown hK hP wi_106 dm_pair_1 ?_
  refine lv_aload_n hx hb dm_pair_4 rfl (lv_at hl 0 rfl) ?_
  refine gm_0_values hx hb hts hown hK hP wi_105 dm_pair_5 ?_
  refine lv_iconst (v := 2) hx hb dm_pair_8 (by decide) ?_
  refine lv_isub hx hb dm_pair_9 ?_
  obtain ⟨hin, h⟩ := hq_idx h
  refine am_20 hx hb hK hP hin dm_pair_10 ?_
  refine lv_istore_n (lv' := [(2, .int (a_vKind (f_values - 2).toNatClampNeg)), (0, .ref (q 0)), (1, .int l1)]) hx hb dm_pair_11 rfl hl (by decide) rfl (fun ls hl => ?_)
  refine lv_aload_n hx hb dm_pair_12 rfl (lv_at hl 1 rfl) ?_
  refine gm_0_vKind hx hb hts hown hK hP wi_106 dm_pair_13 ?_
  refine lv_aload_n hx hb dm_pair_16 rfl (lv_at hl 1 rfl) ?_
  refine gm_0_values hx hb hts hown hK hP wi_105 dm_pair_17 ?_
  refine lv_iconst (v := 1) hx hb dm_pair_20 (by decide) ?_
  refine lv_isub hx hb dm_pair_21 ?_
  obtain ⟨hin, h⟩ := hq_idx h
  refine am_20 hx hb hK hP hin dm_pair_22 ?_
  refine lv_istore_n (lv' := [(3, .int (a_vKind (f_values - 1).toNatClampNeg)), (2, .int (a_vKind (f_values - 2).toNatClampNeg)), (0, .ref (q 0)), (1, .int l1)]) hx hb dm_pair_23 rfl hl (by decide) rfl (fun ls hl => ?_)
  refine lv_aload_n hx hb dm_pair_24 rfl (lv_at hl 2 rfl) ?_
  refine gm_0_v hx hb hts hown hK hP wi_107 dm_pair_25 ?_
  refine lv_aload_n hx hb dm_pair_28 rfl (lv_at hl 2 rfl) ?_
  refine gm_0_values hx hb hts hown hK hP wi_105 dm_pair_29 ?_
  refine lv_iconst (v := 2) hx hb dm_pair_32 (by decide) ?_
  refine lv_isub hx hb dm_pair_33 ?_
  obtain ⟨hin, h⟩ := hq_idx h
  refine am_21 hx hb hK hP hin dm_pair_34 ?_
  refine lv_istore (lv' := [(4, .int (a_v (f_values - 2).toNatClampNeg)), (3, .int (a_vKind (f_values - 1).toNatClampNeg)), (2, .int (a_vKind (f_values - 2).toNatClampNeg)), (0, .ref (q 0)), (1, .int l1)]) hx hb dm_pair_35 hl (by decide) rfl (fun ls hl => ?_)
  refine lv_aload_n hx hb dm_pair_37 rfl (lv_at hl 3 rfl) ?_
  refine gm_0_v hx hb hts hown hK hP wi_107 dm_pair_38 ?_
  refine lv_aload_n hx hb dm_pair_41 rfl (lv_at hl 3 rfl) ?_
  refine gm_0_values hx hb hts hown hK hP wi_105 dm_pair_42 ?_
  refine lv_iconst (v := 1) hx hb dm_pair_45 (by decide) ?_
  refine lv_isub hx hb dm_pair_46 ?_
  obtain ⟨hin, h⟩ := hq_idx h
  refine am_21 hx hb hK hP hin dm_pair_47 ?_
  refine lv_istore (lv' := [(5, .int (a_v (f_values - 1).toNatClampNeg)), (4, .int (a_v (f_values - 2).toNatClampNeg)), (3, .int (a_vKind (f_values - 1).toNatClampNeg)), (2, .int (a_vKind (f_values - 2).toNatClampNeg)), (0, .ref (q 0)), (1, .int l1)]) hx hb dm_pair_48 hl (by decide) rfl (fun ls hl => ?_)
  refine lv_iload_n hx hb dm_pair_50 rfl (lv_at hl 5 rfl) ?_
  refine lv_bipush (v := 19) hx hb dm_pair_51 (by decide) ?_
  refine lv_icmp_gt (tgt := 105) hx hb dm_pair_53 (by decide) (fun hc => ?_) (fun hc => ?_)
  · have h := (if_pos hc).symm.trans h
    refine lv_iload_n hx hb dm_pair_105 rfl (lv_at hl 3 rfl) ?_
    refine lv_iconst (v := 2) hx hb dm_pair_106 (by decide) ?_
    refine lv_icmp_eq (tgt := 115) hx hb dm_pair_107 (by decide) (fun hc => ?_) (fun hc => ?_)
    · have h := (if_pos hc).symm.trans h
      refine lv_aload_n hx hb dm_pair_115 rfl (lv_at hl 4 rfl) ?_
      refine lv_bipush (v := (-3)) hx hb dm_pair_116 (by decide) ?_
      refine pm_0_fail hx hb hts hown hK hP hD hS wi_109 dm_pair_118 (fun H locs hP hD hS => ?_)
      refine lv_goto (tgt := 202) hx hb dm_pair_121 (by decide) ?_
      have h := Option.some.inj h
      exact hq_vret hx hb hr hlocks hQ hK hP hD hS rfl (by rw [← h]) dm_pair_202
    · have h := (if_neg hc).symm.trans h
      refine lv_iload_n hx hb dm_pair_110 rfl (lv_at hl 2 rfl) ?_
      refine lv_iconst (v := 2) hx hb dm_pair_111 (by decide) ?_
      refine lv_icmp_ne (tgt := 124) hx hb dm_pair_112 (by decide) (fun hc => ?_) (fun hc => ?_)
      · have h := (if_neg hc).symm.trans h
        refine lv_iload_n hx hb dm_pair_124 rfl (lv_at hl 5 rfl) ?_
        refine lv_bipush (v := 20) hx hb dm_pair_125 (by decide) ?_
        refine lv_icmp_ne (tgt := 161) hx hb dm_pair_127 (by decide) (fun hc => ?_) (fun hc => ?_)
        · have h := (if_neg hc).symm.trans h
          refine lv_aload_n hx hb dm_pair_161 rfl (lv_at hl 4 rfl) ?_
          refine lv_iload_n hx hb dm_pair_162 rfl (lv_at hl 3 rfl) ?_
          refine lv_iload_n hx hb dm_pair_163 rfl (lv_at hl 2 rfl) ?_
          refine lv_imul hx hb dm_pair_164 ?_
          refine lv_iload_n hx hb dm_pair_165 rfl (lv_at hl 5 rfl) ?_
          refine lv_bipush (v := 21) hx hb dm_pair_166 (by decide) ?_
          refine lv_icmp_ne (tgt := 179) hx hb dm_pair_168 (by decide) (fun hc => ?_) (fun hc => ?_)
          · have h := (if_neg hc).symm.trans h
            refine lv_iload_n hx hb dm_pair_179 rfl (lv_at hl 5 rfl) ?_
            refine lv_bipush (v := 22) hx hb dm_pair_180 (by decide) ?_
            refine lv_icmp_ne (tgt := 193) hx hb dm_pair_182 (by decide) (fun hc => ?_) (fun hc => ?_)
            · have h := (if_neg hc).symm.trans h
              refine lv_iload hx hb dm_pair_193 (lv_at hl 1 rfl) ?_
              refine lv_iload hx hb dm_pair_195 (lv_at hl 0 rfl) ?_
              refine lv_imul hx hb dm_pair_197 ?_
              refine lv_iconst (v := 2) hx hb dm_pair_198 (by decide) ?_
              obtain ⟨v199, h199, h⟩ := hq_bind h
              refine km_give ((a_vKind (f_values - 2).toNatClampNeg) * (a_vKind (f_values - 1).toNatClampNeg)) ((a_v (f_values - 2).toNatClampNeg) * (a_v (f_values - 1).toNatClampNeg)) 2 v199 h199 hx hb hml hts hown hK hP hD hS wi_108 (by rw [hRm]; exact ⟨Nat.le_of_ble_eq_true rfl, Nat.le_of_ble_eq_true rfl⟩) hl.1 (Nat.le_of_ble_eq_true rfl) dm_pair_199 ⟨Nat.zero_le _, Nat.zero_le _⟩ (fun H locs hP hD hS => ?_)
              have h := Option.some.inj h
              exact hq_vret hx hb hr hlocks hQ hK hP hD hS rfl (by rw [← h]) dm_pair_202
            · have h := (if_pos hc).symm.trans h
              refine lv_iload hx hb dm_pair_185 (lv_at hl 1 rfl) ?_
              refine lv_iload hx hb dm_pair_187 (lv_at hl 0 rfl) ?_
              refine lv_isub hx hb dm_pair_189 ?_
              refine lv_goto (tgt := 198) hx hb dm_pair_190 (by decide) ?_
              refine lv_iconst (v := 2) hx hb dm_pair_198 (by decide) ?_
              obtain ⟨v199, h199, h⟩ := hq_bind h
              refine km_give ((a_vKind (f_values - 2).toNatClampNeg) * (a_vKind (f_values - 1).toNatClampNeg)) ((a_v (f_values - 2).toNatClampNeg) - (a_v (f_values - 1).toNatClampNeg)) 2 v199 h199 hx hb hml hts hown hK hP hD hS wi_108 (by rw [hRm]; exact ⟨Nat.le_of_ble_eq_true rfl, Nat.le_of_ble_eq_true rfl⟩) hl.1 (Nat.le_of_ble_eq_true rfl) dm_pair_199 ⟨Nat.zero_le _, Nat.zero_le _⟩ (fun H locs hP hD hS => ?_)
              have h := Option.some.inj h
              exact hq_vret hx hb hr hlocks hQ hK hP hD hS rfl (by rw [← h]) dm_pair_202
          · have h := (if_pos hc).symm.trans h
            refine lv_iload hx hb dm_pair_171 (lv_at hl 1 rfl) ?_
            refine lv_iload hx hb dm_pair_173 (lv_at hl 0 rfl) ?_
            refine lv_iadd hx hb dm_pair_175 ?_
            refine lv_goto (tgt := 198) hx hb dm_pair_176 (by decide) ?_
            refine lv_iconst (v := 2) hx hb dm_pair_198 (by decide) ?_
            obtain ⟨v199, h199, h⟩ := hq_bind h
            refine km_give ((a_vKind (f_values - 2).toNatClampNeg) * (a_vKind (f_values - 1).toNatClampNeg)) ((a_v (f_values - 2).toNatClampNeg) + (a_v (f_values - 1).toNatClampNeg)) 2 v199 h199 hx hb hml hts hown hK hP hD hS wi_108 (by rw [hRm]; exact ⟨Nat.le_of_ble_eq_true rfl, Nat.le_of_ble_eq_true rfl⟩) hl.1 (Nat.le_of_ble_eq_true rfl) dm_pair_199 ⟨Nat.zero_le _, Nat.zero_le _⟩ (fun H locs hP hD hS => ?_)
            have h := Option.some.inj h
            exact hq_vret hx hb hr hlocks hQ hK hP hD hS rfl (by rw [← h]) dm_pair_202
        · have h := (if_pos hc).symm.trans h
          refine lv_aload_n hx hb dm_pair_130 rfl (lv_at hl 4 rfl) ?_
          refine lv_iconst (v := 1) hx hb dm_pair_131 (by decide) ?_
          refine lv_iload_n hx hb dm_pair_132 rfl (lv_at hl 3 rfl) ?_
          refine lv_iconst (v := 1) hx hb dm_pair_133 (by decide) ?_
          refine lv_icmp_ne (tgt := 153) hx hb dm_pair_134 (by decide) (fun hc => ?_) (fun hc => ?_)
          · have h := (if_neg hc).symm.trans h
            refine lv_iconst (v := 0) hx hb dm_pair_153 (by decide) ?_
            refine lv_iconst (v := 2) hx hb dm_pair_154 (by decide) ?_
            obtain ⟨v155, h155, h⟩ := hq_bind h
            refine km_give 1 0 2 v155 h155 hx hb hml hts hown hK hP hD hS wi_108 (by rw [hRm]; exact ⟨Nat.le_of_ble_eq_true rfl, Nat.le_of_ble_eq_true rfl⟩) hl.1 (Nat.le_of_ble_eq_true rfl) dm_pair_155 ⟨Nat.zero_le _, Nat.zero_le _⟩ (fun H locs hP hD hS => ?_)
            refine lv_goto (tgt := 202) hx hb dm_pair_158 (by decide) ?_
            have h := Option.some.inj h
            exact hq_vret hx hb hr hlocks hQ hK hP hD hS rfl (by rw [← h]) dm_pair_202
          · have h := (if_pos hc).symm.trans h
            refine lv_iload_n hx hb dm_pair_137 rfl (lv_at hl 2 rfl) ?_
            refine lv_iconst (v := 1) hx hb dm_pair_138 (by decide) ?_
            refine lv_icmp_ne (tgt := 153) hx hb dm_pair_139 (by decide) (fun hc => ?_) (fun hc => ?_)
            · have h := (if_neg hc).symm.trans h
              refine lv_iconst (v := 0) hx hb dm_pair_153 (by decide) ?_
              refine lv_iconst (v := 2) hx hb dm_pair_154 (by decide) ?_
              obtain ⟨v155, h155, h⟩ := hq_bind h
              refine km_give 1 0 2 v155 h155 hx hb hml hts hown hK hP hD hS wi_108 (by rw [hRm]; exact ⟨Nat.le_of_ble_eq_true rfl, Nat.le_of_ble_eq_true rfl⟩) hl.1 (Nat.le_of_ble_eq_true rfl) dm_pair_155 ⟨Nat.zero_le _, Nat.zero_le _⟩ (fun H locs hP hD hS => ?_)
              refine lv_goto (tgt := 202) hx hb dm_pair_158 (by decide) ?_
              have h := Option.some.inj h
              exact hq_vret hx hb hr hlocks hQ hK hP hD hS rfl (by rw [← h]) dm_pair_202
            · have h := (if_pos hc).symm.trans h
              refine lv_iload hx hb dm_pair_142 (lv_at hl 1 rfl) ?_
              refine lv_iload hx hb dm_pair_144 (lv_at hl 0 rfl) ?_
              refine lv_icmp_ge (tgt := 153) hx hb dm_pair_146 (by decide) (fun hc => ?_) (fun hc => ?_)
              · have h := (if_pos hc).symm.trans h
                refine lv_iconst (v := 0) hx hb dm_pair_153 (by decide) ?_
                refine lv_iconst (v := 2) hx hb dm_pair_154 (by decide) ?_
                obtain ⟨v155, h155, h⟩ := hq_bind h
                refine km_give 1 0 2 v155 h155 hx hb hml hts hown hK hP hD hS wi_108 (by rw [hRm]; exact ⟨Nat.le_of_ble_eq_true rfl, Nat.le_of_ble_eq_true rfl⟩) hl.1 (Nat.le_of_ble_eq_true rfl) dm_pair_155 ⟨Nat.zero_le _, Nat.zero_le _⟩ (fun H locs hP hD hS => ?_)
                refine lv_goto (tgt := 202) hx hb dm_pair_158 (by decide) ?_
                have h := Option.some.inj h
                exact hq_vret hx hb hr hlocks hQ hK hP hD hS rfl (by rw [← h]) dm_pair_202
              · have h := (if_neg hc).symm.trans h
                refine lv_iconst (v := 1) hx hb dm_pair_149 (by decide) ?_
                refine lv_goto (tgt := 154) hx hb dm_pair_150 (by decide) ?_
                refine lv_iconst (v := 2) hx hb dm_pair_154 (by decide) ?_
                obtain ⟨v155, h155, h⟩ := hq_bind h
                refine km_give 1 1 2 v155 h155 hx hb hml hts hown hK hP hD hS wi_108 (by rw [hRm]; exact ⟨Nat.le_of_ble_eq_true rfl, Nat.le_of_ble_eq_true rfl⟩) hl.1 (Nat.le_of_ble_eq_true rfl) dm_pair_155 ⟨Nat.zero_le _, Nat.zero_le _⟩ (fun H locs hP hD hS => ?_)
                refine lv_goto (tgt := 202) hx hb dm_pair_158 (by decide) ?_
                have h := Option.some.inj h
                exact hq_vret hx hb hr hlocks hQ hK hP hD hS rfl (by rw [← h]) dm_pair_202
      · have h := (if_pos hc).symm.trans h
        refine lv_aload_n hx hb dm_pair_115 rfl (lv_at hl 4 rfl) ?_
        refine lv_bipush (v := (-3)) hx hb dm_pair_116 (by decide) ?_
        refine pm_0_fail hx hb hts hown hK hP hD hS wi_109 dm_pair_118 (fun H locs hP hD hS => ?_)
        refine lv_goto (tgt := 202) hx hb dm_pair_121 (by decide) ?_
        have h := Option.some.inj h
        exact hq_vret hx hb hr hlocks hQ hK hP hD hS rfl (by rw [← h]) dm_pair_202
  · have h := (if_neg hc).symm.trans h
    refine lv_iload_n hx hb dm_pair_56 rfl (lv_at hl 3 rfl) ?_
    refine lv_iload_n hx hb dm_pair_57 rfl (lv_at hl 2 rfl) ?_
    refine lv_icmp_ne (tgt := 72) hx hb dm_pair_58 (by decide) (fun hc => ?_) (fun hc => ?_)
    · have h := (if_neg hc).symm.trans h
      exact J72 l1 (lv_sub hl [4, 5] rfl) hP hD hS h
    · have h := (if_pos hc).symm.trans h
      refine lv_iload hx hb dm_pair_61 (lv_at hl 1 rfl) ?_
      refine lv_iload hx hb dm_pair_63 (lv_at hl 0 rfl) ?_
      refine lv_icmp_ne (tgt := 72) hx hb dm_pair_65 (by decide) (fun hc => ?_) (fun hc => ?_)
      · have h := (if_neg hc).symm.trans h
        exact J72 l1 (lv_sub hl [4, 5] rfl) hP hD hS h
      · have h := (if_pos hc).symm.trans h
        refine lv_iconst (v := 1) hx hb dm_pair_68 (by decide) ?_
        refine lv_goto (tgt := 73) hx hb dm_pair_69 (by decide) ?_
        exact J73 l1 1 (lv_sub hl [4, 5] rfl) hP hD hS h
end
section
variable {p : Program} {l : Launch} {e : Env} {R : Room} {s : State} {m : MethodId} {args : Array Value} {below : List Frame} {meth : Method} {c : Code} {H H0 : Heap} {locs : List Loc} {cells slots : Nat} {Q : State → Prop}
variable {cc : ByteArray} {pc idx nC : Nat} {ls : Array Slot} {rest : List Value} {D : va_G} {A : Nat → Prop} {own : String} {q : Nat → Nat} {cI cZ cL : ClassId} {z w : va_W}
variable {f_classes f_objects f_count f_want f_compared f_open f_rowCount f_many f_seen f_fail f_level f_at f_self f_brackets f_values f_waiting : Int32}
variable {a_parent a_kindOf a_size a_root a_slotKind a_slot a_kept a_code a_number a_opened a_rowKind a_rowValue a_list a_from a_eAt a_whereAt a_source a_distinct a_keeps a_vKind a_v a_waits : Nat → Int32}
theorem km_pair (l1 : Int32) (ur : Int32 × Int32 × (Nat → Int32) × (Nat → Int32)) (hu : sm_pair l1 f_fail f_values a_vKind a_v = some ur) (hx : p.tables.exec = Jvm.exec) (hb : c.code = cc) (hml : c.maxLocals = nC) (hts : ∀ x ∈ hq_tbl, x.before args s = true) (hown : s.vm.findClass own = some m.cls) (hK : va_K D hq_cl (hq_tys cI cZ cL) s) (hP : va_P D hq_cl (hm_w q cI cZ cL f_classes a_parent f_objects a_kindOf a_size a_root a_slotKind a_slot a_kept f_count a_code a_number f_want f_compared f_open a_opened f_rowCount a_rowKind a_rowValue f_many a_list f_seen f_fail f_level a_from a_eAt a_whereAt a_source a_distinct a_keeps f_at f_self f_brackets f_values a_vKind a_v f_waiting a_waits ++ z) H) (hD : va_D A (hm_w q cI cZ cL f_classes a_parent f_objects a_kindOf a_size a_root a_slotKind a_slot a_kept f_count a_code a_number f_want f_compared f_open a_opened f_rowCount a_rowKind a_rowValue f_many a_list f_seen f_fail f_level a_from a_eAt a_whereAt a_source a_distinct a_keeps f_at f_self f_brackets f_values a_vKind a_v f_waiting a_waits ++ z)) (hS : va_S A H0 H locs) (h1 : Cond.methodLink own idx ym_pair ∈ hq_tbl) (hR : 1 + 1 ≤ R.frames ∧ 8 + (7 + 11) + 23 ≤ R.locals) (hls : ls.size = nC) (hW : (rest.map fun v => v.category).sum ≤ 8) (hdg : decode cc pc = .ok (.invokevirtual idx, 3)) (hf : cells + 0 ≤ R.cells ∧ slots + 0 ≤ R.slots) (kk : ∀ (H1 : Heap) (locs1 : List Loc), va_P D hq_cl (hm_w q cI cZ cL f_classes a_parent f_objects a_kindOf a_size a_root a_slotKind a_slot a_kept f_count a_code a_number f_want f_compared f_open a_opened f_rowCount a_rowKind a_rowValue f_many a_list f_seen ur.1 f_level a_from a_eAt a_whereAt a_source a_distinct a_keeps f_at f_self f_brackets ur.2.1 ur.2.2.1 ur.2.2.2 f_waiting a_waits ++ z) H1 → va_D A (hm_w q cI cZ cL f_classes a_parent f_objects a_kindOf a_size a_root a_slotKind a_slot a_kept f_count a_code a_number f_want f_compared f_open a_opened f_rowCount a_rowKind a_rowValue f_many a_list f_seen ur.1 f_level a_from a_eAt a_whereAt a_source a_distinct a_keeps f_at f_self f_brackets ur.2.1 ur.2.2.1 ur.2.2.2 f_waiting a_waits ++ z) → va_S A H0 H1 locs1 → W p l e R s m args below meth c H1 locs1 cells slots Q (F0 m (pc + 3) ls (rest))) : W p l e R s m args below meth c H locs cells slots Q (F0 m pc ls (.int l1 :: .ref (q 0) :: rest)) :=
  hq_callV (q0 := 0) hx hb hml hown hts hK hP hD hS (cm_pair l1 ur hu) rfl rfl h1 wi_423 wi_424 wi_338 wi_425 1 rfl (by decide +kernel) ⟨rfl, rfl⟩ hR hls rfl hW hdg hf kk
end
theorem dm_apply_0 : decode bm_apply 0 = .ok (.aload_n 0, 1) := by decide +kernel
theorem dm_apply_1 : decode bm_apply 1 = .ok (.getfield 198, 3) := by decide +kernel
theorem dm_apply_4 : decode bm_apply 4 = .ok (.ifCond .le 96, 3) := by decide +kernel
theorem dm_apply_7 : decode bm_apply 7 = .ok (.aload_n 0, 1) := by decide +kernel
theorem dm_apply_8 : decode bm_apply 8 = .ok (.getfield 143, 3) := by decide +kernel
theorem dm_apply_11 : decode bm_apply 11 = .ok (.ifCond .ne 89, 3) := by decide +kernel
theorem dm_apply_14 : decode bm_apply 14 = .ok (.aload_n 0, 1) := by decide +kernel
theorem dm_apply_15 : decode bm_apply 15 = .ok (.getfield 74, 3) := by decide +kernel
theorem dm_apply_18 : decode bm_apply 18 = .ok (.aload_n 0, 1) := by decide +kernel
theorem dm_apply_19 : decode bm_apply 19 = .ok (.getfield 198, 3) := by decide +kernel
theorem dm_apply_22 : decode bm_apply 22 = .ok (.iconst 1, 1) := by decide +kernel
theorem dm_apply_23 : decode bm_apply 23 = .ok (.isub, 1) := by decide +kernel
theorem dm_apply_24 : decode bm_apply 24 = .ok (.iaload, 1) := by decide +kernel
theorem dm_apply_25 : decode bm_apply 25 = .ok (.bipush 6, 2) := by decide +kernel
theorem dm_apply_27 : decode bm_apply 27 = .ok (.if_icmp .eq 73, 3) := by decide +kernel
theorem dm_apply_30 : decode bm_apply 30 = .ok (.aload_n 0, 1) := by decide +kernel
theorem dm_apply_31 : decode bm_apply 31 = .ok (.getfield 74, 3) := by decide +kernel
theorem dm_apply_34 : decode bm_apply 34 = .ok (.aload_n 0, 1) := by decide +kernel
theorem dm_apply_35 : decode bm_apply 35 = .ok (.getfield 198, 3) := by decide +kernel
theorem dm_apply_38 : decode bm_apply 38 = .ok (.iconst 1, 1) := by decide +kernel
theorem dm_apply_39 : decode bm_apply 39 = .ok (.isub, 1) := by decide +kernel
theorem dm_apply_40 : decode bm_apply 40 = .ok (.iaload, 1) := by decide +kernel
theorem dm_apply_41 : decode bm_apply 41 = .ok (.invokestatic 220, 3) := by decide +kernel
theorem dm_apply_44 : decode bm_apply 44 = .ok (.iload_n 1, 1) := by decide +kernel
theorem dm_apply_45 : decode bm_apply 45 = .ok (.if_icmp .lt 55, 3) := by decide +kernel
theorem dm_apply_48 : decode bm_apply 48 = .ok (.aload_n 0, 1) := by decide +kernel
theorem dm_apply_49 : decode bm_apply 49 = .ok (.dup, 1) := by decide +kernel
theorem dm_apply_50 : decode bm_apply 50 = .ok (.getfield 198, 3) := by decide +kernel
theorem dm_apply_53 : decode bm_apply 53 = .ok (.iconst 1, 1) := by decide +kernel
theorem dm_apply_54 : decode bm_apply 54 = .ok (.isub, 1) := by decide +kernel
theorem dm_apply_55 : decode bm_apply 55 = .ok (.putfield 198, 3) := by decide +kernel
theorem dm_apply_58 : decode bm_apply 58 = .ok (.aload_n 0, 1) := by decide +kernel
theorem dm_apply_59 : decode bm_apply 59 = .ok (.getfield 74, 3) := by decide +kernel
theorem dm_apply_62 : decode bm_apply 62 = .ok (.aload_n 0, 1) := by decide +kernel
theorem dm_apply_63 : decode bm_apply 63 = .ok (.getfield 198, 3) := by decide +kernel
theorem dm_apply_66 : decode bm_apply 66 = .ok (.iaload, 1) := by decide +kernel
theorem dm_apply_67 : decode bm_apply 67 = .ok (.istore_n 2, 1) := by decide +kernel
theorem dm_apply_68 : decode bm_apply 68 = .ok (.iload_n 2, 1) := by decide +kernel
theorem dm_apply_69 : decode bm_apply 69 = .ok (.bipush 17, 2) := by decide +kernel
theorem dm_apply_71 : decode bm_apply 71 = .ok (.if_icmp .gt 21, 3) := by decide +kernel
theorem dm_apply_74 : decode bm_apply 74 = .ok (.aload_n 0, 1) := by decide +kernel
theorem dm_apply_75 : decode bm_apply 75 = .ok (.iload_n 2, 1) := by decide +kernel
theorem dm_apply_76 : decode bm_apply 76 = .ok (.bipush 17, 2) := by decide +kernel
theorem dm_apply_78 : decode bm_apply 78 = .ok (.if_icmp .ne 7, 3) := by decide +kernel
theorem dm_apply_81 : decode bm_apply 81 = .ok (.iconst 1, 1) := by decide +kernel
theorem dm_apply_82 : decode bm_apply 82 = .ok (.goto 4, 3) := by decide +kernel
theorem dm_apply_85 : decode bm_apply 85 = .ok (.iconst 0, 1) := by decide +kernel
theorem dm_apply_86 : decode bm_apply 86 = .ok (.invokevirtual 223, 3) := by decide +kernel
theorem dm_apply_89 : decode bm_apply 89 = .ok (.goto 8, 3) := by decide +kernel
theorem dm_apply_92 : decode bm_apply 92 = .ok (.aload_n 0, 1) := by decide +kernel
theorem dm_apply_93 : decode bm_apply 93 = .ok (.iload_n 2, 1) := by decide +kernel
theorem dm_apply_94 : decode bm_apply 94 = .ok (.invokevirtual 226, 3) := by decide +kernel
theorem dm_apply_97 : decode bm_apply 97 = .ok (.goto (-97), 3) := by decide +kernel
theorem dm_apply_100 : decode bm_apply 100 = .ok (.return_, 1) := by decide +kernel
section
variable {l : Launch} {D : va_G} {A : Nat → Prop} {z w : va_W} {q : Nat → Nat} {cI cZ cL : ClassId}
variable {f_classes f_objects f_count f_want f_compared f_open f_rowCount f_many f_seen f_fail f_level f_at f_self f_brackets f_values f_waiting : Int32}
variable {a_parent a_kindOf a_size a_root a_slotKind a_slot a_kept a_code a_number a_opened a_rowKind a_rowValue a_list a_from a_eAt a_whereAt a_source a_distinct a_keeps a_vKind a_v a_waits : Nat → Int32}
set_option maxHeartbeats 4000000 in
set_option maxRecDepth 100000 in
theorem cm_apply (l1 : Int32) (ur : Int32 × Int32 × (Nat → Int32) × (Nat → Int32) × Int32) (h : sm_apply l1 f_fail f_values a_vKind a_v f_waiting a_waits = some ur) : hq_Ct l ym_apply bm_apply 3 none { frames := 2, cells := 0, slots := 0, locals := 49 } D (hq_tys cI cZ cL) A [.ref (q 0), .int l1] (hm_w q cI cZ cL f_classes a_parent f_objects a_kindOf a_size a_root a_slotKind a_slot a_kept f_count a_code a_number f_want f_compared f_open a_opened f_rowCount a_rowKind a_rowValue f_many a_list f_seen f_fail f_level a_from a_eAt a_whereAt a_source a_distinct a_keeps f_at f_self f_brackets f_values a_vKind a_v f_waiting a_waits ++ z) (hm_w q cI cZ cL f_classes a_parent f_objects a_kindOf a_size a_root a_slotKind a_slot a_kept f_count a_code a_number f_want f_compared f_open a_opened f_rowCount a_rowKind a_rowValue f_many a_list f_seen ur.1 f_level a_from a_eAt a_whereAt a_source a_distinct a_keeps f_at f_self f_brackets ur.2.1 ur.2.2.1 ur.2.2.2.1 ur.2.2.2.2 a_waits ++ z) none 0 0 := by
  refine hq_of (by decide) ?_ (Nat.le_of_ble_eq_true rfl)
  intro p e s m below meth c R args Q hRm hQ hx hb hr hml hts hown hlocks hnm hP hK hD ls hl hS
  have hl : lv_has ls 3 [(0, .ref (q 0)), (1, .int l1)] := hl
  have hown : s.vm.findClass "HeapQueriesModel" = some m.cls := hown
  unfold sm_apply at h
  have L0 : ∀ (n : Nat) (l1 : Int32) {f_fail : Int32} {f_values : Int32} {a_vKind : Nat → Int32} {a_v : Nat → Int32} {f_waiting : Int32} {ls : Array Slot} {H : Heap} {locs : List Loc}, lv_has ls 3 [(0, .ref (q 0)), (1, .int l1)] → va_P D hq_cl (hm_w q cI cZ cL f_classes a_parent f_objects a_kindOf a_size a_root a_slotKind a_slot a_kept f_count a_code a_number f_want f_compared f_open a_opened f_rowCount a_rowKind a_rowValue f_many a_list f_seen f_fail f_level a_from a_eAt a_whereAt a_source a_distinct a_keeps f_at f_self f_brackets f_values a_vKind a_v f_waiting a_waits ++ z) H → va_D A (hm_w q cI cZ cL f_classes a_parent f_objects a_kindOf a_size a_root a_slotKind a_slot a_kept f_count a_code a_number f_want f_compared f_open a_opened f_rowCount a_rowKind a_rowValue f_many a_list f_seen f_fail f_level a_from a_eAt a_whereAt a_source a_distinct a_keeps f_at f_self f_brackets f_values a_vKind a_v f_waiting a_waits ++ z) → va_S A s.heap H locs → ∀ u0, sm_apply_L0 n l1 f_fail f_values a_vKind a_v f_waiting a_waits = some u0 → (∀ (ls : Array Slot) (H : Heap) (locs : List Loc), lv_has ls 3 [] → va_P D hq_cl (hm_w q cI cZ cL f_classes a_parent f_objects a_kindOf a_size a_root a_slotKind a_slot a_kept f_count a_code a_number f_want f_compared f_open a_opened f_rowCount a_rowKind a_rowValue f_many a_list f_seen u0.1 f_level a_from a_eAt a_whereAt a_source a_distinct a_keeps f_at f_self f_brackets u0.2.1 u0.2.2.1 u0.2.2.2.1 u0.2.2.2.2 a_waits ++ z) H → va_D A (hm_w q cI cZ cL f_classes a_parent f_objects a_kindOf a_size a_root a_slotKind a_slot a_kept f_count a_code a_number f_want f_compared f_open a_opened f_rowCount a_rowKind a_rowValue f_many a_list f_seen u0.1 f_level a_from a_eAt a_whereAt a_source a_distinct a_keeps f_at f_self f_brackets u0.2.1 u0.2.2.1 u0.2.2.2.1 u0.2.2.2.2 a_waits ++ z) → va_S A s.heap H locs → W p l e R s m args below meth c H locs 0 0 Q (F0 m 100 ls [])) → W p l e R s m args below meth c H locs 0 0 Q (F0 m 0 ls []) := by
    intro n
    induction n with
    | zero =>
      intro l1 f_fail f_values a_vKind a_v f_waiting ls H locs hl hP hD hS u0 h kx
      have h : (none : Option (Int32 × Int32 × (Nat → Int32) × (Nat → Int32) × Int32)) = some u0 := h
      cases h
    | succ n ih =>
      intro l1 f_fail f_values a_vKind a_v f_waiting ls H locs hl hP hD hS u0 h kx
      have h : sm_apply_L0_B (sm_apply_L0 n) l1 f_fail f_values a_vKind a_v f_waiting a_waits = some u0 := h
      unfold sm_apply_L0_B at h
      refine lv_aload_n hx hb dm_apply_0 rfl (lv_at hl 0 rfl) ?_
      refine gm_0_waiting hx hb hts hown hK hP wi_110 dm_apply_1 ?_
      refine lv_if_le (tgt := 100) hx hb dm_apply_4 (by decide) (fun hc => ?_) (fun hc => ?_)
      · have h := (if_pos hc).symm.trans h
        have h := Option.some.inj h
        subst h
        exact kx ls H locs (lv_sub hl [] rfl) hP hD hS
      · have h := (if_neg hc).symm.trans h
        refine lv_aload_n hx hb dm_apply_7 rfl (lv_at hl 0 rfl) ?_
        refine gm_0_fail hx hb hts hown hK hP wi_109 dm_apply_8 ?_
        refine lv_if_ne (tgt := 100) hx hb dm_apply_11 (by decide) (fun hc => ?_) (fun hc => ?_)
        · have h := (if_neg hc).symm.trans h
          have h := Option.some.inj h
          subst h
          exact kx ls H locs (lv_sub hl [] rfl) hP hD hS
        · have h := (if_pos hc).symm.trans h
          refine lv_aload_n hx hb dm_apply_14 rfl (lv_at hl 0 rfl) ?_
          refine gm_0_waits hx hb hts hown hK hP wi_111 dm_apply_15 ?_
          refine lv_aload_n hx hb dm_apply_18 rfl (lv_at hl 0 rfl) ?_
          refine gm_0_waiting hx hb hts hown hK hP wi_110 dm_apply_19 ?_
          refine lv_iconst (v := 1) hx hb dm_apply_22 (by decide) ?_
          refine lv_isub hx hb dm_apply_23 ?_
          obtain ⟨hin, h⟩ := hq_idx h
          refine am_22 hx hb hK hP hin dm_apply_24 ?_
          refine lv_bipush (v := 6) hx hb dm_apply_25 (by decide) ?_
          refine lv_icmp_eq (tgt := 100) hx hb dm_apply_27 (by decide) (fun hc => ?_) (fun hc => ?_)
          · have h := (if_pos hc).symm.trans h
            have h := Option.some.inj h
            subst h
            exact kx ls H locs (lv_sub hl [] rfl) hP hD hS
          · have h := (if_neg hc).symm.trans h
            refine lv_aload_n hx hb dm_apply_30 rfl (lv_at hl 0 rfl) ?_
            refine gm_0_waits hx hb hts hown hK hP wi_111 dm_apply_31 ?_
            refine lv_aload_n hx hb dm_apply_34 rfl (lv_at hl 0 rfl) ?_
            refine gm_0_waiting hx hb hts hown hK hP wi_110 dm_apply_35 ?_
            refine lv_iconst (v := 1) hx hb dm_apply_38 (by decide) ?_
            refine lv_isub hx hb dm_apply_39 ?_
            obtain ⟨hin, h⟩ := hq_idx h
            refine am_22 hx hb hK hP hin dm_apply_40 ?_
            refine km_rank (a_waits (f_waiting - 1).toNatClampNeg) (sm_rank (a_waits (f_waiting - 1).toNatClampNeg)) rfl hx hb hml hts hown hK hP hD hS wi_112 (by rw [hRm]; exact ⟨Nat.le_of_ble_eq_true rfl, Nat.le_of_ble_eq_true rfl⟩) hl.1 (Nat.le_of_ble_eq_true rfl) dm_apply_41 ⟨Nat.zero_le _, Nat.zero_le _⟩ (fun H locs hP hD hS => ?_)
            refine lv_iload_n hx hb dm_apply_44 rfl (lv_at hl 1 rfl) ?_
            refine lv_icmp_lt (tgt := 100) hx hb dm_apply_45 (by decide) (fun hc => ?_) (fun hc => ?_)
            · have h := (if_pos hc).symm.trans h
              have h := Option.some.inj h
              subst h
              exact kx ls H locs (lv_sub hl [] rfl) hP hD hS
            · have h := (if_neg hc).symm.trans h
              refine lv_aload_n hx hb dm_apply_48 rfl (lv_at hl 0 rfl) ?_
              refine lv_dup hx hb dm_apply_49 rfl ?_
              refine gm_0_waiting hx hb hts hown hK hP wi_110 dm_apply_50 ?_
              refine lv_iconst (v := 1) hx hb dm_apply_53 (by decide) ?_
              refine lv_isub hx hb dm_apply_54 ?_
              refine pm_0_waiting hx hb hts hown hK hP hD hS wi_110 dm_apply_55 (fun H locs hP hD hS => ?_)
              refine lv_aload_n hx hb dm_apply_58 rfl (lv_at hl 0 rfl) ?_
              refine gm_0_waits hx hb hts hown hK hP wi_111 dm_apply_59 ?_
              refine lv_aload_n hx hb dm_apply_62 rfl (lv_at hl 0 rfl) ?_
              refine gm_0_waiting hx hb hts hown hK hP wi_110 dm_apply_63 ?_
              obtain ⟨hin, h⟩ := hq_idx h
              refine am_22 hx hb hK hP hin dm_apply_66 ?_
              refine lv_istore_n (lv' := [(2, .int (a_waits (f_waiting - 1).toNatClampNeg)), (0, .ref (q 0)), (1, .int l1)]) hx hb dm_apply_67 rfl hl (by decide) rfl (fun ls hl => ?_)
              refine lv_iload_n hx hb dm_apply_68 rfl (lv_at hl 0 rfl) ?_
              refine lv_bipush (v := 17) hx hb dm_apply_69 (by decide) ?_
              refine lv_icmp_gt (tgt := 92) hx hb dm_apply_71 (by decide) (fun hc => ?_) (fun hc => ?_)
              · have h := (if_pos hc).symm.trans h
                refine lv_aload_n hx hb dm_apply_92 rfl (lv_at hl 1 rfl) ?_
                refine lv_iload_n hx hb dm_apply_93 rfl (lv_at hl 0 rfl) ?_
                obtain ⟨v94, h94, h⟩ := hq_bind h
                refine km_pair (a_waits (f_waiting - 1).toNatClampNeg) v94 h94 hx hb hml hts hown hK hP hD hS wi_113 (by rw [hRm]; exact ⟨Nat.le_of_ble_eq_true rfl, Nat.le_of_ble_eq_true rfl⟩) hl.1 (Nat.le_of_ble_eq_true rfl) dm_apply_94 ⟨Nat.zero_le _, Nat.zero_le _⟩ (fun H locs hP hD hS => ?_)
                refine lv_goto (tgt := 0) hx hb dm_apply_97 (by decide) ?_
                exact ih l1 (lv_sub hl [1, 2] rfl) hP hD hS u0 h kx
              · have h := (if_neg hc).symm.trans h
                refine lv_aload_n hx hb dm_apply_74 rfl (lv_at hl 1 rfl) ?_
                refine lv_iload_n hx hb dm_apply_75 rfl (lv_at hl 0 rfl) ?_
                refine lv_bipush (v := 17) hx hb dm_apply_76 (by decide) ?_
                refine lv_icmp_ne (tgt := 85) hx hb dm_apply_78 (by decide) (fun hc => ?_) (fun hc => ?_)
                · have h := (if_neg hc).symm.trans h
                  refine lv_iconst (v := 0) hx hb dm_apply_85 (by decide) ?_
                  obtain ⟨v86, h86, h⟩ := hq_bind h
                  refine km_truth 0 v86 h86 hx hb hml hts hown hK hP hD hS wi_114 (by rw [hRm]; exact ⟨Nat.le_of_ble_eq_true rfl, Nat.le_of_ble_eq_true rfl⟩) hl.1 (Nat.le_of_ble_eq_true rfl) dm_apply_86 ⟨Nat.zero_le _, Nat.zero_le _⟩ (fun H locs hP hD hS => ?_)
                  refine lv_goto (tgt := 97) hx hb dm_apply_89 (by decide) ?_
                  refine lv_goto (tgt := 0) hx hb dm_apply_97 (by decide) ?_
                  exact ih l1 (lv_sub hl [1, 2] rfl) hP hD hS u0 h kx
                · have h := (if_pos hc).symm.trans h
                  refine lv_iconst (v := 1) hx hb dm_apply_81 (by decide) ?_
                  refine lv_goto (tgt := 86) hx hb dm_apply_82 (by decide) ?_
                  obtain ⟨v86, h86, h⟩ := hq_bind h
                  refine km_truth 1 v86 h86 hx hb hml hts hown hK hP hD hS wi_114 (by rw [hRm]; exact ⟨Nat.le_of_ble_eq_true rfl, Nat.le_of_ble_eq_true rfl⟩) hl.1 (Nat.le_of_ble_eq_true rfl) dm_apply_86 ⟨Nat.zero_le _, Nat.zero_le _⟩ (fun H locs hP hD hS => ?_)
                  refine lv_goto (tgt := 97) hx hb dm_apply_89 (by decide) ?_
                  refine lv_goto (tgt := 0) hx hb dm_apply_97 (by decide) ?_
                  exact ih l1 (lv_sub hl [1, 2] rfl) hP hD hS u0 h kx
  refine lv_aload_n hx hb dm_apply_0 rfl (lv_at hl 0 rfl) ?_
  refine gm_0_waiting hx hb hts hown hK hP wi_110 dm_apply_1 ?_
  refine lv_if_le (tgt := 100) hx hb dm_apply_4 (by decide) (fun hc => ?_) (fun hc => ?_)
  · have h := (if_pos hc).symm.trans h
    have h := Option.some.inj h
    exact hq_vret hx hb hr hlocks hQ hK hP hD hS rfl (by rw [← h]) dm_apply_100
  · have h := (if_neg hc).symm.trans h
    refine lv_aload_n hx hb dm_apply_7 rfl (lv_at hl 0 rfl) ?_
    refine gm_0_fail hx hb hts hown hK hP wi_109 dm_apply_8 ?_
    refine lv_if_ne (tgt := 100) hx hb dm_apply_11 (by decide) (fun hc => ?_) (fun hc => ?_)
    · have h := (if_neg hc).symm.trans h
      have h := Option.some.inj h
      exact hq_vret hx hb hr hlocks hQ hK hP hD hS rfl (by rw [← h]) dm_apply_100
    · have h := (if_pos hc).symm.trans h
      refine lv_aload_n hx hb dm_apply_14 rfl (lv_at hl 0 rfl) ?_
      refine gm_0_waits hx hb hts hown hK hP wi_111 dm_apply_15 ?_
      refine lv_aload_n hx hb dm_apply_18 rfl (lv_at hl 0 rfl) ?_
      refine gm_0_waiting hx hb hts hown hK hP wi_110 dm_apply_19 ?_
      refine lv_iconst (v := 1) hx hb dm_apply_22 (by decide) ?_
      refine lv_isub hx hb dm_apply_23 ?_
      obtain ⟨hin, h⟩ := hq_idx h
      refine am_22 hx hb hK hP hin dm_apply_24 ?_
      refine lv_bipush (v := 6) hx hb dm_apply_25 (by decide) ?_
      refine lv_icmp_eq (tgt := 100) hx hb dm_apply_27 (by decide) (fun hc => ?_) (fun hc => ?_)
      · have h := (if_pos hc).symm.trans h
        have h := Option.some.inj h
        exact hq_vret hx hb hr hlocks hQ hK hP hD hS rfl (by rw [← h]) dm_apply_100
      · have h := (if_neg hc).symm.trans h
        refine lv_aload_n hx hb dm_apply_30 rfl (lv_at hl 0 rfl) ?_
        refine gm_0_waits hx hb hts hown hK hP wi_111 dm_apply_31 ?_
        refine lv_aload_n hx hb dm_apply_34 rfl (lv_at hl 0 rfl) ?_
        refine gm_0_waiting hx hb hts hown hK hP wi_110 dm_apply_35 ?_
        refine lv_iconst (v := 1) hx hb dm_apply_38 (by decide) ?_
        refine lv_isub hx hb dm_apply_39 ?_
        obtain ⟨hin, h⟩ := hq_idx h
        refine am_22 hx hb hK hP hin dm_apply_40 ?_
        refine km_rank (a_waits (f_waiting - 1).toNatClampNeg) (sm_rank (a_waits (f_waiting - 1).toNatClampNeg)) rfl hx hb hml hts hown hK hP hD hS wi_112 (by rw [hRm]; exact ⟨Nat.le_of_ble_eq_true rfl, Nat.le_of_ble_eq_true rfl⟩) hl.1 (Nat.le_of_ble_eq_true rfl) dm_apply_41 ⟨Nat.zero_le _, Nat.zero_le _⟩ (fun H locs hP hD hS => ?_)
        refine lv_iload_n hx hb dm_apply_44 rfl (lv_at hl 1 rfl) ?_
        refine lv_icmp_lt (tgt := 100) hx hb dm_apply_45 (by decide) (fun hc => ?_) (fun hc => ?_)
        · have h := (if_pos hc).symm.trans h
          have h := Option.some.inj h
          exact hq_vret hx hb hr hlocks hQ hK hP hD hS rfl (by rw [← h]) dm_apply_100
        · have h := (if_neg hc).symm.trans h
          refine lv_aload_n hx hb dm_apply_48 rfl (lv_at hl 0 rfl) ?_
          refine lv_dup hx hb dm_apply_49 rfl ?_
          refine gm_0_waiting hx hb hts hown hK hP wi_110 dm_apply_50 ?_
          refine lv_iconst (v := 1) hx hb dm_apply_53 (by decide) ?_
          refine lv_isub hx hb dm_apply_54 ?_
          refine pm_0_waiting hx hb hts hown hK hP hD hS wi_110 dm_apply_55 (fun H locs hP hD hS => ?_)
          refine lv_aload_n hx hb dm_apply_58 rfl (lv_at hl 0 rfl) ?_
          refine gm_0_waits hx hb hts hown hK hP wi_111 dm_apply_59 ?_
          refine lv_aload_n hx hb dm_apply_62 rfl (lv_at hl 0 rfl) ?_
          refine gm_0_waiting hx hb hts hown hK hP wi_110 dm_apply_63 ?_
          obtain ⟨hin, h⟩ := hq_idx h
          refine am_22 hx hb hK hP hin dm_apply_66 ?_
          refine lv_istore_n (lv' := [(2, .int (a_waits (f_waiting - 1).toNatClampNeg)), (0, .ref (q 0)), (1, .int l1)]) hx hb dm_apply_67 rfl hl (by decide) rfl (fun ls hl => ?_)
          refine lv_iload_n hx hb dm_apply_68 rfl (lv_at hl 0 rfl) ?_
          refine lv_bipush (v := 17) hx hb dm_apply_69 (by decide) ?_
          refine lv_icmp_gt (tgt := 92) hx hb dm_apply_71 (by decide) (fun hc => ?_) (fun hc => ?_)
          · have h := (if_pos hc).symm.trans h
            refine lv_aload_n hx hb dm_apply_92 rfl (lv_at hl 1 rfl) ?_
            refine lv_iload_n hx hb dm_apply_93 rfl (lv_at hl 0 rfl) ?_
            obtain ⟨v94, h94, h⟩ := hq_bind h
            refine km_pair (a_waits (f_waiting - 1).toNatClampNeg) v94 h94 hx hb hml hts hown hK hP hD hS wi_113 (by rw [hRm]; exact ⟨Nat.le_of_ble_eq_true rfl, Nat.le_of_ble_eq_true rfl⟩) hl.1 (Nat.le_of_ble_eq_true rfl) dm_apply_94 ⟨Nat.zero_le _, Nat.zero_le _⟩ (fun H locs hP hD hS => ?_)
            refine lv_goto (tgt := 0) hx hb dm_apply_97 (by decide) ?_
            obtain ⟨u0, h0, h⟩ := hq_bind h
            refine L0 kF l1 (lv_sub hl [1, 2] rfl) hP hD hS u0 h0 (fun ls H locs hl hP hD hS => ?_)
            have h := Option.some.inj h
            exact hq_vret hx hb hr hlocks hQ hK hP hD hS rfl (by rw [← h]) dm_apply_100
          · have h := (if_neg hc).symm.trans h
            refine lv_aload_n hx hb dm_apply_74 rfl (lv_at hl 1 rfl) ?_
            refine lv_iload_n hx hb dm_apply_75 rfl (lv_at hl 0 rfl) ?_
            refine lv_bipush (v := 17) hx hb dm_apply_76 (by decide) ?_
            refine lv_icmp_ne (tgt := 85) hx hb dm_apply_78 (by decide) (fun hc => ?_) (fun hc => ?_)
            · have h := (if_neg hc).symm.trans h
              refine lv_iconst (v := 0) hx hb dm_apply_85 (by decide) ?_
              obtain ⟨v86, h86, h⟩ := hq_bind h
              refine km_truth 0 v86 h86 hx hb hml hts hown hK hP hD hS wi_114 (by rw [hRm]; exact ⟨Nat.le_of_ble_eq_true rfl, Nat.le_of_ble_eq_true rfl⟩) hl.1 (Nat.le_of_ble_eq_true rfl) dm_apply_86 ⟨Nat.zero_le _, Nat.zero_le _⟩ (fun H locs hP hD hS => ?_)
              refine lv_goto (tgt := 97) hx hb dm_apply_89 (by decide) ?_
              refine lv_goto (tgt := 0) hx hb dm_apply_97 (by decide) ?_
              obtain ⟨u0, h0, h⟩ := hq_bind h
              refine L0 kF l1 (lv_sub hl [1, 2] rfl) hP hD hS u0 h0 (fun ls H locs hl hP hD hS => ?_)
              have h := Option.some.inj h
              exact hq_vret hx hb hr hlocks hQ hK hP hD hS rfl (by rw [← h]) dm_apply_100
            · have h := (if_pos hc).symm.trans h
              refine lv_iconst (v := 1) hx hb dm_apply_81 (by decide) ?_
              refine lv_goto (tgt := 86) hx hb dm_apply_82 (by decide) ?_
              obtain ⟨v86, h86, h⟩ := hq_bind h
              refine km_truth 1 v86 h86 hx hb hml hts hown hK hP hD hS wi_114 (by rw [hRm]; exact ⟨Nat.le_of_ble_eq_true rfl, Nat.le_of_ble_eq_true rfl⟩) hl.1 (Nat.le_of_ble_eq_true rfl) dm_apply_86 ⟨Nat.zero_le _, Nat.zero_le _⟩ (fun H locs hP hD hS => ?_)
              refine lv_goto (tgt := 97) hx hb dm_apply_89 (by decide) ?_
              refine lv_goto (tgt := 0) hx hb dm_apply_97 (by decide) ?_
              obtain ⟨u0, h0, h⟩ := hq_bind h
              refine L0 kF l1 (lv_sub hl [1, 2] rfl) hP hD hS u0 h0 (fun ls H locs hl hP hD hS => ?_)
              have h := Option.some.inj h
              exact hq_vret hx hb hr hlocks hQ hK hP hD hS rfl (by rw [← h]) dm_apply_100
end
section
variable {p : Program} {l : Launch} {e : Env} {R : Room} {s : State} {m : MethodId} {args : Array Value} {below : List Frame} {meth : Method} {c : Code} {H H0 : Heap} {locs : List Loc} {cells slots : Nat} {Q : State → Prop}
variable {cc : ByteArray} {pc idx nC : Nat} {ls : Array Slot} {rest : List Value} {D : va_G} {A : Nat → Prop} {own : String} {q : Nat → Nat} {cI cZ cL : ClassId} {z w : va_W}
variable {f_classes f_objects f_count f_want f_compared f_open f_rowCount f_many f_seen f_fail f_level f_at f_self f_brackets f_values f_waiting : Int32}
variable {a_parent a_kindOf a_size a_root a_slotKind a_slot a_kept a_code a_number a_opened a_rowKind a_rowValue a_list a_from a_eAt a_whereAt a_source a_distinct a_keeps a_vKind a_v a_waits : Nat → Int32}
theorem km_apply (l1 : Int32) (ur : Int32 × Int32 × (Nat → Int32) × (Nat → Int32) × Int32) (hu : sm_apply l1 f_fail f_values a_vKind a_v f_waiting a_waits = some ur) (hx : p.tables.exec = Jvm.exec) (hb : c.code = cc) (hml : c.maxLocals = nC) (hts : ∀ x ∈ hq_tbl, x.before args s = true) (hown : s.vm.findClass own = some m.cls) (hK : va_K D hq_cl (hq_tys cI cZ cL) s) (hP : va_P D hq_cl (hm_w q cI cZ cL f_classes a_parent f_objects a_kindOf a_size a_root a_slotKind a_slot a_kept f_count a_code a_number f_want f_compared f_open a_opened f_rowCount a_rowKind a_rowValue f_many a_list f_seen f_fail f_level a_from a_eAt a_whereAt a_source a_distinct a_keeps f_at f_self f_brackets f_values a_vKind a_v f_waiting a_waits ++ z) H) (hD : va_D A (hm_w q cI cZ cL f_classes a_parent f_objects a_kindOf a_size a_root a_slotKind a_slot a_kept f_count a_code a_number f_want f_compared f_open a_opened f_rowCount a_rowKind a_rowValue f_many a_list f_seen f_fail f_level a_from a_eAt a_whereAt a_source a_distinct a_keeps f_at f_self f_brackets f_values a_vKind a_v f_waiting a_waits ++ z)) (hS : va_S A H0 H locs) (h1 : Cond.methodLink own idx ym_apply ∈ hq_tbl) (hR : 2 + 1 ≤ R.frames ∧ 8 + (3 + 11) + 49 ≤ R.locals) (hls : ls.size = nC) (hW : (rest.map fun v => v.category).sum ≤ 8) (hdg : decode cc pc = .ok (.invokevirtual idx, 3)) (hf : cells + 0 ≤ R.cells ∧ slots + 0 ≤ R.slots) (kk : ∀ (H1 : Heap) (locs1 : List Loc), va_P D hq_cl (hm_w q cI cZ cL f_classes a_parent f_objects a_kindOf a_size a_root a_slotKind a_slot a_kept f_count a_code a_number f_want f_compared f_open a_opened f_rowCount a_rowKind a_rowValue f_many a_list f_seen ur.1 f_level a_from a_eAt a_whereAt a_source a_distinct a_keeps f_at f_self f_brackets ur.2.1 ur.2.2.1 ur.2.2.2.1 ur.2.2.2.2 a_waits ++ z) H1 → va_D A (hm_w q cI cZ cL f_classes a_parent f_objects a_kindOf a_size a_root a_slotKind a_slot a_kept f_count a_code a_number f_want f_compared f_open a_opened f_rowCount a_rowKind a_rowValue f_many a_list f_seen ur.1 f_level a_from a_eAt a_whereAt a_source a_distinct a_keeps f_at f_self f_brackets ur.2.1 ur.2.2.1 ur.2.2.2.1 ur.2.2.2.2 a_waits ++ z) → va_S A H0 H1 locs1 → W p l e R s m args below meth c H1 locs1 cells slots Q (F0 m (pc + 3) ls (rest))) : W p l e R s m args below meth c H locs cells slots Q (F0 m pc ls (.int l1 :: .ref (q 0) :: rest)) :=
  hq_callV (q0 := 0) hx hb hml hown hts hK hP hD hS (cm_apply l1 ur hu) rfl rfl h1 wi_426 wi_427 wi_338 wi_428 1 rfl (by decide +kernel) ⟨rfl, rfl⟩ hR hls rfl hW hdg hf kk
end
theorem dm_along_0 : decode bm_along 0 = .ok (.aload_n 0, 1) := by decide +kernel
theorem dm_along_1 : decode bm_along 1 = .ok (.getfield 68, 3) := by decide +kernel
theorem dm_along_4 : decode bm_along 4 = .ok (.aload_n 0, 1) := by decide +kernel
theorem dm_along_5 : decode bm_along 5 = .ok (.getfield 195, 3) := by decide +kernel
theorem dm_along_8 : decode bm_along 8 = .ok (.iconst 1, 1) := by decide +kernel
theorem dm_along_9 : decode bm_along 9 = .ok (.isub, 1) := by decide +kernel
theorem dm_along_10 : decode bm_along 10 = .ok (.iaload, 1) := by decide +kernel
theorem dm_along_11 : decode bm_along 11 = .ok (.istore_n 3, 1) := by decide +kernel
theorem dm_along_12 : decode bm_along 12 = .ok (.aload_n 0, 1) := by decide +kernel
theorem dm_along_13 : decode bm_along 13 = .ok (.getfield 71, 3) := by decide +kernel
theorem dm_along_16 : decode bm_along 16 = .ok (.aload_n 0, 1) := by decide +kernel
theorem dm_along_17 : decode bm_along 17 = .ok (.getfield 195, 3) := by decide +kernel
theorem dm_along_20 : decode bm_along 20 = .ok (.iconst 1, 1) := by decide +kernel
theorem dm_along_21 : decode bm_along 21 = .ok (.isub, 1) := by decide +kernel
theorem dm_along_22 : decode bm_along 22 = .ok (.iaload, 1) := by decide +kernel
theorem dm_along_23 : decode bm_along 23 = .ok (.istore 4, 2) := by decide +kernel
theorem dm_along_25 : decode bm_along 25 = .ok (.iload_n 3, 1) := by decide +kernel
theorem dm_along_26 : decode bm_along 26 = .ok (.iconst 1, 1) := by decide +kernel
theorem dm_along_27 : decode bm_along 27 = .ok (.if_icmp .ne 9, 3) := by decide +kernel
theorem dm_along_30 : decode bm_along 30 = .ok (.aload_n 0, 1) := by decide +kernel
theorem dm_along_31 : decode bm_along 31 = .ok (.bipush (-2), 2) := by decide +kernel
theorem dm_along_33 : decode bm_along 33 = .ok (.putfield 143, 3) := by decide +kernel
theorem dm_along_36 : decode bm_along 36 = .ok (.iload_n 3, 1) := by decide +kernel
theorem dm_along_37 : decode bm_along 37 = .ok (.iconst 2, 1) := by decide +kernel
theorem dm_along_38 : decode bm_along 38 = .ok (.if_icmp .eq 4, 3) := by decide +kernel
theorem dm_along_41 : decode bm_along 41 = .ok (.return_, 1) := by decide +kernel
theorem dm_along_42 : decode bm_along 42 = .ok (.iload_n 1, 1) := by decide +kernel
theorem dm_along_43 : decode bm_along 43 = .ok (.bipush 13, 2) := by decide +kernel
theorem dm_along_45 : decode bm_along 45 = .ok (.if_icmp .ne 33, 3) := by decide +kernel
theorem dm_along_48 : decode bm_along 48 = .ok (.aload_n 0, 1) := by decide +kernel
theorem dm_along_49 : decode bm_along 49 = .ok (.aload_n 0, 1) := by decide +kernel
theorem dm_along_50 : decode bm_along 50 = .ok (.getfield 23, 3) := by decide +kernel
theorem dm_along_53 : decode bm_along 53 = .ok (.iconst 4, 1) := by decide +kernel
theorem dm_along_54 : decode bm_along 54 = .ok (.iload 4, 2) := by decide +kernel
theorem dm_along_56 : decode bm_along 56 = .ok (.imul, 1) := by decide +kernel
theorem dm_along_57 : decode bm_along 57 = .ok (.iload_n 2, 1) := by decide +kernel
theorem dm_along_58 : decode bm_along 58 = .ok (.iadd, 1) := by decide +kernel
theorem dm_along_59 : decode bm_along 59 = .ok (.iaload, 1) := by decide +kernel
theorem dm_along_60 : decode bm_along 60 = .ok (.aload_n 0, 1) := by decide +kernel
theorem dm_along_61 : decode bm_along 61 = .ok (.getfield 26, 3) := by decide +kernel
theorem dm_along_64 : decode bm_along 64 = .ok (.iconst 4, 1) := by decide +kernel
theorem dm_along_65 : decode bm_along 65 = .ok (.iload 4, 2) := by decide +kernel
theorem dm_along_67 : decode bm_along 67 = .ok (.imul, 1) := by decide +kernel
theorem dm_along_68 : decode bm_along 68 = .ok (.iload_n 2, 1) := by decide +kernel
theorem dm_along_69 : decode bm_along 69 = .ok (.iadd, 1) := by decide +kernel
theorem dm_along_70 : decode bm_along 70 = .ok (.iaload, 1) := by decide +kernel
theorem dm_along_71 : decode bm_along 71 = .ok (.iconst 1, 1) := by decide +kernel
theorem dm_along_72 : decode bm_along 72 = .ok (.invokevirtual 207, 3) := by decide +kernel
theorem dm_along_75 : decode bm_along 75 = .ok (.goto 165, 3) := by decide +kernel
theorem dm_along_78 : decode bm_along 78 = .ok (.iload_n 2, 1) := by decide +kernel
theorem dm_along_79 : decode bm_along 79 = .ok (.iconst 4, 1) := by decide +kernel
theorem dm_along_80 : decode bm_along 80 = .ok (.if_icmp .ne 31, 3) := by decide +kernel
theorem dm_along_83 : decode bm_along 83 = .ok (.aload_n 0, 1) := by decide +kernel
theorem dm_along_84 : decode bm_along 84 = .ok (.iload 4, 2) := by decide +kernel
theorem dm_along_86 : decode bm_along 86 = .ok (.invokevirtual 99, 3) := by decide +kernel
theorem dm_along_89 : decode bm_along 89 = .ok (.istore 5, 2) := by decide +kernel
theorem dm_along_91 : decode bm_along 91 = .ok (.aload_n 0, 1) := by decide +kernel
theorem dm_along_92 : decode bm_along 92 = .ok (.iload 5, 2) := by decide +kernel
theorem dm_along_94 : decode bm_along 94 = .ok (.ifCond .ge 7, 3) := by decide +kernel
theorem dm_along_97 : decode bm_along 97 = .ok (.iconst 0, 1) := by decide +kernel
theorem dm_along_98 : decode bm_along 98 = .ok (.goto 4, 3) := by decide +kernel
theorem dm_along_101 : decode bm_along 101 = .ok (.iconst 2, 1) := by decide +kernel
theorem dm_along_102 : decode bm_along 102 = .ok (.iload 5, 2) := by decide +kernel
theorem dm_along_104 : decode bm_along 104 = .ok (.iconst 1, 1) := by decide +kernel
theorem dm_along_105 : decode bm_along 105 = .ok (.invokevirtual 207, 3) := by decide +kernel
theorem dm_along_108 : decode bm_along 108 = .ok (.goto 132, 3) := by decide +kernel
theorem dm_along_111 : decode bm_along 111 = .ok (.iload_n 2, 1) := by decide +kernel
theorem dm_along_112 : decode bm_along 112 = .ok (.iconst 5, 1) := by decide +kernel
theorem dm_along_113 : decode bm_along 113 = .ok (.if_icmp .ne 71, 3) := by decide +kernel
theorem dm_along_116 : decode bm_along 116 = .ok (.iconst 0, 1) := by decide +kernel
theorem dm_along_117 : decode bm_along 117 = .ok (.istore 5, 2) := by decide +kernel
theorem dm_along_119 : decode bm_along 119 = .ok (.iconst 0, 1) := by decide +kernel
theorem dm_along_120 : decode bm_along 120 = .ok (.istore 6, 2) := by decide +kernel
theorem dm_along_122 : decode bm_along 122 = .ok (.iload 6, 2) := by decide +kernel
theorem dm_along_124 : decode bm_along 124 = .ok (.iconst 4, 1) := by decide +kernel
theorem dm_along_125 : decode bm_along 125 = .ok (.aload_n 0, 1) := by decide +kernel
theorem dm_along_126 : decode bm_along 126 = .ok (.getfield 81, 3) := by decide +kernel
theorem dm_along_129 : decode bm_along 129 = .ok (.imul, 1) := by decide +kernel
theorem dm_along_130 : decode bm_along 130 = .ok (.if_icmp .ge 43, 3) := by decide +kernel
theorem dm_along_133 : decode bm_along 133 = .ok (.aload_n 0, 1) := by decide +kernel
theorem dm_along_134 : decode bm_along 134 = .ok (.getfield 23, 3) := by decide +kernel
theorem dm_along_137 : decode bm_along 137 = .ok (.iload 6, 2) := by decide +kernel
theorem dm_along_139 : decode bm_along 139 = .ok (.iaload, 1) := by decide +kernel
theorem dm_along_140 : decode bm_along 140 = .ok (.iconst 2, 1) := by decide +kernel
theorem dm_along_141 : decode bm_along 141 = .ok (.if_icmp .ne 22, 3) := by decide +kernel
theorem dm_along_144 : decode bm_along 144 = .ok (.aload_n 0, 1) := by decide +kernel
theorem dm_along_145 : decode bm_along 145 = .ok (.getfield 26, 3) := by decide +kernel
theorem dm_along_148 : decode bm_along 148 = .ok (.iload 6, 2) := by decide +kernel
theorem dm_along_150 : decode bm_along 150 = .ok (.iaload, 1) := by decide +kernel
theorem dm_along_151 : decode bm_along 151 = .ok (.iload 4, 2) := by decide +kernel
theorem dm_along_153 : decode bm_along 153 = .ok (.if_icmp .ne 10, 3) := by decide +kernel
theorem dm_along_156 : decode bm_along 156 = .ok (.iload 5, 2) := by decide +kernel
theorem dm_along_158 : decode bm_along 158 = .ok (.iconst 1, 1) := by decide +kernel
theorem dm_along_159 : decode bm_along 159 = .ok (.iadd, 1) := by decide +kernel
theorem dm_along_160 : decode bm_along 160 = .ok (.goto 5, 3) := by decide +kernel
theorem dm_along_163 : decode bm_along 163 = .ok (.iload 5, 2) := by decide +kernel
theorem dm_along_165 : decode bm_along 165 = .ok (.istore 5, 2) := by decide +kernel
theorem dm_along_167 : decode bm_along 167 = .ok (.iinc 6 1, 3) := by decide +kernel
theorem dm_along_170 : decode bm_along 170 = .ok (.goto (-48), 3) := by decide +kernel
theorem dm_along_173 : decode bm_along 173 = .ok (.aload_n 0, 1) := by decide +kernel
theorem dm_along_174 : decode bm_along 174 = .ok (.iconst 1, 1) := by decide +kernel
theorem dm_along_175 : decode bm_along 175 = .ok (.iload 5, 2) := by decide +kernel
theorem dm_along_177 : decode bm_along 177 = .ok (.iconst 1, 1) := by decide +kernel
theorem dm_along_178 : decode bm_along 178 = .ok (.invokevirtual 207, 3) := by decide +kernel
theorem dm_along_181 : decode bm_along 181 = .ok (.goto 59, 3) := by decide +kernel
theorem dm_along_184 : decode bm_along 184 = .ok (.aload_n 0, 1) := by decide +kernel
theorem dm_along_185 : decode bm_along 185 = .ok (.iconst 1, 1) := by decide +kernel
theorem dm_along_186 : decode bm_along 186 = .ok (.iload_n 2, 1) := by decide +kernel
theorem dm_along_187 : decode bm_along 187 = .ok (.ifCond .ne 8, 3) := by decide +kernel
theorem dm_along_190 : decode bm_along 190 = .ok (.iload 4, 2) := by decide +kernel
theorem dm_along_192 : decode bm_along 192 = .ok (.goto 44, 3) := by decide +kernel
theorem dm_along_195 : decode bm_along 195 = .ok (.iload_n 2, 1) := by decide +kernel
theorem dm_along_196 : decode bm_along 196 = .ok (.iconst 1, 1) := by decide +kernel
theorem dm_along_197 : decode bm_along 197 = .ok (.if_icmp .ne 13, 3) := by decide +kernel
theorem dm_along_200 : decode bm_along 200 = .ok (.aload_n 0, 1) := by decide +kernel
theorem dm_along_201 : decode bm_along 201 = .ok (.getfield 13, 3) := by decide +kernel
theorem dm_along_204 : decode bm_along 204 = .ok (.iload 4, 2) := by decide +kernel
theorem dm_along_206 : decode bm_along 206 = .ok (.iaload, 1) := by decide +kernel
theorem dm_along_207 : decode bm_along 207 = .ok (.goto 29, 3) := by decide +kernel
theorem dm_along_210 : decode bm_along 210 = .ok (.iload_n 2, 1) := by decide +kernel
theorem dm_along_211 : decode bm_along 211 = .ok (.iconst 2, 1) := by decide +kernel
theorem dm_along_212 : decode bm_along 212 = .ok (.if_icmp .ne 13, 3) := by decide +kernel
theorem dm_along_215 : decode bm_along 215 = .ok (.aload_n 0, 1) := by decide +kernel
theorem dm_along_216 : decode bm_along 216 = .ok (.getfield 16, 3) := by decide +kernel
theorem dm_along_219 : decode bm_along 219 = .ok (.iload 4, 2) := by decide +kernel
theorem dm_along_221 : decode bm_along 221 = .ok (.iaload, 1) := by decide +kernel
theorem dm_along_222 : decode bm_along 222 = .ok (.goto 14, 3) := by decide +kernel
theorem dm_along_225 : decode bm_along 225 = .ok (.aload_n 0, 1) := by decide +kernel
theorem dm_along_226 : decode bm_along 226 = .ok (.aload_n 0, 1) := by decide +kernel
theorem dm_along_227 : decode bm_along 227 = .ok (.getfield 29, 3) := by decide +kernel
theorem dm_along_230 : decode bm_along 230 = .ok (.iload 4, 2) := by decide +kernel
theorem dm_along_232 : decode bm_along 232 = .ok (.iaload, 1) := by decide +kernel
theorem dm_along_233 : decode bm_along 233 = .ok (.invokevirtual 102, 3) := by decide +kernel
theorem dm_along_236 : decode bm_along 236 = .ok (.iconst 1, 1) := by decide +kernel
theorem dm_along_237 : decode bm_along 237 = .ok (.invokevirtual 207, 3) := by decide +kernel
theorem dm_along_240 : decode bm_along 240 = .ok (.return_, 1) := by decide +kernel
section
variable {l : Launch} {D : va_G} {A : Nat → Prop} {z w : va_W} {q : Nat → Nat} {cI cZ cL : ClassId}
variable {f_classes f_objects f_count f_want f_compared f_open f_rowCount f_many f_seen f_fail f_level f_at f_self f_brackets f_values f_waiting : Int32}
variable {a_parent a_kindOf a_size a_root a_slotKind a_slot a_kept a_code a_number a_opened a_rowKind a_rowValue a_list a_from a_eAt a_whereAt a_source a_distinct a_keeps a_vKind a_v a_waits : Nat → Int32}
set_option maxHeartbeats 4000000 in
set_option maxRecDepth 100000 in
theorem cm_along (l1 : Int32) (l2 : Int32) (ur : Int32 × Int32 × (Nat → Int32) × (Nat → Int32)) (h : sm_along l1 l2 f_objects a_kindOf a_size a_slotKind a_slot a_kept f_fail f_values a_vKind a_v = some ur) : hq_Ct l ym_along bm_along 7 none { frames := 2, cells := 0, slots := 0, locals := 46 } D (hq_tys cI cZ cL) A [.ref (q 0), .int l1, .int l2] (hm_w q cI cZ cL f_classes a_parent f_objects a_kindOf a_size a_root a_slotKind a_slot a_kept f_count a_code a_number f_want f_compared f_open a_opened f_rowCount a_rowKind a_rowValue f_many a_list f_seen f_fail f_level a_from a_eAt a_whereAt a_source a_distinct a_keeps f_at f_self f_brackets f_values a_vKind a_v f_waiting a_waits ++ z) (hm_w q cI cZ cL f_classes a_parent f_objects a_kindOf a_size a_root a_slotKind a_slot a_kept f_count a_code a_number f_want f_compared f_open a_opened f_rowCount a_rowKind a_rowValue f_many a_list f_seen ur.1 f_level a_from a_eAt a_whereAt a_source a_distinct a_keeps f_at f_self f_brackets ur.2.1 ur.2.2.1 ur.2.2.2 f_waiting a_waits ++ z) none 0 0 := by
  refine hq_of (by decide) ?_ (Nat.le_of_ble_eq_true rfl)
  intro p e s m below meth c R args Q hRm hQ hx hb hr hml hts hown hlocks hnm hP hK hD ls hl hS
  have hl : lv_has ls 7 [(0, .ref (q 0)), (1, .int l1), (2, .int l2)] := hl
  have hown : s.vm.findClass "HeapQueriesModel" = some m.cls := hown
  unfold sm_along at h
  have L122 : ∀ (n : Nat) (l4 : Int32) (l5 : Int32) (l6 : Int32) {f_fail : Int32} {f_values : Int32} {a_vKind : Nat → Int32} {a_v : Nat → Int32} {ls : Array Slot} {H : Heap} {locs : List Loc}, lv_has ls 7 [(0, .ref (q 0)), (4, .int l4), (5, .int l5), (6, .int l6)] → va_P D hq_cl (hm_w q cI cZ cL f_classes a_parent f_objects a_kindOf a_size a_root a_slotKind a_slot a_kept f_count a_code a_number f_want f_compared f_open a_opened f_rowCount a_rowKind a_rowValue f_many a_list f_seen f_fail f_level a_from a_eAt a_whereAt a_source a_distinct a_keeps f_at f_self f_brackets f_values a_vKind a_v f_waiting a_waits ++ z) H → va_D A (hm_w q cI cZ cL f_classes a_parent f_objects a_kindOf a_size a_root a_slotKind a_slot a_kept f_count a_code a_number f_want f_compared f_open a_opened f_rowCount a_rowKind a_rowValue f_many a_list f_seen f_fail f_level a_from a_eAt a_whereAt a_source a_distinct a_keeps f_at f_self f_brackets f_values a_vKind a_v f_waiting a_waits ++ z) → va_S A s.heap H locs → ∀ u122, sm_along_L122 n l4 l5 l6 f_objects a_slotKind a_slot = some u122 → (∀ (ls : Array Slot) (H : Heap) (locs : List Loc), lv_has ls 7 [(0, .ref (q 0)), (5, .int u122)] → va_P D hq_cl (hm_w q cI cZ cL f_classes a_parent f_objects a_kindOf a_size a_root a_slotKind a_slot a_kept f_count a_code a_number f_want f_compared f_open a_opened f_rowCount a_rowKind a_rowValue f_many a_list f_seen f_fail f_level a_from a_eAt a_whereAt a_source a_distinct a_keeps f_at f_self f_brackets f_values a_vKind a_v f_waiting a_waits ++ z) H → va_D A (hm_w q cI cZ cL f_classes a_parent f_objects a_kindOf a_size a_root a_slotKind a_slot a_kept f_count a_code a_number f_want f_compared f_open a_opened f_rowCount a_rowKind a_rowValue f_many a_list f_seen f_fail f_level a_from a_eAt a_whereAt a_source a_distinct a_keeps f_at f_self f_brackets f_values a_vKind a_v f_waiting a_waits ++ z) → va_S A s.heap H locs → W p l e R s m args below meth c H locs 0 0 Q (F0 m 173 ls [])) → W p l e R s m args below meth c H locs 0 0 Q (F0 m 122 ls []) := by
    intro n
    induction n with
    | zero =>
      intro l4 l5 l6 f_fail f_values a_vKind a_v ls H locs hl hP hD hS u122 h kx
      have h : (none : Option (Int32)) = some u122 := h
      cases h
    | succ n ih =>
      intro l4 l5 l6 f_fail f_values a_vKind a_v ls H locs hl hP hD hS u122 h kx
      have h : sm_along_L122_B (sm_along_L122 n) l4 l5 l6 f_objects a_slotKind a_slot = some u122 := h
      unfold sm_along_L122_B at h
      refine lv_iload hx hb dm_along_122 (lv_at hl 3 rfl) ?_
      refine lv_iconst (v := 4) hx hb dm_along_124 (by decide) ?_
      refine lv_aload_n hx hb dm_along_125 rfl (lv_at hl 0 rfl) ?_
      refine gm_0_objects hx hb hts hown hK hP wi_68 dm_along_126 ?_
      refine lv_imul hx hb dm_along_129 ?_
      refine lv_icmp_ge (tgt := 173) hx hb dm_along_130 (by decide) (fun hc => ?_) (fun hc => ?_)
      · have h := (if_pos hc).symm.trans h
        have h := Option.some.inj h
        subst h
        exact kx ls H locs (lv_sub hl [0, 2] rfl) hP hD hS
      · have h := (if_neg hc).symm.trans h
        refine lv_aload_n hx hb dm_along_133 rfl (lv_at hl 0 rfl) ?_
        refine gm_0_slotKind hx hb hts hown hK hP wi_71 dm_along_134 ?_
        refine lv_iload hx hb dm_along_137 (lv_at hl 3 rfl) ?_
        obtain ⟨hin, h⟩ := hq_idx h
        refine am_5 hx hb hK hP hin dm_along_139 ?_
        refine lv_iconst (v := 2) hx hb dm_along_140 (by decide) ?_
        refine lv_icmp_ne (tgt := 163) hx hb dm_along_141 (by decide) (fun hc => ?_) (fun hc => ?_)
        · have h := (if_neg hc).symm.trans h
          refine lv_iload hx hb dm_along_163 (lv_at hl 2 rfl) ?_
          refine lv_istore (lv' := [(5, .int l5), (0, .ref (q 0)), (4, .int l4), (6, .int l6)]) hx hb dm_along_165 hl (by decide) rfl (fun ls hl => ?_)
          refine lv_iinc (k := 3) (v := l6 + 1) (lv' := [(6, .int (l6 + 1)), (5, .int l5), (0, .ref (q 0)), (4, .int l4)]) hx hb dm_along_167 hl rfl (congrArg (fun j => l6 + j) (by decide)) (by decide) rfl (fun ls hl => ?_)
          refine lv_goto (tgt := 122) hx hb dm_along_170 (by decide) ?_
          exact ih l4 l5 (l6 + 1) (lv_sub hl [2, 3, 1, 0] rfl) hP hD hS u122 h kx
        · have h := (if_pos hc).symm.trans h
          refine lv_aload_n hx hb dm_along_144 rfl (lv_at hl 0 rfl) ?_
          refine gm_0_slot hx hb hts hown hK hP wi_72 dm_along_145 ?_
          refine lv_iload hx hb dm_along_148 (lv_at hl 3 rfl) ?_
          obtain ⟨hin, h⟩ := hq_idx h
          refine am_6 hx hb hK hP hin dm_along_150 ?_
          refine lv_iload hx hb dm_along_151 (lv_at hl 1 rfl) ?_
          refine lv_icmp_ne (tgt := 163) hx hb dm_along_153 (by decide) (fun hc => ?_) (fun hc => ?_)
          · have h := (if_neg hc).symm.trans h
            refine lv_iload hx hb dm_along_163 (lv_at hl 2 rfl) ?_
            refine lv_istore (lv' := [(5, .int l5), (0, .ref (q 0)), (4, .int l4), (6, .int l6)]) hx hb dm_along_165 hl (by decide) rfl (fun ls hl => ?_)
            refine lv_iinc (k := 3) (v := l6 + 1) (lv' := [(6, .int (l6 + 1)), (5, .int l5), (0, .ref (q 0)), (4, .int l4)]) hx hb dm_along_167 hl rfl (congrArg (fun j => l6 + j) (by decide)) (by decide) rfl (fun ls hl => ?_)
            refine lv_goto (tgt := 122) hx hb dm_along_170 (by decide) ?_
            exact ih l4 l5 (l6 + 1) (lv_sub hl [2, 3, 1, 0] rfl) hP hD hS u122 h kx
          · have h := (if_pos hc).symm.trans h
            refine lv_iload hx hb dm_along_156 (lv_at hl 2 rfl) ?_
            refine lv_iconst (v := 1) hx hb dm_along_158 (by decide) ?_
            refine lv_iadd hx hb dm_along_159 ?_
            refine lv_goto (tgt := 165) hx hb dm_along_160 (by decide) ?_
            refine lv_istore (lv' := [(5, .int (l5 + 1)), (0, .ref (q 0)), (4, .int l4), (6, .int l6)]) hx hb dm_along_165 hl (by decide) rfl (fun ls hl => ?_)
            refine lv_iinc (k := 3) (v := l6 + 1) (lv' := [(6, .int (l6 + 1)), (5, .int (l5 + 1)), (0, .ref (q 0)), (4, .int l4)]) hx hb dm_along_167 hl rfl (congrArg (fun j => l6 + j) (by decide)) (by decide) rfl (fun ls hl => ?_)
            refine lv_goto (tgt := 122) hx hb dm_along_170 (by decide) ?_
            exact ih l4 (l5 + 1) (l6 + 1) (lv_sub hl [2, 3, 1, 0] rfl) hP hD hS u122 h kx
  have J36 : ∀ (l1 : Int32) (l2 : Int32) (l3 : Int32) (l4 : Int32) {f_fail : Int32} {f_values : Int32} {a_vKind : Nat → Int32} {a_v : Nat → Int32} {ls : Array Slot} {H : Heap} {locs : List Loc}, lv_has ls 7 [(0, .ref (q 0)), (1, .int l1), (2, .int l2), (3, .int l3), (4, .int l4)] → va_P D hq_cl (hm_w q cI cZ cL f_classes a_parent f_objects a_kindOf a_size a_root a_slotKind a_slot a_kept f_count a_code a_number f_want f_compared f_open a_opened f_rowCount a_rowKind a_rowValue f_many a_list f_seen f_fail f_level a_from a_eAt a_whereAt a_source a_distinct a_keeps f_at f_self f_brackets f_values a_vKind a_v f_waiting a_waits ++ z) H → va_D A (hm_w q cI cZ cL f_classes a_parent f_objects a_kindOf a_size a_root a_slotKind a_slot a_kept f_count a_code a_number f_want f_compared f_open a_opened f_rowCount a_rowKind a_rowValue f_many a_list f_seen f_fail f_level a_from a_eAt a_whereAt a_source a_distinct a_keeps f_at f_self f_brackets f_values a_vKind a_v f_waiting a_waits ++ z) → va_S A s.heap H locs → sm_along_J36 l1 l2 l3 l4 f_objects a_kindOf a_size a_slotKind a_slot a_kept f_fail f_values a_vKind a_v = some ur → W p l e R s m args below meth c H locs 0 0 Q (F0 m 36 ls []) := by
    intro l1 l2 l3 l4 f_fail f_values a_vKind a_v ls H locs hl hP hD hS h
    unfold sm_along_J36 at h
    refine lv_iload_n hx hb dm_along_36 rfl (lv_at hl 3 rfl) ?_
    refine lv_iconst (v := 2) hx hb dm_along_37 (by decide) ?_
    refine lv_icmp_eq (tgt := 42) hx hb dm_along_38 (by decide) (fun hc => ?_) (fun hc => ?_)
    · have h := (if_pos hc).symm.trans h
      refine lv_iload_n hx hb dm_along_42 rfl (lv_at hl 1 rfl) ?_
      refine lv_bipush (v := 13) hx hb dm_along_43 (by decide) ?_
      refine lv_icmp_ne (tgt := 78) hx hb dm_along_45 (by decide) (fun hc => ?_) (fun hc => ?_)
      · have h := (if_neg hc).symm.trans h
        refine lv_iload_n hx hb dm_along_78 rfl (lv_at hl 2 rfl) ?_
        refine lv_iconst (v := 4) hx hb dm_along_79 (by decide) ?_
        refine lv_icmp_ne (tgt := 111) hx hb dm_along_80 (by decide) (fun hc => ?_) (fun hc => ?_)
        · have h := (if_neg hc).symm.trans h
          refine lv_iload_n hx hb dm_along_111 rfl (lv_at hl 2 rfl) ?_
          refine lv_iconst (v := 5) hx hb dm_along_112 (by decide) ?_
          refine lv_icmp_ne (tgt := 184) hx hb dm_along_113 (by decide) (fun hc => ?_) (fun hc => ?_)
          · have h := (if_neg hc).symm.trans h
            refine lv_aload_n hx hb dm_along_184 rfl (lv_at hl 0 rfl) ?_
            refine lv_iconst (v := 1) hx hb dm_along_185 (by decide) ?_
            refine lv_iload_n hx hb dm_along_186 rfl (lv_at hl 2 rfl) ?_
            refine lv_if_ne (tgt := 195) hx hb dm_along_187 (by decide) (fun hc => ?_) (fun hc => ?_)
            · have h := (if_neg hc).symm.trans h
              refine lv_iload_n hx hb dm_along_195 rfl (lv_at hl 2 rfl) ?_
              refine lv_iconst (v := 1) hx hb dm_along_196 (by decide) ?_
              refine lv_icmp_ne (tgt := 210) hx hb dm_along_197 (by decide) (fun hc => ?_) (fun hc => ?_)
              · have h := (if_neg hc).symm.trans h
                refine lv_iload_n hx hb dm_along_210 rfl (lv_at hl 2 rfl) ?_
                refine lv_iconst (v := 2) hx hb dm_along_211 (by decide) ?_
                refine lv_icmp_ne (tgt := 225) hx hb dm_along_212 (by decide) (fun hc => ?_) (fun hc => ?_)
                · have h := (if_neg hc).symm.trans h
                  refine lv_aload_n hx hb dm_along_225 rfl (lv_at hl 0 rfl) ?_
                  refine lv_aload_n hx hb dm_along_226 rfl (lv_at hl 0 rfl) ?_
                  refine gm_0_kept hx hb hts hown hK hP wi_75 dm_along_227 ?_
                  refine lv_iload hx hb dm_along_230 (lv_at hl 4 rfl) ?_
                  obtain ⟨hin, h⟩ := hq_idx h
                  refine am_7 hx hb hK hP hin dm_along_232 ?_
                  obtain ⟨v233, h233, h⟩ := hq_bind h
                  refine km_sum (a_kept l4.toNatClampNeg) v233 h233 hx hb hml hts hown hK hP hD hS wi_80 (by rw [hRm]; exact ⟨Nat.le_of_ble_eq_true rfl, Nat.le_of_ble_eq_true rfl⟩) hl.1 (Nat.le_of_ble_eq_true rfl) dm_along_233 ⟨Nat.zero_le _, Nat.zero_le _⟩ (fun H locs hP hD hS => ?_)
                  refine lv_iconst (v := 1) hx hb dm_along_236 (by decide) ?_
                  obtain ⟨v237, h237, h⟩ := hq_bind h
                  refine km_give 1 v233 1 v237 h237 hx hb hml hts hown hK hP hD hS wi_108 (by rw [hRm]; exact ⟨Nat.le_of_ble_eq_true rfl, Nat.le_of_ble_eq_true rfl⟩) hl.1 (Nat.le_of_ble_eq_true rfl) dm_along_237 ⟨Nat.zero_le _, Nat.zero_le _⟩ (fun H locs hP hD hS => ?_)
                  have h := Option.some.inj h
                  exact hq_vret hx hb hr hlocks hQ hK hP hD hS rfl (by rw [← h]) dm_along_240
                · have h := (if_pos hc).symm.trans h
                  refine lv_aload_n hx hb dm_along_215 rfl (lv_at hl 0 rfl) ?_
                  refine gm_0_size hx hb hts hown hK hP wi_70 dm_along_216 ?_
                  refine lv_iload hx hb dm_along_219 (lv_at hl 4 rfl) ?_
                  obtain ⟨hin, h⟩ := hq_idx h
                  refine am_3 hx hb hK hP hin dm_along_221 ?_
                  refine lv_goto (tgt := 236) hx hb dm_along_222 (by decide) ?_
                  refine lv_iconst (v := 1) hx hb dm_along_236 (by decide) ?_
                  obtain ⟨v237, h237, h⟩ := hq_bind h
                  refine km_give 1 (a_size l4.toNatClampNeg) 1 v237 h237 hx hb hml hts hown hK hP hD hS wi_108 (by rw [hRm]; exact ⟨Nat.le_of_ble_eq_true rfl, Nat.le_of_ble_eq_true rfl⟩) hl.1 (Nat.le_of_ble_eq_true rfl) dm_along_237 ⟨Nat.zero_le _, Nat.zero_le _⟩ (fun H locs hP hD hS => ?_)
                  have h := Option.some.inj h
                  exact hq_vret hx hb hr hlocks hQ hK hP hD hS rfl (by rw [← h]) dm_along_240
              · have h := (if_pos hc).symm.trans h
                refine lv_aload_n hx hb dm_along_200 rfl (lv_at hl 0 rfl) ?_
                refine gm_0_kindOf hx hb hts hown hK hP wi_69 dm_along_201 ?_
                refine lv_iload hx hb dm_along_204 (lv_at hl 4 rfl) ?_
                obtain ⟨hin, h⟩ := hq_idx h
                refine am_2 hx hb hK hP hin dm_along_206 ?_
                refine lv_goto (tgt := 236) hx hb dm_along_207 (by decide) ?_
                refine lv_iconst (v := 1) hx hb dm_along_236 (by decide) ?_
                obtain ⟨v237, h237, h⟩ := hq_bind h
                refine km_give 1 (a_kindOf l4.toNatClampNeg) 1 v237 h237 hx hb hml hts hown hK hP hD hS wi_108 (by rw [hRm]; exact ⟨Nat.le_of_ble_eq_true rfl, Nat.le_of_ble_eq_true rfl⟩) hl.1 (Nat.le_of_ble_eq_true rfl) dm_along_237 ⟨Nat.zero_le _, Nat.zero_le _⟩ (fun H locs hP hD hS => ?_)
                have h := Option.some.inj h
                exact hq_vret hx hb hr hlocks hQ hK hP hD hS rfl (by rw [← h]) dm_along_240
            · have h := (if_pos hc).symm.trans h
              refine lv_iload hx hb dm_along_190 (lv_at hl 4 rfl) ?_
              refine lv_goto (tgt := 236) hx hb dm_along_192 (by decide) ?_
              refine lv_iconst (v := 1) hx hb dm_along_236 (by decide) ?_
              obtain ⟨v237, h237, h⟩ := hq_bind h
              refine km_give 1 l4 1 v237 h237 hx hb hml hts hown hK hP hD hS wi_108 (by rw [hRm]; exact ⟨Nat.le_of_ble_eq_true rfl, Nat.le_of_ble_eq_true rfl⟩) hl.1 (Nat.le_of_ble_eq_true rfl) dm_along_237 ⟨Nat.zero_le _, Nat.zero_le _⟩ (fun H locs hP hD hS => ?_)
              have h := Option.some.inj h
              exact hq_vret hx hb hr hlocks hQ hK hP hD hS rfl (by rw [← h]) dm_along_240
          · have h := (if_pos hc).symm.trans h
            refine lv_iconst (v := 0) hx hb dm_along_116 (by decide) ?_
            refine lv_istore (lv' := [(5, .int 0), (0, .ref (q 0)), (1, .int l1), (2, .int l2), (3, .int l3), (4, .int l4)]) hx hb dm_along_117 hl (by decide) rfl (fun ls hl => ?_)
            refine lv_iconst (v := 0) hx hb dm_along_119 (by decide) ?_
            refine lv_istore (lv' := [(6, .int 0), (5, .int 0), (0, .ref (q 0)), (1, .int l1), (2, .int l2), (3, .int l3), (4, .int l4)]) hx hb dm_along_120 hl (by decide) rfl (fun ls hl => ?_)
            obtain ⟨u122, h122, h⟩ := hq_bind h
            refine L122 kF l4 0 0 (lv_sub hl [2, 6, 1, 0] rfl) hP hD hS u122 h122 (fun ls H locs hl hP hD hS => ?_)
            refine lv_aload_n hx hb dm_along_173 rfl (lv_at hl 0 rfl) ?_
            refine lv_iconst (v := 1) hx hb dm_along_174 (by decide) ?_
            refine lv_iload hx hb dm_along_175 (lv_at hl 1 rfl) ?_
            refine lv_iconst (v := 1) hx hb dm_along_177 (by decide) ?_
            obtain ⟨v178, h178, h⟩ := hq_bind h
            refine km_give 1 u122 1 v178 h178 hx hb hml hts hown hK hP hD hS wi_108 (by rw [hRm]; exact ⟨Nat.le_of_ble_eq_true rfl, Nat.le_of_ble_eq_true rfl⟩) hl.1 (Nat.le_of_ble_eq_true rfl) dm_along_178 ⟨Nat.zero_le _, Nat.zero_le _⟩ (fun H locs hP hD hS => ?_)
            refine lv_goto (tgt := 240) hx hb dm_along_181 (by decide) ?_
            have h := Option.some.inj h
            exact hq_vret hx hb hr hlocks hQ hK hP hD hS rfl (by rw [← h]) dm_along_240
        · have h := (if_pos hc).symm.trans h
          refine lv_aload_n hx hb dm_along_83 rfl (lv_at hl 0 rfl) ?_
          refine lv_iload hx hb dm_along_84 (lv_at hl 4 rfl) ?_
          obtain ⟨v86, h86, h⟩ := hq_bind h
          refine km_immediate l4 v86 h86 hx hb hml hts hown hK hP hD hS wi_79 (by rw [hRm]; exact ⟨Nat.le_of_ble_eq_true rfl, Nat.le_of_ble_eq_true rfl⟩) hl.1 (Nat.le_of_ble_eq_true rfl) dm_along_86 ⟨Nat.zero_le _, Nat.zero_le _⟩ (fun H locs hP hD hS => ?_)
          refine lv_istore (lv' := [(5, .int v86), (0, .ref (q 0)), (1, .int l1), (2, .int l2), (3, .int l3), (4, .int l4)]) hx hb dm_along_89 hl (by decide) rfl (fun ls hl => ?_)
          refine lv_aload_n hx hb dm_along_91 rfl (lv_at hl 1 rfl) ?_
          refine lv_iload hx hb dm_along_92 (lv_at hl 0 rfl) ?_
          refine lv_if_ge (tgt := 101) hx hb dm_along_94 (by decide) (fun hc => ?_) (fun hc => ?_)
          · have h := (if_pos hc).symm.trans h
            refine lv_iconst (v := 2) hx hb dm_along_101 (by decide) ?_
            refine lv_iload hx hb dm_along_102 (lv_at hl 0 rfl) ?_
            refine lv_iconst (v := 1) hx hb dm_along_104 (by decide) ?_
            obtain ⟨v105, h105, h⟩ := hq_bind h
            refine km_give 2 v86 1 v105 h105 hx hb hml hts hown hK hP hD hS wi_108 (by rw [hRm]; exact ⟨Nat.le_of_ble_eq_true rfl, Nat.le_of_ble_eq_true rfl⟩) hl.1 (Nat.le_of_ble_eq_true rfl) dm_along_105 ⟨Nat.zero_le _, Nat.zero_le _⟩ (fun H locs hP hD hS => ?_)
            refine lv_goto (tgt := 240) hx hb dm_along_108 (by decide) ?_
            have h := Option.some.inj h
            exact hq_vret hx hb hr hlocks hQ hK hP hD hS rfl (by rw [← h]) dm_along_240
          · have h := (if_neg hc).symm.trans h
            refine lv_iconst (v := 0) hx hb dm_along_97 (by decide) ?_
            refine lv_goto (tgt := 102) hx hb dm_along_98 (by decide) ?_
            refine lv_iload hx hb dm_along_102 (lv_at hl 0 rfl) ?_
            refine lv_iconst (v := 1) hx hb dm_along_104 (by decide) ?_
            obtain ⟨v105, h105, h⟩ := hq_bind h
            refine km_give 0 v86 1 v105 h105 hx hb hml hts hown hK hP hD hS wi_108 (by rw [hRm]; exact ⟨Nat.le_of_ble_eq_true rfl, Nat.le_of_ble_eq_true rfl⟩) hl.1 (Nat.le_of_ble_eq_true rfl) dm_along_105 ⟨Nat.zero_le _, Nat.zero_le _⟩ (fun H locs hP hD hS => ?_)
            refine lv_goto (tgt := 240) hx hb dm_along_108 (by decide) ?_
            have h := Option.some.inj h
            exact hq_vret hx hb hr hlocks hQ hK hP hD hS rfl (by rw [← h]) dm_along_240
      · have h := (if_pos hc).symm.trans h
        refine lv_aload_n hx hb dm_along_48 rfl (lv_at hl 0 rfl) ?_
        refine lv_aload_n hx hb dm_along_49 rfl (lv_at hl 0 rfl) ?_
        refine gm_0_slotKind hx hb hts hown hK hP wi_71 dm_along_50 ?_
        refine lv_iconst (v := 4) hx hb dm_along_53 (by decide) ?_
        refine lv_iload hx hb dm_along_54 (lv_at hl 4 rfl) ?_
        refine lv_imul hx hb dm_along_56 ?_
        refine lv_iload_n hx hb dm_along_57 rfl (lv_at hl 2 rfl) ?_
        refine lv_iadd hx hb dm_along_58 ?_
        obtain ⟨hin, h⟩ := hq_idx h
        refine am_5 hx hb hK hP hin dm_along_59 ?_
        refine lv_aload_n hx hb dm_along_60 rfl (lv_at hl 0 rfl) ?_
        refine gm_0_slot hx hb hts hown hK hP wi_72 dm_along_61 ?_
        refine lv_iconst (v := 4) hx hb dm_along_64 (by decide) ?_
        refine lv_iload hx hb dm_along_65 (lv_at hl 4 rfl) ?_
        refine lv_imul hx hb dm_along_67 ?_
        refine lv_iload_n hx hb dm_along_68 rfl (lv_at hl 2 rfl) ?_
        refine lv_iadd hx hb dm_along_69 ?_
        obtain ⟨hin, h⟩ := hq_idx h
        refine am_6 hx hb hK hP hin dm_along_70 ?_
        refine lv_iconst (v := 1) hx hb dm_along_71 (by decide) ?_
        obtain ⟨v72, h72, h⟩ := hq_bind h
        refine km_give (a_slotKind ((4 * l4) + l2).toNatClampNeg) (a_slot ((4 * l4) + l2).toNatClampNeg) 1 v72 h72 hx hb hml hts hown hK hP hD hS wi_108 (by rw [hRm]; exact ⟨Nat.le_of_ble_eq_true rfl, Nat.le_of_ble_eq_true rfl⟩) hl.1 (Nat.le_of_ble_eq_true rfl) dm_along_72 ⟨Nat.zero_le _, Nat.zero_le _⟩ (fun H locs hP hD hS => ?_)
        refine lv_goto (tgt := 240) hx hb dm_along_75 (by decide) ?_
        have h := Option.some.inj h
        exact hq_vret hx hb hr hlocks hQ hK hP hD hS rfl (by rw [← h]) dm_along_240
    · have h := (if_neg hc).symm.trans h
      have h := Option.some.inj h
      exact hq_vret hx hb hr hlocks hQ hK hP hD hS rfl (by rw [← h]) dm_along_41
  refine lv_aload_n hx hb dm_along_0 rfl (lv_at hl 0 rfl) ?_
  refine gm_0_vKind hx hb hts hown hK hP wi_106 dm_along_1 ?_
  refine lv_aload_n hx hb dm_along_4 rfl (lv_at hl 0 rfl) ?_
  refine gm_0_values hx hb hts hown hK hP wi_105 dm_along_5 ?_
  refine lv_iconst (v := 1) hx hb dm_along_8 (by decide) ?_
  refine lv_isub hx hb dm_along_9 ?_
  obtain ⟨hin, h⟩ := hq_idx h
  refine am_20 hx hb hK hP hin dm_along_10 ?_
  refine lv_istore_n (lv' := [(3, .int (a_vKind (f_values - 1).toNatClampNeg)), (0, .ref (q 0)), (1, .int l1), (2, .int l2)]) hx hb dm_along_11 rfl hl (by decide) rfl (fun ls hl => ?_)
  refine lv_aload_n hx hb dm_along_12 rfl (lv_at hl 1 rfl) ?_
  refine gm_0_v hx hb hts hown hK hP wi_107 dm_along_13 ?_
  refine lv_aload_n hx hb dm_along_16 rfl (lv_at hl 1 rfl) ?_
  refine gm_0_values hx hb hts hown hK hP wi_105 dm_along_17 ?_
  refine lv_iconst (v := 1) hx hb dm_along_20 (by decide) ?_
  refine lv_isub hx hb dm_along_21 ?_
  obtain ⟨hin, h⟩ := hq_idx h
  refine am_21 hx hb hK hP hin dm_along_22 ?_
  refine lv_istore (lv' := [(4, .int (a_v (f_values - 1).toNatClampNeg)), (3, .int (a_vKind (f_values - 1).toNatClampNeg)), (0, .ref (q 0)), (1, .int l1), (2, .int l2)]) hx hb dm_along_23 hl (by decide) rfl (fun ls hl => ?_)
  refine lv_iload_n hx hb dm_along_25 rfl (lv_at hl 1 rfl) ?_
  refine lv_iconst (v := 1) hx hb dm_along_26 (by decide) ?_
  refine lv_icmp_ne (tgt := 36) hx hb dm_along_27 (by decide) (fun hc => ?_) (fun hc => ?_)
  · have h := (if_neg hc).symm.trans h
    exact J36 l1 l2 (a_vKind (f_values - 1).toNatClampNeg) (a_v (f_values - 1).toNatClampNeg) (lv_sub hl [2, 3, 4, 1, 0] rfl) hP hD hS h
  · have h := (if_pos hc).symm.trans h
    refine lv_aload_n hx hb dm_along_30 rfl (lv_at hl 2 rfl) ?_
    refine lv_bipush (v := (-2)) hx hb dm_along_31 (by decide) ?_
    refine pm_0_fail hx hb hts hown hK hP hD hS wi_109 dm_along_33 (fun H locs hP hD hS => ?_)
    exact J36 l1 l2 (a_vKind (f_values - 1).toNatClampNeg) (a_v (f_values - 1).toNatClampNeg) (lv_sub hl [2, 3, 4, 1, 0] rfl) hP hD hS h
end
section
variable {p : Program} {l : Launch} {e : Env} {R : Room} {s : State} {m : MethodId} {args : Array Value} {below : List Frame} {meth : Method} {c : Code} {H H0 : Heap} {locs : List Loc} {cells slots : Nat} {Q : State → Prop}
variable {cc : ByteArray} {pc idx nC : Nat} {ls : Array Slot} {rest : List Value} {D : va_G} {A : Nat → Prop} {own : String} {q : Nat → Nat} {cI cZ cL : ClassId} {z w : va_W}
variable {f_classes f_objects f_count f_want f_compared f_open f_rowCount f_many f_seen f_fail f_level f_at f_self f_brackets f_values f_waiting : Int32}
variable {a_parent a_kindOf a_size a_root a_slotKind a_slot a_kept a_code a_number a_opened a_rowKind a_rowValue a_list a_from a_eAt a_whereAt a_source a_distinct a_keeps a_vKind a_v a_waits : Nat → Int32}
theorem km_along (l1 : Int32) (l2 : Int32) (ur : Int32 × Int32 × (Nat → Int32) × (Nat → Int32)) (hu : sm_along l1 l2 f_objects a_kindOf a_size a_slotKind a_slot a_kept f_fail f_values a_vKind a_v = some ur) (hx : p.tables.exec = Jvm.exec) (hb : c.code = cc) (hml : c.maxLocals = nC) (hts : ∀ x ∈ hq_tbl, x.before args s = true) (hown : s.vm.findClass own = some m.cls) (hK : va_K D hq_cl (hq_tys cI cZ cL) s) (hP : va_P D hq_cl (hm_w q cI cZ cL f_classes a_parent f_objects a_kindOf a_size a_root a_slotKind a_slot a_kept f_count a_code a_number f_want f_compared f_open a_opened f_rowCount a_rowKind a_rowValue f_many a_list f_seen f_fail f_level a_from a_eAt a_whereAt a_source a_distinct a_keeps f_at f_self f_brackets f_values a_vKind a_v f_waiting a_waits ++ z) H) (hD : va_D A (hm_w q cI cZ cL f_classes a_parent f_objects a_kindOf a_size a_root a_slotKind a_slot a_kept f_count a_code a_number f_want f_compared f_open a_opened f_rowCount a_rowKind a_rowValue f_many a_list f_seen f_fail f_level a_from a_eAt a_whereAt a_source a_distinct a_keeps f_at f_self f_brackets f_values a_vKind a_v f_waiting a_waits ++ z)) (hS : va_S A H0 H locs) (h1 : Cond.methodLink own idx ym_along ∈ hq_tbl) (hR : 2 + 1 ≤ R.frames ∧ 8 + (7 + 11) + 46 ≤ R.locals) (hls : ls.size = nC) (hW : (rest.map fun v => v.category).sum ≤ 8) (hdg : decode cc pc = .ok (.invokevirtual idx, 3)) (hf : cells + 0 ≤ R.cells ∧ slots + 0 ≤ R.slots) (kk : ∀ (H1 : Heap) (locs1 : List Loc), va_P D hq_cl (hm_w q cI cZ cL f_classes a_parent f_objects a_kindOf a_size a_root a_slotKind a_slot a_kept f_count a_code a_number f_want f_compared f_open a_opened f_rowCount a_rowKind a_rowValue f_many a_list f_seen ur.1 f_level a_from a_eAt a_whereAt a_source a_distinct a_keeps f_at f_self f_brackets ur.2.1 ur.2.2.1 ur.2.2.2 f_waiting a_waits ++ z) H1 → va_D A (hm_w q cI cZ cL f_classes a_parent f_objects a_kindOf a_size a_root a_slotKind a_slot a_kept f_count a_code a_number f_want f_compared f_open a_opened f_rowCount a_rowKind a_rowValue f_many a_list f_seen ur.1 f_level a_from a_eAt a_whereAt a_source a_distinct a_keeps f_at f_self f_brackets ur.2.1 ur.2.2.1 ur.2.2.2 f_waiting a_waits ++ z) → va_S A H0 H1 locs1 → W p l e R s m args below meth c H1 locs1 cells slots Q (F0 m (pc + 3) ls (rest))) : W p l e R s m args below meth c H locs cells slots Q (F0 m pc ls (.int l2 :: .int l1 :: .ref (q 0) :: rest)) :=
  hq_callV (q0 := 0) hx hb hml hown hts hK hP hD hS (cm_along l1 l2 ur hu) rfl rfl h1 wi_429 wi_430 wi_338 wi_431 2 rfl (by decide +kernel) ⟨rfl, rfl⟩ hR hls rfl hW hdg hf kk
end
theorem dm_hold_0 : decode bm_hold 0 = .ok (.aload_n 0, 1) := by decide +kernel
theorem dm_hold_1 : decode bm_hold 1 = .ok (.getfield 74, 3) := by decide +kernel
theorem dm_hold_4 : decode bm_hold 4 = .ok (.aload_n 0, 1) := by decide +kernel
theorem dm_hold_5 : decode bm_hold 5 = .ok (.getfield 198, 3) := by decide +kernel
theorem dm_hold_8 : decode bm_hold 8 = .ok (.iload_n 1, 1) := by decide +kernel
theorem dm_hold_9 : decode bm_hold 9 = .ok (.iastore, 1) := by decide +kernel
theorem dm_hold_10 : decode bm_hold 10 = .ok (.aload_n 0, 1) := by decide +kernel
theorem dm_hold_11 : decode bm_hold 11 = .ok (.dup, 1) := by decide +kernel
theorem dm_hold_12 : decode bm_hold 12 = .ok (.getfield 198, 3) := by decide +kernel
theorem dm_hold_15 : decode bm_hold 15 = .ok (.iconst 1, 1) := by decide +kernel
theorem dm_hold_16 : decode bm_hold 16 = .ok (.iadd, 1) := by decide +kernel
theorem dm_hold_17 : decode bm_hold 17 = .ok (.putfield 198, 3) := by decide +kernel
theorem dm_hold_20 : decode bm_hold 20 = .ok (.return_, 1) := by decide +kernel
section
variable {l : Launch} {D : va_G} {A : Nat → Prop} {z w : va_W} {q : Nat → Nat} {cI cZ cL : ClassId}
variable {f_classes f_objects f_count f_want f_compared f_open f_rowCount f_many f_seen f_fail f_level f_at f_self f_brackets f_values f_waiting : Int32}
variable {a_parent a_kindOf a_size a_root a_slotKind a_slot a_kept a_code a_number a_opened a_rowKind a_rowValue a_list a_from a_eAt a_whereAt a_source a_distinct a_keeps a_vKind a_v a_waits : Nat → Int32}
set_option maxHeartbeats 4000000 in
set_option maxRecDepth 100000 in
theorem cm_hold (l1 : Int32) (ur : Int32 × (Nat → Int32)) (h : sm_hold l1 f_waiting a_waits = some ur) : hq_Ct l ym_hold bm_hold 2 none { frames := 0, cells := 0, slots := 0, locals := 0 } D (hq_tys cI cZ cL) A [.ref (q 0), .int l1] (hm_w q cI cZ cL f_classes a_parent f_objects a_kindOf a_size a_root a_slotKind a_slot a_kept f_count a_code a_number f_want f_compared f_open a_opened f_rowCount a_rowKind a_rowValue f_many a_list f_seen f_fail f_level a_from a_eAt a_whereAt a_source a_distinct a_keeps f_at f_self f_brackets f_values a_vKind a_v f_waiting a_waits ++ z) (hm_w q cI cZ cL f_classes a_parent f_objects a_kindOf a_size a_root a_slotKind a_slot a_kept f_count a_code a_number f_want f_compared f_open a_opened f_rowCount a_rowKind a_rowValue f_many a_list f_seen f_fail f_level a_from a_eAt a_whereAt a_source a_distinct a_keeps f_at f_self f_brackets f_values a_vKind a_v ur.1 ur.2 ++ z) none 0 0 := by
  refine hq_of (by decide) ?_ (Nat.le_of_ble_eq_true rfl)
  intro p e s m below meth c R args Q hRm hQ hx hb hr hml hts hown hlocks hnm hP hK hD ls hl hS
  have hl : lv_has ls 2 [(0, .ref (q 0)), (1, .int l1)] := hl
  have hown : s.vm.findClass "HeapQueriesModel" = some m.cls := hown
  unfold sm_hold at h
  refine lv_aload_n hx hb dm_hold_0 rfl (lv_at hl 0 rfl) ?_
  refine gm_0_waits hx hb hts hown hK hP wi_111 dm_hold_1 ?_
  refine lv_aload_n hx hb dm_hold_4 rfl (lv_at hl 0 rfl) ?_
  refine gm_0_waiting hx hb hts hown hK hP wi_110 dm_hold_5 ?_
  refine lv_iload_n hx hb dm_hold_8 rfl (lv_at hl 1 rfl) ?_
  obtain ⟨hin, h⟩ := hq_idx h
  refine tm_22 hx hb hK hP hD hS hin dm_hold_9 (fun H locs hP hD hS => ?_)
  refine lv_aload_n hx hb dm_hold_10 rfl (lv_at hl 0 rfl) ?_
  refine lv_dup hx hb dm_hold_11 rfl ?_
  refine gm_0_waiting hx hb hts hown hK hP wi_110 dm_hold_12 ?_
  refine lv_iconst (v := 1) hx hb dm_hold_15 (by decide) ?_
  refine lv_iadd hx hb dm_hold_16 ?_
  refine pm_0_waiting hx hb hts hown hK hP hD hS wi_110 dm_hold_17 (fun H locs hP hD hS => ?_)
  have h := Option.some.inj h
  exact hq_vret hx hb hr hlocks hQ hK hP hD hS rfl (by rw [← h]) dm_hold_20
end
section
variable {p : Program} {l : Launch} {e : Env} {R : Room} {s : State} {m : MethodId} {args : Array Value} {below : List Frame} {meth : Method} {c : Code} {H H0 : Heap} {locs : List Loc} {cells slots : Nat} {Q : State → Prop}
variable {cc : ByteArray} {pc idx nC : Nat} {ls : Array Slot} {rest : List Value} {D : va_G} {A : Nat → Prop} {own : String} {q : Nat → Nat} {cI cZ cL : ClassId} {z w : va_W}
variable {f_classes f_objects f_count f_want f_compared f_open f_rowCount f_many f_seen f_fail f_level f_at f_self f_brackets f_values f_waiting : Int32}
variable {a_parent a_kindOf a_size a_root a_slotKind a_slot a_kept a_code a_number a_opened a_rowKind a_rowValue a_list a_from a_eAt a_whereAt a_source a_distinct a_keeps a_vKind a_v a_waits : Nat → Int32}
theorem km_hold (l1 : Int32) (ur : Int32 × (Nat → Int32)) (hu : sm_hold l1 f_waiting a_waits = some ur) (hx : p.tables.exec = Jvm.exec) (hb : c.code = cc) (hml : c.maxLocals = nC) (hts : ∀ x ∈ hq_tbl, x.before args s = true) (hown : s.vm.findClass own = some m.cls) (hK : va_K D hq_cl (hq_tys cI cZ cL) s) (hP : va_P D hq_cl (hm_w q cI cZ cL f_classes a_parent f_objects a_kindOf a_size a_root a_slotKind a_slot a_kept f_count a_code a_number f_want f_compared f_open a_opened f_rowCount a_rowKind a_rowValue f_many a_list f_seen f_fail f_level a_from a_eAt a_whereAt a_source a_distinct a_keeps f_at f_self f_brackets f_values a_vKind a_v f_waiting a_waits ++ z) H) (hD : va_D A (hm_w q cI cZ cL f_classes a_parent f_objects a_kindOf a_size a_root a_slotKind a_slot a_kept f_count a_code a_number f_want f_compared f_open a_opened f_rowCount a_rowKind a_rowValue f_many a_list f_seen f_fail f_level a_from a_eAt a_whereAt a_source a_distinct a_keeps f_at f_self f_brackets f_values a_vKind a_v f_waiting a_waits ++ z)) (hS : va_S A H0 H locs) (h1 : Cond.methodLink own idx ym_hold ∈ hq_tbl) (hR : 0 + 1 ≤ R.frames ∧ 8 + (2 + 11) + 0 ≤ R.locals) (hls : ls.size = nC) (hW : (rest.map fun v => v.category).sum ≤ 8) (hdg : decode cc pc = .ok (.invokevirtual idx, 3)) (hf : cells + 0 ≤ R.cells ∧ slots + 0 ≤ R.slots) (kk : ∀ (H1 : Heap) (locs1 : List Loc), va_P D hq_cl (hm_w q cI cZ cL f_classes a_parent f_objects a_kindOf a_size a_root a_slotKind a_slot a_kept f_count a_code a_number f_want f_compared f_open a_opened f_rowCount a_rowKind a_rowValue f_many a_list f_seen f_fail f_level a_from a_eAt a_whereAt a_source a_distinct a_keeps f_at f_self f_brackets f_values a_vKind a_v ur.1 ur.2 ++ z) H1 → va_D A (hm_w q cI cZ cL f_classes a_parent f_objects a_kindOf a_size a_root a_slotKind a_slot a_kept f_count a_code a_number f_want f_compared f_open a_opened f_rowCount a_rowKind a_rowValue f_many a_list f_seen f_fail f_level a_from a_eAt a_whereAt a_source a_distinct a_keeps f_at f_self f_brackets f_values a_vKind a_v ur.1 ur.2 ++ z) → va_S A H0 H1 locs1 → W p l e R s m args below meth c H1 locs1 cells slots Q (F0 m (pc + 3) ls (rest))) : W p l e R s m args below meth c H locs cells slots Q (F0 m pc ls (.int l1 :: .ref (q 0) :: rest)) :=
  hq_callV (q0 := 0) hx hb hml hown hts hK hP hD hS (cm_hold l1 ur hu) rfl rfl h1 wi_432 wi_433 wi_338 wi_434 1 rfl (by decide +kernel) ⟨rfl, rfl⟩ hR hls rfl hW hdg hf kk
end
theorem dm_stops_0 : decode bm_stops 0 = .ok (.iload_n 0, 1) := by decide +kernel
theorem dm_stops_1 : decode bm_stops 1 = .ok (.iconst 3, 1) := by decide +kernel
theorem dm_stops_2 : decode bm_stops 2 = .ok (.if_icmp .eq 38, 3) := by decide +kernel
theorem dm_stops_5 : decode bm_stops 5 = .ok (.iload_n 0, 1) := by decide +kernel
theorem dm_stops_6 : decode bm_stops 6 = .ok (.iconst 5, 1) := by decide +kernel
theorem dm_stops_7 : decode bm_stops 7 = .ok (.if_icmp .eq 33, 3) := by decide +kernel
theorem dm_stops_10 : decode bm_stops 10 = .ok (.iload_n 0, 1) := by decide +kernel
theorem dm_stops_11 : decode bm_stops 11 = .ok (.bipush 7, 2) := by decide +kernel
theorem dm_stops_13 : decode bm_stops 13 = .ok (.if_icmp .eq 27, 3) := by decide +kernel
theorem dm_stops_16 : decode bm_stops 16 = .ok (.iload_n 0, 1) := by decide +kernel
theorem dm_stops_17 : decode bm_stops 17 = .ok (.bipush 24, 2) := by decide +kernel
theorem dm_stops_19 : decode bm_stops 19 = .ok (.if_icmp .eq 21, 3) := by decide +kernel
theorem dm_stops_22 : decode bm_stops 22 = .ok (.iload_n 0, 1) := by decide +kernel
theorem dm_stops_23 : decode bm_stops 23 = .ok (.bipush 15, 2) := by decide +kernel
theorem dm_stops_25 : decode bm_stops 25 = .ok (.if_icmp .eq 15, 3) := by decide +kernel
theorem dm_stops_28 : decode bm_stops 28 = .ok (.iload_n 0, 1) := by decide +kernel
theorem dm_stops_29 : decode bm_stops 29 = .ok (.bipush 16, 2) := by decide +kernel
theorem dm_stops_31 : decode bm_stops 31 = .ok (.if_icmp .ne 13, 3) := by decide +kernel
theorem dm_stops_34 : decode bm_stops 34 = .ok (.iload_n 1, 1) := by decide +kernel
theorem dm_stops_35 : decode bm_stops 35 = .ok (.bipush 16, 2) := by decide +kernel
theorem dm_stops_37 : decode bm_stops 37 = .ok (.if_icmp .ne 7, 3) := by decide +kernel
theorem dm_stops_40 : decode bm_stops 40 = .ok (.iconst 1, 1) := by decide +kernel
theorem dm_stops_41 : decode bm_stops 41 = .ok (.goto 4, 3) := by decide +kernel
theorem dm_stops_44 : decode bm_stops 44 = .ok (.iconst 0, 1) := by decide +kernel
theorem dm_stops_45 : decode bm_stops 45 = .ok (.ireturn, 1) := by decide +kernel
section
variable {l : Launch} {D : va_G} {A : Nat → Prop} {z w : va_W} {q : Nat → Nat} {cI cZ cL : ClassId}
set_option maxHeartbeats 4000000 in
set_option maxRecDepth 100000 in
theorem cm_stops (l0 : Int32) (l1 : Int32) (ur : Int32) (h : sm_stops l0 l1 = ur) : hq_Ct l ym_stops bm_stops 2 (some .boolean) { frames := 0, cells := 0, slots := 0, locals := 0 } D (hq_tys cI cZ cL) A [.int l0, .int l1] w w (some (.int ur)) 0 0 := by
  refine hq_of (by decide) ?_ (Nat.le_of_ble_eq_true rfl)
  intro p e s m below meth c R args Q hRm hQ hx hb hr hml hts hown hlocks hnm hP hK hD ls hl hS
  have hl : lv_has ls 2 [(0, .int l0), (1, .int l1)] := hl
  have hown : s.vm.findClass "HeapQueriesModel" = some m.cls := hown
  unfold sm_stops at h
  refine lv_iload_n hx hb dm_stops_0 rfl (lv_at hl 0 rfl) ?_
  refine lv_iconst (v := 3) hx hb dm_stops_1 (by decide) ?_
  refine lv_icmp_eq (tgt := 40) hx hb dm_stops_2 (by decide) (fun hc => ?_) (fun hc => ?_)
  · have h := (if_pos hc).symm.trans h
    refine lv_iconst (v := 1) hx hb dm_stops_40 (by decide) ?_
    refine lv_goto (tgt := 45) hx hb dm_stops_41 (by decide) ?_
    exact hq_zret hx hb hr hlocks hQ hK hP hD hS (by decide) (by rw [← h]) rfl dm_stops_45
  · have h := (if_neg hc).symm.trans h
    refine lv_iload_n hx hb dm_stops_5 rfl (lv_at hl 0 rfl) ?_
    refine lv_iconst (v := 5) hx hb dm_stops_6 (by decide) ?_
    refine lv_icmp_eq (tgt := 40) hx hb dm_stops_7 (by decide) (fun hc => ?_) (fun hc => ?_)
    · have h := (if_pos hc).symm.trans h
      refine lv_iconst (v := 1) hx hb dm_stops_40 (by decide) ?_
      refine lv_goto (tgt := 45) hx hb dm_stops_41 (by decide) ?_
      exact hq_zret hx hb hr hlocks hQ hK hP hD hS (by decide) (by rw [← h]) rfl dm_stops_45
    · have h := (if_neg hc).symm.trans h
      refine lv_iload_n hx hb dm_stops_10 rfl (lv_at hl 0 rfl) ?_
      refine lv_bipush (v := 7) hx hb dm_stops_11 (by decide) ?_
      refine lv_icmp_eq (tgt := 40) hx hb dm_stops_13 (by decide) (fun hc => ?_) (fun hc => ?_)
      · have h := (if_pos hc).symm.trans h
        refine lv_iconst (v := 1) hx hb dm_stops_40 (by decide) ?_
        refine lv_goto (tgt := 45) hx hb dm_stops_41 (by decide) ?_
        exact hq_zret hx hb hr hlocks hQ hK hP hD hS (by decide) (by rw [← h]) rfl dm_stops_45
      · have h := (if_neg hc).symm.trans h
        refine lv_iload_n hx hb dm_stops_16 rfl (lv_at hl 0 rfl) ?_
        refine lv_bipush (v := 24) hx hb dm_stops_17 (by decide) ?_
        refine lv_icmp_eq (tgt := 40) hx hb dm_stops_19 (by decide) (fun hc => ?_) (fun hc => ?_)
        · have h := (if_pos hc).symm.trans h
          refine lv_iconst (v := 1) hx hb dm_stops_40 (by decide) ?_
          refine lv_goto (tgt := 45) hx hb dm_stops_41 (by decide) ?_
          exact hq_zret hx hb hr hlocks hQ hK hP hD hS (by decide) (by rw [← h]) rfl dm_stops_45
        · have h := (if_neg hc).symm.trans h
          refine lv_iload_n hx hb dm_stops_22 rfl (lv_at hl 0 rfl) ?_
          refine lv_bipush (v := 15) hx hb dm_stops_23 (by decide) ?_
          refine lv_icmp_eq (tgt := 40) hx hb dm_stops_25 (by decide) (fun hc => ?_) (fun hc => ?_)
          · have h := (if_pos hc).symm.trans h
            refine lv_iconst (v := 1) hx hb dm_stops_40 (by decide) ?_
            refine lv_goto (tgt := 45) hx hb dm_stops_41 (by decide) ?_
            exact hq_zret hx hb hr hlocks hQ hK hP hD hS (by decide) (by rw [← h]) rfl dm_stops_45
          · have h := (if_neg hc).symm.trans h
            refine lv_iload_n hx hb dm_stops_28 rfl (lv_at hl 0 rfl) ?_
            refine lv_bipush (v := 16) hx hb dm_stops_29 (by decide) ?_
            refine lv_icmp_ne (tgt := 44) hx hb dm_stops_31 (by decide) (fun hc => ?_) (fun hc => ?_)
            · have h := (if_neg hc).symm.trans h
              refine lv_iconst (v := 0) hx hb dm_stops_44 (by decide) ?_
              exact hq_zret hx hb hr hlocks hQ hK hP hD hS (by decide) (by rw [← h]) rfl dm_stops_45
            · have h := (if_pos hc).symm.trans h
              refine lv_iload_n hx hb dm_stops_34 rfl (lv_at hl 1 rfl) ?_
              refine lv_bipush (v := 16) hx hb dm_stops_35 (by decide) ?_
              refine lv_icmp_ne (tgt := 44) hx hb dm_stops_37 (by decide) (fun hc => ?_) (fun hc => ?_)
              · have h := (if_neg hc).symm.trans h
                refine lv_iconst (v := 0) hx hb dm_stops_44 (by decide) ?_
                exact hq_zret hx hb hr hlocks hQ hK hP hD hS (by decide) (by rw [← h]) rfl dm_stops_45
              · have h := (if_pos hc).symm.trans h
                refine lv_iconst (v := 1) hx hb dm_stops_40 (by decide) ?_
                refine lv_goto (tgt := 45) hx hb dm_stops_41 (by decide) ?_
                exact hq_zret hx hb hr hlocks hQ hK hP hD hS (by decide) (by rw [← h]) rfl dm_stops_45
end
section
variable {p : Program} {l : Launch} {e : Env} {R : Room} {s : State} {m : MethodId} {args : Array Value} {below : List Frame} {meth : Method} {c : Code} {H H0 : Heap} {locs : List Loc} {cells slots : Nat} {Q : State → Prop}
variable {cc : ByteArray} {pc idx nC : Nat} {ls : Array Slot} {rest : List Value} {D : va_G} {A : Nat → Prop} {own : String} {q : Nat → Nat} {cI cZ cL : ClassId} {z w : va_W}
theorem km_stops (l0 : Int32) (l1 : Int32) (ur : Int32) (hu : sm_stops l0 l1 = ur) (hx : p.tables.exec = Jvm.exec) (hb : c.code = cc) (hml : c.maxLocals = nC) (hts : ∀ x ∈ hq_tbl, x.before args s = true) (hown : s.vm.findClass own = some m.cls) (hK : va_K D hq_cl (hq_tys cI cZ cL) s) (hP : va_P D hq_cl w H) (hD : va_D A w) (hS : va_S A H0 H locs) (h1 : Cond.methodLink own idx ym_stops ∈ hq_tbl) (hR : 0 + 1 ≤ R.frames ∧ 8 + (2 + 11) + 0 ≤ R.locals) (hls : ls.size = nC) (hW : (rest.map fun v => v.category).sum ≤ 8) (hdg : decode cc pc = .ok (.invokestatic idx, 3)) (hf : cells + 0 ≤ R.cells ∧ slots + 0 ≤ R.slots) (kk : ∀ (H1 : Heap) (locs1 : List Loc), va_P D hq_cl w H1 → va_D A w → va_S A H0 H1 locs1 → W p l e R s m args below meth c H1 locs1 cells slots Q (F0 m (pc + 3) ls (.int ur :: rest))) : W p l e R s m args below meth c H locs cells slots Q (F0 m pc ls (.int l1 :: .int l0 :: rest)) :=
  hq_callS hx hb hml hown hts hK hP hD hS (cm_stops l0 l1 ur hu) h1 wi_435 wi_338 wi_436 2 rfl (by decide +kernel) ⟨rfl, rfl⟩ hR hls rfl hW hdg hf kk
end
theorem dm_branch_0 : decode bm_branch 0 = .ok (.aload_n 0, 1) := by decide +kernel
theorem dm_branch_1 : decode bm_branch 1 = .ok (.iload_n 1, 1) := by decide +kernel
theorem dm_branch_2 : decode bm_branch 2 = .ok (.bipush 16, 2) := by decide +kernel
theorem dm_branch_4 : decode bm_branch 4 = .ok (.if_icmp .ne 7, 3) := by decide +kernel
theorem dm_branch_7 : decode bm_branch 7 = .ok (.iconst 2, 1) := by decide +kernel
theorem dm_branch_8 : decode bm_branch 8 = .ok (.goto 4, 3) := by decide +kernel
theorem dm_branch_11 : decode bm_branch 11 = .ok (.iconst 1, 1) := by decide +kernel
theorem dm_branch_12 : decode bm_branch 12 = .ok (.invokevirtual 204, 3) := by decide +kernel
theorem dm_branch_15 : decode bm_branch 15 = .ok (.aload_n 0, 1) := by decide +kernel
theorem dm_branch_16 : decode bm_branch 16 = .ok (.getfield 143, 3) := by decide +kernel
theorem dm_branch_19 : decode bm_branch 19 = .ok (.ifCond .eq 4, 3) := by decide +kernel
theorem dm_branch_22 : decode bm_branch 22 = .ok (.return_, 1) := by decide +kernel
theorem dm_branch_23 : decode bm_branch 23 = .ok (.aload_n 0, 1) := by decide +kernel
theorem dm_branch_24 : decode bm_branch 24 = .ok (.getfield 68, 3) := by decide +kernel
theorem dm_branch_27 : decode bm_branch 27 = .ok (.aload_n 0, 1) := by decide +kernel
theorem dm_branch_28 : decode bm_branch 28 = .ok (.getfield 195, 3) := by decide +kernel
theorem dm_branch_31 : decode bm_branch 31 = .ok (.iconst 1, 1) := by decide +kernel
theorem dm_branch_32 : decode bm_branch 32 = .ok (.isub, 1) := by decide +kernel
theorem dm_branch_33 : decode bm_branch 33 = .ok (.iaload, 1) := by decide +kernel
theorem dm_branch_34 : decode bm_branch 34 = .ok (.iconst 2, 1) := by decide +kernel
theorem dm_branch_35 : decode bm_branch 35 = .ok (.if_icmp .ne 10, 3) := by decide +kernel
theorem dm_branch_38 : decode bm_branch 38 = .ok (.aload_n 0, 1) := by decide +kernel
theorem dm_branch_39 : decode bm_branch 39 = .ok (.bipush (-3), 2) := by decide +kernel
theorem dm_branch_41 : decode bm_branch 41 = .ok (.putfield 143, 3) := by decide +kernel
theorem dm_branch_44 : decode bm_branch 44 = .ok (.return_, 1) := by decide +kernel
theorem dm_branch_45 : decode bm_branch 45 = .ok (.aload_n 0, 1) := by decide +kernel
theorem dm_branch_46 : decode bm_branch 46 = .ok (.getfield 71, 3) := by decide +kernel
theorem dm_branch_49 : decode bm_branch 49 = .ok (.aload_n 0, 1) := by decide +kernel
theorem dm_branch_50 : decode bm_branch 50 = .ok (.getfield 195, 3) := by decide +kernel
theorem dm_branch_53 : decode bm_branch 53 = .ok (.iconst 1, 1) := by decide +kernel
theorem dm_branch_54 : decode bm_branch 54 = .ok (.isub, 1) := by decide +kernel
theorem dm_branch_55 : decode bm_branch 55 = .ok (.iaload, 1) := by decide +kernel
theorem dm_branch_56 : decode bm_branch 56 = .ok (.ifCond .eq 7, 3) := by decide +kernel
theorem dm_branch_59 : decode bm_branch 59 = .ok (.iconst 1, 1) := by decide +kernel
theorem dm_branch_60 : decode bm_branch 60 = .ok (.goto 4, 3) := by decide +kernel
theorem dm_branch_63 : decode bm_branch 63 = .ok (.iconst 0, 1) := by decide +kernel
theorem dm_branch_64 : decode bm_branch 64 = .ok (.istore_n 2, 1) := by decide +kernel
theorem dm_branch_65 : decode bm_branch 65 = .ok (.iload_n 2, 1) := by decide +kernel
theorem dm_branch_66 : decode bm_branch 66 = .ok (.iload_n 1, 1) := by decide +kernel
theorem dm_branch_67 : decode bm_branch 67 = .ok (.bipush 16, 2) := by decide +kernel
theorem dm_branch_69 : decode bm_branch 69 = .ok (.if_icmp .ne 7, 3) := by decide +kernel
theorem dm_branch_72 : decode bm_branch 72 = .ok (.iconst 1, 1) := by decide +kernel
theorem dm_branch_73 : decode bm_branch 73 = .ok (.goto 4, 3) := by decide +kernel
theorem dm_branch_76 : decode bm_branch 76 = .ok (.iconst 0, 1) := by decide +kernel
theorem dm_branch_77 : decode bm_branch 77 = .ok (.if_icmp .ne 19, 3) := by decide +kernel
theorem dm_branch_80 : decode bm_branch 80 = .ok (.aload_n 0, 1) := by decide +kernel
theorem dm_branch_81 : decode bm_branch 81 = .ok (.dup, 1) := by decide +kernel
theorem dm_branch_82 : decode bm_branch 82 = .ok (.getfield 195, 3) := by decide +kernel
theorem dm_branch_85 : decode bm_branch 85 = .ok (.iconst 1, 1) := by decide +kernel
theorem dm_branch_86 : decode bm_branch 86 = .ok (.isub, 1) := by decide +kernel
theorem dm_branch_87 : decode bm_branch 87 = .ok (.putfield 195, 3) := by decide +kernel
theorem dm_branch_90 : decode bm_branch 90 = .ok (.aload_n 0, 1) := by decide +kernel
theorem dm_branch_91 : decode bm_branch 91 = .ok (.iload_n 1, 1) := by decide +kernel
theorem dm_branch_92 : decode bm_branch 92 = .ok (.invokevirtual 214, 3) := by decide +kernel
theorem dm_branch_95 : decode bm_branch 95 = .ok (.return_, 1) := by decide +kernel
theorem dm_branch_96 : decode bm_branch 96 = .ok (.aload_n 0, 1) := by decide +kernel
theorem dm_branch_97 : decode bm_branch 97 = .ok (.iconst 1, 1) := by decide +kernel
theorem dm_branch_98 : decode bm_branch 98 = .ok (.iload_n 2, 1) := by decide +kernel
theorem dm_branch_99 : decode bm_branch 99 = .ok (.ifCond .eq 7, 3) := by decide +kernel
theorem dm_branch_102 : decode bm_branch 102 = .ok (.iconst 1, 1) := by decide +kernel
theorem dm_branch_103 : decode bm_branch 103 = .ok (.goto 4, 3) := by decide +kernel
theorem dm_branch_106 : decode bm_branch 106 = .ok (.iconst 0, 1) := by decide +kernel
theorem dm_branch_107 : decode bm_branch 107 = .ok (.iconst 1, 1) := by decide +kernel
theorem dm_branch_108 : decode bm_branch 108 = .ok (.invokevirtual 207, 3) := by decide +kernel
theorem dm_branch_111 : decode bm_branch 111 = .ok (.iconst 0, 1) := by decide +kernel
theorem dm_branch_112 : decode bm_branch 112 = .ok (.istore_n 3, 1) := by decide +kernel
theorem dm_branch_113 : decode bm_branch 113 = .ok (.aload_n 0, 1) := by decide +kernel
theorem dm_branch_114 : decode bm_branch 114 = .ok (.getfield 186, 3) := by decide +kernel
theorem dm_branch_117 : decode bm_branch 117 = .ok (.aload_n 0, 1) := by decide +kernel
theorem dm_branch_118 : decode bm_branch 118 = .ok (.getfield 131, 3) := by decide +kernel
theorem dm_branch_121 : decode bm_branch 121 = .ok (.if_icmp .ge 78, 3) := by decide +kernel
theorem dm_branch_124 : decode bm_branch 124 = .ok (.iload_n 3, 1) := by decide +kernel
theorem dm_branch_125 : decode bm_branch 125 = .ok (.ifCond .gt 19, 3) := by decide +kernel
theorem dm_branch_128 : decode bm_branch 128 = .ok (.aload_n 0, 1) := by decide +kernel
theorem dm_branch_129 : decode bm_branch 129 = .ok (.getfield 32, 3) := by decide +kernel
theorem dm_branch_132 : decode bm_branch 132 = .ok (.aload_n 0, 1) := by decide +kernel
theorem dm_branch_133 : decode bm_branch 133 = .ok (.getfield 186, 3) := by decide +kernel
theorem dm_branch_136 : decode bm_branch 136 = .ok (.iaload, 1) := by decide +kernel
theorem dm_branch_137 : decode bm_branch 137 = .ok (.iload_n 1, 1) := by decide +kernel
theorem dm_branch_138 : decode bm_branch 138 = .ok (.invokestatic 229, 3) := by decide +kernel
theorem dm_branch_141 : decode bm_branch 141 = .ok (.ifCond .ne 58, 3) := by decide +kernel
theorem dm_branch_144 : decode bm_branch 144 = .ok (.aload_n 0, 1) := by decide +kernel
theorem dm_branch_145 : decode bm_branch 145 = .ok (.getfield 32, 3) := by decide +kernel
theorem dm_branch_148 : decode bm_branch 148 = .ok (.aload_n 0, 1) := by decide +kernel
theorem dm_branch_149 : decode bm_branch 149 = .ok (.getfield 186, 3) := by decide +kernel
theorem dm_branch_152 : decode bm_branch 152 = .ok (.iaload, 1) := by decide +kernel
theorem dm_branch_153 : decode bm_branch 153 = .ok (.bipush 6, 2) := by decide +kernel
theorem dm_branch_155 : decode bm_branch 155 = .ok (.if_icmp .ne 9, 3) := by decide +kernel
theorem dm_branch_158 : decode bm_branch 158 = .ok (.iload_n 3, 1) := by decide +kernel
theorem dm_branch_159 : decode bm_branch 159 = .ok (.iconst 1, 1) := by decide +kernel
theorem dm_branch_160 : decode bm_branch 160 = .ok (.iadd, 1) := by decide +kernel
theorem dm_branch_161 : decode bm_branch 161 = .ok (.goto 24, 3) := by decide +kernel
theorem dm_branch_164 : decode bm_branch 164 = .ok (.aload_n 0, 1) := by decide +kernel
theorem dm_branch_165 : decode bm_branch 165 = .ok (.getfield 32, 3) := by decide +kernel
theorem dm_branch_168 : decode bm_branch 168 = .ok (.aload_n 0, 1) := by decide +kernel
theorem dm_branch_169 : decode bm_branch 169 = .ok (.getfield 186, 3) := by decide +kernel
theorem dm_branch_172 : decode bm_branch 172 = .ok (.iaload, 1) := by decide +kernel
theorem dm_branch_173 : decode bm_branch 173 = .ok (.bipush 7, 2) := by decide +kernel
theorem dm_branch_175 : decode bm_branch 175 = .ok (.if_icmp .ne 9, 3) := by decide +kernel
theorem dm_branch_178 : decode bm_branch 178 = .ok (.iload_n 3, 1) := by decide +kernel
theorem dm_branch_179 : decode bm_branch 179 = .ok (.iconst 1, 1) := by decide +kernel
theorem dm_branch_180 : decode bm_branch 180 = .ok (.isub, 1) := by decide +kernel
theorem dm_branch_181 : decode bm_branch 181 = .ok (.goto 4, 3) := by decide +kernel
theorem dm_branch_184 : decode bm_branch 184 = .ok (.iload_n 3, 1) := by decide +kernel
theorem dm_branch_185 : decode bm_branch 185 = .ok (.istore_n 3, 1) := by decide +kernel
theorem dm_branch_186 : decode bm_branch 186 = .ok (.aload_n 0, 1) := by decide +kernel
theorem dm_branch_187 : decode bm_branch 187 = .ok (.dup, 1) := by decide +kernel
theorem dm_branch_188 : decode bm_branch 188 = .ok (.getfield 186, 3) := by decide +kernel
theorem dm_branch_191 : decode bm_branch 191 = .ok (.iconst 1, 1) := by decide +kernel
theorem dm_branch_192 : decode bm_branch 192 = .ok (.iadd, 1) := by decide +kernel
theorem dm_branch_193 : decode bm_branch 193 = .ok (.putfield 186, 3) := by decide +kernel
theorem dm_branch_196 : decode bm_branch 196 = .ok (.goto (-83), 3) := by decide +kernel
theorem dm_branch_199 : decode bm_branch 199 = .ok (.return_, 1) := by decide +kernel
section
variable {l : Launch} {D : va_G} {A : Nat → Prop} {z w : va_W} {q : Nat → Nat} {cI cZ cL : ClassId}
variable {f_classes f_objects f_count f_want f_compared f_open f_rowCount f_many f_seen f_fail f_level f_at f_self f_brackets f_values f_waiting : Int32}
variable {a_parent a_kindOf a_size a_root a_slotKind a_slot a_kept a_code a_number a_opened a_rowKind a_rowValue a_list a_from a_eAt a_whereAt a_source a_distinct a_keeps a_vKind a_v a_waits : Nat → Int32}
set_option maxHeartbeats 4000000 in
set_option maxRecDepth 100000 in
theorem cm_branch (l1 : Int32) (ur : Int32 × Int32 × Int32 × (Nat → Int32) × (Nat → Int32) × Int32 × (Nat → Int32)) (h : sm_branch l1 f_count a_code f_fail f_at f_values a_vKind a_v f_waiting a_waits = some ur) : hq_Ct l ym_branch bm_branch 4 none { frames := 3, cells := 0, slots := 0, locals := 71 } D (hq_tys cI cZ cL) A [.ref (q 0), .int l1] (hm_w q cI cZ cL f_classes a_parent f_objects a_kindOf a_size a_root a_slotKind a_slot a_kept f_count a_code a_number f_want f_compared f_open a_opened f_rowCount a_rowKind a_rowValue f_many a_list f_seen f_fail f_level a_from a_eAt a_whereAt a_source a_distinct a_keeps f_at f_self f_brackets f_values a_vKind a_v f_waiting a_waits ++ z) (hm_w q cI cZ cL f_classes a_parent f_objects a_kindOf a_size a_root a_slotKind a_slot a_kept f_count a_code a_number f_want f_compared f_open a_opened f_rowCount a_rowKind a_rowValue f_many a_list f_seen ur.1 f_level a_from a_eAt a_whereAt a_source a_distinct a_keeps ur.2.1 f_self f_brackets ur.2.2.1 ur.2.2.2.1 ur.2.2.2.2.1 ur.2.2.2.2.2.1 ur.2.2.2.2.2.2 ++ z) none 0 0 := by
  refine hq_of (by decide) ?_ (Nat.le_of_ble_eq_true rfl)
  intro p e s m below meth c R args Q hRm hQ hx hb hr hml hts hown hlocks hnm hP hK hD ls hl hS
  have hl : lv_has ls 4 [(0, .ref (q 0)), (1, .int l1)] := hl
  have hown : s.vm.findClass "HeapQueriesModel" = some m.cls := hown
  unfold sm_branch at h
  have L113 : ∀ (n : Nat) (l1 : Int32) (l3 : Int32) {f_fail : Int32} {f_at : Int32} {f_values : Int32} {a_vKind : Nat → Int32} {a_v : Nat → Int32} {f_waiting : Int32} {a_waits : Nat → Int32} {ls : Array Slot} {H : Heap} {locs : List Loc}, lv_has ls 4 [(0, .ref (q 0)), (1, .int l1), (3, .int l3)] → va_P D hq_cl (hm_w q cI cZ cL f_classes a_parent f_objects a_kindOf a_size a_root a_slotKind a_slot a_kept f_count a_code a_number f_want f_compared f_open a_opened f_rowCount a_rowKind a_rowValue f_many a_list f_seen f_fail f_level a_from a_eAt a_whereAt a_source a_distinct a_keeps f_at f_self f_brackets f_values a_vKind a_v f_waiting a_waits ++ z) H → va_D A (hm_w q cI cZ cL f_classes a_parent f_objects a_kindOf a_size a_root a_slotKind a_slot a_kept f_count a_code a_number f_want f_compared f_open a_opened f_rowCount a_rowKind a_rowValue f_many a_list f_seen f_fail f_level a_from a_eAt a_whereAt a_source a_distinct a_keeps f_at f_self f_brackets f_values a_vKind a_v f_waiting a_waits ++ z) → va_S A s.heap H locs → ∀ u113, sm_branch_L113 n l1 l3 f_count a_code f_at = some u113 → (∀ (ls : Array Slot) (H : Heap) (locs : List Loc), lv_has ls 4 [] → va_P D hq_cl (hm_w q cI cZ cL f_classes a_parent f_objects a_kindOf a_size a_root a_slotKind a_slot a_kept f_count a_code a_number f_want f_compared f_open a_opened f_rowCount a_rowKind a_rowValue f_many a_list f_seen f_fail f_level a_from a_eAt a_whereAt a_source a_distinct a_keeps u113 f_self f_brackets f_values a_vKind a_v f_waiting a_waits ++ z) H → va_D A (hm_w q cI cZ cL f_classes a_parent f_objects a_kindOf a_size a_root a_slotKind a_slot a_kept f_count a_code a_number f_want f_compared f_open a_opened f_rowCount a_rowKind a_rowValue f_many a_list f_seen f_fail f_level a_from a_eAt a_whereAt a_source a_distinct a_keeps u113 f_self f_brackets f_values a_vKind a_v f_waiting a_waits ++ z) → va_S A s.heap H locs → W p l e R s m args below meth c H locs 0 0 Q (F0 m 199 ls [])) → W p l e R s m args below meth c H locs 0 0 Q (F0 m 113 ls []) := by
    intro n
    induction n with
    | zero =>
      intro l1 l3 f_fail f_at f_values a_vKind a_v f_waiting a_waits ls H locs hl hP hD hS u113 h kx
      have h : (none : Option (Int32)) = some u113 := h
      cases h
    | succ n ih =>
      intro l1 l3 f_fail f_at f_values a_vKind a_v f_waiting a_waits ls H locs hl hP hD hS u113 h kx
      have h : sm_branch_L113_B (sm_branch_L113 n) l1 l3 f_count a_code f_at = some u113 := h
      unfold sm_branch_L113_B at h
      have J185 : ∀ (s0 : Int32) {f_at : Int32} {ls : Array Slot} {H : Heap} {locs : List Loc}, lv_has ls 4 [(0, .ref (q 0)), (1, .int l1)] → va_P D hq_cl (hm_w q cI cZ cL f_classes a_parent f_objects a_kindOf a_size a_root a_slotKind a_slot a_kept f_count a_code a_number f_want f_compared f_open a_opened f_rowCount a_rowKind a_rowValue f_many a_list f_seen f_fail f_level a_from a_eAt a_whereAt a_source a_distinct a_keeps f_at f_self f_brackets f_values a_vKind a_v f_waiting a_waits ++ z) H → va_D A (hm_w q cI cZ cL f_classes a_parent f_objects a_kindOf a_size a_root a_slotKind a_slot a_kept f_count a_code a_number f_want f_compared f_open a_opened f_rowCount a_rowKind a_rowValue f_many a_list f_seen f_fail f_level a_from a_eAt a_whereAt a_source a_distinct a_keeps f_at f_self f_brackets f_values a_vKind a_v f_waiting a_waits ++ z) → va_S A s.heap H locs → sm_branch_J185 (sm_branch_L113 n) l1 s0 f_count a_code f_at = some u113 → W p l e R s m args below meth c H locs 0 0 Q (F0 m 185 ls [.int s0]) := by
        intro s0 f_at ls H locs hl hP hD hS h
        unfold sm_branch_J185 at h
        refine lv_istore_n (lv' := [(3, .int s0), (0, .ref (q 0)), (1, .int l1)]) hx hb dm_branch_185 rfl hl (by decide) rfl (fun ls hl => ?_)
        refine lv_aload_n hx hb dm_branch_186 rfl (lv_at hl 1 rfl) ?_
        refine lv_dup hx hb dm_branch_187 rfl ?_
        refine gm_0_at hx hb hts hown hK hP wi_115 dm_branch_188 ?_
        refine lv_iconst (v := 1) hx hb dm_branch_191 (by decide) ?_
        refine lv_iadd hx hb dm_branch_192 ?_
        refine pm_0_at hx hb hts hown hK hP hD hS wi_115 dm_branch_193 (fun H locs hP hD hS => ?_)
        refine lv_goto (tgt := 113) hx hb dm_branch_196 (by decide) ?_
        exact ih l1 s0 (lv_sub hl [1, 2, 0] rfl) hP hD hS u113 h kx
      have J144 : ∀ (l3 : Int32) {f_at : Int32} {ls : Array Slot} {H : Heap} {locs : List Loc}, lv_has ls 4 [(0, .ref (q 0)), (1, .int l1), (3, .int l3)] → va_P D hq_cl (hm_w q cI cZ cL f_classes a_parent f_objects a_kindOf a_size a_root a_slotKind a_slot a_kept f_count a_code a_number f_want f_compared f_open a_opened f_rowCount a_rowKind a_rowValue f_many a_list f_seen f_fail f_level a_from a_eAt a_whereAt a_source a_distinct a_keeps f_at f_self f_brackets f_values a_vKind a_v f_waiting a_waits ++ z) H → va_D A (hm_w q cI cZ cL f_classes a_parent f_objects a_kindOf a_size a_root a_slotKind a_slot a_kept f_count a_code a_number f_want f_compared f_open a_opened f_rowCount a_rowKind a_rowValue f_many a_list f_seen f_fail f_level a_from a_eAt a_whereAt a_source a_distinct a_keeps f_at f_self f_brackets f_values a_vKind a_v f_waiting a_waits ++ z) → va_S A s.heap H locs → sm_branch_J144 (sm_branch_L113 n) l1 l3 f_count a_code f_at = some u113 → W p l e R s m args below meth c H locs 0 0 Q (F0 m 144 ls []) := by
        intro l3 f_at ls H locs hl hP hD hS h
        unfold sm_branch_J144 at h
        refine lv_aload_n hx hb dm_branch_144 rfl (lv_at hl 0 rfl) ?_
        refine gm_0_code hx hb hts hown hK hP wi_91 dm_branch_145 ?_
        refine lv_aload_n hx hb dm_branch_148 rfl (lv_at hl 0 rfl) ?_
        refine gm_0_at hx hb hts hown hK hP wi_115 dm_branch_149 ?_
        obtain ⟨hin, h⟩ := hq_idx h
        refine am_8 hx hb hK hP hin dm_branch_152 ?_
        refine lv_bipush (v := 6) hx hb dm_branch_153 (by decide) ?_
        refine lv_icmp_ne (tgt := 164) hx hb dm_branch_155 (by decide) (fun hc => ?_) (fun hc => ?_)
        · have h := (if_neg hc).symm.trans h
          refine lv_aload_n hx hb dm_branch_164 rfl (lv_at hl 0 rfl) ?_
          refine gm_0_code hx hb hts hown hK hP wi_91 dm_branch_165 ?_
          refine lv_aload_n hx hb dm_branch_168 rfl (lv_at hl 0 rfl) ?_
          refine gm_0_at hx hb hts hown hK hP wi_115 dm_branch_169 ?_
          obtain ⟨hin, h⟩ := hq_idx h
          refine am_8 hx hb hK hP hin dm_branch_172 ?_
          refine lv_bipush (v := 7) hx hb dm_branch_173 (by decide) ?_
          refine lv_icmp_ne (tgt := 184) hx hb dm_branch_175 (by decide) (fun hc => ?_) (fun hc => ?_)
          · have h := (if_neg hc).symm.trans h
            refine lv_iload_n hx hb dm_branch_184 rfl (lv_at hl 2 rfl) ?_
            exact J185 l3 (lv_sub hl [0, 1] rfl) hP hD hS h
          · have h := (if_pos hc).symm.trans h
            refine lv_iload_n hx hb dm_branch_178 rfl (lv_at hl 2 rfl) ?_
            refine lv_iconst (v := 1) hx hb dm_branch_179 (by decide) ?_
            refine lv_isub hx hb dm_branch_180 ?_
            refine lv_goto (tgt := 185) hx hb dm_branch_181 (by decide) ?_
            exact J185 (l3 - 1) (lv_sub hl [0, 1] rfl) hP hD hS h
        · have h := (if_pos hc).symm.trans h
          refine lv_iload_n hx hb dm_branch_158 rfl (lv_at hl 2 rfl) ?_
          refine lv_iconst (v := 1) hx hb dm_branch_159 (by decide) ?_
          refine lv_iadd hx hb dm_branch_160 ?_
          refine lv_goto (tgt := 185) hx hb dm_branch_161 (by decide) ?_
          exact J185 (l3 + 1) (lv_sub hl [0, 1] rfl) hP hD hS h
      refine lv_aload_n hx hb dm_branch_113 rfl (lv_at hl 0 rfl) ?_
      refine gm_0_at hx hb hts hown hK hP wi_115 dm_branch_114 ?_
      refine lv_aload_n hx hb dm_branch_117 rfl (lv_at hl 0 rfl) ?_
      refine gm_0_count hx hb hts hown hK hP wi_90 dm_branch_118 ?_
      refine lv_icmp_ge (tgt := 199) hx hb dm_branch_121 (by decide) (fun hc => ?_) (fun hc => ?_)
      · have h := (if_pos hc).symm.trans h
        have h := Option.some.inj h
        subst h
        exact kx ls H locs (lv_sub hl [] rfl) hP hD hS
      · have h := (if_neg hc).symm.trans h
        refine lv_iload_n hx hb dm_branch_124 rfl (lv_at hl 2 rfl) ?_
        refine lv_if_gt (tgt := 144) hx hb dm_branch_125 (by decide) (fun hc => ?_) (fun hc => ?_)
        · have h := (if_pos hc).symm.trans h
          exact J144 l3 hl hP hD hS h
        · have h := (if_neg hc).symm.trans h
          refine lv_aload_n hx hb dm_branch_128 rfl (lv_at hl 0 rfl) ?_
          refine gm_0_code hx hb hts hown hK hP wi_91 dm_branch_129 ?_
          refine lv_aload_n hx hb dm_branch_132 rfl (lv_at hl 0 rfl) ?_
          refine gm_0_at hx hb hts hown hK hP wi_115 dm_branch_133 ?_
          obtain ⟨hin, h⟩ := hq_idx h
          refine am_8 hx hb hK hP hin dm_branch_136 ?_
          refine lv_iload_n hx hb dm_branch_137 rfl (lv_at hl 1 rfl) ?_
          refine km_stops (a_code f_at.toNatClampNeg) l1 (sm_stops (a_code f_at.toNatClampNeg) l1) rfl hx hb hml hts hown hK hP hD hS wi_116 (by rw [hRm]; exact ⟨Nat.le_of_ble_eq_true rfl, Nat.le_of_ble_eq_true rfl⟩) hl.1 (Nat.le_of_ble_eq_true rfl) dm_branch_138 ⟨Nat.zero_le _, Nat.zero_le _⟩ (fun H locs hP hD hS => ?_)
          refine lv_if_ne (tgt := 199) hx hb dm_branch_141 (by decide) (fun hc => ?_) (fun hc => ?_)
          · have h := (if_neg hc).symm.trans h
            have h := Option.some.inj h
            subst h
            exact kx ls H locs (lv_sub hl [] rfl) hP hD hS
          · have h := (if_pos hc).symm.trans h
            exact J144 l3 hl hP hD hS h
  have J77 : ∀ (l1 : Int32) (l2 : Int32) (s0 : Int32) (s1 : Int32) {f_fail : Int32} {f_at : Int32} {f_values : Int32} {a_vKind : Nat → Int32} {a_v : Nat → Int32} {f_waiting : Int32} {a_waits : Nat → Int32} {ls : Array Slot} {H : Heap} {locs : List Loc}, lv_has ls 4 [(0, .ref (q 0)), (1, .int l1), (2, .int l2)] → va_P D hq_cl (hm_w q cI cZ cL f_classes a_parent f_objects a_kindOf a_size a_root a_slotKind a_slot a_kept f_count a_code a_number f_want f_compared f_open a_opened f_rowCount a_rowKind a_rowValue f_many a_list f_seen f_fail f_level a_from a_eAt a_whereAt a_source a_distinct a_keeps f_at f_self f_brackets f_values a_vKind a_v f_waiting a_waits ++ z) H → va_D A (hm_w q cI cZ cL f_classes a_parent f_objects a_kindOf a_size a_root a_slotKind a_slot a_kept f_count a_code a_number f_want f_compared f_open a_opened f_rowCount a_rowKind a_rowValue f_many a_list f_seen f_fail f_level a_from a_eAt a_whereAt a_source a_distinct a_keeps f_at f_self f_brackets f_values a_vKind a_v f_waiting a_waits ++ z) → va_S A s.heap H locs → sm_branch_J77 l1 l2 s0 s1 f_count a_code f_fail f_at f_values a_vKind a_v f_waiting a_waits = some ur → W p l e R s m args below meth c H locs 0 0 Q (F0 m 77 ls [.int s1, .int s0]) := by
    intro l1 l2 s0 s1 f_fail f_at f_values a_vKind a_v f_waiting a_waits ls H locs hl hP hD hS h
    unfold sm_branch_J77 at h
    refine lv_icmp_ne (tgt := 96) hx hb dm_branch_77 (by decide) (fun hc => ?_) (fun hc => ?_)
    · have h := (if_neg hc).symm.trans h
      refine lv_aload_n hx hb dm_branch_96 rfl (lv_at hl 0 rfl) ?_
      refine lv_iconst (v := 1) hx hb dm_branch_97 (by decide) ?_
      refine lv_iload_n hx hb dm_branch_98 rfl (lv_at hl 2 rfl) ?_
      refine lv_if_eq (tgt := 106) hx hb dm_branch_99 (by decide) (fun hc => ?_) (fun hc => ?_)
      · have h := (if_pos hc).symm.trans h
        refine lv_iconst (v := 0) hx hb dm_branch_106 (by decide) ?_
        refine lv_iconst (v := 1) hx hb dm_branch_107 (by decide) ?_
        obtain ⟨v108, h108, h⟩ := hq_bind h
        refine km_give 1 0 1 v108 h108 hx hb hml hts hown hK hP hD hS wi_108 (by rw [hRm]; exact ⟨Nat.le_of_ble_eq_true rfl, Nat.le_of_ble_eq_true rfl⟩) hl.1 (Nat.le_of_ble_eq_true rfl) dm_branch_108 ⟨Nat.zero_le _, Nat.zero_le _⟩ (fun H locs hP hD hS => ?_)
        refine lv_iconst (v := 0) hx hb dm_branch_111 (by decide) ?_
        refine lv_istore_n (lv' := [(3, .int 0), (0, .ref (q 0)), (1, .int l1), (2, .int l2)]) hx hb dm_branch_112 rfl hl (by decide) rfl (fun ls hl => ?_)
        obtain ⟨u113, h113, h⟩ := hq_bind h
        refine L113 kF l1 0 (lv_sub hl [1, 2, 0] rfl) hP hD hS u113 h113 (fun ls H locs hl hP hD hS => ?_)
        have h := Option.some.inj h
        exact hq_vret hx hb hr hlocks hQ hK hP hD hS rfl (by rw [← h]) dm_branch_199
      · have h := (if_neg hc).symm.trans h
        refine lv_iconst (v := 1) hx hb dm_branch_102 (by decide) ?_
        refine lv_goto (tgt := 107) hx hb dm_branch_103 (by decide) ?_
        refine lv_iconst (v := 1) hx hb dm_branch_107 (by decide) ?_
        obtain ⟨v108, h108, h⟩ := hq_bind h
        refine km_give 1 1 1 v108 h108 hx hb hml hts hown hK hP hD hS wi_108 (by rw [hRm]; exact ⟨Nat.le_of_ble_eq_true rfl, Nat.le_of_ble_eq_true rfl⟩) hl.1 (Nat.le_of_ble_eq_true rfl) dm_branch_108 ⟨Nat.zero_le _, Nat.zero_le _⟩ (fun H locs hP hD hS => ?_)
        refine lv_iconst (v := 0) hx hb dm_branch_111 (by decide) ?_
        refine lv_istore_n (lv' := [(3, .int 0), (0, .ref (q 0)), (1, .int l1), (2, .int l2)]) hx hb dm_branch_112 rfl hl (by decide) rfl (fun ls hl => ?_)
        obtain ⟨u113, h113, h⟩ := hq_bind h
        refine L113 kF l1 0 (lv_sub hl [1, 2, 0] rfl) hP hD hS u113 h113 (fun ls H locs hl hP hD hS => ?_)
        have h := Option.some.inj h
        exact hq_vret hx hb hr hlocks hQ hK hP hD hS rfl (by rw [← h]) dm_branch_199
    · have h := (if_pos hc).symm.trans h
      refine lv_aload_n hx hb dm_branch_80 rfl (lv_at hl 0 rfl) ?_
      refine lv_dup hx hb dm_branch_81 rfl ?_
      refine gm_0_values hx hb hts hown hK hP wi_105 dm_branch_82 ?_
      refine lv_iconst (v := 1) hx hb dm_branch_85 (by decide) ?_
      refine lv_isub hx hb dm_branch_86 ?_
      refine pm_0_values hx hb hts hown hK hP hD hS wi_105 dm_branch_87 (fun H locs hP hD hS => ?_)
      refine lv_aload_n hx hb dm_branch_90 rfl (lv_at hl 0 rfl) ?_
      refine lv_iload_n hx hb dm_branch_91 rfl (lv_at hl 1 rfl) ?_
      obtain ⟨v92, h92, h⟩ := hq_bind h
      refine km_hold l1 v92 h92 hx hb hml hts hown hK hP hD hS wi_117 (by rw [hRm]; exact ⟨Nat.le_of_ble_eq_true rfl, Nat.le_of_ble_eq_true rfl⟩) hl.1 (Nat.le_of_ble_eq_true rfl) dm_branch_92 ⟨Nat.zero_le _, Nat.zero_le _⟩ (fun H locs hP hD hS => ?_)
      have h := Option.some.inj h
      exact hq_vret hx hb hr hlocks hQ hK hP hD hS rfl (by rw [← h]) dm_branch_95
  have J64 : ∀ (l1 : Int32) (s0 : Int32) {f_fail : Int32} {f_at : Int32} {f_values : Int32} {a_vKind : Nat → Int32} {a_v : Nat → Int32} {f_waiting : Int32} {a_waits : Nat → Int32} {ls : Array Slot} {H : Heap} {locs : List Loc}, lv_has ls 4 [(0, .ref (q 0)), (1, .int l1)] → va_P D hq_cl (hm_w q cI cZ cL f_classes a_parent f_objects a_kindOf a_size a_root a_slotKind a_slot a_kept f_count a_code a_number f_want f_compared f_open a_opened f_rowCount a_rowKind a_rowValue f_many a_list f_seen f_fail f_level a_from a_eAt a_whereAt a_source a_distinct a_keeps f_at f_self f_brackets f_values a_vKind a_v f_waiting a_waits ++ z) H → va_D A (hm_w q cI cZ cL f_classes a_parent f_objects a_kindOf a_size a_root a_slotKind a_slot a_kept f_count a_code a_number f_want f_compared f_open a_opened f_rowCount a_rowKind a_rowValue f_many a_list f_seen f_fail f_level a_from a_eAt a_whereAt a_source a_distinct a_keeps f_at f_self f_brackets f_values a_vKind a_v f_waiting a_waits ++ z) → va_S A s.heap H locs → sm_branch_J64 l1 s0 f_count a_code f_fail f_at f_values a_vKind a_v f_waiting a_waits = some ur → W p l e R s m args below meth c H locs 0 0 Q (F0 m 64 ls [.int s0]) := by
    intro l1 s0 f_fail f_at f_values a_vKind a_v f_waiting a_waits ls H locs hl hP hD hS h
    unfold sm_branch_J64 at h
    refine lv_istore_n (lv' := [(2, .int s0), (0, .ref (q 0)), (1, .int l1)]) hx hb dm_branch_64 rfl hl (by decide) rfl (fun ls hl => ?_)
    refine lv_iload_n hx hb dm_branch_65 rfl (lv_at hl 0 rfl) ?_
    refine lv_iload_n hx hb dm_branch_66 rfl (lv_at hl 2 rfl) ?_
    refine lv_bipush (v := 16) hx hb dm_branch_67 (by decide) ?_
    refine lv_icmp_ne (tgt := 76) hx hb dm_branch_69 (by decide) (fun hc => ?_) (fun hc => ?_)
    · have h := (if_neg hc).symm.trans h
      refine lv_iconst (v := 0) hx hb dm_branch_76 (by decide) ?_
      exact J77 l1 s0 s0 0 (lv_sub hl [1, 2, 0] rfl) hP hD hS h
    · have h := (if_pos hc).symm.trans h
      refine lv_iconst (v := 1) hx hb dm_branch_72 (by decide) ?_
      refine lv_goto (tgt := 77) hx hb dm_branch_73 (by decide) ?_
      exact J77 l1 s0 s0 1 (lv_sub hl [1, 2, 0] rfl) hP hD hS h
  have J12 : ∀ (l1 : Int32) (s1 : Int32) {f_fail : Int32} {f_at : Int32} {f_values : Int32} {a_vKind : Nat → Int32} {a_v : Nat → Int32} {f_waiting : Int32} {a_waits : Nat → Int32} {ls : Array Slot} {H : Heap} {locs : List Loc}, lv_has ls 4 [(0, .ref (q 0)), (1, .int l1)] → va_P D hq_cl (hm_w q cI cZ cL f_classes a_parent f_objects a_kindOf a_size a_root a_slotKind a_slot a_kept f_count a_code a_number f_want f_compared f_open a_opened f_rowCount a_rowKind a_rowValue f_many a_list f_seen f_fail f_level a_from a_eAt a_whereAt a_source a_distinct a_keeps f_at f_self f_brackets f_values a_vKind a_v f_waiting a_waits ++ z) H → va_D A (hm_w q cI cZ cL f_classes a_parent f_objects a_kindOf a_size a_root a_slotKind a_slot a_kept f_count a_code a_number f_want f_compared f_open a_opened f_rowCount a_rowKind a_rowValue f_many a_list f_seen f_fail f_level a_from a_eAt a_whereAt a_source a_distinct a_keeps f_at f_self f_brackets f_values a_vKind a_v f_waiting a_waits ++ z) → va_S A s.heap H locs → sm_branch_J12 l1 s1 f_count a_code f_fail f_at f_values a_vKind a_v f_waiting a_waits = some ur → W p l e R s m args below meth c H locs 0 0 Q (F0 m 12 ls [.int s1, .ref (q 0)]) := by
    intro l1 s1 f_fail f_at f_values a_vKind a_v f_waiting a_waits ls H locs hl hP hD hS h
    unfold sm_branch_J12 at h
    obtain ⟨v12, h12, h⟩ := hq_bind h
    refine km_apply s1 v12 h12 hx hb hml hts hown hK hP hD hS wi_118 (by rw [hRm]; exact ⟨Nat.le_of_ble_eq_true rfl, Nat.le_of_ble_eq_true rfl⟩) hl.1 (Nat.le_of_ble_eq_true rfl) dm_branch_12 ⟨Nat.zero_le _, Nat.zero_le _⟩ (fun H locs hP hD hS => ?_)
    refine lv_aload_n hx hb dm_branch_15 rfl (lv_at hl 0 rfl) ?_
    refine gm_0_fail hx hb hts hown hK hP wi_109 dm_branch_16 ?_
    refine lv_if_eq (tgt := 23) hx hb dm_branch_19 (by decide) (fun hc => ?_) (fun hc => ?_)
    · have h := (if_pos hc).symm.trans h
      refine lv_aload_n hx hb dm_branch_23 rfl (lv_at hl 0 rfl) ?_
      refine gm_0_vKind hx hb hts hown hK hP wi_106 dm_branch_24 ?_
      refine lv_aload_n hx hb dm_branch_27 rfl (lv_at hl 0 rfl) ?_
      refine gm_0_values hx hb hts hown hK hP wi_105 dm_branch_28 ?_
      refine lv_iconst (v := 1) hx hb dm_branch_31 (by decide) ?_
      refine lv_isub hx hb dm_branch_32 ?_
      obtain ⟨hin, h⟩ := hq_idx h
      refine am_20 hx hb hK hP hin dm_branch_33 ?_
      refine lv_iconst (v := 2) hx hb dm_branch_34 (by decide) ?_
      refine lv_icmp_ne (tgt := 45) hx hb dm_branch_35 (by decide) (fun hc => ?_) (fun hc => ?_)
      · have h := (if_neg hc).symm.trans h
        refine lv_aload_n hx hb dm_branch_45 rfl (lv_at hl 0 rfl) ?_
        refine gm_0_v hx hb hts hown hK hP wi_107 dm_branch_46 ?_
        refine lv_aload_n hx hb dm_branch_49 rfl (lv_at hl 0 rfl) ?_
        refine gm_0_values hx hb hts hown hK hP wi_105 dm_branch_50 ?_
        refine lv_iconst (v := 1) hx hb dm_branch_53 (by decide) ?_
        refine lv_isub hx hb dm_branch_54 ?_
        obtain ⟨hin, h⟩ := hq_idx h
        refine am_21 hx hb hK hP hin dm_branch_55 ?_
        refine lv_if_eq (tgt := 63) hx hb dm_branch_56 (by decide) (fun hc => ?_) (fun hc => ?_)
        · have h := (if_pos hc).symm.trans h
          refine lv_iconst (v := 0) hx hb dm_branch_63 (by decide) ?_
          exact J64 l1 0 hl hP hD hS h
        · have h := (if_neg hc).symm.trans h
          refine lv_iconst (v := 1) hx hb dm_branch_59 (by decide) ?_
          refine lv_goto (tgt := 64) hx hb dm_branch_60 (by decide) ?_
          exact J64 l1 1 hl hP hD hS h
      · have h := (if_pos hc).symm.trans h
        refine lv_aload_n hx hb dm_branch_38 rfl (lv_at hl 0 rfl) ?_
        refine lv_bipush (v := (-3)) hx hb dm_branch_39 (by decide) ?_
        refine pm_0_fail hx hb hts hown hK hP hD hS wi_109 dm_branch_41 (fun H locs hP hD hS => ?_)
        have h := Option.some.inj h
        exact hq_vret hx hb hr hlocks hQ hK hP hD hS rfl (by rw [← h]) dm_branch_44
    · have h := (if_neg hc).symm.trans h
      have h := Option.some.inj h
      exact hq_vret hx hb hr hlocks hQ hK hP hD hS rfl (by rw [← h]) dm_branch_22
  refine lv_aload_n hx hb dm_branch_0 rfl (lv_at hl 0 rfl) ?_
  refine lv_iload_n hx hb dm_branch_1 rfl (lv_at hl 1 rfl) ?_
  refine lv_bipush (v := 16) hx hb dm_branch_2 (by decide) ?_
  refine lv_icmp_ne (tgt := 11) hx hb dm_branch_4 (by decide) (fun hc => ?_) (fun hc => ?_)
  · have h := (if_neg hc).symm.trans h
    refine lv_iconst (v := 1) hx hb dm_branch_11 (by decide) ?_
    exact J12 l1 1 hl hP hD hS h
  · have h := (if_pos hc).symm.trans h
    refine lv_iconst (v := 2) hx hb dm_branch_7 (by decide) ?_
    refine lv_goto (tgt := 12) hx hb dm_branch_8 (by decide) ?_
    exact J12 l1 2 hl hP hD hS h
end
section
variable {p : Program} {l : Launch} {e : Env} {R : Room} {s : State} {m : MethodId} {args : Array Value} {below : List Frame} {meth : Method} {c : Code} {H H0 : Heap} {locs : List Loc} {cells slots : Nat} {Q : State → Prop}
variable {cc : ByteArray} {pc idx nC : Nat} {ls : Array Slot} {rest : List Value} {D : va_G} {A : Nat → Prop} {own : String} {q : Nat → Nat} {cI cZ cL : ClassId} {z w : va_W}
variable {f_classes f_objects f_count f_want f_compared f_open f_rowCount f_many f_seen f_fail f_level f_at f_self f_brackets f_values f_waiting : Int32}
variable {a_parent a_kindOf a_size a_root a_slotKind a_slot a_kept a_code a_number a_opened a_rowKind a_rowValue a_list a_from a_eAt a_whereAt a_source a_distinct a_keeps a_vKind a_v a_waits : Nat → Int32}
theorem km_branch (l1 : Int32) (ur : Int32 × Int32 × Int32 × (Nat → Int32) × (Nat → Int32) × Int32 × (Nat → Int32)) (hu : sm_branch l1 f_count a_code f_fail f_at f_values a_vKind a_v f_waiting a_waits = some ur) (hx : p.tables.exec = Jvm.exec) (hb : c.code = cc) (hml : c.maxLocals = nC) (hts : ∀ x ∈ hq_tbl, x.before args s = true) (hown : s.vm.findClass own = some m.cls) (hK : va_K D hq_cl (hq_tys cI cZ cL) s) (hP : va_P D hq_cl (hm_w q cI cZ cL f_classes a_parent f_objects a_kindOf a_size a_root a_slotKind a_slot a_kept f_count a_code a_number f_want f_compared f_open a_opened f_rowCount a_rowKind a_rowValue f_many a_list f_seen f_fail f_level a_from a_eAt a_whereAt a_source a_distinct a_keeps f_at f_self f_brackets f_values a_vKind a_v f_waiting a_waits ++ z) H) (hD : va_D A (hm_w q cI cZ cL f_classes a_parent f_objects a_kindOf a_size a_root a_slotKind a_slot a_kept f_count a_code a_number f_want f_compared f_open a_opened f_rowCount a_rowKind a_rowValue f_many a_list f_seen f_fail f_level a_from a_eAt a_whereAt a_source a_distinct a_keeps f_at f_self f_brackets f_values a_vKind a_v f_waiting a_waits ++ z)) (hS : va_S A H0 H locs) (h1 : Cond.methodLink own idx ym_branch ∈ hq_tbl) (hR : 3 + 1 ≤ R.frames ∧ 8 + (4 + 11) + 71 ≤ R.locals) (hls : ls.size = nC) (hW : (rest.map fun v => v.category).sum ≤ 8) (hdg : decode cc pc = .ok (.invokevirtual idx, 3)) (hf : cells + 0 ≤ R.cells ∧ slots + 0 ≤ R.slots) (kk : ∀ (H1 : Heap) (locs1 : List Loc), va_P D hq_cl (hm_w q cI cZ cL f_classes a_parent f_objects a_kindOf a_size a_root a_slotKind a_slot a_kept f_count a_code a_number f_want f_compared f_open a_opened f_rowCount a_rowKind a_rowValue f_many a_list f_seen ur.1 f_level a_from a_eAt a_whereAt a_source a_distinct a_keeps ur.2.1 f_self f_brackets ur.2.2.1 ur.2.2.2.1 ur.2.2.2.2.1 ur.2.2.2.2.2.1 ur.2.2.2.2.2.2 ++ z) H1 → va_D A (hm_w q cI cZ cL f_classes a_parent f_objects a_kindOf a_size a_root a_slotKind a_slot a_kept f_count a_code a_number f_want f_compared f_open a_opened f_rowCount a_rowKind a_rowValue f_many a_list f_seen ur.1 f_level a_from a_eAt a_whereAt a_source a_distinct a_keeps ur.2.1 f_self f_brackets ur.2.2.1 ur.2.2.2.1 ur.2.2.2.2.1 ur.2.2.2.2.2.1 ur.2.2.2.2.2.2 ++ z) → va_S A H0 H1 locs1 → W p l e R s m args below meth c H1 locs1 cells slots Q (F0 m (pc + 3) ls (rest))) : W p l e R s m args below meth c H locs cells slots Q (F0 m pc ls (.int l1 :: .ref (q 0) :: rest)) :=
  hq_callV (q0 := 0) hx hb hml hown hts hK hP hD hS (cm_branch l1 ur hu) rfl rfl h1 wi_437 wi_438 wi_338 wi_439 1 rfl (by decide +kernel) ⟨rfl, rfl⟩ hR hls rfl hW hdg hf kk
end
theorem dm_take_0 : decode bm_take 0 = .ok (.iload_n 1, 1) := by decide +kernel
theorem dm_take_1 : decode bm_take 1 = .ok (.iconst 3, 1) := by decide +kernel
theorem dm_take_2 : decode bm_take 2 = .ok (.if_icmp .eq 27, 3) := by decide +kernel
theorem dm_take_5 : decode bm_take 5 = .ok (.iload_n 1, 1) := by decide +kernel
theorem dm_take_6 : decode bm_take 6 = .ok (.iconst 5, 1) := by decide +kernel
theorem dm_take_7 : decode bm_take 7 = .ok (.if_icmp .eq 22, 3) := by decide +kernel
theorem dm_take_10 : decode bm_take 10 = .ok (.iload_n 1, 1) := by decide +kernel
theorem dm_take_11 : decode bm_take 11 = .ok (.bipush 24, 2) := by decide +kernel
theorem dm_take_13 : decode bm_take 13 = .ok (.if_icmp .eq 16, 3) := by decide +kernel
theorem dm_take_16 : decode bm_take 16 = .ok (.iload_n 1, 1) := by decide +kernel
theorem dm_take_17 : decode bm_take 17 = .ok (.bipush 7, 2) := by decide +kernel
theorem dm_take_19 : decode bm_take 19 = .ok (.if_icmp .ne 17, 3) := by decide +kernel
theorem dm_take_22 : decode bm_take 22 = .ok (.aload_n 0, 1) := by decide +kernel
theorem dm_take_23 : decode bm_take 23 = .ok (.getfield 192, 3) := by decide +kernel
theorem dm_take_26 : decode bm_take 26 = .ok (.ifCond .ne 10, 3) := by decide +kernel
theorem dm_take_29 : decode bm_take 29 = .ok (.aload_n 0, 1) := by decide +kernel
theorem dm_take_30 : decode bm_take 30 = .ok (.iconst 0, 1) := by decide +kernel
theorem dm_take_31 : decode bm_take 31 = .ok (.invokevirtual 204, 3) := by decide +kernel
theorem dm_take_34 : decode bm_take 34 = .ok (.iconst 0, 1) := by decide +kernel
theorem dm_take_35 : decode bm_take 35 = .ok (.ireturn, 1) := by decide +kernel
theorem dm_take_36 : decode bm_take 36 = .ok (.iload_n 1, 1) := by decide +kernel
theorem dm_take_37 : decode bm_take 37 = .ok (.bipush 10, 2) := by decide +kernel
theorem dm_take_39 : decode bm_take 39 = .ok (.if_icmp .lt 52, 3) := by decide +kernel
theorem dm_take_42 : decode bm_take 42 = .ok (.iload_n 1, 1) := by decide +kernel
theorem dm_take_43 : decode bm_take 43 = .ok (.bipush 12, 2) := by decide +kernel
theorem dm_take_45 : decode bm_take 45 = .ok (.if_icmp .gt 46, 3) := by decide +kernel
theorem dm_take_48 : decode bm_take 48 = .ok (.aload_n 0, 1) := by decide +kernel
theorem dm_take_49 : decode bm_take 49 = .ok (.iload_n 1, 1) := by decide +kernel
theorem dm_take_50 : decode bm_take 50 = .ok (.bipush 10, 2) := by decide +kernel
theorem dm_take_52 : decode bm_take 52 = .ok (.if_icmp .ne 7, 3) := by decide +kernel
theorem dm_take_55 : decode bm_take 55 = .ok (.iconst 1, 1) := by decide +kernel
theorem dm_take_56 : decode bm_take 56 = .ok (.goto 14, 3) := by decide +kernel
theorem dm_take_59 : decode bm_take 59 = .ok (.iload_n 1, 1) := by decide +kernel
theorem dm_take_60 : decode bm_take 60 = .ok (.bipush 11, 2) := by decide +kernel
theorem dm_take_62 : decode bm_take 62 = .ok (.if_icmp .ne 7, 3) := by decide +kernel
theorem dm_take_65 : decode bm_take 65 = .ok (.iconst 0, 1) := by decide +kernel
theorem dm_take_66 : decode bm_take 66 = .ok (.goto 4, 3) := by decide +kernel
theorem dm_take_69 : decode bm_take 69 = .ok (.iconst 2, 1) := by decide +kernel
theorem dm_take_70 : decode bm_take 70 = .ok (.iload_n 1, 1) := by decide +kernel
theorem dm_take_71 : decode bm_take 71 = .ok (.bipush 10, 2) := by decide +kernel
theorem dm_take_73 : decode bm_take 73 = .ok (.if_icmp .ne 7, 3) := by decide +kernel
theorem dm_take_76 : decode bm_take 76 = .ok (.iload_n 2, 1) := by decide +kernel
theorem dm_take_77 : decode bm_take 77 = .ok (.goto 7, 3) := by decide +kernel
theorem dm_take_80 : decode bm_take 80 = .ok (.aload_n 0, 1) := by decide +kernel
theorem dm_take_81 : decode bm_take 81 = .ok (.getfield 189, 3) := by decide +kernel
theorem dm_take_84 : decode bm_take 84 = .ok (.iconst 0, 1) := by decide +kernel
theorem dm_take_85 : decode bm_take 85 = .ok (.invokevirtual 207, 3) := by decide +kernel
theorem dm_take_88 : decode bm_take 88 = .ok (.goto 129, 3) := by decide +kernel
theorem dm_take_91 : decode bm_take 91 = .ok (.iload_n 1, 1) := by decide +kernel
theorem dm_take_92 : decode bm_take 92 = .ok (.bipush 13, 2) := by decide +kernel
theorem dm_take_94 : decode bm_take 94 = .ok (.if_icmp .eq 9, 3) := by decide +kernel
theorem dm_take_97 : decode bm_take 97 = .ok (.iload_n 1, 1) := by decide +kernel
theorem dm_take_98 : decode bm_take 98 = .ok (.bipush 14, 2) := by decide +kernel
theorem dm_take_100 : decode bm_take 100 = .ok (.if_icmp .ne 12, 3) := by decide +kernel
theorem dm_take_103 : decode bm_take 103 = .ok (.aload_n 0, 1) := by decide +kernel
theorem dm_take_104 : decode bm_take 104 = .ok (.iload_n 1, 1) := by decide +kernel
theorem dm_take_105 : decode bm_take 105 = .ok (.iload_n 2, 1) := by decide +kernel
theorem dm_take_106 : decode bm_take 106 = .ok (.invokevirtual 211, 3) := by decide +kernel
theorem dm_take_109 : decode bm_take 109 = .ok (.goto 108, 3) := by decide +kernel
theorem dm_take_112 : decode bm_take 112 = .ok (.iload_n 1, 1) := by decide +kernel
theorem dm_take_113 : decode bm_take 113 = .ok (.bipush 6, 2) := by decide +kernel
theorem dm_take_115 : decode bm_take 115 = .ok (.if_icmp .ne 21, 3) := by decide +kernel
theorem dm_take_118 : decode bm_take 118 = .ok (.aload_n 0, 1) := by decide +kernel
theorem dm_take_119 : decode bm_take 119 = .ok (.dup, 1) := by decide +kernel
theorem dm_take_120 : decode bm_take 120 = .ok (.getfield 192, 3) := by decide +kernel
theorem dm_take_123 : decode bm_take 123 = .ok (.iconst 1, 1) := by decide +kernel
theorem dm_take_124 : decode bm_take 124 = .ok (.iadd, 1) := by decide +kernel
theorem dm_take_125 : decode bm_take 125 = .ok (.putfield 192, 3) := by decide +kernel
theorem dm_take_128 : decode bm_take 128 = .ok (.aload_n 0, 1) := by decide +kernel
theorem dm_take_129 : decode bm_take 129 = .ok (.iload_n 1, 1) := by decide +kernel
theorem dm_take_130 : decode bm_take 130 = .ok (.invokevirtual 214, 3) := by decide +kernel
theorem dm_take_133 : decode bm_take 133 = .ok (.goto 84, 3) := by decide +kernel
theorem dm_take_136 : decode bm_take 136 = .ok (.iload_n 1, 1) := by decide +kernel
theorem dm_take_137 : decode bm_take 137 = .ok (.bipush 7, 2) := by decide +kernel
theorem dm_take_139 : decode bm_take 139 = .ok (.if_icmp .ne 31, 3) := by decide +kernel
theorem dm_take_142 : decode bm_take 142 = .ok (.aload_n 0, 1) := by decide +kernel
theorem dm_take_143 : decode bm_take 143 = .ok (.iconst 0, 1) := by decide +kernel
theorem dm_take_144 : decode bm_take 144 = .ok (.invokevirtual 204, 3) := by decide +kernel
theorem dm_take_147 : decode bm_take 147 = .ok (.aload_n 0, 1) := by decide +kernel
theorem dm_take_148 : decode bm_take 148 = .ok (.dup, 1) := by decide +kernel
theorem dm_take_149 : decode bm_take 149 = .ok (.getfield 198, 3) := by decide +kernel
theorem dm_take_152 : decode bm_take 152 = .ok (.iconst 1, 1) := by decide +kernel
theorem dm_take_153 : decode bm_take 153 = .ok (.isub, 1) := by decide +kernel
theorem dm_take_154 : decode bm_take 154 = .ok (.putfield 198, 3) := by decide +kernel
theorem dm_take_157 : decode bm_take 157 = .ok (.aload_n 0, 1) := by decide +kernel
theorem dm_take_158 : decode bm_take 158 = .ok (.dup, 1) := by decide +kernel
theorem dm_take_159 : decode bm_take 159 = .ok (.getfield 192, 3) := by decide +kernel
theorem dm_take_162 : decode bm_take 162 = .ok (.iconst 1, 1) := by decide +kernel
theorem dm_take_163 : decode bm_take 163 = .ok (.isub, 1) := by decide +kernel
theorem dm_take_164 : decode bm_take 164 = .ok (.putfield 192, 3) := by decide +kernel
theorem dm_take_167 : decode bm_take 167 = .ok (.goto 50, 3) := by decide +kernel
theorem dm_take_170 : decode bm_take 170 = .ok (.iload_n 1, 1) := by decide +kernel
theorem dm_take_171 : decode bm_take 171 = .ok (.bipush 17, 2) := by decide +kernel
theorem dm_take_173 : decode bm_take 173 = .ok (.if_icmp .ne 11, 3) := by decide +kernel
theorem dm_take_176 : decode bm_take 176 = .ok (.aload_n 0, 1) := by decide +kernel
theorem dm_take_177 : decode bm_take 177 = .ok (.iload_n 1, 1) := by decide +kernel
theorem dm_take_178 : decode bm_take 178 = .ok (.invokevirtual 214, 3) := by decide +kernel
theorem dm_take_181 : decode bm_take 181 = .ok (.goto 36, 3) := by decide +kernel
theorem dm_take_184 : decode bm_take 184 = .ok (.iload_n 1, 1) := by decide +kernel
theorem dm_take_185 : decode bm_take 185 = .ok (.bipush 15, 2) := by decide +kernel
theorem dm_take_187 : decode bm_take 187 = .ok (.if_icmp .eq 9, 3) := by decide +kernel
theorem dm_take_190 : decode bm_take 190 = .ok (.iload_n 1, 1) := by decide +kernel
theorem dm_take_191 : decode bm_take 191 = .ok (.bipush 16, 2) := by decide +kernel
theorem dm_take_193 : decode bm_take 193 = .ok (.if_icmp .ne 11, 3) := by decide +kernel
theorem dm_take_196 : decode bm_take 196 = .ok (.aload_n 0, 1) := by decide +kernel
theorem dm_take_197 : decode bm_take 197 = .ok (.iload_n 1, 1) := by decide +kernel
theorem dm_take_198 : decode bm_take 198 = .ok (.invokevirtual 217, 3) := by decide +kernel
theorem dm_take_201 : decode bm_take 201 = .ok (.goto 16, 3) := by decide +kernel
theorem dm_take_204 : decode bm_take 204 = .ok (.aload_n 0, 1) := by decide +kernel
theorem dm_take_205 : decode bm_take 205 = .ok (.iload_n 1, 1) := by decide +kernel
theorem dm_take_206 : decode bm_take 206 = .ok (.invokestatic 220, 3) := by decide +kernel
theorem dm_take_209 : decode bm_take 209 = .ok (.invokevirtual 204, 3) := by decide +kernel
theorem dm_take_212 : decode bm_take 212 = .ok (.aload_n 0, 1) := by decide +kernel
theorem dm_take_213 : decode bm_take 213 = .ok (.iload_n 1, 1) := by decide +kernel
theorem dm_take_214 : decode bm_take 214 = .ok (.invokevirtual 214, 3) := by decide +kernel
theorem dm_take_217 : decode bm_take 217 = .ok (.iconst 1, 1) := by decide +kernel
theorem dm_take_218 : decode bm_take 218 = .ok (.ireturn, 1) := by decide +kernel
section
variable {l : Launch} {D : va_G} {A : Nat → Prop} {z w : va_W} {q : Nat → Nat} {cI cZ cL : ClassId}
variable {f_classes f_objects f_count f_want f_compared f_open f_rowCount f_many f_seen f_fail f_level f_at f_self f_brackets f_values f_waiting : Int32}
variable {a_parent a_kindOf a_size a_root a_slotKind a_slot a_kept a_code a_number a_opened a_rowKind a_rowValue a_list a_from a_eAt a_whereAt a_source a_distinct a_keeps a_vKind a_v a_waits : Nat → Int32}
set_option maxHeartbeats 4000000 in
set_option maxRecDepth 100000 in
theorem cm_take (l1 : Int32) (l2 : Int32) (ur : Int32 × Int32 × Int32 × Int32 × Int32 × (Nat → Int32) × (Nat → Int32) × Int32 × (Nat → Int32)) (h : sm_take l1 l2 f_objects a_kindOf a_size a_slotKind a_slot a_kept f_count a_code f_fail f_at f_self f_brackets f_values a_vKind a_v f_waiting a_waits = some ur) : hq_Ct l ym_take bm_take 3 (some .boolean) { frames := 4, cells := 0, slots := 0, locals := 94 } D (hq_tys cI cZ cL) A [.ref (q 0), .int l1, .int l2] (hm_w q cI cZ cL f_classes a_parent f_objects a_kindOf a_size a_root a_slotKind a_slot a_kept f_count a_code a_number f_want f_compared f_open a_opened f_rowCount a_rowKind a_rowValue f_many a_list f_seen f_fail f_level a_from a_eAt a_whereAt a_source a_distinct a_keeps f_at f_self f_brackets f_values a_vKind a_v f_waiting a_waits ++ z) (hm_w q cI cZ cL f_classes a_parent f_objects a_kindOf a_size a_root a_slotKind a_slot a_kept f_count a_code a_number f_want f_compared f_open a_opened f_rowCount a_rowKind a_rowValue f_many a_list f_seen ur.2.1 f_level a_from a_eAt a_whereAt a_source a_distinct a_keeps ur.2.2.1 f_self ur.2.2.2.1 ur.2.2.2.2.1 ur.2.2.2.2.2.1 ur.2.2.2.2.2.2.1 ur.2.2.2.2.2.2.2.1 ur.2.2.2.2.2.2.2.2 ++ z) (some (.int ur.1)) 0 0 := by
  refine hq_of (by decide) ?_ (Nat.le_of_ble_eq_true rfl)
  intro p e s m below meth c R args Q hRm hQ hx hb hr hml hts hown hlocks hnm hP hK hD ls hl hS
  have hl : lv_has ls 3 [(0, .ref (q 0)), (1, .int l1), (2, .int l2)] := hl
  have hown : s.vm.findClass "HeapQueriesModel" = some m.cls := hown
  unfold sm_take at h
  have J196 : ∀ (l1 : Int32) {f_fail : Int32} {f_at : Int32} {f_brackets : Int32} {f_values : Int32} {a_vKind : Nat → Int32} {a_v : Nat → Int32} {f_waiting : Int32} {a_waits : Nat → Int32} {ls : Array Slot} {H : Heap} {locs : List Loc}, lv_has ls 3 [(0, .ref (q 0)), (1, .int l1)] → va_P D hq_cl (hm_w q cI cZ cL f_classes a_parent f_objects a_kindOf a_size a_root a_slotKind a_slot a_kept f_count a_code a_number f_want f_compared f_open a_opened f_rowCount a_rowKind a_rowValue f_many a_list f_seen f_fail f_level a_from a_eAt a_whereAt a_source a_distinct a_keeps f_at f_self f_brackets f_values a_vKind a_v f_waiting a_waits ++ z) H → va_D A (hm_w q cI cZ cL f_classes a_parent f_objects a_kindOf a_size a_root a_slotKind a_slot a_kept f_count a_code a_number f_want f_compared f_open a_opened f_rowCount a_rowKind a_rowValue f_many a_list f_seen f_fail f_level a_from a_eAt a_whereAt a_source a_distinct a_keeps f_at f_self f_brackets f_values a_vKind a_v f_waiting a_waits ++ z) → va_S A s.heap H locs → sm_take_J196 l1 f_objects a_kindOf a_size a_slotKind a_slot a_kept f_count a_code f_fail f_at f_self f_brackets f_values a_vKind a_v f_waiting a_waits = some ur → W p l e R s m args below meth c H locs 0 0 Q (F0 m 196 ls []) := by
    intro l1 f_fail f_at f_brackets f_values a_vKind a_v f_waiting a_waits ls H locs hl hP hD hS h
    unfold sm_take_J196 at h
    refine lv_aload_n hx hb dm_take_196 rfl (lv_at hl 0 rfl) ?_
    refine lv_iload_n hx hb dm_take_197 rfl (lv_at hl 1 rfl) ?_
    obtain ⟨v198, h198, h⟩ := hq_bind h
    refine km_branch l1 v198 h198 hx hb hml hts hown hK hP hD hS wi_119 (by rw [hRm]; exact ⟨Nat.le_of_ble_eq_true rfl, Nat.le_of_ble_eq_true rfl⟩) hl.1 (Nat.le_of_ble_eq_true rfl) dm_take_198 ⟨Nat.zero_le _, Nat.zero_le _⟩ (fun H locs hP hD hS => ?_)
    refine lv_goto (tgt := 217) hx hb dm_take_201 (by decide) ?_
    refine lv_iconst (v := 1) hx hb dm_take_217 (by decide) ?_
    have h := Option.some.inj h
    exact hq_zret hx hb hr hlocks hQ hK hP hD hS (by decide) (by rw [← h]) (by rw [← h]) dm_take_218
  have J103 : ∀ (l1 : Int32) (l2 : Int32) {f_fail : Int32} {f_at : Int32} {f_brackets : Int32} {f_values : Int32} {a_vKind : Nat → Int32} {a_v : Nat → Int32} {f_waiting : Int32} {a_waits : Nat → Int32} {ls : Array Slot} {H : Heap} {locs : List Loc}, lv_has ls 3 [(0, .ref (q 0)), (1, .int l1), (2, .int l2)] → va_P D hq_cl (hm_w q cI cZ cL f_classes a_parent f_objects a_kindOf a_size a_root a_slotKind a_slot a_kept f_count a_code a_number f_want f_compared f_open a_opened f_rowCount a_rowKind a_rowValue f_many a_list f_seen f_fail f_level a_from a_eAt a_whereAt a_source a_distinct a_keeps f_at f_self f_brackets f_values a_vKind a_v f_waiting a_waits ++ z) H → va_D A (hm_w q cI cZ cL f_classes a_parent f_objects a_kindOf a_size a_root a_slotKind a_slot a_kept f_count a_code a_number f_want f_compared f_open a_opened f_rowCount a_rowKind a_rowValue f_many a_list f_seen f_fail f_level a_from a_eAt a_whereAt a_source a_distinct a_keeps f_at f_self f_brackets f_values a_vKind a_v f_waiting a_waits ++ z) → va_S A s.heap H locs → sm_take_J103 l1 l2 f_objects a_kindOf a_size a_slotKind a_slot a_kept f_count a_code f_fail f_at f_self f_brackets f_values a_vKind a_v f_waiting a_waits = some ur → W p l e R s m args below meth c H locs 0 0 Q (F0 m 103 ls []) := by
    intro l1 l2 f_fail f_at f_brackets f_values a_vKind a_v f_waiting a_waits ls H locs hl hP hD hS h
    unfold sm_take_J103 at h
    refine lv_aload_n hx hb dm_take_103 rfl (lv_at hl 0 rfl) ?_
    refine lv_iload_n hx hb dm_take_104 rfl (lv_at hl 1 rfl) ?_
    refine lv_iload_n hx hb dm_take_105 rfl (lv_at hl 2 rfl) ?_
    obtain ⟨v106, h106, h⟩ := hq_bind h
    refine km_along l1 l2 v106 h106 hx hb hml hts hown hK hP hD hS wi_120 (by rw [hRm]; exact ⟨Nat.le_of_ble_eq_true rfl, Nat.le_of_ble_eq_true rfl⟩) hl.1 (Nat.le_of_ble_eq_true rfl) dm_take_106 ⟨Nat.zero_le _, Nat.zero_le _⟩ (fun H locs hP hD hS => ?_)
    refine lv_goto (tgt := 217) hx hb dm_take_109 (by decide) ?_
    refine lv_iconst (v := 1) hx hb dm_take_217 (by decide) ?_
    have h := Option.some.inj h
    exact hq_zret hx hb hr hlocks hQ hK hP hD hS (by decide) (by rw [← h]) (by rw [← h]) dm_take_218
  have J91 : ∀ (l1 : Int32) (l2 : Int32) {f_fail : Int32} {f_at : Int32} {f_brackets : Int32} {f_values : Int32} {a_vKind : Nat → Int32} {a_v : Nat → Int32} {f_waiting : Int32} {a_waits : Nat → Int32} {ls : Array Slot} {H : Heap} {locs : List Loc}, lv_has ls 3 [(0, .ref (q 0)), (1, .int l1), (2, .int l2)] → va_P D hq_cl (hm_w q cI cZ cL f_classes a_parent f_objects a_kindOf a_size a_root a_slotKind a_slot a_kept f_count a_code a_number f_want f_compared f_open a_opened f_rowCount a_rowKind a_rowValue f_many a_list f_seen f_fail f_level a_from a_eAt a_whereAt a_source a_distinct a_keeps f_at f_self f_brackets f_values a_vKind a_v f_waiting a_waits ++ z) H → va_D A (hm_w q cI cZ cL f_classes a_parent f_objects a_kindOf a_size a_root a_slotKind a_slot a_kept f_count a_code a_number f_want f_compared f_open a_opened f_rowCount a_rowKind a_rowValue f_many a_list f_seen f_fail f_level a_from a_eAt a_whereAt a_source a_distinct a_keeps f_at f_self f_brackets f_values a_vKind a_v f_waiting a_waits ++ z) → va_S A s.heap H locs → sm_take_J91 l1 l2 f_objects a_kindOf a_size a_slotKind a_slot a_kept f_count a_code f_fail f_at f_self f_brackets f_values a_vKind a_v f_waiting a_waits = some ur → W p l e R s m args below meth c H locs 0 0 Q (F0 m 91 ls []) := by
    intro l1 l2 f_fail f_at f_brackets f_values a_vKind a_v f_waiting a_waits ls H locs hl hP hD hS h
    unfold sm_take_J91 at h
    refine lv_iload_n hx hb dm_take_91 rfl (lv_at hl 1 rfl) ?_
    refine lv_bipush (v := 13) hx hb dm_take_92 (by decide) ?_
    refine lv_icmp_eq (tgt := 103) hx hb dm_take_94 (by decide) (fun hc => ?_) (fun hc => ?_)
    · have h := (if_pos hc).symm.trans h
      exact J103 l1 l2 hl hP hD hS h
    · have h := (if_neg hc).symm.trans h
      refine lv_iload_n hx hb dm_take_97 rfl (lv_at hl 1 rfl) ?_
      refine lv_bipush (v := 14) hx hb dm_take_98 (by decide) ?_
      refine lv_icmp_ne (tgt := 112) hx hb dm_take_100 (by decide) (fun hc => ?_) (fun hc => ?_)
      · have h := (if_neg hc).symm.trans h
        refine lv_iload_n hx hb dm_take_112 rfl (lv_at hl 1 rfl) ?_
        refine lv_bipush (v := 6) hx hb dm_take_113 (by decide) ?_
        refine lv_icmp_ne (tgt := 136) hx hb dm_take_115 (by decide) (fun hc => ?_) (fun hc => ?_)
        · have h := (if_neg hc).symm.trans h
          refine lv_iload_n hx hb dm_take_136 rfl (lv_at hl 1 rfl) ?_
          refine lv_bipush (v := 7) hx hb dm_take_137 (by decide) ?_
          refine lv_icmp_ne (tgt := 170) hx hb dm_take_139 (by decide) (fun hc => ?_) (fun hc => ?_)
          · have h := (if_neg hc).symm.trans h
            refine lv_iload_n hx hb dm_take_170 rfl (lv_at hl 1 rfl) ?_
            refine lv_bipush (v := 17) hx hb dm_take_171 (by decide) ?_
            refine lv_icmp_ne (tgt := 184) hx hb dm_take_173 (by decide) (fun hc => ?_) (fun hc => ?_)
            · have h := (if_neg hc).symm.trans h
              refine lv_iload_n hx hb dm_take_184 rfl (lv_at hl 1 rfl) ?_
              refine lv_bipush (v := 15) hx hb dm_take_185 (by decide) ?_
              refine lv_icmp_eq (tgt := 196) hx hb dm_take_187 (by decide) (fun hc => ?_) (fun hc => ?_)
              · have h := (if_pos hc).symm.trans h
                exact J196 l1 (lv_sub hl [0, 1] rfl) hP hD hS h
              · have h := (if_neg hc).symm.trans h
                refine lv_iload_n hx hb dm_take_190 rfl (lv_at hl 1 rfl) ?_
                refine lv_bipush (v := 16) hx hb dm_take_191 (by decide) ?_
                refine lv_icmp_ne (tgt := 204) hx hb dm_take_193 (by decide) (fun hc => ?_) (fun hc => ?_)
                · have h := (if_neg hc).symm.trans h
                  refine lv_aload_n hx hb dm_take_204 rfl (lv_at hl 0 rfl) ?_
                  refine lv_iload_n hx hb dm_take_205 rfl (lv_at hl 1 rfl) ?_
                  refine km_rank l1 (sm_rank l1) rfl hx hb hml hts hown hK hP hD hS wi_112 (by rw [hRm]; exact ⟨Nat.le_of_ble_eq_true rfl, Nat.le_of_ble_eq_true rfl⟩) hl.1 (Nat.le_of_ble_eq_true rfl) dm_take_206 ⟨Nat.zero_le _, Nat.zero_le _⟩ (fun H locs hP hD hS => ?_)
                  obtain ⟨v209, h209, h⟩ := hq_bind h
                  refine km_apply (sm_rank l1) v209 h209 hx hb hml hts hown hK hP hD hS wi_118 (by rw [hRm]; exact ⟨Nat.le_of_ble_eq_true rfl, Nat.le_of_ble_eq_true rfl⟩) hl.1 (Nat.le_of_ble_eq_true rfl) dm_take_209 ⟨Nat.zero_le _, Nat.zero_le _⟩ (fun H locs hP hD hS => ?_)
                  refine lv_aload_n hx hb dm_take_212 rfl (lv_at hl 0 rfl) ?_
                  refine lv_iload_n hx hb dm_take_213 rfl (lv_at hl 1 rfl) ?_
                  obtain ⟨v214, h214, h⟩ := hq_bind h
                  refine km_hold l1 v214 h214 hx hb hml hts hown hK hP hD hS wi_117 (by rw [hRm]; exact ⟨Nat.le_of_ble_eq_true rfl, Nat.le_of_ble_eq_true rfl⟩) hl.1 (Nat.le_of_ble_eq_true rfl) dm_take_214 ⟨Nat.zero_le _, Nat.zero_le _⟩ (fun H locs hP hD hS => ?_)
                  refine lv_iconst (v := 1) hx hb dm_take_217 (by decide) ?_
                  have h := Option.some.inj h
                  exact hq_zret hx hb hr hlocks hQ hK hP hD hS (by decide) (by rw [← h]) (by rw [← h]) dm_take_218
                · have h := (if_pos hc).symm.trans h
                  exact J196 l1 (lv_sub hl [0, 1] rfl) hP hD hS h
            · have h := (if_pos hc).symm.trans h
              refine lv_aload_n hx hb dm_take_176 rfl (lv_at hl 0 rfl) ?_
              refine lv_iload_n hx hb dm_take_177 rfl (lv_at hl 1 rfl) ?_
              obtain ⟨v178, h178, h⟩ := hq_bind h
              refine km_hold l1 v178 h178 hx hb hml hts hown hK hP hD hS wi_117 (by rw [hRm]; exact ⟨Nat.le_of_ble_eq_true rfl, Nat.le_of_ble_eq_true rfl⟩) hl.1 (Nat.le_of_ble_eq_true rfl) dm_take_178 ⟨Nat.zero_le _, Nat.zero_le _⟩ (fun H locs hP hD hS => ?_)
              refine lv_goto (tgt := 217) hx hb dm_take_181 (by decide) ?_
              refine lv_iconst (v := 1) hx hb dm_take_217 (by decide) ?_
              have h := Option.some.inj h
              exact hq_zret hx hb hr hlocks hQ hK hP hD hS (by decide) (by rw [← h]) (by rw [← h]) dm_take_218
          · have h := (if_pos hc).symm.trans h
            refine lv_aload_n hx hb dm_take_142 rfl (lv_at hl 0 rfl) ?_
            refine lv_iconst (v := 0) hx hb dm_take_143 (by decide) ?_
            obtain ⟨v144, h144, h⟩ := hq_bind h
            refine km_apply 0 v144 h144 hx hb hml hts hown hK hP hD hS wi_118 (by rw [hRm]; exact ⟨Nat.le_of_ble_eq_true rfl, Nat.le_of_ble_eq_true rfl⟩) hl.1 (Nat.le_of_ble_eq_true rfl) dm_take_144 ⟨Nat.zero_le _, Nat.zero_le _⟩ (fun H locs hP hD hS => ?_)
            refine lv_aload_n hx hb dm_take_147 rfl (lv_at hl 0 rfl) ?_
            refine lv_dup hx hb dm_take_148 rfl ?_
            refine gm_0_waiting hx hb hts hown hK hP wi_110 dm_take_149 ?_
            refine lv_iconst (v := 1) hx hb dm_take_152 (by decide) ?_
            refine lv_isub hx hb dm_take_153 ?_
            refine pm_0_waiting hx hb hts hown hK hP hD hS wi_110 dm_take_154 (fun H locs hP hD hS => ?_)
            refine lv_aload_n hx hb dm_take_157 rfl (lv_at hl 0 rfl) ?_
            refine lv_dup hx hb dm_take_158 rfl ?_
            refine gm_0_brackets hx hb hts hown hK hP wi_121 dm_take_159 ?_
            refine lv_iconst (v := 1) hx hb dm_take_162 (by decide) ?_
            refine lv_isub hx hb dm_take_163 ?_
            refine pm_0_brackets hx hb hts hown hK hP hD hS wi_121 dm_take_164 (fun H locs hP hD hS => ?_)
            refine lv_goto (tgt := 217) hx hb dm_take_167 (by decide) ?_
            refine lv_iconst (v := 1) hx hb dm_take_217 (by decide) ?_
            have h := Option.some.inj h
            exact hq_zret hx hb hr hlocks hQ hK hP hD hS (by decide) (by rw [← h]) (by rw [← h]) dm_take_218
        · have h := (if_pos hc).symm.trans h
          refine lv_aload_n hx hb dm_take_118 rfl (lv_at hl 0 rfl) ?_
          refine lv_dup hx hb dm_take_119 rfl ?_
          refine gm_0_brackets hx hb hts hown hK hP wi_121 dm_take_120 ?_
          refine lv_iconst (v := 1) hx hb dm_take_123 (by decide) ?_
          refine lv_iadd hx hb dm_take_124 ?_
          refine pm_0_brackets hx hb hts hown hK hP hD hS wi_121 dm_take_125 (fun H locs hP hD hS => ?_)
          refine lv_aload_n hx hb dm_take_128 rfl (lv_at hl 0 rfl) ?_
          refine lv_iload_n hx hb dm_take_129 rfl (lv_at hl 1 rfl) ?_
          obtain ⟨v130, h130, h⟩ := hq_bind h
          refine km_hold l1 v130 h130 hx hb hml hts hown hK hP hD hS wi_117 (by rw [hRm]; exact ⟨Nat.le_of_ble_eq_true rfl, Nat.le_of_ble_eq_true rfl⟩) hl.1 (Nat.le_of_ble_eq_true rfl) dm_take_130 ⟨Nat.zero_le _, Nat.zero_le _⟩ (fun H locs hP hD hS => ?_)
          refine lv_goto (tgt := 217) hx hb dm_take_133 (by decide) ?_
          refine lv_iconst (v := 1) hx hb dm_take_217 (by decide) ?_
          have h := Option.some.inj h
          exact hq_zret hx hb hr hlocks hQ hK hP hD hS (by decide) (by rw [← h]) (by rw [← h]) dm_take_218
      · have h := (if_pos hc).symm.trans h
        exact J103 l1 l2 hl hP hD hS h
  have J70 : ∀ (l1 : Int32) (l2 : Int32) (s1 : Int32) {f_fail : Int32} {f_at : Int32} {f_brackets : Int32} {f_values : Int32} {a_vKind : Nat → Int32} {a_v : Nat → Int32} {f_waiting : Int32} {a_waits : Nat → Int32} {ls : Array Slot} {H : Heap} {locs : List Loc}, lv_has ls 3 [(0, .ref (q 0)), (1, .int l1), (2, .int l2)] → va_P D hq_cl (hm_w q cI cZ cL f_classes a_parent f_objects a_kindOf a_size a_root a_slotKind a_slot a_kept f_count a_code a_number f_want f_compared f_open a_opened f_rowCount a_rowKind a_rowValue f_many a_list f_seen f_fail f_level a_from a_eAt a_whereAt a_source a_distinct a_keeps f_at f_self f_brackets f_values a_vKind a_v f_waiting a_waits ++ z) H → va_D A (hm_w q cI cZ cL f_classes a_parent f_objects a_kindOf a_size a_root a_slotKind a_slot a_kept f_count a_code a_number f_want f_compared f_open a_opened f_rowCount a_rowKind a_rowValue f_many a_list f_seen f_fail f_level a_from a_eAt a_whereAt a_source a_distinct a_keeps f_at f_self f_brackets f_values a_vKind a_v f_waiting a_waits ++ z) → va_S A s.heap H locs → sm_take_J70 l1 l2 s1 f_objects a_kindOf a_size a_slotKind a_slot a_kept f_count a_code f_fail f_at f_self f_brackets f_values a_vKind a_v f_waiting a_waits = some ur → W p l e R s m args below meth c H locs 0 0 Q (F0 m 70 ls [.int s1, .ref (q 0)]) := by
    intro l1 l2 s1 f_fail f_at f_brackets f_values a_vKind a_v f_waiting a_waits ls H locs hl hP hD hS h
    unfold sm_take_J70 at h
    refine lv_iload_n hx hb dm_take_70 rfl (lv_at hl 1 rfl) ?_
    refine lv_bipush (v := 10) hx hb dm_take_71 (by decide) ?_
    refine lv_icmp_ne (tgt := 80) hx hb dm_take_73 (by decide) (fun hc => ?_) (fun hc => ?_)
    · have h := (if_neg hc).symm.trans h
      refine lv_aload_n hx hb dm_take_80 rfl (lv_at hl 0 rfl) ?_
      refine gm_0_self hx hb hts hown hK hP wi_122 dm_take_81 ?_
      refine lv_iconst (v := 0) hx hb dm_take_84 (by decide) ?_
      obtain ⟨v85, h85, h⟩ := hq_bind h
      refine km_give s1 f_self 0 v85 h85 hx hb hml hts hown hK hP hD hS wi_108 (by rw [hRm]; exact ⟨Nat.le_of_ble_eq_true rfl, Nat.le_of_ble_eq_true rfl⟩) hl.1 (Nat.le_of_ble_eq_true rfl) dm_take_85 ⟨Nat.zero_le _, Nat.zero_le _⟩ (fun H locs hP hD hS => ?_)
      refine lv_goto (tgt := 217) hx hb dm_take_88 (by decide) ?_
      refine lv_iconst (v := 1) hx hb dm_take_217 (by decide) ?_
      have h := Option.some.inj h
      exact hq_zret hx hb hr hlocks hQ hK hP hD hS (by decide) (by rw [← h]) (by rw [← h]) dm_take_218
    · have h := (if_pos hc).symm.trans h
      refine lv_iload_n hx hb dm_take_76 rfl (lv_at hl 2 rfl) ?_
      refine lv_goto (tgt := 84) hx hb dm_take_77 (by decide) ?_
      refine lv_iconst (v := 0) hx hb dm_take_84 (by decide) ?_
      obtain ⟨v85, h85, h⟩ := hq_bind h
      refine km_give s1 l2 0 v85 h85 hx hb hml hts hown hK hP hD hS wi_108 (by rw [hRm]; exact ⟨Nat.le_of_ble_eq_true rfl, Nat.le_of_ble_eq_true rfl⟩) hl.1 (Nat.le_of_ble_eq_true rfl) dm_take_85 ⟨Nat.zero_le _, Nat.zero_le _⟩ (fun H locs hP hD hS => ?_)
      refine lv_goto (tgt := 217) hx hb dm_take_88 (by decide) ?_
      refine lv_iconst (v := 1) hx hb dm_take_217 (by decide) ?_
      have h := Option.some.inj h
      exact hq_zret hx hb hr hlocks hQ hK hP hD hS (by decide) (by rw [← h]) (by rw [← h]) dm_take_218
  have J36 : ∀ (l1 : Int32) (l2 : Int32) {f_fail : Int32} {f_at : Int32} {f_brackets : Int32} {f_values : Int32} {a_vKind : Nat → Int32} {a_v : Nat → Int32} {f_waiting : Int32} {a_waits : Nat → Int32} {ls : Array Slot} {H : Heap} {locs : List Loc}, lv_has ls 3 [(0, .ref (q 0)), (1, .int l1), (2, .int l2)] → va_P D hq_cl (hm_w q cI cZ cL f_classes a_parent f_objects a_kindOf a_size a_root a_slotKind a_slot a_kept f_count a_code a_number f_want f_compared f_open a_opened f_rowCount a_rowKind a_rowValue f_many a_list f_seen f_fail f_level a_from a_eAt a_whereAt a_source a_distinct a_keeps f_at f_self f_brackets f_values a_vKind a_v f_waiting a_waits ++ z) H → va_D A (hm_w q cI cZ cL f_classes a_parent f_objects a_kindOf a_size a_root a_slotKind a_slot a_kept f_count a_code a_number f_want f_compared f_open a_opened f_rowCount a_rowKind a_rowValue f_many a_list f_seen f_fail f_level a_from a_eAt a_whereAt a_source a_distinct a_keeps f_at f_self f_brackets f_values a_vKind a_v f_waiting a_waits ++ z) → va_S A s.heap H locs → sm_take_J36 l1 l2 f_objects a_kindOf a_size a_slotKind a_slot a_kept f_count a_code f_fail f_at f_self f_brackets f_values a_vKind a_v f_waiting a_waits = some ur → W p l e R s m args below meth c H locs 0 0 Q (F0 m 36 ls []) := by
    intro l1 l2 f_fail f_at f_brackets f_values a_vKind a_v f_waiting a_waits ls H locs hl hP hD hS h
    unfold sm_take_J36 at h
    refine lv_iload_n hx hb dm_take_36 rfl (lv_at hl 1 rfl) ?_
    refine lv_bipush (v := 10) hx hb dm_take_37 (by decide) ?_
    refine lv_icmp_lt (tgt := 91) hx hb dm_take_39 (by decide) (fun hc => ?_) (fun hc => ?_)
    · have h := (if_pos hc).symm.trans h
      exact J91 l1 l2 hl hP hD hS h
    · have h := (if_neg hc).symm.trans h
      refine lv_iload_n hx hb dm_take_42 rfl (lv_at hl 1 rfl) ?_
      refine lv_bipush (v := 12) hx hb dm_take_43 (by decide) ?_
      refine lv_icmp_gt (tgt := 91) hx hb dm_take_45 (by decide) (fun hc => ?_) (fun hc => ?_)
      · have h := (if_pos hc).symm.trans h
        exact J91 l1 l2 hl hP hD hS h
      · have h := (if_neg hc).symm.trans h
        refine lv_aload_n hx hb dm_take_48 rfl (lv_at hl 0 rfl) ?_
        refine lv_iload_n hx hb dm_take_49 rfl (lv_at hl 1 rfl) ?_
        refine lv_bipush (v := 10) hx hb dm_take_50 (by decide) ?_
        refine lv_icmp_ne (tgt := 59) hx hb dm_take_52 (by decide) (fun hc => ?_) (fun hc => ?_)
        · have h := (if_neg hc).symm.trans h
          refine lv_iload_n hx hb dm_take_59 rfl (lv_at hl 1 rfl) ?_
          refine lv_bipush (v := 11) hx hb dm_take_60 (by decide) ?_
          refine lv_icmp_ne (tgt := 69) hx hb dm_take_62 (by decide) (fun hc => ?_) (fun hc => ?_)
          · have h := (if_neg hc).symm.trans h
            refine lv_iconst (v := 2) hx hb dm_take_69 (by decide) ?_
            exact J70 l1 l2 2 hl hP hD hS h
          · have h := (if_pos hc).symm.trans h
            refine lv_iconst (v := 0) hx hb dm_take_65 (by decide) ?_
            refine lv_goto (tgt := 70) hx hb dm_take_66 (by decide) ?_
            exact J70 l1 l2 0 hl hP hD hS h
        · have h := (if_pos hc).symm.trans h
          refine lv_iconst (v := 1) hx hb dm_take_55 (by decide) ?_
          refine lv_goto (tgt := 70) hx hb dm_take_56 (by decide) ?_
          exact J70 l1 l2 1 hl hP hD hS h
  refine lv_iload_n hx hb dm_take_0 rfl (lv_at hl 1 rfl) ?_
  refine lv_iconst (v := 3) hx hb dm_take_1 (by decide) ?_
  refine lv_icmp_eq (tgt := 29) hx hb dm_take_2 (by decide) (fun hc => ?_) (fun hc => ?_)
  · have h := (if_pos hc).symm.trans h
    refine lv_aload_n hx hb dm_take_29 rfl (lv_at hl 0 rfl) ?_
    refine lv_iconst (v := 0) hx hb dm_take_30 (by decide) ?_
    obtain ⟨v31, h31, h⟩ := hq_bind h
    refine km_apply 0 v31 h31 hx hb hml hts hown hK hP hD hS wi_118 (by rw [hRm]; exact ⟨Nat.le_of_ble_eq_true rfl, Nat.le_of_ble_eq_true rfl⟩) hl.1 (Nat.le_of_ble_eq_true rfl) dm_take_31 ⟨Nat.zero_le _, Nat.zero_le _⟩ (fun H locs hP hD hS => ?_)
    refine lv_iconst (v := 0) hx hb dm_take_34 (by decide) ?_
    have h := Option.some.inj h
    exact hq_zret hx hb hr hlocks hQ hK hP hD hS (by decide) (by rw [← h]) (by rw [← h]) dm_take_35
  · have h := (if_neg hc).symm.trans h
    refine lv_iload_n hx hb dm_take_5 rfl (lv_at hl 1 rfl) ?_
    refine lv_iconst (v := 5) hx hb dm_take_6 (by decide) ?_
    refine lv_icmp_eq (tgt := 29) hx hb dm_take_7 (by decide) (fun hc => ?_) (fun hc => ?_)
    · have h := (if_pos hc).symm.trans h
      refine lv_aload_n hx hb dm_take_29 rfl (lv_at hl 0 rfl) ?_
      refine lv_iconst (v := 0) hx hb dm_take_30 (by decide) ?_
      obtain ⟨v31, h31, h⟩ := hq_bind h
      refine km_apply 0 v31 h31 hx hb hml hts hown hK hP hD hS wi_118 (by rw [hRm]; exact ⟨Nat.le_of_ble_eq_true rfl, Nat.le_of_ble_eq_true rfl⟩) hl.1 (Nat.le_of_ble_eq_true rfl) dm_take_31 ⟨Nat.zero_le _, Nat.zero_le _⟩ (fun H locs hP hD hS => ?_)
      refine lv_iconst (v := 0) hx hb dm_take_34 (by decide) ?_
      have h := Option.some.inj h
      exact hq_zret hx hb hr hlocks hQ hK hP hD hS (by decide) (by rw [← h]) (by rw [← h]) dm_take_35
    · have h := (if_neg hc).symm.trans h
      refine lv_iload_n hx hb dm_take_10 rfl (lv_at hl 1 rfl) ?_
      refine lv_bipush (v := 24) hx hb dm_take_11 (by decide) ?_
      refine lv_icmp_eq (tgt := 29) hx hb dm_take_13 (by decide) (fun hc => ?_) (fun hc => ?_)
      · have h := (if_pos hc).symm.trans h
        refine lv_aload_n hx hb dm_take_29 rfl (lv_at hl 0 rfl) ?_
        refine lv_iconst (v := 0) hx hb dm_take_30 (by decide) ?_
        obtain ⟨v31, h31, h⟩ := hq_bind h
        refine km_apply 0 v31 h31 hx hb hml hts hown hK hP hD hS wi_118 (by rw [hRm]; exact ⟨Nat.le_of_ble_eq_true rfl, Nat.le_of_ble_eq_true rfl⟩) hl.1 (Nat.le_of_ble_eq_true rfl) dm_take_31 ⟨Nat.zero_le _, Nat.zero_le _⟩ (fun H locs hP hD hS => ?_)
        refine lv_iconst (v := 0) hx hb dm_take_34 (by decide) ?_
        have h := Option.some.inj h
        exact hq_zret hx hb hr hlocks hQ hK hP hD hS (by decide) (by rw [← h]) (by rw [← h]) dm_take_35
      · have h := (if_neg hc).symm.trans h
        refine lv_iload_n hx hb dm_take_16 rfl (lv_at hl 1 rfl) ?_
        refine lv_bipush (v := 7) hx hb dm_take_17 (by decide) ?_
        refine lv_icmp_ne (tgt := 36) hx hb dm_take_19 (by decide) (fun hc => ?_) (fun hc => ?_)
        · have h := (if_neg hc).symm.trans h
          exact J36 l1 l2 hl hP hD hS h
        · have h := (if_pos hc).symm.trans h
          refine lv_aload_n hx hb dm_take_22 rfl (lv_at hl 0 rfl) ?_
          refine gm_0_brackets hx hb hts hown hK hP wi_121 dm_take_23 ?_
          refine lv_if_ne (tgt := 36) hx hb dm_take_26 (by decide) (fun hc => ?_) (fun hc => ?_)
          · have h := (if_neg hc).symm.trans h
            exact J36 l1 l2 hl hP hD hS h
          · have h := (if_pos hc).symm.trans h
            refine lv_aload_n hx hb dm_take_29 rfl (lv_at hl 0 rfl) ?_
            refine lv_iconst (v := 0) hx hb dm_take_30 (by decide) ?_
            obtain ⟨v31, h31, h⟩ := hq_bind h
            refine km_apply 0 v31 h31 hx hb hml hts hown hK hP hD hS wi_118 (by rw [hRm]; exact ⟨Nat.le_of_ble_eq_true rfl, Nat.le_of_ble_eq_true rfl⟩) hl.1 (Nat.le_of_ble_eq_true rfl) dm_take_31 ⟨Nat.zero_le _, Nat.zero_le _⟩ (fun H locs hP hD hS => ?_)
            refine lv_iconst (v := 0) hx hb dm_take_34 (by decide) ?_
            have h := Option.some.inj h
            exact hq_zret hx hb hr hlocks hQ hK hP hD hS (by decide) (by rw [← h]) (by rw [← h]) dm_take_35
end
section
variable {p : Program} {l : Launch} {e : Env} {R : Room} {s : State} {m : MethodId} {args : Array Value} {below : List Frame} {meth : Method} {c : Code} {H H0 : Heap} {locs : List Loc} {cells slots : Nat} {Q : State → Prop}
variable {cc : ByteArray} {pc idx nC : Nat} {ls : Array Slot} {rest : List Value} {D : va_G} {A : Nat → Prop} {own : String} {q : Nat → Nat} {cI cZ cL : ClassId} {z w : va_W}
variable {f_classes f_objects f_count f_want f_compared f_open f_rowCount f_many f_seen f_fail f_level f_at f_self f_brackets f_values f_waiting : Int32}
variable {a_parent a_kindOf a_size a_root a_slotKind a_slot a_kept a_code a_number a_opened a_rowKind a_rowValue a_list a_from a_eAt a_whereAt a_source a_distinct a_keeps a_vKind a_v a_waits : Nat → Int32}
theorem km_take (l1 : Int32) (l2 : Int32) (ur : Int32 × Int32 × Int32 × Int32 × Int32 × (Nat → Int32) × (Nat → Int32) × Int32 × (Nat → Int32)) (hu : sm_take l1 l2 f_objects a_kindOf a_size a_slotKind a_slot a_kept f_count a_code f_fail f_at f_self f_brackets f_values a_vKind a_v f_waiting a_waits = some ur) (hx : p.tables.exec = Jvm.exec) (hb : c.code = cc) (hml : c.maxLocals = nC) (hts : ∀ x ∈ hq_tbl, x.before args s = true) (hown : s.vm.findClass own = some m.cls) (hK : va_K D hq_cl (hq_tys cI cZ cL) s) (hP : va_P D hq_cl (hm_w q cI cZ cL f_classes a_parent f_objects a_kindOf a_size a_root a_slotKind a_slot a_kept f_count a_code a_number f_want f_compared f_open a_opened f_rowCount a_rowKind a_rowValue f_many a_list f_seen f_fail f_level a_from a_eAt a_whereAt a_source a_distinct a_keeps f_at f_self f_brackets f_values a_vKind a_v f_waiting a_waits ++ z) H) (hD : va_D A (hm_w q cI cZ cL f_classes a_parent f_objects a_kindOf a_size a_root a_slotKind a_slot a_kept f_count a_code a_number f_want f_compared f_open a_opened f_rowCount a_rowKind a_rowValue f_many a_list f_seen f_fail f_level a_from a_eAt a_whereAt a_source a_distinct a_keeps f_at f_self f_brackets f_values a_vKind a_v f_waiting a_waits ++ z)) (hS : va_S A H0 H locs) (h1 : Cond.methodLink own idx ym_take ∈ hq_tbl) (hR : 4 + 1 ≤ R.frames ∧ 8 + (3 + 11) + 94 ≤ R.locals) (hls : ls.size = nC) (hW : (rest.map fun v => v.category).sum ≤ 8) (hdg : decode cc pc = .ok (.invokevirtual idx, 3)) (hf : cells + 0 ≤ R.cells ∧ slots + 0 ≤ R.slots) (kk : ∀ (H1 : Heap) (locs1 : List Loc), va_P D hq_cl (hm_w q cI cZ cL f_classes a_parent f_objects a_kindOf a_size a_root a_slotKind a_slot a_kept f_count a_code a_number f_want f_compared f_open a_opened f_rowCount a_rowKind a_rowValue f_many a_list f_seen ur.2.1 f_level a_from a_eAt a_whereAt a_source a_distinct a_keeps ur.2.2.1 f_self ur.2.2.2.1 ur.2.2.2.2.1 ur.2.2.2.2.2.1 ur.2.2.2.2.2.2.1 ur.2.2.2.2.2.2.2.1 ur.2.2.2.2.2.2.2.2 ++ z) H1 → va_D A (hm_w q cI cZ cL f_classes a_parent f_objects a_kindOf a_size a_root a_slotKind a_slot a_kept f_count a_code a_number f_want f_compared f_open a_opened f_rowCount a_rowKind a_rowValue f_many a_list f_seen ur.2.1 f_level a_from a_eAt a_whereAt a_source a_distinct a_keeps ur.2.2.1 f_self ur.2.2.2.1 ur.2.2.2.2.1 ur.2.2.2.2.2.1 ur.2.2.2.2.2.2.1 ur.2.2.2.2.2.2.2.1 ur.2.2.2.2.2.2.2.2 ++ z) → va_S A H0 H1 locs1 → W p l e R s m args below meth c H1 locs1 cells slots Q (F0 m (pc + 3) ls (.int ur.1 :: rest))) : W p l e R s m args below meth c H locs cells slots Q (F0 m pc ls (.int l2 :: .int l1 :: .ref (q 0) :: rest)) :=
  hq_callV (q0 := 0) hx hb hml hown hts hK hP hD hS (cm_take l1 l2 ur hu) rfl rfl h1 wi_440 wi_441 wi_338 wi_442 2 rfl (by decide +kernel) ⟨rfl, rfl⟩ hR hls rfl hW hdg hf kk
end
