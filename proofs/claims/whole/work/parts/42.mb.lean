theorem dm_behind_0 : decode bm_behind 0 = .ok (.aload_n 0, 1) := by decide +kernel
theorem dm_behind_1 : decode bm_behind 1 = .ok (.getfield 38, 3) := by decide +kernel
theorem dm_behind_4 : decode bm_behind 4 = .ok (.aload_n 0, 1) := by decide +kernel
theorem dm_behind_5 : decode bm_behind 5 = .ok (.getfield 108, 3) := by decide +kernel
theorem dm_behind_8 : decode bm_behind 8 = .ok (.iconst 1, 1) := by decide +kernel
theorem dm_behind_9 : decode bm_behind 9 = .ok (.isub, 1) := by decide +kernel
theorem dm_behind_10 : decode bm_behind 10 = .ok (.iaload, 1) := by decide +kernel
theorem dm_behind_11 : decode bm_behind 11 = .ok (.istore_n 2, 1) := by decide +kernel
theorem dm_behind_12 : decode bm_behind 12 = .ok (.iload_n 1, 1) := by decide +kernel
theorem dm_behind_13 : decode bm_behind 13 = .ok (.bipush 13, 2) := by decide +kernel
theorem dm_behind_15 : decode bm_behind 15 = .ok (.if_icmp .eq 9, 3) := by decide +kernel
theorem dm_behind_18 : decode bm_behind 18 = .ok (.iload_n 1, 1) := by decide +kernel
theorem dm_behind_19 : decode bm_behind 19 = .ok (.bipush 14, 2) := by decide +kernel
theorem dm_behind_21 : decode bm_behind 21 = .ok (.if_icmp .ne 5, 3) := by decide +kernel
theorem dm_behind_24 : decode bm_behind 24 = .ok (.iconst 1, 1) := by decide +kernel
theorem dm_behind_25 : decode bm_behind 25 = .ok (.ireturn, 1) := by decide +kernel
theorem dm_behind_26 : decode bm_behind 26 = .ok (.iload_n 1, 1) := by decide +kernel
theorem dm_behind_27 : decode bm_behind 27 = .ok (.bipush 21, 2) := by decide +kernel
theorem dm_behind_29 : decode bm_behind 29 = .ok (.if_icmp .lt 15, 3) := by decide +kernel
theorem dm_behind_32 : decode bm_behind 32 = .ok (.iload_n 1, 1) := by decide +kernel
theorem dm_behind_33 : decode bm_behind 33 = .ok (.bipush 23, 2) := by decide +kernel
theorem dm_behind_35 : decode bm_behind 35 = .ok (.if_icmp .gt 9, 3) := by decide +kernel
theorem dm_behind_38 : decode bm_behind 38 = .ok (.aload_n 0, 1) := by decide +kernel
theorem dm_behind_39 : decode bm_behind 39 = .ok (.iconst 4, 1) := by decide +kernel
theorem dm_behind_40 : decode bm_behind 40 = .ok (.invokevirtual 119, 3) := by decide +kernel
theorem dm_behind_43 : decode bm_behind 43 = .ok (.ireturn, 1) := by decide +kernel
theorem dm_behind_44 : decode bm_behind 44 = .ok (.iload_n 1, 1) := by decide +kernel
theorem dm_behind_45 : decode bm_behind 45 = .ok (.bipush 18, 2) := by decide +kernel
theorem dm_behind_47 : decode bm_behind 47 = .ok (.if_icmp .lt 27, 3) := by decide +kernel
theorem dm_behind_50 : decode bm_behind 50 = .ok (.iload_n 1, 1) := by decide +kernel
theorem dm_behind_51 : decode bm_behind 51 = .ok (.bipush 20, 2) := by decide +kernel
theorem dm_behind_53 : decode bm_behind 53 = .ok (.if_icmp .gt 21, 3) := by decide +kernel
theorem dm_behind_56 : decode bm_behind 56 = .ok (.aload_n 0, 1) := by decide +kernel
theorem dm_behind_57 : decode bm_behind 57 = .ok (.getfield 111, 3) := by decide +kernel
theorem dm_behind_60 : decode bm_behind 60 = .ok (.ifCond .ne 14, 3) := by decide +kernel
theorem dm_behind_63 : decode bm_behind 63 = .ok (.aload_n 0, 1) := by decide +kernel
theorem dm_behind_64 : decode bm_behind 64 = .ok (.iconst 1, 1) := by decide +kernel
theorem dm_behind_65 : decode bm_behind 65 = .ok (.putfield 111, 3) := by decide +kernel
theorem dm_behind_68 : decode bm_behind 68 = .ok (.aload_n 0, 1) := by decide +kernel
theorem dm_behind_69 : decode bm_behind 69 = .ok (.iconst 4, 1) := by decide +kernel
theorem dm_behind_70 : decode bm_behind 70 = .ok (.invokevirtual 119, 3) := by decide +kernel
theorem dm_behind_73 : decode bm_behind 73 = .ok (.ireturn, 1) := by decide +kernel
theorem dm_behind_74 : decode bm_behind 74 = .ok (.iload_n 1, 1) := by decide +kernel
theorem dm_behind_75 : decode bm_behind 75 = .ok (.bipush 15, 2) := by decide +kernel
theorem dm_behind_77 : decode bm_behind 77 = .ok (.if_icmp .eq 9, 3) := by decide +kernel
theorem dm_behind_80 : decode bm_behind 80 = .ok (.iload_n 1, 1) := by decide +kernel
theorem dm_behind_81 : decode bm_behind 81 = .ok (.bipush 16, 2) := by decide +kernel
theorem dm_behind_83 : decode bm_behind 83 = .ok (.if_icmp .ne 14, 3) := by decide +kernel
theorem dm_behind_86 : decode bm_behind 86 = .ok (.aload_n 0, 1) := by decide +kernel
theorem dm_behind_87 : decode bm_behind 87 = .ok (.iconst 0, 1) := by decide +kernel
theorem dm_behind_88 : decode bm_behind 88 = .ok (.putfield 111, 3) := by decide +kernel
theorem dm_behind_91 : decode bm_behind 91 = .ok (.aload_n 0, 1) := by decide +kernel
theorem dm_behind_92 : decode bm_behind 92 = .ok (.iconst 3, 1) := by decide +kernel
theorem dm_behind_93 : decode bm_behind 93 = .ok (.invokevirtual 119, 3) := by decide +kernel
theorem dm_behind_96 : decode bm_behind 96 = .ok (.ireturn, 1) := by decide +kernel
theorem dm_behind_97 : decode bm_behind 97 = .ok (.iload_n 1, 1) := by decide +kernel
theorem dm_behind_98 : decode bm_behind 98 = .ok (.bipush 7, 2) := by decide +kernel
theorem dm_behind_100 : decode bm_behind 100 = .ok (.if_icmp .ne 39, 3) := by decide +kernel
theorem dm_behind_103 : decode bm_behind 103 = .ok (.iload_n 2, 1) := by decide +kernel
theorem dm_behind_104 : decode bm_behind 104 = .ok (.iconst 2, 1) := by decide +kernel
theorem dm_behind_105 : decode bm_behind 105 = .ok (.if_icmp .eq 8, 3) := by decide +kernel
theorem dm_behind_108 : decode bm_behind 108 = .ok (.iload_n 2, 1) := by decide +kernel
theorem dm_behind_109 : decode bm_behind 109 = .ok (.iconst 4, 1) := by decide +kernel
theorem dm_behind_110 : decode bm_behind 110 = .ok (.if_icmp .ne 29, 3) := by decide +kernel
theorem dm_behind_113 : decode bm_behind 113 = .ok (.aload_n 0, 1) := by decide +kernel
theorem dm_behind_114 : decode bm_behind 114 = .ok (.dup, 1) := by decide +kernel
theorem dm_behind_115 : decode bm_behind 115 = .ok (.getfield 108, 3) := by decide +kernel
theorem dm_behind_118 : decode bm_behind 118 = .ok (.iconst 1, 1) := by decide +kernel
theorem dm_behind_119 : decode bm_behind 119 = .ok (.isub, 1) := by decide +kernel
theorem dm_behind_120 : decode bm_behind 120 = .ok (.putfield 108, 3) := by decide +kernel
theorem dm_behind_123 : decode bm_behind 123 = .ok (.aload_n 0, 1) := by decide +kernel
theorem dm_behind_124 : decode bm_behind 124 = .ok (.iload_n 2, 1) := by decide +kernel
theorem dm_behind_125 : decode bm_behind 125 = .ok (.iconst 4, 1) := by decide +kernel
theorem dm_behind_126 : decode bm_behind 126 = .ok (.if_icmp .ne 7, 3) := by decide +kernel
theorem dm_behind_129 : decode bm_behind 129 = .ok (.iconst 1, 1) := by decide +kernel
theorem dm_behind_130 : decode bm_behind 130 = .ok (.goto 4, 3) := by decide +kernel
theorem dm_behind_133 : decode bm_behind 133 = .ok (.iconst 0, 1) := by decide +kernel
theorem dm_behind_134 : decode bm_behind 134 = .ok (.putfield 111, 3) := by decide +kernel
theorem dm_behind_137 : decode bm_behind 137 = .ok (.iconst 1, 1) := by decide +kernel
theorem dm_behind_138 : decode bm_behind 138 = .ok (.ireturn, 1) := by decide +kernel
theorem dm_behind_139 : decode bm_behind 139 = .ok (.iload_n 1, 1) := by decide +kernel
theorem dm_behind_140 : decode bm_behind 140 = .ok (.iconst 3, 1) := by decide +kernel
theorem dm_behind_141 : decode bm_behind 141 = .ok (.if_icmp .ne 24, 3) := by decide +kernel
theorem dm_behind_144 : decode bm_behind 144 = .ok (.iload_n 2, 1) := by decide +kernel
theorem dm_behind_145 : decode bm_behind 145 = .ok (.ifCond .ne 20, 3) := by decide +kernel
theorem dm_behind_148 : decode bm_behind 148 = .ok (.aload_n 0, 1) := by decide +kernel
theorem dm_behind_149 : decode bm_behind 149 = .ok (.dup, 1) := by decide +kernel
theorem dm_behind_150 : decode bm_behind 150 = .ok (.getfield 108, 3) := by decide +kernel
theorem dm_behind_153 : decode bm_behind 153 = .ok (.iconst 1, 1) := by decide +kernel
theorem dm_behind_154 : decode bm_behind 154 = .ok (.isub, 1) := by decide +kernel
theorem dm_behind_155 : decode bm_behind 155 = .ok (.putfield 108, 3) := by decide +kernel
theorem dm_behind_158 : decode bm_behind 158 = .ok (.aload_n 0, 1) := by decide +kernel
theorem dm_behind_159 : decode bm_behind 159 = .ok (.bipush 6, 2) := by decide +kernel
theorem dm_behind_161 : decode bm_behind 161 = .ok (.invokevirtual 119, 3) := by decide +kernel
theorem dm_behind_164 : decode bm_behind 164 = .ok (.ireturn, 1) := by decide +kernel
theorem dm_behind_165 : decode bm_behind 165 = .ok (.iload_n 2, 1) := by decide +kernel
theorem dm_behind_166 : decode bm_behind 166 = .ok (.iconst 1, 1) := by decide +kernel
theorem dm_behind_167 : decode bm_behind 167 = .ok (.if_icmp .eq 5, 3) := by decide +kernel
theorem dm_behind_170 : decode bm_behind 170 = .ok (.iconst 0, 1) := by decide +kernel
theorem dm_behind_171 : decode bm_behind 171 = .ok (.ireturn, 1) := by decide +kernel
theorem dm_behind_172 : decode bm_behind 172 = .ok (.aload_n 0, 1) := by decide +kernel
theorem dm_behind_173 : decode bm_behind 173 = .ok (.dup, 1) := by decide +kernel
theorem dm_behind_174 : decode bm_behind 174 = .ok (.getfield 108, 3) := by decide +kernel
theorem dm_behind_177 : decode bm_behind 177 = .ok (.iconst 1, 1) := by decide +kernel
theorem dm_behind_178 : decode bm_behind 178 = .ok (.isub, 1) := by decide +kernel
theorem dm_behind_179 : decode bm_behind 179 = .ok (.putfield 108, 3) := by decide +kernel
theorem dm_behind_182 : decode bm_behind 182 = .ok (.aload_n 0, 1) := by decide +kernel
theorem dm_behind_183 : decode bm_behind 183 = .ok (.iload_n 1, 1) := by decide +kernel
theorem dm_behind_184 : decode bm_behind 184 = .ok (.invokevirtual 128, 3) := by decide +kernel
theorem dm_behind_187 : decode bm_behind 187 = .ok (.ireturn, 1) := by decide +kernel
section
variable {l : Launch} {D : va_G} {A : Nat → Prop} {z w : va_W} {q : Nat → Nat} {cI cZ cL : ClassId}
variable {f_classes f_objects f_count f_want f_compared f_open f_rowCount f_many f_seen f_fail f_level f_at f_self f_brackets f_values f_waiting : Int32}
variable {a_parent a_kindOf a_size a_root a_slotKind a_slot a_kept a_code a_number a_opened a_rowKind a_rowValue a_list a_from a_eAt a_whereAt a_source a_distinct a_keeps a_vKind a_v a_waits : Nat → Int32}
set_option maxHeartbeats 4000000 in
set_option maxRecDepth 100000 in
theorem cm_behind (l1 : Int32) (ur : Int32 × Int32 × Int32 × Int32) (h : sm_behind l1 f_want f_compared f_open a_opened = some ur) : hq_Ct l ym_behind bm_behind 3 (some .boolean) { frames := 2, cells := 0, slots := 0, locals := 42 } D (hq_tys cI cZ cL) A [.ref (q 0), .int l1] (hm_w q cI cZ cL f_classes a_parent f_objects a_kindOf a_size a_root a_slotKind a_slot a_kept f_count a_code a_number f_want f_compared f_open a_opened f_rowCount a_rowKind a_rowValue f_many a_list f_seen f_fail f_level a_from a_eAt a_whereAt a_source a_distinct a_keeps f_at f_self f_brackets f_values a_vKind a_v f_waiting a_waits ++ z) (hm_w q cI cZ cL f_classes a_parent f_objects a_kindOf a_size a_root a_slotKind a_slot a_kept f_count a_code a_number ur.2.1 ur.2.2.1 ur.2.2.2 a_opened f_rowCount a_rowKind a_rowValue f_many a_list f_seen f_fail f_level a_from a_eAt a_whereAt a_source a_distinct a_keeps f_at f_self f_brackets f_values a_vKind a_v f_waiting a_waits ++ z) (some (.int ur.1)) 0 0 := by
  refine hq_of (by decide) ?_ (Nat.le_of_ble_eq_true rfl)
  intro p e s m below meth c R args Q hRm hQ hx hb hr hml hts hown hlocks hnm hP hK hD ls hl hS
  have hl : lv_has ls 3 [(0, .ref (q 0)), (1, .int l1)] := hl
  have hown : s.vm.findClass "HeapQueriesModel" = some m.cls := hown
  unfold sm_behind at h
  have J165 : ∀ (l1 : Int32) (l2 : Int32) {f_want : Int32} {f_compared : Int32} {f_open : Int32} {ls : Array Slot} {H : Heap} {locs : List Loc}, lv_has ls 3 [(0, .ref (q 0)), (1, .int l1), (2, .int l2)] → va_P D hq_cl (hm_w q cI cZ cL f_classes a_parent f_objects a_kindOf a_size a_root a_slotKind a_slot a_kept f_count a_code a_number f_want f_compared f_open a_opened f_rowCount a_rowKind a_rowValue f_many a_list f_seen f_fail f_level a_from a_eAt a_whereAt a_source a_distinct a_keeps f_at f_self f_brackets f_values a_vKind a_v f_waiting a_waits ++ z) H → va_D A (hm_w q cI cZ cL f_classes a_parent f_objects a_kindOf a_size a_root a_slotKind a_slot a_kept f_count a_code a_number f_want f_compared f_open a_opened f_rowCount a_rowKind a_rowValue f_many a_list f_seen f_fail f_level a_from a_eAt a_whereAt a_source a_distinct a_keeps f_at f_self f_brackets f_values a_vKind a_v f_waiting a_waits ++ z) → va_S A s.heap H locs → sm_behind_J165 l1 l2 f_want f_compared f_open a_opened = some ur → W p l e R s m args below meth c H locs 0 0 Q (F0 m 165 ls []) := by
    intro l1 l2 f_want f_compared f_open ls H locs hl hP hD hS h
    unfold sm_behind_J165 at h
    refine lv_iload_n hx hb dm_behind_165 rfl (lv_at hl 2 rfl) ?_
    refine lv_iconst (v := 1) hx hb dm_behind_166 (by decide) ?_
    refine lv_icmp_eq (tgt := 172) hx hb dm_behind_167 (by decide) (fun hc => ?_) (fun hc => ?_)
    · have h := (if_pos hc).symm.trans h
      refine lv_aload_n hx hb dm_behind_172 rfl (lv_at hl 0 rfl) ?_
      refine lv_dup hx hb dm_behind_173 rfl ?_
      refine gm_0_open hx hb hts hown hK hP wi_82 dm_behind_174 ?_
      refine lv_iconst (v := 1) hx hb dm_behind_177 (by decide) ?_
      refine lv_isub hx hb dm_behind_178 ?_
      refine pm_0_open hx hb hts hown hK hP hD hS wi_82 dm_behind_179 (fun H locs hP hD hS => ?_)
      refine lv_aload_n hx hb dm_behind_182 rfl (lv_at hl 0 rfl) ?_
      refine lv_iload_n hx hb dm_behind_183 rfl (lv_at hl 1 rfl) ?_
      obtain ⟨v184, h184, h⟩ := hq_bind h
      refine km_ends l1 v184 h184 hx hb hml hts hown hK hP hD hS wi_87 (by rw [hRm]; exact ⟨Nat.le_of_ble_eq_true rfl, Nat.le_of_ble_eq_true rfl⟩) hl.1 (Nat.le_of_ble_eq_true rfl) dm_behind_184 ⟨Nat.zero_le _, Nat.zero_le _⟩ (fun H locs hP hD hS => ?_)
      obtain ⟨hz, h⟩ := hq_ok h
      have h := Option.some.inj h
      exact hq_zret hx hb hr hlocks hQ hK hP hD hS hz (by rw [← h]) (by rw [← h]) dm_behind_187
    · have h := (if_neg hc).symm.trans h
      refine lv_iconst (v := 0) hx hb dm_behind_170 (by decide) ?_
      have h := Option.some.inj h
      exact hq_zret hx hb hr hlocks hQ hK hP hD hS (by decide) (by rw [← h]) (by rw [← h]) dm_behind_171
  have J139 : ∀ (l1 : Int32) (l2 : Int32) {f_want : Int32} {f_compared : Int32} {f_open : Int32} {ls : Array Slot} {H : Heap} {locs : List Loc}, lv_has ls 3 [(0, .ref (q 0)), (1, .int l1), (2, .int l2)] → va_P D hq_cl (hm_w q cI cZ cL f_classes a_parent f_objects a_kindOf a_size a_root a_slotKind a_slot a_kept f_count a_code a_number f_want f_compared f_open a_opened f_rowCount a_rowKind a_rowValue f_many a_list f_seen f_fail f_level a_from a_eAt a_whereAt a_source a_distinct a_keeps f_at f_self f_brackets f_values a_vKind a_v f_waiting a_waits ++ z) H → va_D A (hm_w q cI cZ cL f_classes a_parent f_objects a_kindOf a_size a_root a_slotKind a_slot a_kept f_count a_code a_number f_want f_compared f_open a_opened f_rowCount a_rowKind a_rowValue f_many a_list f_seen f_fail f_level a_from a_eAt a_whereAt a_source a_distinct a_keeps f_at f_self f_brackets f_values a_vKind a_v f_waiting a_waits ++ z) → va_S A s.heap H locs → sm_behind_J139 l1 l2 f_want f_compared f_open a_opened = some ur → W p l e R s m args below meth c H locs 0 0 Q (F0 m 139 ls []) := by
    intro l1 l2 f_want f_compared f_open ls H locs hl hP hD hS h
    unfold sm_behind_J139 at h
    refine lv_iload_n hx hb dm_behind_139 rfl (lv_at hl 1 rfl) ?_
    refine lv_iconst (v := 3) hx hb dm_behind_140 (by decide) ?_
    refine lv_icmp_ne (tgt := 165) hx hb dm_behind_141 (by decide) (fun hc => ?_) (fun hc => ?_)
    · have h := (if_neg hc).symm.trans h
      exact J165 l1 l2 hl hP hD hS h
    · have h := (if_pos hc).symm.trans h
      refine lv_iload_n hx hb dm_behind_144 rfl (lv_at hl 2 rfl) ?_
      refine lv_if_ne (tgt := 165) hx hb dm_behind_145 (by decide) (fun hc => ?_) (fun hc => ?_)
      · have h := (if_neg hc).symm.trans h
        exact J165 l1 l2 hl hP hD hS h
      · have h := (if_pos hc).symm.trans h
        refine lv_aload_n hx hb dm_behind_148 rfl (lv_at hl 0 rfl) ?_
        refine lv_dup hx hb dm_behind_149 rfl ?_
        refine gm_0_open hx hb hts hown hK hP wi_82 dm_behind_150 ?_
        refine lv_iconst (v := 1) hx hb dm_behind_153 (by decide) ?_
        refine lv_isub hx hb dm_behind_154 ?_
        refine pm_0_open hx hb hts hown hK hP hD hS wi_82 dm_behind_155 (fun H locs hP hD hS => ?_)
        refine lv_aload_n hx hb dm_behind_158 rfl (lv_at hl 0 rfl) ?_
        refine lv_bipush (v := 6) hx hb dm_behind_159 (by decide) ?_
        refine km_becomes 6 (sm_becomes 6 f_want) rfl hx hb hml hts hown hK hP hD hS wi_86 (by rw [hRm]; exact ⟨Nat.le_of_ble_eq_true rfl, Nat.le_of_ble_eq_true rfl⟩) hl.1 (Nat.le_of_ble_eq_true rfl) dm_behind_161 ⟨Nat.zero_le _, Nat.zero_le _⟩ (fun H locs hP hD hS => ?_)
        obtain ⟨hz, h⟩ := hq_ok h
        have h := Option.some.inj h
        exact hq_zret hx hb hr hlocks hQ hK hP hD hS hz (by rw [← h]) (by rw [← h]) dm_behind_164
  have J113 : ∀ (l2 : Int32) {f_want : Int32} {f_compared : Int32} {f_open : Int32} {ls : Array Slot} {H : Heap} {locs : List Loc}, lv_has ls 3 [(0, .ref (q 0)), (2, .int l2)] → va_P D hq_cl (hm_w q cI cZ cL f_classes a_parent f_objects a_kindOf a_size a_root a_slotKind a_slot a_kept f_count a_code a_number f_want f_compared f_open a_opened f_rowCount a_rowKind a_rowValue f_many a_list f_seen f_fail f_level a_from a_eAt a_whereAt a_source a_distinct a_keeps f_at f_self f_brackets f_values a_vKind a_v f_waiting a_waits ++ z) H → va_D A (hm_w q cI cZ cL f_classes a_parent f_objects a_kindOf a_size a_root a_slotKind a_slot a_kept f_count a_code a_number f_want f_compared f_open a_opened f_rowCount a_rowKind a_rowValue f_many a_list f_seen f_fail f_level a_from a_eAt a_whereAt a_source a_distinct a_keeps f_at f_self f_brackets f_values a_vKind a_v f_waiting a_waits ++ z) → va_S A s.heap H locs → sm_behind_J113 l2 f_want f_compared f_open a_opened = some ur → W p l e R s m args below meth c H locs 0 0 Q (F0 m 113 ls []) := by
    intro l2 f_want f_compared f_open ls H locs hl hP hD hS h
    unfold sm_behind_J113 at h
    refine lv_aload_n hx hb dm_behind_113 rfl (lv_at hl 0 rfl) ?_
    refine lv_dup hx hb dm_behind_114 rfl ?_
    refine gm_0_open hx hb hts hown hK hP wi_82 dm_behind_115 ?_
    refine lv_iconst (v := 1) hx hb dm_behind_118 (by decide) ?_
    refine lv_isub hx hb dm_behind_119 ?_
    refine pm_0_open hx hb hts hown hK hP hD hS wi_82 dm_behind_120 (fun H locs hP hD hS => ?_)
    refine lv_aload_n hx hb dm_behind_123 rfl (lv_at hl 0 rfl) ?_
    refine lv_iload_n hx hb dm_behind_124 rfl (lv_at hl 1 rfl) ?_
    refine lv_iconst (v := 4) hx hb dm_behind_125 (by decide) ?_
    refine lv_icmp_ne (tgt := 133) hx hb dm_behind_126 (by decide) (fun hc => ?_) (fun hc => ?_)
    · have h := (if_neg hc).symm.trans h
      refine lv_iconst (v := 0) hx hb dm_behind_133 (by decide) ?_
      refine pm_0_compared hx hb hts hown hK hP hD hS wi_83 (by decide) dm_behind_134 (fun H locs hP hD hS => ?_)
      refine lv_iconst (v := 1) hx hb dm_behind_137 (by decide) ?_
      have h := Option.some.inj h
      exact hq_zret hx hb hr hlocks hQ hK hP hD hS (by decide) (by rw [← h]) (by rw [← h]) dm_behind_138
    · have h := (if_pos hc).symm.trans h
      refine lv_iconst (v := 1) hx hb dm_behind_129 (by decide) ?_
      refine lv_goto (tgt := 134) hx hb dm_behind_130 (by decide) ?_
      refine pm_0_compared hx hb hts hown hK hP hD hS wi_83 (by decide) dm_behind_134 (fun H locs hP hD hS => ?_)
      refine lv_iconst (v := 1) hx hb dm_behind_137 (by decide) ?_
      have h := Option.some.inj h
      exact hq_zret hx hb hr hlocks hQ hK hP hD hS (by decide) (by rw [← h]) (by rw [← h]) dm_behind_138
  have J86 : ∀ {f_want : Int32} {f_compared : Int32} {f_open : Int32} {ls : Array Slot} {H : Heap} {locs : List Loc}, lv_has ls 3 [(0, .ref (q 0))] → va_P D hq_cl (hm_w q cI cZ cL f_classes a_parent f_objects a_kindOf a_size a_root a_slotKind a_slot a_kept f_count a_code a_number f_want f_compared f_open a_opened f_rowCount a_rowKind a_rowValue f_many a_list f_seen f_fail f_level a_from a_eAt a_whereAt a_source a_distinct a_keeps f_at f_self f_brackets f_values a_vKind a_v f_waiting a_waits ++ z) H → va_D A (hm_w q cI cZ cL f_classes a_parent f_objects a_kindOf a_size a_root a_slotKind a_slot a_kept f_count a_code a_number f_want f_compared f_open a_opened f_rowCount a_rowKind a_rowValue f_many a_list f_seen f_fail f_level a_from a_eAt a_whereAt a_source a_distinct a_keeps f_at f_self f_brackets f_values a_vKind a_v f_waiting a_waits ++ z) → va_S A s.heap H locs → sm_behind_J86 f_want f_compared f_open a_opened = some ur → W p l e R s m args below meth c H locs 0 0 Q (F0 m 86 ls []) := by
    intro f_want f_compared f_open ls H locs hl hP hD hS h
    unfold sm_behind_J86 at h
    refine lv_aload_n hx hb dm_behind_86 rfl (lv_at hl 0 rfl) ?_
    refine lv_iconst (v := 0) hx hb dm_behind_87 (by decide) ?_
    refine pm_0_compared hx hb hts hown hK hP hD hS wi_83 (by decide) dm_behind_88 (fun H locs hP hD hS => ?_)
    refine lv_aload_n hx hb dm_behind_91 rfl (lv_at hl 0 rfl) ?_
    refine lv_iconst (v := 3) hx hb dm_behind_92 (by decide) ?_
    refine km_becomes 3 (sm_becomes 3 f_want) rfl hx hb hml hts hown hK hP hD hS wi_86 (by rw [hRm]; exact ⟨Nat.le_of_ble_eq_true rfl, Nat.le_of_ble_eq_true rfl⟩) hl.1 (Nat.le_of_ble_eq_true rfl) dm_behind_93 ⟨Nat.zero_le _, Nat.zero_le _⟩ (fun H locs hP hD hS => ?_)
    obtain ⟨hz, h⟩ := hq_ok h
    have h := Option.some.inj h
    exact hq_zret hx hb hr hlocks hQ hK hP hD hS hz (by rw [← h]) (by rw [← h]) dm_behind_96
  have J74 : ∀ (l1 : Int32) (l2 : Int32) {f_want : Int32} {f_compared : Int32} {f_open : Int32} {ls : Array Slot} {H : Heap} {locs : List Loc}, lv_has ls 3 [(0, .ref (q 0)), (1, .int l1), (2, .int l2)] → va_P D hq_cl (hm_w q cI cZ cL f_classes a_parent f_objects a_kindOf a_size a_root a_slotKind a_slot a_kept f_count a_code a_number f_want f_compared f_open a_opened f_rowCount a_rowKind a_rowValue f_many a_list f_seen f_fail f_level a_from a_eAt a_whereAt a_source a_distinct a_keeps f_at f_self f_brackets f_values a_vKind a_v f_waiting a_waits ++ z) H → va_D A (hm_w q cI cZ cL f_classes a_parent f_objects a_kindOf a_size a_root a_slotKind a_slot a_kept f_count a_code a_number f_want f_compared f_open a_opened f_rowCount a_rowKind a_rowValue f_many a_list f_seen f_fail f_level a_from a_eAt a_whereAt a_source a_distinct a_keeps f_at f_self f_brackets f_values a_vKind a_v f_waiting a_waits ++ z) → va_S A s.heap H locs → sm_behind_J74 l1 l2 f_want f_compared f_open a_opened = some ur → W p l e R s m args below meth c H locs 0 0 Q (F0 m 74 ls []) := by
    intro l1 l2 f_want f_compared f_open ls H locs hl hP hD hS h
    unfold sm_behind_J74 at h
    refine lv_iload_n hx hb dm_behind_74 rfl (lv_at hl 1 rfl) ?_
    refine lv_bipush (v := 15) hx hb dm_behind_75 (by decide) ?_
    refine lv_icmp_eq (tgt := 86) hx hb dm_behind_77 (by decide) (fun hc => ?_) (fun hc => ?_)
    · have h := (if_pos hc).symm.trans h
      exact J86  (lv_sub hl [0] rfl) hP hD hS h
    · have h := (if_neg hc).symm.trans h
      refine lv_iload_n hx hb dm_behind_80 rfl (lv_at hl 1 rfl) ?_
      refine lv_bipush (v := 16) hx hb dm_behind_81 (by decide) ?_
      refine lv_icmp_ne (tgt := 97) hx hb dm_behind_83 (by decide) (fun hc => ?_) (fun hc => ?_)
      · have h := (if_neg hc).symm.trans h
        refine lv_iload_n hx hb dm_behind_97 rfl (lv_at hl 1 rfl) ?_
        refine lv_bipush (v := 7) hx hb dm_behind_98 (by decide) ?_
        refine lv_icmp_ne (tgt := 139) hx hb dm_behind_100 (by decide) (fun hc => ?_) (fun hc => ?_)
        · have h := (if_neg hc).symm.trans h
          exact J139 l1 l2 hl hP hD hS h
        · have h := (if_pos hc).symm.trans h
          refine lv_iload_n hx hb dm_behind_103 rfl (lv_at hl 2 rfl) ?_
          refine lv_iconst (v := 2) hx hb dm_behind_104 (by decide) ?_
          refine lv_icmp_eq (tgt := 113) hx hb dm_behind_105 (by decide) (fun hc => ?_) (fun hc => ?_)
          · have h := (if_pos hc).symm.trans h
            exact J113 l2 (lv_sub hl [0, 2] rfl) hP hD hS h
          · have h := (if_neg hc).symm.trans h
            refine lv_iload_n hx hb dm_behind_108 rfl (lv_at hl 2 rfl) ?_
            refine lv_iconst (v := 4) hx hb dm_behind_109 (by decide) ?_
            refine lv_icmp_ne (tgt := 139) hx hb dm_behind_110 (by decide) (fun hc => ?_) (fun hc => ?_)
            · have h := (if_neg hc).symm.trans h
              exact J139 l1 l2 hl hP hD hS h
            · have h := (if_pos hc).symm.trans h
              exact J113 l2 (lv_sub hl [0, 2] rfl) hP hD hS h
      · have h := (if_pos hc).symm.trans h
        exact J86  (lv_sub hl [0] rfl) hP hD hS h
  have J44 : ∀ (l1 : Int32) (l2 : Int32) {f_want : Int32} {f_compared : Int32} {f_open : Int32} {ls : Array Slot} {H : Heap} {locs : List Loc}, lv_has ls 3 [(0, .ref (q 0)), (1, .int l1), (2, .int l2)] → va_P D hq_cl (hm_w q cI cZ cL f_classes a_parent f_objects a_kindOf a_size a_root a_slotKind a_slot a_kept f_count a_code a_number f_want f_compared f_open a_opened f_rowCount a_rowKind a_rowValue f_many a_list f_seen f_fail f_level a_from a_eAt a_whereAt a_source a_distinct a_keeps f_at f_self f_brackets f_values a_vKind a_v f_waiting a_waits ++ z) H → va_D A (hm_w q cI cZ cL f_classes a_parent f_objects a_kindOf a_size a_root a_slotKind a_slot a_kept f_count a_code a_number f_want f_compared f_open a_opened f_rowCount a_rowKind a_rowValue f_many a_list f_seen f_fail f_level a_from a_eAt a_whereAt a_source a_distinct a_keeps f_at f_self f_brackets f_values a_vKind a_v f_waiting a_waits ++ z) → va_S A s.heap H locs → sm_behind_J44 l1 l2 f_want f_compared f_open a_opened = some ur → W p l e R s m args below meth c H locs 0 0 Q (F0 m 44 ls []) := by
    intro l1 l2 f_want f_compared f_open ls H locs hl hP hD hS h
    unfold sm_behind_J44 at h
    refine lv_iload_n hx hb dm_behind_44 rfl (lv_at hl 1 rfl) ?_
    refine lv_bipush (v := 18) hx hb dm_behind_45 (by decide) ?_
    refine lv_icmp_lt (tgt := 74) hx hb dm_behind_47 (by decide) (fun hc => ?_) (fun hc => ?_)
    · have h := (if_pos hc).symm.trans h
      exact J74 l1 l2 hl hP hD hS h
    · have h := (if_neg hc).symm.trans h
      refine lv_iload_n hx hb dm_behind_50 rfl (lv_at hl 1 rfl) ?_
      refine lv_bipush (v := 20) hx hb dm_behind_51 (by decide) ?_
      refine lv_icmp_gt (tgt := 74) hx hb dm_behind_53 (by decide) (fun hc => ?_) (fun hc => ?_)
      · have h := (if_pos hc).symm.trans h
        exact J74 l1 l2 hl hP hD hS h
      · have h := (if_neg hc).symm.trans h
        refine lv_aload_n hx hb dm_behind_56 rfl (lv_at hl 0 rfl) ?_
        refine gm_0_compared hx hb hts hown hK hP wi_83 dm_behind_57 ?_
        refine lv_if_ne (tgt := 74) hx hb dm_behind_60 (by decide) (fun hc => ?_) (fun hc => ?_)
        · have h := (if_neg hc).symm.trans h
          exact J74 l1 l2 hl hP hD hS h
        · have h := (if_pos hc).symm.trans h
          refine lv_aload_n hx hb dm_behind_63 rfl (lv_at hl 0 rfl) ?_
          refine lv_iconst (v := 1) hx hb dm_behind_64 (by decide) ?_
          refine pm_0_compared hx hb hts hown hK hP hD hS wi_83 (by decide) dm_behind_65 (fun H locs hP hD hS => ?_)
          refine lv_aload_n hx hb dm_behind_68 rfl (lv_at hl 0 rfl) ?_
          refine lv_iconst (v := 4) hx hb dm_behind_69 (by decide) ?_
          refine km_becomes 4 (sm_becomes 4 f_want) rfl hx hb hml hts hown hK hP hD hS wi_86 (by rw [hRm]; exact ⟨Nat.le_of_ble_eq_true rfl, Nat.le_of_ble_eq_true rfl⟩) hl.1 (Nat.le_of_ble_eq_true rfl) dm_behind_70 ⟨Nat.zero_le _, Nat.zero_le _⟩ (fun H locs hP hD hS => ?_)
          obtain ⟨hz, h⟩ := hq_ok h
          have h := Option.some.inj h
          exact hq_zret hx hb hr hlocks hQ hK hP hD hS hz (by rw [← h]) (by rw [← h]) dm_behind_73
  refine lv_aload_n hx hb dm_behind_0 rfl (lv_at hl 0 rfl) ?_
  refine gm_0_opened hx hb hts hown hK hP wi_84 dm_behind_1 ?_
  refine lv_aload_n hx hb dm_behind_4 rfl (lv_at hl 0 rfl) ?_
  refine gm_0_open hx hb hts hown hK hP wi_82 dm_behind_5 ?_
  refine lv_iconst (v := 1) hx hb dm_behind_8 (by decide) ?_
  refine lv_isub hx hb dm_behind_9 ?_
  obtain ⟨hin, h⟩ := hq_idx h
  refine am_10 hx hb hK hP hin dm_behind_10 ?_
  refine lv_istore_n (lv' := [(2, .int (a_opened (f_open - 1).toNatClampNeg)), (0, .ref (q 0)), (1, .int l1)]) hx hb dm_behind_11 rfl hl (by decide) rfl (fun ls hl => ?_)
  refine lv_iload_n hx hb dm_behind_12 rfl (lv_at hl 2 rfl) ?_
  refine lv_bipush (v := 13) hx hb dm_behind_13 (by decide) ?_
  refine lv_icmp_eq (tgt := 24) hx hb dm_behind_15 (by decide) (fun hc => ?_) (fun hc => ?_)
  · have h := (if_pos hc).symm.trans h
    refine lv_iconst (v := 1) hx hb dm_behind_24 (by decide) ?_
    have h := Option.some.inj h
    exact hq_zret hx hb hr hlocks hQ hK hP hD hS (by decide) (by rw [← h]) (by rw [← h]) dm_behind_25
  · have h := (if_neg hc).symm.trans h
    refine lv_iload_n hx hb dm_behind_18 rfl (lv_at hl 2 rfl) ?_
    refine lv_bipush (v := 14) hx hb dm_behind_19 (by decide) ?_
    refine lv_icmp_ne (tgt := 26) hx hb dm_behind_21 (by decide) (fun hc => ?_) (fun hc => ?_)
    · have h := (if_neg hc).symm.trans h
      refine lv_iload_n hx hb dm_behind_26 rfl (lv_at hl 2 rfl) ?_
      refine lv_bipush (v := 21) hx hb dm_behind_27 (by decide) ?_
      refine lv_icmp_lt (tgt := 44) hx hb dm_behind_29 (by decide) (fun hc => ?_) (fun hc => ?_)
      · have h := (if_pos hc).symm.trans h
        exact J44 l1 (a_opened (f_open - 1).toNatClampNeg) (lv_sub hl [1, 2, 0] rfl) hP hD hS h
      · have h := (if_neg hc).symm.trans h
        refine lv_iload_n hx hb dm_behind_32 rfl (lv_at hl 2 rfl) ?_
        refine lv_bipush (v := 23) hx hb dm_behind_33 (by decide) ?_
        refine lv_icmp_gt (tgt := 44) hx hb dm_behind_35 (by decide) (fun hc => ?_) (fun hc => ?_)
        · have h := (if_pos hc).symm.trans h
          exact J44 l1 (a_opened (f_open - 1).toNatClampNeg) (lv_sub hl [1, 2, 0] rfl) hP hD hS h
        · have h := (if_neg hc).symm.trans h
          refine lv_aload_n hx hb dm_behind_38 rfl (lv_at hl 1 rfl) ?_
          refine lv_iconst (v := 4) hx hb dm_behind_39 (by decide) ?_
          refine km_becomes 4 (sm_becomes 4 f_want) rfl hx hb hml hts hown hK hP hD hS wi_86 (by rw [hRm]; exact ⟨Nat.le_of_ble_eq_true rfl, Nat.le_of_ble_eq_true rfl⟩) hl.1 (Nat.le_of_ble_eq_true rfl) dm_behind_40 ⟨Nat.zero_le _, Nat.zero_le _⟩ (fun H locs hP hD hS => ?_)
          obtain ⟨hz, h⟩ := hq_ok h
          have h := Option.some.inj h
          exact hq_zret hx hb hr hlocks hQ hK hP hD hS hz (by rw [← h]) (by rw [← h]) dm_behind_43
    · have h := (if_pos hc).symm.trans h
      refine lv_iconst (v := 1) hx hb dm_behind_24 (by decide) ?_
      have h := Option.some.inj h
      exact hq_zret hx hb hr hlocks hQ hK hP hD hS (by decide) (by rw [← h]) (by rw [← h]) dm_behind_25
end
section
variable {p : Program} {l : Launch} {e : Env} {R : Room} {s : State} {m : MethodId} {args : Array Value} {below : List Frame} {meth : Method} {c : Code} {H H0 : Heap} {locs : List Loc} {cells slots : Nat} {Q : State → Prop}
variable {cc : ByteArray} {pc idx nC : Nat} {ls : Array Slot} {rest : List Value} {D : va_G} {A : Nat → Prop} {own : String} {q : Nat → Nat} {cI cZ cL : ClassId} {z w : va_W}
variable {f_classes f_objects f_count f_want f_compared f_open f_rowCount f_many f_seen f_fail f_level f_at f_self f_brackets f_values f_waiting : Int32}
variable {a_parent a_kindOf a_size a_root a_slotKind a_slot a_kept a_code a_number a_opened a_rowKind a_rowValue a_list a_from a_eAt a_whereAt a_source a_distinct a_keeps a_vKind a_v a_waits : Nat → Int32}
theorem km_behind (l1 : Int32) (ur : Int32 × Int32 × Int32 × Int32) (hu : sm_behind l1 f_want f_compared f_open a_opened = some ur) (hx : p.tables.exec = Jvm.exec) (hb : c.code = cc) (hml : c.maxLocals = nC) (hts : ∀ x ∈ hq_tbl, x.before args s = true) (hown : s.vm.findClass own = some m.cls) (hK : va_K D hq_cl (hq_tys cI cZ cL) s) (hP : va_P D hq_cl (hm_w q cI cZ cL f_classes a_parent f_objects a_kindOf a_size a_root a_slotKind a_slot a_kept f_count a_code a_number f_want f_compared f_open a_opened f_rowCount a_rowKind a_rowValue f_many a_list f_seen f_fail f_level a_from a_eAt a_whereAt a_source a_distinct a_keeps f_at f_self f_brackets f_values a_vKind a_v f_waiting a_waits ++ z) H) (hD : va_D A (hm_w q cI cZ cL f_classes a_parent f_objects a_kindOf a_size a_root a_slotKind a_slot a_kept f_count a_code a_number f_want f_compared f_open a_opened f_rowCount a_rowKind a_rowValue f_many a_list f_seen f_fail f_level a_from a_eAt a_whereAt a_source a_distinct a_keeps f_at f_self f_brackets f_values a_vKind a_v f_waiting a_waits ++ z)) (hS : va_S A H0 H locs) (h1 : Cond.methodLink own idx ym_behind ∈ hq_tbl) (hR : 2 + 1 ≤ R.frames ∧ 8 + (3 + 11) + 42 ≤ R.locals) (hls : ls.size = nC) (hW : (rest.map fun v => v.category).sum ≤ 8) (hdg : decode cc pc = .ok (.invokevirtual idx, 3)) (hf : cells + 0 ≤ R.cells ∧ slots + 0 ≤ R.slots) (kk : ∀ (H1 : Heap) (locs1 : List Loc), va_P D hq_cl (hm_w q cI cZ cL f_classes a_parent f_objects a_kindOf a_size a_root a_slotKind a_slot a_kept f_count a_code a_number ur.2.1 ur.2.2.1 ur.2.2.2 a_opened f_rowCount a_rowKind a_rowValue f_many a_list f_seen f_fail f_level a_from a_eAt a_whereAt a_source a_distinct a_keeps f_at f_self f_brackets f_values a_vKind a_v f_waiting a_waits ++ z) H1 → va_D A (hm_w q cI cZ cL f_classes a_parent f_objects a_kindOf a_size a_root a_slotKind a_slot a_kept f_count a_code a_number ur.2.1 ur.2.2.1 ur.2.2.2 a_opened f_rowCount a_rowKind a_rowValue f_many a_list f_seen f_fail f_level a_from a_eAt a_whereAt a_source a_distinct a_keeps f_at f_self f_brackets f_values a_vKind a_v f_waiting a_waits ++ z) → va_S A H0 H1 locs1 → W p l e R s m args below meth c H1 locs1 cells slots Q (F0 m (pc + 3) ls (.int ur.1 :: rest))) : W p l e R s m args below meth c H locs cells slots Q (F0 m pc ls (.int l1 :: .ref (q 0) :: rest)) :=
  hq_callV (q0 := 0) hx hb hml hown hts hK hP hD hS (cm_behind l1 ur hu) rfl rfl h1 wi_388 wi_389 wi_338 wi_390 1 rfl (by decide +kernel) ⟨rfl, rfl⟩ hR hls rfl hW hdg hf kk
end
theorem dm_step_0 : decode bm_step 0 = .ok (.aload_n 0, 1) := by decide +kernel
theorem dm_step_1 : decode bm_step 1 = .ok (.getfield 105, 3) := by decide +kernel
theorem dm_step_4 : decode bm_step 4 = .ok (.ifCond .ne 23, 3) := by decide +kernel
theorem dm_step_7 : decode bm_step 7 = .ok (.iload_n 1, 1) := by decide +kernel
theorem dm_step_8 : decode bm_step 8 = .ok (.ifCond .ne 19, 3) := by decide +kernel
theorem dm_step_11 : decode bm_step 11 = .ok (.aload_n 0, 1) := by decide +kernel
theorem dm_step_12 : decode bm_step 12 = .ok (.iconst 0, 1) := by decide +kernel
theorem dm_step_13 : decode bm_step 13 = .ok (.invokevirtual 115, 3) := by decide +kernel
theorem dm_step_16 : decode bm_step 16 = .ok (.aload_n 0, 1) := by decide +kernel
theorem dm_step_17 : decode bm_step 17 = .ok (.iconst 0, 1) := by decide +kernel
theorem dm_step_18 : decode bm_step 18 = .ok (.putfield 111, 3) := by decide +kernel
theorem dm_step_21 : decode bm_step 21 = .ok (.aload_n 0, 1) := by decide +kernel
theorem dm_step_22 : decode bm_step 22 = .ok (.iconst 1, 1) := by decide +kernel
theorem dm_step_23 : decode bm_step 23 = .ok (.invokevirtual 119, 3) := by decide +kernel
theorem dm_step_26 : decode bm_step 26 = .ok (.ireturn, 1) := by decide +kernel
theorem dm_step_27 : decode bm_step 27 = .ok (.aload_n 0, 1) := by decide +kernel
theorem dm_step_28 : decode bm_step 28 = .ok (.getfield 105, 3) := by decide +kernel
theorem dm_step_31 : decode bm_step 31 = .ok (.iconst 1, 1) := by decide +kernel
theorem dm_step_32 : decode bm_step 32 = .ok (.if_icmp .lt 17, 3) := by decide +kernel
theorem dm_step_35 : decode bm_step 35 = .ok (.aload_n 0, 1) := by decide +kernel
theorem dm_step_36 : decode bm_step 36 = .ok (.getfield 105, 3) := by decide +kernel
theorem dm_step_39 : decode bm_step 39 = .ok (.iconst 4, 1) := by decide +kernel
theorem dm_step_40 : decode bm_step 40 = .ok (.if_icmp .gt 9, 3) := by decide +kernel
theorem dm_step_43 : decode bm_step 43 = .ok (.aload_n 0, 1) := by decide +kernel
theorem dm_step_44 : decode bm_step 44 = .ok (.iload_n 1, 1) := by decide +kernel
theorem dm_step_45 : decode bm_step 45 = .ok (.invokevirtual 122, 3) := by decide +kernel
theorem dm_step_48 : decode bm_step 48 = .ok (.ireturn, 1) := by decide +kernel
theorem dm_step_49 : decode bm_step 49 = .ok (.aload_n 0, 1) := by decide +kernel
theorem dm_step_50 : decode bm_step 50 = .ok (.getfield 105, 3) := by decide +kernel
theorem dm_step_53 : decode bm_step 53 = .ok (.iconst 5, 1) := by decide +kernel
theorem dm_step_54 : decode bm_step 54 = .ok (.if_icmp .ne 9, 3) := by decide +kernel
theorem dm_step_57 : decode bm_step 57 = .ok (.aload_n 0, 1) := by decide +kernel
theorem dm_step_58 : decode bm_step 58 = .ok (.iload_n 1, 1) := by decide +kernel
theorem dm_step_59 : decode bm_step 59 = .ok (.invokevirtual 125, 3) := by decide +kernel
theorem dm_step_62 : decode bm_step 62 = .ok (.ireturn, 1) := by decide +kernel
theorem dm_step_63 : decode bm_step 63 = .ok (.aload_n 0, 1) := by decide +kernel
theorem dm_step_64 : decode bm_step 64 = .ok (.getfield 105, 3) := by decide +kernel
theorem dm_step_67 : decode bm_step 67 = .ok (.bipush 6, 2) := by decide +kernel
theorem dm_step_69 : decode bm_step 69 = .ok (.if_icmp .ne 20, 3) := by decide +kernel
theorem dm_step_72 : decode bm_step 72 = .ok (.iload_n 1, 1) := by decide +kernel
theorem dm_step_73 : decode bm_step 73 = .ok (.bipush 6, 2) := by decide +kernel
theorem dm_step_75 : decode bm_step 75 = .ok (.if_icmp .ne 14, 3) := by decide +kernel
theorem dm_step_78 : decode bm_step 78 = .ok (.aload_n 0, 1) := by decide +kernel
theorem dm_step_79 : decode bm_step 79 = .ok (.iconst 3, 1) := by decide +kernel
theorem dm_step_80 : decode bm_step 80 = .ok (.invokevirtual 115, 3) := by decide +kernel
theorem dm_step_83 : decode bm_step 83 = .ok (.aload_n 0, 1) := by decide +kernel
theorem dm_step_84 : decode bm_step 84 = .ok (.iconst 0, 1) := by decide +kernel
theorem dm_step_85 : decode bm_step 85 = .ok (.invokevirtual 119, 3) := by decide +kernel
theorem dm_step_88 : decode bm_step 88 = .ok (.ireturn, 1) := by decide +kernel
theorem dm_step_89 : decode bm_step 89 = .ok (.aload_n 0, 1) := by decide +kernel
theorem dm_step_90 : decode bm_step 90 = .ok (.getfield 105, 3) := by decide +kernel
theorem dm_step_93 : decode bm_step 93 = .ok (.bipush 6, 2) := by decide +kernel
theorem dm_step_95 : decode bm_step 95 = .ok (.if_icmp .ne 22, 3) := by decide +kernel
theorem dm_step_98 : decode bm_step 98 = .ok (.iload_n 1, 1) := by decide +kernel
theorem dm_step_99 : decode bm_step 99 = .ok (.bipush 8, 2) := by decide +kernel
theorem dm_step_101 : decode bm_step 101 = .ok (.if_icmp .eq 9, 3) := by decide +kernel
theorem dm_step_104 : decode bm_step 104 = .ok (.iload_n 1, 1) := by decide +kernel
theorem dm_step_105 : decode bm_step 105 = .ok (.bipush 9, 2) := by decide +kernel
theorem dm_step_107 : decode bm_step 107 = .ok (.if_icmp .ne 10, 3) := by decide +kernel
theorem dm_step_110 : decode bm_step 110 = .ok (.aload_n 0, 1) := by decide +kernel
theorem dm_step_111 : decode bm_step 111 = .ok (.bipush 7, 2) := by decide +kernel
theorem dm_step_113 : decode bm_step 113 = .ok (.invokevirtual 119, 3) := by decide +kernel
theorem dm_step_116 : decode bm_step 116 = .ok (.ireturn, 1) := by decide +kernel
theorem dm_step_117 : decode bm_step 117 = .ok (.aload_n 0, 1) := by decide +kernel
theorem dm_step_118 : decode bm_step 118 = .ok (.getfield 105, 3) := by decide +kernel
theorem dm_step_121 : decode bm_step 121 = .ok (.bipush 7, 2) := by decide +kernel
theorem dm_step_123 : decode bm_step 123 = .ok (.if_icmp .ne 24, 3) := by decide +kernel
theorem dm_step_126 : decode bm_step 126 = .ok (.iload_n 1, 1) := by decide +kernel
theorem dm_step_127 : decode bm_step 127 = .ok (.iconst 4, 1) := by decide +kernel
theorem dm_step_128 : decode bm_step 128 = .ok (.if_icmp .ne 19, 3) := by decide +kernel
theorem dm_step_131 : decode bm_step 131 = .ok (.aload_n 0, 1) := by decide +kernel
theorem dm_step_132 : decode bm_step 132 = .ok (.iconst 1, 1) := by decide +kernel
theorem dm_step_133 : decode bm_step 133 = .ok (.invokevirtual 115, 3) := by decide +kernel
theorem dm_step_136 : decode bm_step 136 = .ok (.aload_n 0, 1) := by decide +kernel
theorem dm_step_137 : decode bm_step 137 = .ok (.iconst 0, 1) := by decide +kernel
theorem dm_step_138 : decode bm_step 138 = .ok (.putfield 111, 3) := by decide +kernel
theorem dm_step_141 : decode bm_step 141 = .ok (.aload_n 0, 1) := by decide +kernel
theorem dm_step_142 : decode bm_step 142 = .ok (.iconst 3, 1) := by decide +kernel
theorem dm_step_143 : decode bm_step 143 = .ok (.invokevirtual 119, 3) := by decide +kernel
theorem dm_step_146 : decode bm_step 146 = .ok (.ireturn, 1) := by decide +kernel
theorem dm_step_147 : decode bm_step 147 = .ok (.aload_n 0, 1) := by decide +kernel
theorem dm_step_148 : decode bm_step 148 = .ok (.getfield 105, 3) := by decide +kernel
theorem dm_step_151 : decode bm_step 151 = .ok (.bipush 7, 2) := by decide +kernel
theorem dm_step_153 : decode bm_step 153 = .ok (.if_icmp .ne 15, 3) := by decide +kernel
theorem dm_step_156 : decode bm_step 156 = .ok (.aload_n 0, 1) := by decide +kernel
theorem dm_step_157 : decode bm_step 157 = .ok (.iload_n 1, 1) := by decide +kernel
theorem dm_step_158 : decode bm_step 158 = .ok (.invokevirtual 128, 3) := by decide +kernel
theorem dm_step_161 : decode bm_step 161 = .ok (.ifCond .eq 7, 3) := by decide +kernel
theorem dm_step_164 : decode bm_step 164 = .ok (.iconst 1, 1) := by decide +kernel
theorem dm_step_165 : decode bm_step 165 = .ok (.goto 4, 3) := by decide +kernel
theorem dm_step_168 : decode bm_step 168 = .ok (.iconst 0, 1) := by decide +kernel
theorem dm_step_169 : decode bm_step 169 = .ok (.ireturn, 1) := by decide +kernel
section
variable {l : Launch} {D : va_G} {A : Nat → Prop} {z w : va_W} {q : Nat → Nat} {cI cZ cL : ClassId}
variable {f_classes f_objects f_count f_want f_compared f_open f_rowCount f_many f_seen f_fail f_level f_at f_self f_brackets f_values f_waiting : Int32}
variable {a_parent a_kindOf a_size a_root a_slotKind a_slot a_kept a_code a_number a_opened a_rowKind a_rowValue a_list a_from a_eAt a_whereAt a_source a_distinct a_keeps a_vKind a_v a_waits : Nat → Int32}
set_option maxHeartbeats 4000000 in
set_option maxRecDepth 100000 in
theorem cm_step (l1 : Int32) (ur : Int32 × Int32 × Int32 × Int32 × (Nat → Int32)) (h : sm_step l1 f_want f_compared f_open a_opened = some ur) : hq_Ct l ym_step bm_step 2 (some .boolean) { frames := 3, cells := 0, slots := 0, locals := 64 } D (hq_tys cI cZ cL) A [.ref (q 0), .int l1] (hm_w q cI cZ cL f_classes a_parent f_objects a_kindOf a_size a_root a_slotKind a_slot a_kept f_count a_code a_number f_want f_compared f_open a_opened f_rowCount a_rowKind a_rowValue f_many a_list f_seen f_fail f_level a_from a_eAt a_whereAt a_source a_distinct a_keeps f_at f_self f_brackets f_values a_vKind a_v f_waiting a_waits ++ z) (hm_w q cI cZ cL f_classes a_parent f_objects a_kindOf a_size a_root a_slotKind a_slot a_kept f_count a_code a_number ur.2.1 ur.2.2.1 ur.2.2.2.1 ur.2.2.2.2 f_rowCount a_rowKind a_rowValue f_many a_list f_seen f_fail f_level a_from a_eAt a_whereAt a_source a_distinct a_keeps f_at f_self f_brackets f_values a_vKind a_v f_waiting a_waits ++ z) (some (.int ur.1)) 0 0 := by
  refine hq_of (by decide) ?_ (Nat.le_of_ble_eq_true rfl)
  intro p e s m below meth c R args Q hRm hQ hx hb hr hml hts hown hlocks hnm hP hK hD ls hl hS
  have hl : lv_has ls 2 [(0, .ref (q 0)), (1, .int l1)] := hl
  have hown : s.vm.findClass "HeapQueriesModel" = some m.cls := hown
  unfold sm_step at h
  have J147 : ∀ (l1 : Int32) {f_want : Int32} {f_compared : Int32} {f_open : Int32} {a_opened : Nat → Int32} {ls : Array Slot} {H : Heap} {locs : List Loc}, lv_has ls 2 [(0, .ref (q 0)), (1, .int l1)] → va_P D hq_cl (hm_w q cI cZ cL f_classes a_parent f_objects a_kindOf a_size a_root a_slotKind a_slot a_kept f_count a_code a_number f_want f_compared f_open a_opened f_rowCount a_rowKind a_rowValue f_many a_list f_seen f_fail f_level a_from a_eAt a_whereAt a_source a_distinct a_keeps f_at f_self f_brackets f_values a_vKind a_v f_waiting a_waits ++ z) H → va_D A (hm_w q cI cZ cL f_classes a_parent f_objects a_kindOf a_size a_root a_slotKind a_slot a_kept f_count a_code a_number f_want f_compared f_open a_opened f_rowCount a_rowKind a_rowValue f_many a_list f_seen f_fail f_level a_from a_eAt a_whereAt a_source a_distinct a_keeps f_at f_self f_brackets f_values a_vKind a_v f_waiting a_waits ++ z) → va_S A s.heap H locs → sm_step_J147 l1 f_want f_compared f_open a_opened = some ur → W p l e R s m args below meth c H locs 0 0 Q (F0 m 147 ls []) := by
    intro l1 f_want f_compared f_open a_opened ls H locs hl hP hD hS h
    unfold sm_step_J147 at h
    refine lv_aload_n hx hb dm_step_147 rfl (lv_at hl 0 rfl) ?_
    refine gm_0_want hx hb hts hown hK hP wi_81 dm_step_148 ?_
    refine lv_bipush (v := 7) hx hb dm_step_151 (by decide) ?_
    refine lv_icmp_ne (tgt := 168) hx hb dm_step_153 (by decide) (fun hc => ?_) (fun hc => ?_)
    · have h := (if_neg hc).symm.trans h
      refine lv_iconst (v := 0) hx hb dm_step_168 (by decide) ?_
      have h := Option.some.inj h
      exact hq_zret hx hb hr hlocks hQ hK hP hD hS (by decide) (by rw [← h]) (by rw [← h]) dm_step_169
    · have h := (if_pos hc).symm.trans h
      refine lv_aload_n hx hb dm_step_156 rfl (lv_at hl 0 rfl) ?_
      refine lv_iload_n hx hb dm_step_157 rfl (lv_at hl 1 rfl) ?_
      obtain ⟨v158, h158, h⟩ := hq_bind h
      refine km_ends l1 v158 h158 hx hb hml hts hown hK hP hD hS wi_87 (by rw [hRm]; exact ⟨Nat.le_of_ble_eq_true rfl, Nat.le_of_ble_eq_true rfl⟩) hl.1 (Nat.le_of_ble_eq_true rfl) dm_step_158 ⟨Nat.zero_le _, Nat.zero_le _⟩ (fun H locs hP hD hS => ?_)
      refine lv_if_eq (tgt := 168) hx hb dm_step_161 (by decide) (fun hc => ?_) (fun hc => ?_)
      · have h := (if_pos hc).symm.trans h
        refine lv_iconst (v := 0) hx hb dm_step_168 (by decide) ?_
        have h := Option.some.inj h
        exact hq_zret hx hb hr hlocks hQ hK hP hD hS (by decide) (by rw [← h]) (by rw [← h]) dm_step_169
      · have h := (if_neg hc).symm.trans h
        refine lv_iconst (v := 1) hx hb dm_step_164 (by decide) ?_
        refine lv_goto (tgt := 169) hx hb dm_step_165 (by decide) ?_
        have h := Option.some.inj h
        exact hq_zret hx hb hr hlocks hQ hK hP hD hS (by decide) (by rw [← h]) (by rw [← h]) dm_step_169
  have J117 : ∀ (l1 : Int32) {f_want : Int32} {f_compared : Int32} {f_open : Int32} {a_opened : Nat → Int32} {ls : Array Slot} {H : Heap} {locs : List Loc}, lv_has ls 2 [(0, .ref (q 0)), (1, .int l1)] → va_P D hq_cl (hm_w q cI cZ cL f_classes a_parent f_objects a_kindOf a_size a_root a_slotKind a_slot a_kept f_count a_code a_number f_want f_compared f_open a_opened f_rowCount a_rowKind a_rowValue f_many a_list f_seen f_fail f_level a_from a_eAt a_whereAt a_source a_distinct a_keeps f_at f_self f_brackets f_values a_vKind a_v f_waiting a_waits ++ z) H → va_D A (hm_w q cI cZ cL f_classes a_parent f_objects a_kindOf a_size a_root a_slotKind a_slot a_kept f_count a_code a_number f_want f_compared f_open a_opened f_rowCount a_rowKind a_rowValue f_many a_list f_seen f_fail f_level a_from a_eAt a_whereAt a_source a_distinct a_keeps f_at f_self f_brackets f_values a_vKind a_v f_waiting a_waits ++ z) → va_S A s.heap H locs → sm_step_J117 l1 f_want f_compared f_open a_opened = some ur → W p l e R s m args below meth c H locs 0 0 Q (F0 m 117 ls []) := by
    intro l1 f_want f_compared f_open a_opened ls H locs hl hP hD hS h
    unfold sm_step_J117 at h
    refine lv_aload_n hx hb dm_step_117 rfl (lv_at hl 0 rfl) ?_
    refine gm_0_want hx hb hts hown hK hP wi_81 dm_step_118 ?_
    refine lv_bipush (v := 7) hx hb dm_step_121 (by decide) ?_
    refine lv_icmp_ne (tgt := 147) hx hb dm_step_123 (by decide) (fun hc => ?_) (fun hc => ?_)
    · have h := (if_neg hc).symm.trans h
      exact J147 l1 hl hP hD hS h
    · have h := (if_pos hc).symm.trans h
      refine lv_iload_n hx hb dm_step_126 rfl (lv_at hl 1 rfl) ?_
      refine lv_iconst (v := 4) hx hb dm_step_127 (by decide) ?_
      refine lv_icmp_ne (tgt := 147) hx hb dm_step_128 (by decide) (fun hc => ?_) (fun hc => ?_)
      · have h := (if_neg hc).symm.trans h
        exact J147 l1 hl hP hD hS h
      · have h := (if_pos hc).symm.trans h
        refine lv_aload_n hx hb dm_step_131 rfl (lv_at hl 0 rfl) ?_
        refine lv_iconst (v := 1) hx hb dm_step_132 (by decide) ?_
        obtain ⟨v133, h133, h⟩ := hq_bind h
        refine km_push 1 v133 h133 hx hb hml hts hown hK hP hD hS wi_85 (by rw [hRm]; exact ⟨Nat.le_of_ble_eq_true rfl, Nat.le_of_ble_eq_true rfl⟩) hl.1 (Nat.le_of_ble_eq_true rfl) dm_step_133 ⟨Nat.zero_le _, Nat.zero_le _⟩ (fun H locs hP hD hS => ?_)
        refine lv_aload_n hx hb dm_step_136 rfl (lv_at hl 0 rfl) ?_
        refine lv_iconst (v := 0) hx hb dm_step_137 (by decide) ?_
        refine pm_0_compared hx hb hts hown hK hP hD hS wi_83 (by decide) dm_step_138 (fun H locs hP hD hS => ?_)
        refine lv_aload_n hx hb dm_step_141 rfl (lv_at hl 0 rfl) ?_
        refine lv_iconst (v := 3) hx hb dm_step_142 (by decide) ?_
        refine km_becomes 3 (sm_becomes 3 f_want) rfl hx hb hml hts hown hK hP hD hS wi_86 (by rw [hRm]; exact ⟨Nat.le_of_ble_eq_true rfl, Nat.le_of_ble_eq_true rfl⟩) hl.1 (Nat.le_of_ble_eq_true rfl) dm_step_143 ⟨Nat.zero_le _, Nat.zero_le _⟩ (fun H locs hP hD hS => ?_)
        obtain ⟨hz, h⟩ := hq_ok h
        have h := Option.some.inj h
        exact hq_zret hx hb hr hlocks hQ hK hP hD hS hz (by rw [← h]) (by rw [← h]) dm_step_146
  have J89 : ∀ (l1 : Int32) {f_want : Int32} {f_compared : Int32} {f_open : Int32} {a_opened : Nat → Int32} {ls : Array Slot} {H : Heap} {locs : List Loc}, lv_has ls 2 [(0, .ref (q 0)), (1, .int l1)] → va_P D hq_cl (hm_w q cI cZ cL f_classes a_parent f_objects a_kindOf a_size a_root a_slotKind a_slot a_kept f_count a_code a_number f_want f_compared f_open a_opened f_rowCount a_rowKind a_rowValue f_many a_list f_seen f_fail f_level a_from a_eAt a_whereAt a_source a_distinct a_keeps f_at f_self f_brackets f_values a_vKind a_v f_waiting a_waits ++ z) H → va_D A (hm_w q cI cZ cL f_classes a_parent f_objects a_kindOf a_size a_root a_slotKind a_slot a_kept f_count a_code a_number f_want f_compared f_open a_opened f_rowCount a_rowKind a_rowValue f_many a_list f_seen f_fail f_level a_from a_eAt a_whereAt a_source a_distinct a_keeps f_at f_self f_brackets f_values a_vKind a_v f_waiting a_waits ++ z) → va_S A s.heap H locs → sm_step_J89 l1 f_want f_compared f_open a_opened = some ur → W p l e R s m args below meth c H locs 0 0 Q (F0 m 89 ls []) := by
    intro l1 f_want f_compared f_open a_opened ls H locs hl hP hD hS h
    unfold sm_step_J89 at h
    refine lv_aload_n hx hb dm_step_89 rfl (lv_at hl 0 rfl) ?_
    refine gm_0_want hx hb hts hown hK hP wi_81 dm_step_90 ?_
    refine lv_bipush (v := 6) hx hb dm_step_93 (by decide) ?_
    refine lv_icmp_ne (tgt := 117) hx hb dm_step_95 (by decide) (fun hc => ?_) (fun hc => ?_)
    · have h := (if_neg hc).symm.trans h
      exact J117 l1 hl hP hD hS h
    · have h := (if_pos hc).symm.trans h
      refine lv_iload_n hx hb dm_step_98 rfl (lv_at hl 1 rfl) ?_
      refine lv_bipush (v := 8) hx hb dm_step_99 (by decide) ?_
      refine lv_icmp_eq (tgt := 110) hx hb dm_step_101 (by decide) (fun hc => ?_) (fun hc => ?_)
      · have h := (if_pos hc).symm.trans h
        refine lv_aload_n hx hb dm_step_110 rfl (lv_at hl 0 rfl) ?_
        refine lv_bipush (v := 7) hx hb dm_step_111 (by decide) ?_
        refine km_becomes 7 (sm_becomes 7 f_want) rfl hx hb hml hts hown hK hP hD hS wi_86 (by rw [hRm]; exact ⟨Nat.le_of_ble_eq_true rfl, Nat.le_of_ble_eq_true rfl⟩) hl.1 (Nat.le_of_ble_eq_true rfl) dm_step_113 ⟨Nat.zero_le _, Nat.zero_le _⟩ (fun H locs hP hD hS => ?_)
        obtain ⟨hz, h⟩ := hq_ok h
        have h := Option.some.inj h
        exact hq_zret hx hb hr hlocks hQ hK hP hD hS hz (by rw [← h]) (by rw [← h]) dm_step_116
      · have h := (if_neg hc).symm.trans h
        refine lv_iload_n hx hb dm_step_104 rfl (lv_at hl 1 rfl) ?_
        refine lv_bipush (v := 9) hx hb dm_step_105 (by decide) ?_
        refine lv_icmp_ne (tgt := 117) hx hb dm_step_107 (by decide) (fun hc => ?_) (fun hc => ?_)
        · have h := (if_neg hc).symm.trans h
          exact J117 l1 hl hP hD hS h
        · have h := (if_pos hc).symm.trans h
          refine lv_aload_n hx hb dm_step_110 rfl (lv_at hl 0 rfl) ?_
          refine lv_bipush (v := 7) hx hb dm_step_111 (by decide) ?_
          refine km_becomes 7 (sm_becomes 7 f_want) rfl hx hb hml hts hown hK hP hD hS wi_86 (by rw [hRm]; exact ⟨Nat.le_of_ble_eq_true rfl, Nat.le_of_ble_eq_true rfl⟩) hl.1 (Nat.le_of_ble_eq_true rfl) dm_step_113 ⟨Nat.zero_le _, Nat.zero_le _⟩ (fun H locs hP hD hS => ?_)
          obtain ⟨hz, h⟩ := hq_ok h
          have h := Option.some.inj h
          exact hq_zret hx hb hr hlocks hQ hK hP hD hS hz (by rw [← h]) (by rw [← h]) dm_step_116
  have J49 : ∀ (l1 : Int32) {f_want : Int32} {f_compared : Int32} {f_open : Int32} {a_opened : Nat → Int32} {ls : Array Slot} {H : Heap} {locs : List Loc}, lv_has ls 2 [(0, .ref (q 0)), (1, .int l1)] → va_P D hq_cl (hm_w q cI cZ cL f_classes a_parent f_objects a_kindOf a_size a_root a_slotKind a_slot a_kept f_count a_code a_number f_want f_compared f_open a_opened f_rowCount a_rowKind a_rowValue f_many a_list f_seen f_fail f_level a_from a_eAt a_whereAt a_source a_distinct a_keeps f_at f_self f_brackets f_values a_vKind a_v f_waiting a_waits ++ z) H → va_D A (hm_w q cI cZ cL f_classes a_parent f_objects a_kindOf a_size a_root a_slotKind a_slot a_kept f_count a_code a_number f_want f_compared f_open a_opened f_rowCount a_rowKind a_rowValue f_many a_list f_seen f_fail f_level a_from a_eAt a_whereAt a_source a_distinct a_keeps f_at f_self f_brackets f_values a_vKind a_v f_waiting a_waits ++ z) → va_S A s.heap H locs → sm_step_J49 l1 f_want f_compared f_open a_opened = some ur → W p l e R s m args below meth c H locs 0 0 Q (F0 m 49 ls []) := by
    intro l1 f_want f_compared f_open a_opened ls H locs hl hP hD hS h
    unfold sm_step_J49 at h
    refine lv_aload_n hx hb dm_step_49 rfl (lv_at hl 0 rfl) ?_
    refine gm_0_want hx hb hts hown hK hP wi_81 dm_step_50 ?_
    refine lv_iconst (v := 5) hx hb dm_step_53 (by decide) ?_
    refine lv_icmp_ne (tgt := 63) hx hb dm_step_54 (by decide) (fun hc => ?_) (fun hc => ?_)
    · have h := (if_neg hc).symm.trans h
      refine lv_aload_n hx hb dm_step_63 rfl (lv_at hl 0 rfl) ?_
      refine gm_0_want hx hb hts hown hK hP wi_81 dm_step_64 ?_
      refine lv_bipush (v := 6) hx hb dm_step_67 (by decide) ?_
      refine lv_icmp_ne (tgt := 89) hx hb dm_step_69 (by decide) (fun hc => ?_) (fun hc => ?_)
      · have h := (if_neg hc).symm.trans h
        exact J89 l1 hl hP hD hS h
      · have h := (if_pos hc).symm.trans h
        refine lv_iload_n hx hb dm_step_72 rfl (lv_at hl 1 rfl) ?_
        refine lv_bipush (v := 6) hx hb dm_step_73 (by decide) ?_
        refine lv_icmp_ne (tgt := 89) hx hb dm_step_75 (by decide) (fun hc => ?_) (fun hc => ?_)
        · have h := (if_neg hc).symm.trans h
          exact J89 l1 hl hP hD hS h
        · have h := (if_pos hc).symm.trans h
          refine lv_aload_n hx hb dm_step_78 rfl (lv_at hl 0 rfl) ?_
          refine lv_iconst (v := 3) hx hb dm_step_79 (by decide) ?_
          obtain ⟨v80, h80, h⟩ := hq_bind h
          refine km_push 3 v80 h80 hx hb hml hts hown hK hP hD hS wi_85 (by rw [hRm]; exact ⟨Nat.le_of_ble_eq_true rfl, Nat.le_of_ble_eq_true rfl⟩) hl.1 (Nat.le_of_ble_eq_true rfl) dm_step_80 ⟨Nat.zero_le _, Nat.zero_le _⟩ (fun H locs hP hD hS => ?_)
          refine lv_aload_n hx hb dm_step_83 rfl (lv_at hl 0 rfl) ?_
          refine lv_iconst (v := 0) hx hb dm_step_84 (by decide) ?_
          refine km_becomes 0 (sm_becomes 0 f_want) rfl hx hb hml hts hown hK hP hD hS wi_86 (by rw [hRm]; exact ⟨Nat.le_of_ble_eq_true rfl, Nat.le_of_ble_eq_true rfl⟩) hl.1 (Nat.le_of_ble_eq_true rfl) dm_step_85 ⟨Nat.zero_le _, Nat.zero_le _⟩ (fun H locs hP hD hS => ?_)
          obtain ⟨hz, h⟩ := hq_ok h
          have h := Option.some.inj h
          exact hq_zret hx hb hr hlocks hQ hK hP hD hS hz (by rw [← h]) (by rw [← h]) dm_step_88
    · have h := (if_pos hc).symm.trans h
      refine lv_aload_n hx hb dm_step_57 rfl (lv_at hl 0 rfl) ?_
      refine lv_iload_n hx hb dm_step_58 rfl (lv_at hl 1 rfl) ?_
      obtain ⟨v59, h59, h⟩ := hq_bind h
      refine km_behind l1 v59 h59 hx hb hml hts hown hK hP hD hS wi_88 (by rw [hRm]; exact ⟨Nat.le_of_ble_eq_true rfl, Nat.le_of_ble_eq_true rfl⟩) hl.1 (Nat.le_of_ble_eq_true rfl) dm_step_59 ⟨Nat.zero_le _, Nat.zero_le _⟩ (fun H locs hP hD hS => ?_)
      obtain ⟨hz, h⟩ := hq_ok h
      have h := Option.some.inj h
      exact hq_zret hx hb hr hlocks hQ hK hP hD hS hz (by rw [← h]) (by rw [← h]) dm_step_62
  have J27 : ∀ (l1 : Int32) {f_want : Int32} {f_compared : Int32} {f_open : Int32} {a_opened : Nat → Int32} {ls : Array Slot} {H : Heap} {locs : List Loc}, lv_has ls 2 [(0, .ref (q 0)), (1, .int l1)] → va_P D hq_cl (hm_w q cI cZ cL f_classes a_parent f_objects a_kindOf a_size a_root a_slotKind a_slot a_kept f_count a_code a_number f_want f_compared f_open a_opened f_rowCount a_rowKind a_rowValue f_many a_list f_seen f_fail f_level a_from a_eAt a_whereAt a_source a_distinct a_keeps f_at f_self f_brackets f_values a_vKind a_v f_waiting a_waits ++ z) H → va_D A (hm_w q cI cZ cL f_classes a_parent f_objects a_kindOf a_size a_root a_slotKind a_slot a_kept f_count a_code a_number f_want f_compared f_open a_opened f_rowCount a_rowKind a_rowValue f_many a_list f_seen f_fail f_level a_from a_eAt a_whereAt a_source a_distinct a_keeps f_at f_self f_brackets f_values a_vKind a_v f_waiting a_waits ++ z) → va_S A s.heap H locs → sm_step_J27 l1 f_want f_compared f_open a_opened = some ur → W p l e R s m args below meth c H locs 0 0 Q (F0 m 27 ls []) := by
    intro l1 f_want f_compared f_open a_opened ls H locs hl hP hD hS h
    unfold sm_step_J27 at h
    refine lv_aload_n hx hb dm_step_27 rfl (lv_at hl 0 rfl) ?_
    refine gm_0_want hx hb hts hown hK hP wi_81 dm_step_28 ?_
    refine lv_iconst (v := 1) hx hb dm_step_31 (by decide) ?_
    refine lv_icmp_lt (tgt := 49) hx hb dm_step_32 (by decide) (fun hc => ?_) (fun hc => ?_)
    · have h := (if_pos hc).symm.trans h
      exact J49 l1 hl hP hD hS h
    · have h := (if_neg hc).symm.trans h
      refine lv_aload_n hx hb dm_step_35 rfl (lv_at hl 0 rfl) ?_
      refine gm_0_want hx hb hts hown hK hP wi_81 dm_step_36 ?_
      refine lv_iconst (v := 4) hx hb dm_step_39 (by decide) ?_
      refine lv_icmp_gt (tgt := 49) hx hb dm_step_40 (by decide) (fun hc => ?_) (fun hc => ?_)
      · have h := (if_pos hc).symm.trans h
        exact J49 l1 hl hP hD hS h
      · have h := (if_neg hc).symm.trans h
        refine lv_aload_n hx hb dm_step_43 rfl (lv_at hl 0 rfl) ?_
        refine lv_iload_n hx hb dm_step_44 rfl (lv_at hl 1 rfl) ?_
        obtain ⟨v45, h45, h⟩ := hq_bind h
        refine km_operand l1 v45 h45 hx hb hml hts hown hK hP hD hS wi_89 (by rw [hRm]; exact ⟨Nat.le_of_ble_eq_true rfl, Nat.le_of_ble_eq_true rfl⟩) hl.1 (Nat.le_of_ble_eq_true rfl) dm_step_45 ⟨Nat.zero_le _, Nat.zero_le _⟩ (fun H locs hP hD hS => ?_)
        obtain ⟨hz, h⟩ := hq_ok h
        have h := Option.some.inj h
        exact hq_zret hx hb hr hlocks hQ hK hP hD hS hz (by rw [← h]) (by rw [← h]) dm_step_48
  refine lv_aload_n hx hb dm_step_0 rfl (lv_at hl 0 rfl) ?_
  refine gm_0_want hx hb hts hown hK hP wi_81 dm_step_1 ?_
  refine lv_if_ne (tgt := 27) hx hb dm_step_4 (by decide) (fun hc => ?_) (fun hc => ?_)
  · have h := (if_neg hc).symm.trans h
    exact J27 l1 hl hP hD hS h
  · have h := (if_pos hc).symm.trans h
    refine lv_iload_n hx hb dm_step_7 rfl (lv_at hl 1 rfl) ?_
    refine lv_if_ne (tgt := 27) hx hb dm_step_8 (by decide) (fun hc => ?_) (fun hc => ?_)
    · have h := (if_neg hc).symm.trans h
      exact J27 l1 hl hP hD hS h
    · have h := (if_pos hc).symm.trans h
      refine lv_aload_n hx hb dm_step_11 rfl (lv_at hl 0 rfl) ?_
      refine lv_iconst (v := 0) hx hb dm_step_12 (by decide) ?_
      obtain ⟨v13, h13, h⟩ := hq_bind h
      refine km_push 0 v13 h13 hx hb hml hts hown hK hP hD hS wi_85 (by rw [hRm]; exact ⟨Nat.le_of_ble_eq_true rfl, Nat.le_of_ble_eq_true rfl⟩) hl.1 (Nat.le_of_ble_eq_true rfl) dm_step_13 ⟨Nat.zero_le _, Nat.zero_le _⟩ (fun H locs hP hD hS => ?_)
      refine lv_aload_n hx hb dm_step_16 rfl (lv_at hl 0 rfl) ?_
      refine lv_iconst (v := 0) hx hb dm_step_17 (by decide) ?_
      refine pm_0_compared hx hb hts hown hK hP hD hS wi_83 (by decide) dm_step_18 (fun H locs hP hD hS => ?_)
      refine lv_aload_n hx hb dm_step_21 rfl (lv_at hl 0 rfl) ?_
      refine lv_iconst (v := 1) hx hb dm_step_22 (by decide) ?_
      refine km_becomes 1 (sm_becomes 1 f_want) rfl hx hb hml hts hown hK hP hD hS wi_86 (by rw [hRm]; exact ⟨Nat.le_of_ble_eq_true rfl, Nat.le_of_ble_eq_true rfl⟩) hl.1 (Nat.le_of_ble_eq_true rfl) dm_step_23 ⟨Nat.zero_le _, Nat.zero_le _⟩ (fun H locs hP hD hS => ?_)
      obtain ⟨hz, h⟩ := hq_ok h
      have h := Option.some.inj h
      exact hq_zret hx hb hr hlocks hQ hK hP hD hS hz (by rw [← h]) (by rw [← h]) dm_step_26
end
section
variable {p : Program} {l : Launch} {e : Env} {R : Room} {s : State} {m : MethodId} {args : Array Value} {below : List Frame} {meth : Method} {c : Code} {H H0 : Heap} {locs : List Loc} {cells slots : Nat} {Q : State → Prop}
variable {cc : ByteArray} {pc idx nC : Nat} {ls : Array Slot} {rest : List Value} {D : va_G} {A : Nat → Prop} {own : String} {q : Nat → Nat} {cI cZ cL : ClassId} {z w : va_W}
variable {f_classes f_objects f_count f_want f_compared f_open f_rowCount f_many f_seen f_fail f_level f_at f_self f_brackets f_values f_waiting : Int32}
variable {a_parent a_kindOf a_size a_root a_slotKind a_slot a_kept a_code a_number a_opened a_rowKind a_rowValue a_list a_from a_eAt a_whereAt a_source a_distinct a_keeps a_vKind a_v a_waits : Nat → Int32}
theorem km_step (l1 : Int32) (ur : Int32 × Int32 × Int32 × Int32 × (Nat → Int32)) (hu : sm_step l1 f_want f_compared f_open a_opened = some ur) (hx : p.tables.exec = Jvm.exec) (hb : c.code = cc) (hml : c.maxLocals = nC) (hts : ∀ x ∈ hq_tbl, x.before args s = true) (hown : s.vm.findClass own = some m.cls) (hK : va_K D hq_cl (hq_tys cI cZ cL) s) (hP : va_P D hq_cl (hm_w q cI cZ cL f_classes a_parent f_objects a_kindOf a_size a_root a_slotKind a_slot a_kept f_count a_code a_number f_want f_compared f_open a_opened f_rowCount a_rowKind a_rowValue f_many a_list f_seen f_fail f_level a_from a_eAt a_whereAt a_source a_distinct a_keeps f_at f_self f_brackets f_values a_vKind a_v f_waiting a_waits ++ z) H) (hD : va_D A (hm_w q cI cZ cL f_classes a_parent f_objects a_kindOf a_size a_root a_slotKind a_slot a_kept f_count a_code a_number f_want f_compared f_open a_opened f_rowCount a_rowKind a_rowValue f_many a_list f_seen f_fail f_level a_from a_eAt a_whereAt a_source a_distinct a_keeps f_at f_self f_brackets f_values a_vKind a_v f_waiting a_waits ++ z)) (hS : va_S A H0 H locs) (h1 : Cond.methodLink own idx ym_step ∈ hq_tbl) (hR : 3 + 1 ≤ R.frames ∧ 8 + (2 + 11) + 64 ≤ R.locals) (hls : ls.size = nC) (hW : (rest.map fun v => v.category).sum ≤ 8) (hdg : decode cc pc = .ok (.invokevirtual idx, 3)) (hf : cells + 0 ≤ R.cells ∧ slots + 0 ≤ R.slots) (kk : ∀ (H1 : Heap) (locs1 : List Loc), va_P D hq_cl (hm_w q cI cZ cL f_classes a_parent f_objects a_kindOf a_size a_root a_slotKind a_slot a_kept f_count a_code a_number ur.2.1 ur.2.2.1 ur.2.2.2.1 ur.2.2.2.2 f_rowCount a_rowKind a_rowValue f_many a_list f_seen f_fail f_level a_from a_eAt a_whereAt a_source a_distinct a_keeps f_at f_self f_brackets f_values a_vKind a_v f_waiting a_waits ++ z) H1 → va_D A (hm_w q cI cZ cL f_classes a_parent f_objects a_kindOf a_size a_root a_slotKind a_slot a_kept f_count a_code a_number ur.2.1 ur.2.2.1 ur.2.2.2.1 ur.2.2.2.2 f_rowCount a_rowKind a_rowValue f_many a_list f_seen f_fail f_level a_from a_eAt a_whereAt a_source a_distinct a_keeps f_at f_self f_brackets f_values a_vKind a_v f_waiting a_waits ++ z) → va_S A H0 H1 locs1 → W p l e R s m args below meth c H1 locs1 cells slots Q (F0 m (pc + 3) ls (.int ur.1 :: rest))) : W p l e R s m args below meth c H locs cells slots Q (F0 m pc ls (.int l1 :: .ref (q 0) :: rest)) :=
  hq_callV (q0 := 0) hx hb hml hown hts hK hP hD hS (cm_step l1 ur hu) rfl rfl h1 wi_391 wi_392 wi_338 wi_393 1 rfl (by decide +kernel) ⟨rfl, rfl⟩ hR hls rfl hW hdg hf kk
end
theorem dm_fits_0 : decode bm_fits 0 = .ok (.iload_n 1, 1) := by decide +kernel
theorem dm_fits_1 : decode bm_fits 1 = .ok (.bipush 8, 2) := by decide +kernel
theorem dm_fits_3 : decode bm_fits 3 = .ok (.if_icmp .eq 9, 3) := by decide +kernel
theorem dm_fits_6 : decode bm_fits 6 = .ok (.iload_n 1, 1) := by decide +kernel
theorem dm_fits_7 : decode bm_fits 7 = .ok (.bipush 9, 2) := by decide +kernel
theorem dm_fits_9 : decode bm_fits 9 = .ok (.if_icmp .ne 21, 3) := by decide +kernel
theorem dm_fits_12 : decode bm_fits 12 = .ok (.iload_n 2, 1) := by decide +kernel
theorem dm_fits_13 : decode bm_fits 13 = .ok (.ifCond .lt 15, 3) := by decide +kernel
theorem dm_fits_16 : decode bm_fits 16 = .ok (.iload_n 2, 1) := by decide +kernel
theorem dm_fits_17 : decode bm_fits 17 = .ok (.aload_n 0, 1) := by decide +kernel
theorem dm_fits_18 : decode bm_fits 18 = .ok (.getfield 77, 3) := by decide +kernel
theorem dm_fits_21 : decode bm_fits 21 = .ok (.if_icmp .ge 7, 3) := by decide +kernel
theorem dm_fits_24 : decode bm_fits 24 = .ok (.iconst 1, 1) := by decide +kernel
theorem dm_fits_25 : decode bm_fits 25 = .ok (.goto 4, 3) := by decide +kernel
theorem dm_fits_28 : decode bm_fits 28 = .ok (.iconst 0, 1) := by decide +kernel
theorem dm_fits_29 : decode bm_fits 29 = .ok (.ireturn, 1) := by decide +kernel
theorem dm_fits_30 : decode bm_fits 30 = .ok (.iload_n 1, 1) := by decide +kernel
theorem dm_fits_31 : decode bm_fits 31 = .ok (.bipush 13, 2) := by decide +kernel
theorem dm_fits_33 : decode bm_fits 33 = .ok (.if_icmp .eq 9, 3) := by decide +kernel
theorem dm_fits_36 : decode bm_fits 36 = .ok (.iload_n 1, 1) := by decide +kernel
theorem dm_fits_37 : decode bm_fits 37 = .ok (.bipush 14, 2) := by decide +kernel
theorem dm_fits_39 : decode bm_fits 39 = .ok (.if_icmp .ne 22, 3) := by decide +kernel
theorem dm_fits_42 : decode bm_fits 42 = .ok (.iload_n 2, 1) := by decide +kernel
theorem dm_fits_43 : decode bm_fits 43 = .ok (.ifCond .lt 22, 3) := by decide +kernel
theorem dm_fits_46 : decode bm_fits 46 = .ok (.iload_n 2, 1) := by decide +kernel
theorem dm_fits_47 : decode bm_fits 47 = .ok (.iload_n 1, 1) := by decide +kernel
theorem dm_fits_48 : decode bm_fits 48 = .ok (.bipush 13, 2) := by decide +kernel
theorem dm_fits_50 : decode bm_fits 50 = .ok (.if_icmp .ne 7, 3) := by decide +kernel
theorem dm_fits_53 : decode bm_fits 53 = .ok (.iconst 3, 1) := by decide +kernel
theorem dm_fits_54 : decode bm_fits 54 = .ok (.goto 4, 3) := by decide +kernel
theorem dm_fits_57 : decode bm_fits 57 = .ok (.iconst 5, 1) := by decide +kernel
theorem dm_fits_58 : decode bm_fits 58 = .ok (.if_icmp .gt 7, 3) := by decide +kernel
theorem dm_fits_61 : decode bm_fits 61 = .ok (.iconst 1, 1) := by decide +kernel
theorem dm_fits_62 : decode bm_fits 62 = .ok (.goto 4, 3) := by decide +kernel
theorem dm_fits_65 : decode bm_fits 65 = .ok (.iconst 0, 1) := by decide +kernel
theorem dm_fits_66 : decode bm_fits 66 = .ok (.ireturn, 1) := by decide +kernel
section
variable {l : Launch} {D : va_G} {A : Nat → Prop} {z w : va_W} {q : Nat → Nat} {cI cZ cL : ClassId}
variable {f_classes f_objects f_count f_want f_compared f_open f_rowCount f_many f_seen f_fail f_level f_at f_self f_brackets f_values f_waiting : Int32}
variable {a_parent a_kindOf a_size a_root a_slotKind a_slot a_kept a_code a_number a_opened a_rowKind a_rowValue a_list a_from a_eAt a_whereAt a_source a_distinct a_keeps a_vKind a_v a_waits : Nat → Int32}
set_option maxHeartbeats 4000000 in
set_option maxRecDepth 100000 in
theorem cm_fits (l1 : Int32) (l2 : Int32) (ur : Int32) (h : sm_fits l1 l2 f_classes = ur) : hq_Ct l ym_fits bm_fits 3 (some .boolean) { frames := 0, cells := 0, slots := 0, locals := 0 } D (hq_tys cI cZ cL) A [.ref (q 0), .int l1, .int l2] (hm_w q cI cZ cL f_classes a_parent f_objects a_kindOf a_size a_root a_slotKind a_slot a_kept f_count a_code a_number f_want f_compared f_open a_opened f_rowCount a_rowKind a_rowValue f_many a_list f_seen f_fail f_level a_from a_eAt a_whereAt a_source a_distinct a_keeps f_at f_self f_brackets f_values a_vKind a_v f_waiting a_waits ++ z) (hm_w q cI cZ cL f_classes a_parent f_objects a_kindOf a_size a_root a_slotKind a_slot a_kept f_count a_code a_number f_want f_compared f_open a_opened f_rowCount a_rowKind a_rowValue f_many a_list f_seen f_fail f_level a_from a_eAt a_whereAt a_source a_distinct a_keeps f_at f_self f_brackets f_values a_vKind a_v f_waiting a_waits ++ z) (some (.int ur)) 0 0 := by
  refine hq_of (by decide) ?_ (Nat.le_of_ble_eq_true rfl)
  intro p e s m below meth c R args Q hRm hQ hx hb hr hml hts hown hlocks hnm hP hK hD ls hl hS
  have hl : lv_has ls 3 [(0, .ref (q 0)), (1, .int l1), (2, .int l2)] := hl
  have hown : s.vm.findClass "HeapQueriesModel" = some m.cls := hown
  unfold sm_fits at h
  have J42 : ∀ (l1 : Int32) (l2 : Int32) {ls : Array Slot} {H : Heap} {locs : List Loc}, lv_has ls 3 [(1, .int l1), (2, .int l2)] → va_P D hq_cl (hm_w q cI cZ cL f_classes a_parent f_objects a_kindOf a_size a_root a_slotKind a_slot a_kept f_count a_code a_number f_want f_compared f_open a_opened f_rowCount a_rowKind a_rowValue f_many a_list f_seen f_fail f_level a_from a_eAt a_whereAt a_source a_distinct a_keeps f_at f_self f_brackets f_values a_vKind a_v f_waiting a_waits ++ z) H → va_D A (hm_w q cI cZ cL f_classes a_parent f_objects a_kindOf a_size a_root a_slotKind a_slot a_kept f_count a_code a_number f_want f_compared f_open a_opened f_rowCount a_rowKind a_rowValue f_many a_list f_seen f_fail f_level a_from a_eAt a_whereAt a_source a_distinct a_keeps f_at f_self f_brackets f_values a_vKind a_v f_waiting a_waits ++ z) → va_S A s.heap H locs → sm_fits_J42 l1 l2 f_classes = ur → W p l e R s m args below meth c H locs 0 0 Q (F0 m 42 ls []) := by
    intro l1 l2 ls H locs hl hP hD hS h
    unfold sm_fits_J42 at h
    refine lv_iload_n hx hb dm_fits_42 rfl (lv_at hl 1 rfl) ?_
    refine lv_if_lt (tgt := 65) hx hb dm_fits_43 (by decide) (fun hc => ?_) (fun hc => ?_)
    · have h := (if_pos hc).symm.trans h
      refine lv_iconst (v := 0) hx hb dm_fits_65 (by decide) ?_
      exact hq_zret hx hb hr hlocks hQ hK hP hD hS (by decide) (by rw [← h]) rfl dm_fits_66
    · have h := (if_neg hc).symm.trans h
      refine lv_iload_n hx hb dm_fits_46 rfl (lv_at hl 1 rfl) ?_
      refine lv_iload_n hx hb dm_fits_47 rfl (lv_at hl 0 rfl) ?_
      refine lv_bipush (v := 13) hx hb dm_fits_48 (by decide) ?_
      refine lv_icmp_ne (tgt := 57) hx hb dm_fits_50 (by decide) (fun hc => ?_) (fun hc => ?_)
      · have h := (if_neg hc).symm.trans h
        refine lv_iconst (v := 5) hx hb dm_fits_57 (by decide) ?_
        refine lv_icmp_gt (tgt := 65) hx hb dm_fits_58 (by decide) (fun hc => ?_) (fun hc => ?_)
        · have h := (if_pos hc).symm.trans h
          refine lv_iconst (v := 0) hx hb dm_fits_65 (by decide) ?_
          exact hq_zret hx hb hr hlocks hQ hK hP hD hS (by decide) (by rw [← h]) rfl dm_fits_66
        · have h := (if_neg hc).symm.trans h
          refine lv_iconst (v := 1) hx hb dm_fits_61 (by decide) ?_
          refine lv_goto (tgt := 66) hx hb dm_fits_62 (by decide) ?_
          exact hq_zret hx hb hr hlocks hQ hK hP hD hS (by decide) (by rw [← h]) rfl dm_fits_66
      · have h := (if_pos hc).symm.trans h
        refine lv_iconst (v := 3) hx hb dm_fits_53 (by decide) ?_
        refine lv_goto (tgt := 58) hx hb dm_fits_54 (by decide) ?_
        refine lv_icmp_gt (tgt := 65) hx hb dm_fits_58 (by decide) (fun hc => ?_) (fun hc => ?_)
        · have h := (if_pos hc).symm.trans h
          refine lv_iconst (v := 0) hx hb dm_fits_65 (by decide) ?_
          exact hq_zret hx hb hr hlocks hQ hK hP hD hS (by decide) (by rw [← h]) rfl dm_fits_66
        · have h := (if_neg hc).symm.trans h
          refine lv_iconst (v := 1) hx hb dm_fits_61 (by decide) ?_
          refine lv_goto (tgt := 66) hx hb dm_fits_62 (by decide) ?_
          exact hq_zret hx hb hr hlocks hQ hK hP hD hS (by decide) (by rw [← h]) rfl dm_fits_66
  have J12 : ∀ (l2 : Int32) {ls : Array Slot} {H : Heap} {locs : List Loc}, lv_has ls 3 [(0, .ref (q 0)), (2, .int l2)] → va_P D hq_cl (hm_w q cI cZ cL f_classes a_parent f_objects a_kindOf a_size a_root a_slotKind a_slot a_kept f_count a_code a_number f_want f_compared f_open a_opened f_rowCount a_rowKind a_rowValue f_many a_list f_seen f_fail f_level a_from a_eAt a_whereAt a_source a_distinct a_keeps f_at f_self f_brackets f_values a_vKind a_v f_waiting a_waits ++ z) H → va_D A (hm_w q cI cZ cL f_classes a_parent f_objects a_kindOf a_size a_root a_slotKind a_slot a_kept f_count a_code a_number f_want f_compared f_open a_opened f_rowCount a_rowKind a_rowValue f_many a_list f_seen f_fail f_level a_from a_eAt a_whereAt a_source a_distinct a_keeps f_at f_self f_brackets f_values a_vKind a_v f_waiting a_waits ++ z) → va_S A s.heap H locs → sm_fits_J12 l2 f_classes = ur → W p l e R s m args below meth c H locs 0 0 Q (F0 m 12 ls []) := by
    intro l2 ls H locs hl hP hD hS h
    unfold sm_fits_J12 at h
    refine lv_iload_n hx hb dm_fits_12 rfl (lv_at hl 1 rfl) ?_
    refine lv_if_lt (tgt := 28) hx hb dm_fits_13 (by decide) (fun hc => ?_) (fun hc => ?_)
    · have h := (if_pos hc).symm.trans h
      refine lv_iconst (v := 0) hx hb dm_fits_28 (by decide) ?_
      exact hq_zret hx hb hr hlocks hQ hK hP hD hS (by decide) (by rw [← h]) rfl dm_fits_29
    · have h := (if_neg hc).symm.trans h
      refine lv_iload_n hx hb dm_fits_16 rfl (lv_at hl 1 rfl) ?_
      refine lv_aload_n hx hb dm_fits_17 rfl (lv_at hl 0 rfl) ?_
      refine gm_0_classes hx hb hts hown hK hP wi_66 dm_fits_18 ?_
      refine lv_icmp_ge (tgt := 28) hx hb dm_fits_21 (by decide) (fun hc => ?_) (fun hc => ?_)
      · have h := (if_pos hc).symm.trans h
        refine lv_iconst (v := 0) hx hb dm_fits_28 (by decide) ?_
        exact hq_zret hx hb hr hlocks hQ hK hP hD hS (by decide) (by rw [← h]) rfl dm_fits_29
      · have h := (if_neg hc).symm.trans h
        refine lv_iconst (v := 1) hx hb dm_fits_24 (by decide) ?_
        refine lv_goto (tgt := 29) hx hb dm_fits_25 (by decide) ?_
        exact hq_zret hx hb hr hlocks hQ hK hP hD hS (by decide) (by rw [← h]) rfl dm_fits_29
  refine lv_iload_n hx hb dm_fits_0 rfl (lv_at hl 1 rfl) ?_
  refine lv_bipush (v := 8) hx hb dm_fits_1 (by decide) ?_
  refine lv_icmp_eq (tgt := 12) hx hb dm_fits_3 (by decide) (fun hc => ?_) (fun hc => ?_)
  · have h := (if_pos hc).symm.trans h
    exact J12 l2 (lv_sub hl [0, 2] rfl) hP hD hS h
  · have h := (if_neg hc).symm.trans h
    refine lv_iload_n hx hb dm_fits_6 rfl (lv_at hl 1 rfl) ?_
    refine lv_bipush (v := 9) hx hb dm_fits_7 (by decide) ?_
    refine lv_icmp_ne (tgt := 30) hx hb dm_fits_9 (by decide) (fun hc => ?_) (fun hc => ?_)
    · have h := (if_neg hc).symm.trans h
      refine lv_iload_n hx hb dm_fits_30 rfl (lv_at hl 1 rfl) ?_
      refine lv_bipush (v := 13) hx hb dm_fits_31 (by decide) ?_
      refine lv_icmp_eq (tgt := 42) hx hb dm_fits_33 (by decide) (fun hc => ?_) (fun hc => ?_)
      · have h := (if_pos hc).symm.trans h
        exact J42 l1 l2 (lv_sub hl [1, 2] rfl) hP hD hS h
      · have h := (if_neg hc).symm.trans h
        refine lv_iload_n hx hb dm_fits_36 rfl (lv_at hl 1 rfl) ?_
        refine lv_bipush (v := 14) hx hb dm_fits_37 (by decide) ?_
        refine lv_icmp_ne (tgt := 61) hx hb dm_fits_39 (by decide) (fun hc => ?_) (fun hc => ?_)
        · have h := (if_neg hc).symm.trans h
          refine lv_iconst (v := 1) hx hb dm_fits_61 (by decide) ?_
          refine lv_goto (tgt := 66) hx hb dm_fits_62 (by decide) ?_
          exact hq_zret hx hb hr hlocks hQ hK hP hD hS (by decide) (by rw [← h]) rfl dm_fits_66
        · have h := (if_pos hc).symm.trans h
          exact J42 l1 l2 (lv_sub hl [1, 2] rfl) hP hD hS h
    · have h := (if_pos hc).symm.trans h
      exact J12 l2 (lv_sub hl [0, 2] rfl) hP hD hS h
end
section
variable {p : Program} {l : Launch} {e : Env} {R : Room} {s : State} {m : MethodId} {args : Array Value} {below : List Frame} {meth : Method} {c : Code} {H H0 : Heap} {locs : List Loc} {cells slots : Nat} {Q : State → Prop}
variable {cc : ByteArray} {pc idx nC : Nat} {ls : Array Slot} {rest : List Value} {D : va_G} {A : Nat → Prop} {own : String} {q : Nat → Nat} {cI cZ cL : ClassId} {z w : va_W}
variable {f_classes f_objects f_count f_want f_compared f_open f_rowCount f_many f_seen f_fail f_level f_at f_self f_brackets f_values f_waiting : Int32}
variable {a_parent a_kindOf a_size a_root a_slotKind a_slot a_kept a_code a_number a_opened a_rowKind a_rowValue a_list a_from a_eAt a_whereAt a_source a_distinct a_keeps a_vKind a_v a_waits : Nat → Int32}
theorem km_fits (l1 : Int32) (l2 : Int32) (ur : Int32) (hu : sm_fits l1 l2 f_classes = ur) (hx : p.tables.exec = Jvm.exec) (hb : c.code = cc) (hml : c.maxLocals = nC) (hts : ∀ x ∈ hq_tbl, x.before args s = true) (hown : s.vm.findClass own = some m.cls) (hK : va_K D hq_cl (hq_tys cI cZ cL) s) (hP : va_P D hq_cl (hm_w q cI cZ cL f_classes a_parent f_objects a_kindOf a_size a_root a_slotKind a_slot a_kept f_count a_code a_number f_want f_compared f_open a_opened f_rowCount a_rowKind a_rowValue f_many a_list f_seen f_fail f_level a_from a_eAt a_whereAt a_source a_distinct a_keeps f_at f_self f_brackets f_values a_vKind a_v f_waiting a_waits ++ z) H) (hD : va_D A (hm_w q cI cZ cL f_classes a_parent f_objects a_kindOf a_size a_root a_slotKind a_slot a_kept f_count a_code a_number f_want f_compared f_open a_opened f_rowCount a_rowKind a_rowValue f_many a_list f_seen f_fail f_level a_from a_eAt a_whereAt a_source a_distinct a_keeps f_at f_self f_brackets f_values a_vKind a_v f_waiting a_waits ++ z)) (hS : va_S A H0 H locs) (h1 : Cond.methodLink own idx ym_fits ∈ hq_tbl) (hR : 0 + 1 ≤ R.frames ∧ 8 + (3 + 11) + 0 ≤ R.locals) (hls : ls.size = nC) (hW : (rest.map fun v => v.category).sum ≤ 8) (hdg : decode cc pc = .ok (.invokevirtual idx, 3)) (hf : cells + 0 ≤ R.cells ∧ slots + 0 ≤ R.slots) (kk : ∀ (H1 : Heap) (locs1 : List Loc), va_P D hq_cl (hm_w q cI cZ cL f_classes a_parent f_objects a_kindOf a_size a_root a_slotKind a_slot a_kept f_count a_code a_number f_want f_compared f_open a_opened f_rowCount a_rowKind a_rowValue f_many a_list f_seen f_fail f_level a_from a_eAt a_whereAt a_source a_distinct a_keeps f_at f_self f_brackets f_values a_vKind a_v f_waiting a_waits ++ z) H1 → va_D A (hm_w q cI cZ cL f_classes a_parent f_objects a_kindOf a_size a_root a_slotKind a_slot a_kept f_count a_code a_number f_want f_compared f_open a_opened f_rowCount a_rowKind a_rowValue f_many a_list f_seen f_fail f_level a_from a_eAt a_whereAt a_source a_distinct a_keeps f_at f_self f_brackets f_values a_vKind a_v f_waiting a_waits ++ z) → va_S A H0 H1 locs1 → W p l e R s m args below meth c H1 locs1 cells slots Q (F0 m (pc + 3) ls (.int ur :: rest))) : W p l e R s m args below meth c H locs cells slots Q (F0 m pc ls (.int l2 :: .int l1 :: .ref (q 0) :: rest)) :=
  hq_callV (q0 := 0) hx hb hml hown hts hK hP hD hS (cm_fits l1 l2 ur hu) rfl rfl h1 wi_394 wi_395 wi_338 wi_396 2 rfl (by decide +kernel) ⟨rfl, rfl⟩ hR hls rfl hW hdg hf kk
end
theorem dm_token_0 : decode bm_token 0 = .ok (.iload_n 1, 1) := by decide +kernel
theorem dm_token_1 : decode bm_token 1 = .ok (.ifCond .lt 27, 3) := by decide +kernel
theorem dm_token_4 : decode bm_token 4 = .ok (.iload_n 1, 1) := by decide +kernel
theorem dm_token_5 : decode bm_token 5 = .ok (.bipush 24, 2) := by decide +kernel
theorem dm_token_7 : decode bm_token 7 = .ok (.if_icmp .gt 21, 3) := by decide +kernel
theorem dm_token_10 : decode bm_token 10 = .ok (.aload_n 0, 1) := by decide +kernel
theorem dm_token_11 : decode bm_token 11 = .ok (.getfield 131, 3) := by decide +kernel
theorem dm_token_14 : decode bm_token 14 = .ok (.bipush 40, 2) := by decide +kernel
theorem dm_token_16 : decode bm_token 16 = .ok (.if_icmp .ge 12, 3) := by decide +kernel
theorem dm_token_19 : decode bm_token 19 = .ok (.aload_n 0, 1) := by decide +kernel
theorem dm_token_20 : decode bm_token 20 = .ok (.iload_n 1, 1) := by decide +kernel
theorem dm_token_21 : decode bm_token 21 = .ok (.iload_n 2, 1) := by decide +kernel
theorem dm_token_22 : decode bm_token 22 = .ok (.invokevirtual 134, 3) := by decide +kernel
theorem dm_token_25 : decode bm_token 25 = .ok (.ifCond .ne 5, 3) := by decide +kernel
theorem dm_token_28 : decode bm_token 28 = .ok (.iconst 0, 1) := by decide +kernel
theorem dm_token_29 : decode bm_token 29 = .ok (.ireturn, 1) := by decide +kernel
theorem dm_token_30 : decode bm_token 30 = .ok (.aload_n 0, 1) := by decide +kernel
theorem dm_token_31 : decode bm_token 31 = .ok (.getfield 32, 3) := by decide +kernel
theorem dm_token_34 : decode bm_token 34 = .ok (.aload_n 0, 1) := by decide +kernel
theorem dm_token_35 : decode bm_token 35 = .ok (.getfield 131, 3) := by decide +kernel
theorem dm_token_38 : decode bm_token 38 = .ok (.iload_n 1, 1) := by decide +kernel
theorem dm_token_39 : decode bm_token 39 = .ok (.iastore, 1) := by decide +kernel
theorem dm_token_40 : decode bm_token 40 = .ok (.aload_n 0, 1) := by decide +kernel
theorem dm_token_41 : decode bm_token 41 = .ok (.getfield 35, 3) := by decide +kernel
theorem dm_token_44 : decode bm_token 44 = .ok (.aload_n 0, 1) := by decide +kernel
theorem dm_token_45 : decode bm_token 45 = .ok (.getfield 131, 3) := by decide +kernel
theorem dm_token_48 : decode bm_token 48 = .ok (.iload_n 2, 1) := by decide +kernel
theorem dm_token_49 : decode bm_token 49 = .ok (.iastore, 1) := by decide +kernel
theorem dm_token_50 : decode bm_token 50 = .ok (.aload_n 0, 1) := by decide +kernel
theorem dm_token_51 : decode bm_token 51 = .ok (.invokevirtual 137, 3) := by decide +kernel
theorem dm_token_54 : decode bm_token 54 = .ok (.iconst 1, 1) := by decide +kernel
theorem dm_token_55 : decode bm_token 55 = .ok (.istore_n 3, 1) := by decide +kernel
theorem dm_token_56 : decode bm_token 56 = .ok (.iconst 0, 1) := by decide +kernel
theorem dm_token_57 : decode bm_token 57 = .ok (.istore 4, 2) := by decide +kernel
theorem dm_token_59 : decode bm_token 59 = .ok (.iload 4, 2) := by decide +kernel
theorem dm_token_61 : decode bm_token 61 = .ok (.aload_n 0, 1) := by decide +kernel
theorem dm_token_62 : decode bm_token 62 = .ok (.getfield 131, 3) := by decide +kernel
theorem dm_token_65 : decode bm_token 65 = .ok (.if_icmp .gt 25, 3) := by decide +kernel
theorem dm_token_68 : decode bm_token 68 = .ok (.iload_n 3, 1) := by decide +kernel
theorem dm_token_69 : decode bm_token 69 = .ok (.ifCond .eq 21, 3) := by decide +kernel
theorem dm_token_72 : decode bm_token 72 = .ok (.aload_n 0, 1) := by decide +kernel
theorem dm_token_73 : decode bm_token 73 = .ok (.aload_n 0, 1) := by decide +kernel
theorem dm_token_74 : decode bm_token 74 = .ok (.getfield 32, 3) := by decide +kernel
theorem dm_token_77 : decode bm_token 77 = .ok (.iload 4, 2) := by decide +kernel
theorem dm_token_79 : decode bm_token 79 = .ok (.iaload, 1) := by decide +kernel
theorem dm_token_80 : decode bm_token 80 = .ok (.invokevirtual 140, 3) := by decide +kernel
theorem dm_token_83 : decode bm_token 83 = .ok (.istore_n 3, 1) := by decide +kernel
theorem dm_token_84 : decode bm_token 84 = .ok (.iinc 4 1, 3) := by decide +kernel
theorem dm_token_87 : decode bm_token 87 = .ok (.goto (-28), 3) := by decide +kernel
theorem dm_token_90 : decode bm_token 90 = .ok (.aload_n 0, 1) := by decide +kernel
theorem dm_token_91 : decode bm_token 91 = .ok (.iload_n 3, 1) := by decide +kernel
theorem dm_token_92 : decode bm_token 92 = .ok (.ifCond .eq 12, 3) := by decide +kernel
theorem dm_token_95 : decode bm_token 95 = .ok (.aload_n 0, 1) := by decide +kernel
theorem dm_token_96 : decode bm_token 96 = .ok (.getfield 131, 3) := by decide +kernel
theorem dm_token_99 : decode bm_token 99 = .ok (.iconst 1, 1) := by decide +kernel
theorem dm_token_100 : decode bm_token 100 = .ok (.iadd, 1) := by decide +kernel
theorem dm_token_101 : decode bm_token 101 = .ok (.goto 7, 3) := by decide +kernel
theorem dm_token_104 : decode bm_token 104 = .ok (.aload_n 0, 1) := by decide +kernel
theorem dm_token_105 : decode bm_token 105 = .ok (.getfield 131, 3) := by decide +kernel
theorem dm_token_108 : decode bm_token 108 = .ok (.putfield 131, 3) := by decide +kernel
theorem dm_token_111 : decode bm_token 111 = .ok (.iload_n 3, 1) := by decide +kernel
theorem dm_token_112 : decode bm_token 112 = .ok (.ireturn, 1) := by decide +kernel
section
variable {l : Launch} {D : va_G} {A : Nat → Prop} {z w : va_W} {q : Nat → Nat} {cI cZ cL : ClassId}
variable {f_classes f_objects f_count f_want f_compared f_open f_rowCount f_many f_seen f_fail f_level f_at f_self f_brackets f_values f_waiting : Int32}
variable {a_parent a_kindOf a_size a_root a_slotKind a_slot a_kept a_code a_number a_opened a_rowKind a_rowValue a_list a_from a_eAt a_whereAt a_source a_distinct a_keeps a_vKind a_v a_waits : Nat → Int32}
set_option maxHeartbeats 4000000 in
set_option maxRecDepth 100000 in
theorem cm_token (l1 : Int32) (l2 : Int32) (ur : Int32 × Int32 × (Nat → Int32) × (Nat → Int32) × Int32 × Int32 × Int32 × (Nat → Int32)) (h : sm_token l1 l2 f_classes f_count a_code a_number f_want f_compared f_open a_opened = some ur) : hq_Ct l ym_token bm_token 5 (some .boolean) { frames := 4, cells := 0, slots := 0, locals := 85 } D (hq_tys cI cZ cL) A [.ref (q 0), .int l1, .int l2] (hm_w q cI cZ cL f_classes a_parent f_objects a_kindOf a_size a_root a_slotKind a_slot a_kept f_count a_code a_number f_want f_compared f_open a_opened f_rowCount a_rowKind a_rowValue f_many a_list f_seen f_fail f_level a_from a_eAt a_whereAt a_source a_distinct a_keeps f_at f_self f_brackets f_values a_vKind a_v f_waiting a_waits ++ z) (hm_w q cI cZ cL f_classes a_parent f_objects a_kindOf a_size a_root a_slotKind a_slot a_kept ur.2.1 ur.2.2.1 ur.2.2.2.1 ur.2.2.2.2.1 ur.2.2.2.2.2.1 ur.2.2.2.2.2.2.1 ur.2.2.2.2.2.2.2 f_rowCount a_rowKind a_rowValue f_many a_list f_seen f_fail f_level a_from a_eAt a_whereAt a_source a_distinct a_keeps f_at f_self f_brackets f_values a_vKind a_v f_waiting a_waits ++ z) (some (.int ur.1)) 0 0 := by
  refine hq_of (by decide) ?_ (Nat.le_of_ble_eq_true rfl)
  intro p e s m below meth c R args Q hRm hQ hx hb hr hml hts hown hlocks hnm hP hK hD ls hl hS
  have hl : lv_has ls 5 [(0, .ref (q 0)), (1, .int l1), (2, .int l2)] := hl
  have hown : s.vm.findClass "HeapQueriesModel" = some m.cls := hown
  unfold sm_token at h
  have J90 : ∀ (l3 : Int32) {f_count : Int32} {a_code : Nat → Int32} {a_number : Nat → Int32} {f_want : Int32} {f_compared : Int32} {f_open : Int32} {a_opened : Nat → Int32} {ls : Array Slot} {H : Heap} {locs : List Loc}, lv_has ls 5 [(0, .ref (q 0)), (3, .int l3)] → va_P D hq_cl (hm_w q cI cZ cL f_classes a_parent f_objects a_kindOf a_size a_root a_slotKind a_slot a_kept f_count a_code a_number f_want f_compared f_open a_opened f_rowCount a_rowKind a_rowValue f_many a_list f_seen f_fail f_level a_from a_eAt a_whereAt a_source a_distinct a_keeps f_at f_self f_brackets f_values a_vKind a_v f_waiting a_waits ++ z) H → va_D A (hm_w q cI cZ cL f_classes a_parent f_objects a_kindOf a_size a_root a_slotKind a_slot a_kept f_count a_code a_number f_want f_compared f_open a_opened f_rowCount a_rowKind a_rowValue f_many a_list f_seen f_fail f_level a_from a_eAt a_whereAt a_source a_distinct a_keeps f_at f_self f_brackets f_values a_vKind a_v f_waiting a_waits ++ z) → va_S A s.heap H locs → sm_token_J90 l3 f_classes f_count a_code a_number f_want f_compared f_open a_opened = some ur → W p l e R s m args below meth c H locs 0 0 Q (F0 m 90 ls []) := by
    intro l3 f_count a_code a_number f_want f_compared f_open a_opened ls H locs hl hP hD hS h
    unfold sm_token_J90 at h
    refine lv_aload_n hx hb dm_token_90 rfl (lv_at hl 0 rfl) ?_
    refine lv_iload_n hx hb dm_token_91 rfl (lv_at hl 1 rfl) ?_
    refine lv_if_eq (tgt := 104) hx hb dm_token_92 (by decide) (fun hc => ?_) (fun hc => ?_)
    · have h := (if_pos hc).symm.trans h
      refine lv_aload_n hx hb dm_token_104 rfl (lv_at hl 0 rfl) ?_
      refine gm_0_count hx hb hts hown hK hP wi_90 dm_token_105 ?_
      refine pm_0_count hx hb hts hown hK hP hD hS wi_90 dm_token_108 (fun H locs hP hD hS => ?_)
      refine lv_iload_n hx hb dm_token_111 rfl (lv_at hl 1 rfl) ?_
      obtain ⟨hz, h⟩ := hq_ok h
      have h := Option.some.inj h
      exact hq_zret hx hb hr hlocks hQ hK hP hD hS hz (by rw [← h]) (by rw [← h]) dm_token_112
    · have h := (if_neg hc).symm.trans h
      refine lv_aload_n hx hb dm_token_95 rfl (lv_at hl 0 rfl) ?_
      refine gm_0_count hx hb hts hown hK hP wi_90 dm_token_96 ?_
      refine lv_iconst (v := 1) hx hb dm_token_99 (by decide) ?_
      refine lv_iadd hx hb dm_token_100 ?_
      refine lv_goto (tgt := 108) hx hb dm_token_101 (by decide) ?_
      refine pm_0_count hx hb hts hown hK hP hD hS wi_90 dm_token_108 (fun H locs hP hD hS => ?_)
      refine lv_iload_n hx hb dm_token_111 rfl (lv_at hl 1 rfl) ?_
      obtain ⟨hz, h⟩ := hq_ok h
      have h := Option.some.inj h
      exact hq_zret hx hb hr hlocks hQ hK hP hD hS hz (by rw [← h]) (by rw [← h]) dm_token_112
  have L59 : ∀ (n : Nat) (l3 : Int32) (l4 : Int32) {f_count : Int32} {a_code : Nat → Int32} {a_number : Nat → Int32} {f_want : Int32} {f_compared : Int32} {f_open : Int32} {a_opened : Nat → Int32} {ls : Array Slot} {H : Heap} {locs : List Loc}, lv_has ls 5 [(0, .ref (q 0)), (3, .int l3), (4, .int l4)] → va_P D hq_cl (hm_w q cI cZ cL f_classes a_parent f_objects a_kindOf a_size a_root a_slotKind a_slot a_kept f_count a_code a_number f_want f_compared f_open a_opened f_rowCount a_rowKind a_rowValue f_many a_list f_seen f_fail f_level a_from a_eAt a_whereAt a_source a_distinct a_keeps f_at f_self f_brackets f_values a_vKind a_v f_waiting a_waits ++ z) H → va_D A (hm_w q cI cZ cL f_classes a_parent f_objects a_kindOf a_size a_root a_slotKind a_slot a_kept f_count a_code a_number f_want f_compared f_open a_opened f_rowCount a_rowKind a_rowValue f_many a_list f_seen f_fail f_level a_from a_eAt a_whereAt a_source a_distinct a_keeps f_at f_self f_brackets f_values a_vKind a_v f_waiting a_waits ++ z) → va_S A s.heap H locs → ∀ u59, sm_token_L59 n l3 l4 f_count a_code f_want f_compared f_open a_opened = some u59 → (∀ (ls : Array Slot) (H : Heap) (locs : List Loc), lv_has ls 5 [(0, .ref (q 0)), (3, .int u59.1)] → va_P D hq_cl (hm_w q cI cZ cL f_classes a_parent f_objects a_kindOf a_size a_root a_slotKind a_slot a_kept f_count a_code a_number u59.2.1 u59.2.2.1 u59.2.2.2.1 u59.2.2.2.2 f_rowCount a_rowKind a_rowValue f_many a_list f_seen f_fail f_level a_from a_eAt a_whereAt a_source a_distinct a_keeps f_at f_self f_brackets f_values a_vKind a_v f_waiting a_waits ++ z) H → va_D A (hm_w q cI cZ cL f_classes a_parent f_objects a_kindOf a_size a_root a_slotKind a_slot a_kept f_count a_code a_number u59.2.1 u59.2.2.1 u59.2.2.2.1 u59.2.2.2.2 f_rowCount a_rowKind a_rowValue f_many a_list f_seen f_fail f_level a_from a_eAt a_whereAt a_source a_distinct a_keeps f_at f_self f_brackets f_values a_vKind a_v f_waiting a_waits ++ z) → va_S A s.heap H locs → W p l e R s m args below meth c H locs 0 0 Q (F0 m 90 ls [])) → W p l e R s m args below meth c H locs 0 0 Q (F0 m 59 ls []) := by
    intro n
    induction n with
    | zero =>
      intro l3 l4 f_count a_code a_number f_want f_compared f_open a_opened ls H locs hl hP hD hS u59 h kx
      have h : (none : Option (Int32 × Int32 × Int32 × Int32 × (Nat → Int32))) = some u59 := h
      cases h
    | succ n ih =>
      intro l3 l4 f_count a_code a_number f_want f_compared f_open a_opened ls H locs hl hP hD hS u59 h kx
      have h : sm_token_L59_B (sm_token_L59 n) l3 l4 f_count a_code f_want f_compared f_open a_opened = some u59 := h
      unfold sm_token_L59_B at h
      refine lv_iload hx hb dm_token_59 (lv_at hl 2 rfl) ?_
      refine lv_aload_n hx hb dm_token_61 rfl (lv_at hl 0 rfl) ?_
      refine gm_0_count hx hb hts hown hK hP wi_90 dm_token_62 ?_
      refine lv_icmp_gt (tgt := 90) hx hb dm_token_65 (by decide) (fun hc => ?_) (fun hc => ?_)
      · have h := (if_pos hc).symm.trans h
        have h := Option.some.inj h
        subst h
        exact kx ls H locs (lv_sub hl [0, 1] rfl) hP hD hS
      · have h := (if_neg hc).symm.trans h
        refine lv_iload_n hx hb dm_token_68 rfl (lv_at hl 1 rfl) ?_
        refine lv_if_eq (tgt := 90) hx hb dm_token_69 (by decide) (fun hc => ?_) (fun hc => ?_)
        · have h := (if_pos hc).symm.trans h
          have h := Option.some.inj h
          subst h
          exact kx ls H locs (lv_sub hl [0, 1] rfl) hP hD hS
        · have h := (if_neg hc).symm.trans h
          refine lv_aload_n hx hb dm_token_72 rfl (lv_at hl 0 rfl) ?_
          refine lv_aload_n hx hb dm_token_73 rfl (lv_at hl 0 rfl) ?_
          refine gm_0_code hx hb hts hown hK hP wi_91 dm_token_74 ?_
          refine lv_iload hx hb dm_token_77 (lv_at hl 2 rfl) ?_
          obtain ⟨hin, h⟩ := hq_idx h
          refine am_8 hx hb hK hP hin dm_token_79 ?_
          obtain ⟨v80, h80, h⟩ := hq_bind h
          refine km_step (a_code l4.toNatClampNeg) v80 h80 hx hb hml hts hown hK hP hD hS wi_92 (by rw [hRm]; exact ⟨Nat.le_of_ble_eq_true rfl, Nat.le_of_ble_eq_true rfl⟩) hl.1 (Nat.le_of_ble_eq_true rfl) dm_token_80 ⟨Nat.zero_le _, Nat.zero_le _⟩ (fun H locs hP hD hS => ?_)
          refine lv_istore_n (lv' := [(3, .int v80.1), (0, .ref (q 0)), (4, .int l4)]) hx hb dm_token_83 rfl hl (by decide) rfl (fun ls hl => ?_)
          refine lv_iinc (k := 2) (v := l4 + 1) (lv' := [(4, .int (l4 + 1)), (3, .int v80.1), (0, .ref (q 0))]) hx hb dm_token_84 hl rfl (congrArg (fun j => l4 + j) (by decide)) (by decide) rfl (fun ls hl => ?_)
          refine lv_goto (tgt := 59) hx hb dm_token_87 (by decide) ?_
          exact ih v80.1 (l4 + 1) (lv_sub hl [2, 1, 0] rfl) hP hD hS u59 h kx
  refine lv_iload_n hx hb dm_token_0 rfl (lv_at hl 1 rfl) ?_
  refine lv_if_lt (tgt := 28) hx hb dm_token_1 (by decide) (fun hc => ?_) (fun hc => ?_)
  · have h := (if_pos hc).symm.trans h
    refine lv_iconst (v := 0) hx hb dm_token_28 (by decide) ?_
    have h := Option.some.inj h
    exact hq_zret hx hb hr hlocks hQ hK hP hD hS (by decide) (by rw [← h]) (by rw [← h]) dm_token_29
  · have h := (if_neg hc).symm.trans h
    refine lv_iload_n hx hb dm_token_4 rfl (lv_at hl 1 rfl) ?_
    refine lv_bipush (v := 24) hx hb dm_token_5 (by decide) ?_
    refine lv_icmp_gt (tgt := 28) hx hb dm_token_7 (by decide) (fun hc => ?_) (fun hc => ?_)
    · have h := (if_pos hc).symm.trans h
      refine lv_iconst (v := 0) hx hb dm_token_28 (by decide) ?_
      have h := Option.some.inj h
      exact hq_zret hx hb hr hlocks hQ hK hP hD hS (by decide) (by rw [← h]) (by rw [← h]) dm_token_29
    · have h := (if_neg hc).symm.trans h
      refine lv_aload_n hx hb dm_token_10 rfl (lv_at hl 0 rfl) ?_
      refine gm_0_count hx hb hts hown hK hP wi_90 dm_token_11 ?_
      refine lv_bipush (v := 40) hx hb dm_token_14 (by decide) ?_
      refine lv_icmp_ge (tgt := 28) hx hb dm_token_16 (by decide) (fun hc => ?_) (fun hc => ?_)
      · have h := (if_pos hc).symm.trans h
        refine lv_iconst (v := 0) hx hb dm_token_28 (by decide) ?_
        have h := Option.some.inj h
        exact hq_zret hx hb hr hlocks hQ hK hP hD hS (by decide) (by rw [← h]) (by rw [← h]) dm_token_29
      · have h := (if_neg hc).symm.trans h
        refine lv_aload_n hx hb dm_token_19 rfl (lv_at hl 0 rfl) ?_
        refine lv_iload_n hx hb dm_token_20 rfl (lv_at hl 1 rfl) ?_
        refine lv_iload_n hx hb dm_token_21 rfl (lv_at hl 2 rfl) ?_
        refine km_fits l1 l2 (sm_fits l1 l2 f_classes) rfl hx hb hml hts hown hK hP hD hS wi_93 (by rw [hRm]; exact ⟨Nat.le_of_ble_eq_true rfl, Nat.le_of_ble_eq_true rfl⟩) hl.1 (Nat.le_of_ble_eq_true rfl) dm_token_22 ⟨Nat.zero_le _, Nat.zero_le _⟩ (fun H locs hP hD hS => ?_)
        refine lv_if_ne (tgt := 30) hx hb dm_token_25 (by decide) (fun hc => ?_) (fun hc => ?_)
        · have h := (if_neg hc).symm.trans h
          refine lv_aload_n hx hb dm_token_30 rfl (lv_at hl 0 rfl) ?_
          refine gm_0_code hx hb hts hown hK hP wi_91 dm_token_31 ?_
          refine lv_aload_n hx hb dm_token_34 rfl (lv_at hl 0 rfl) ?_
          refine gm_0_count hx hb hts hown hK hP wi_90 dm_token_35 ?_
          refine lv_iload_n hx hb dm_token_38 rfl (lv_at hl 1 rfl) ?_
          obtain ⟨hin, h⟩ := hq_idx h
          refine tm_8 hx hb hK hP hD hS hin dm_token_39 (fun H locs hP hD hS => ?_)
          refine lv_aload_n hx hb dm_token_40 rfl (lv_at hl 0 rfl) ?_
          refine gm_0_number hx hb hts hown hK hP wi_94 dm_token_41 ?_
          refine lv_aload_n hx hb dm_token_44 rfl (lv_at hl 0 rfl) ?_
          refine gm_0_count hx hb hts hown hK hP wi_90 dm_token_45 ?_
          refine lv_iload_n hx hb dm_token_48 rfl (lv_at hl 2 rfl) ?_
          obtain ⟨hin, h⟩ := hq_idx h
          refine tm_9 hx hb hK hP hD hS hin dm_token_49 (fun H locs hP hD hS => ?_)
          refine lv_aload_n hx hb dm_token_50 rfl (lv_at hl 0 rfl) ?_
          refine km_start  (sm_start f_want f_compared f_open) rfl hx hb hml hts hown hK hP hD hS wi_95 (by rw [hRm]; exact ⟨Nat.le_of_ble_eq_true rfl, Nat.le_of_ble_eq_true rfl⟩) hl.1 (Nat.le_of_ble_eq_true rfl) dm_token_51 ⟨Nat.zero_le _, Nat.zero_le _⟩ (fun H locs hP hD hS => ?_)
          refine lv_iconst (v := 1) hx hb dm_token_54 (by decide) ?_
          refine lv_istore_n (lv' := [(3, .int 1), (0, .ref (q 0)), (1, .int l1), (2, .int l2)]) hx hb dm_token_55 rfl hl (by decide) rfl (fun ls hl => ?_)
          refine lv_iconst (v := 0) hx hb dm_token_56 (by decide) ?_
          refine lv_istore (lv' := [(4, .int 0), (3, .int 1), (0, .ref (q 0)), (1, .int l1), (2, .int l2)]) hx hb dm_token_57 hl (by decide) rfl (fun ls hl => ?_)
          obtain ⟨u59, h59, h⟩ := hq_bind h
          refine L59 kF 1 0 (lv_sub hl [2, 1, 0] rfl) hP hD hS u59 h59 (fun ls H locs hl hP hD hS => ?_)
          exact J90 u59.1 hl hP hD hS h
        · have h := (if_pos hc).symm.trans h
          refine lv_iconst (v := 0) hx hb dm_token_28 (by decide) ?_
          have h := Option.some.inj h
          exact hq_zret hx hb hr hlocks hQ hK hP hD hS (by decide) (by rw [← h]) (by rw [← h]) dm_token_29
end
section
variable {p : Program} {l : Launch} {e : Env} {R : Room} {s : State} {m : MethodId} {args : Array Value} {below : List Frame} {meth : Method} {c : Code} {H H0 : Heap} {locs : List Loc} {cells slots : Nat} {Q : State → Prop}
variable {cc : ByteArray} {pc idx nC : Nat} {ls : Array Slot} {rest : List Value} {D : va_G} {A : Nat → Prop} {own : String} {q : Nat → Nat} {cI cZ cL : ClassId} {z w : va_W}
variable {f_classes f_objects f_count f_want f_compared f_open f_rowCount f_many f_seen f_fail f_level f_at f_self f_brackets f_values f_waiting : Int32}
variable {a_parent a_kindOf a_size a_root a_slotKind a_slot a_kept a_code a_number a_opened a_rowKind a_rowValue a_list a_from a_eAt a_whereAt a_source a_distinct a_keeps a_vKind a_v a_waits : Nat → Int32}
theorem km_token (l1 : Int32) (l2 : Int32) (ur : Int32 × Int32 × (Nat → Int32) × (Nat → Int32) × Int32 × Int32 × Int32 × (Nat → Int32)) (hu : sm_token l1 l2 f_classes f_count a_code a_number f_want f_compared f_open a_opened = some ur) (hx : p.tables.exec = Jvm.exec) (hb : c.code = cc) (hml : c.maxLocals = nC) (hts : ∀ x ∈ hq_tbl, x.before args s = true) (hown : s.vm.findClass own = some m.cls) (hK : va_K D hq_cl (hq_tys cI cZ cL) s) (hP : va_P D hq_cl (hm_w q cI cZ cL f_classes a_parent f_objects a_kindOf a_size a_root a_slotKind a_slot a_kept f_count a_code a_number f_want f_compared f_open a_opened f_rowCount a_rowKind a_rowValue f_many a_list f_seen f_fail f_level a_from a_eAt a_whereAt a_source a_distinct a_keeps f_at f_self f_brackets f_values a_vKind a_v f_waiting a_waits ++ z) H) (hD : va_D A (hm_w q cI cZ cL f_classes a_parent f_objects a_kindOf a_size a_root a_slotKind a_slot a_kept f_count a_code a_number f_want f_compared f_open a_opened f_rowCount a_rowKind a_rowValue f_many a_list f_seen f_fail f_level a_from a_eAt a_whereAt a_source a_distinct a_keeps f_at f_self f_brackets f_values a_vKind a_v f_waiting a_waits ++ z)) (hS : va_S A H0 H locs) (h1 : Cond.methodLink own idx ym_token ∈ hq_tbl) (hR : 4 + 1 ≤ R.frames ∧ 8 + (5 + 11) + 85 ≤ R.locals) (hls : ls.size = nC) (hW : (rest.map fun v => v.category).sum ≤ 8) (hdg : decode cc pc = .ok (.invokevirtual idx, 3)) (hf : cells + 0 ≤ R.cells ∧ slots + 0 ≤ R.slots) (kk : ∀ (H1 : Heap) (locs1 : List Loc), va_P D hq_cl (hm_w q cI cZ cL f_classes a_parent f_objects a_kindOf a_size a_root a_slotKind a_slot a_kept ur.2.1 ur.2.2.1 ur.2.2.2.1 ur.2.2.2.2.1 ur.2.2.2.2.2.1 ur.2.2.2.2.2.2.1 ur.2.2.2.2.2.2.2 f_rowCount a_rowKind a_rowValue f_many a_list f_seen f_fail f_level a_from a_eAt a_whereAt a_source a_distinct a_keeps f_at f_self f_brackets f_values a_vKind a_v f_waiting a_waits ++ z) H1 → va_D A (hm_w q cI cZ cL f_classes a_parent f_objects a_kindOf a_size a_root a_slotKind a_slot a_kept ur.2.1 ur.2.2.1 ur.2.2.2.1 ur.2.2.2.2.1 ur.2.2.2.2.2.1 ur.2.2.2.2.2.2.1 ur.2.2.2.2.2.2.2 f_rowCount a_rowKind a_rowValue f_many a_list f_seen f_fail f_level a_from a_eAt a_whereAt a_source a_distinct a_keeps f_at f_self f_brackets f_values a_vKind a_v f_waiting a_waits ++ z) → va_S A H0 H1 locs1 → W p l e R s m args below meth c H1 locs1 cells slots Q (F0 m (pc + 3) ls (.int ur.1 :: rest))) : W p l e R s m args below meth c H locs cells slots Q (F0 m pc ls (.int l2 :: .int l1 :: .ref (q 0) :: rest)) :=
  hq_callV (q0 := 0) hx hb hml hown hts hK hP hD hS (cm_token l1 l2 ur hu) rfl rfl h1 wi_397 wi_398 wi_338 wi_399 2 rfl (by decide +kernel) ⟨rfl, rfl⟩ hR hls rfl hW hdg hf kk
end
theorem dm_tokens_0 : decode bm_tokens 0 = .ok (.aload_n 0, 1) := by decide +kernel
theorem dm_tokens_1 : decode bm_tokens 1 = .ok (.getfield 131, 3) := by decide +kernel
theorem dm_tokens_4 : decode bm_tokens 4 = .ok (.ireturn, 1) := by decide +kernel
section
variable {l : Launch} {D : va_G} {A : Nat → Prop} {z w : va_W} {q : Nat → Nat} {cI cZ cL : ClassId}
variable {f_classes f_objects f_count f_want f_compared f_open f_rowCount f_many f_seen f_fail f_level f_at f_self f_brackets f_values f_waiting : Int32}
variable {a_parent a_kindOf a_size a_root a_slotKind a_slot a_kept a_code a_number a_opened a_rowKind a_rowValue a_list a_from a_eAt a_whereAt a_source a_distinct a_keeps a_vKind a_v a_waits : Nat → Int32}
set_option maxHeartbeats 4000000 in
set_option maxRecDepth 100000 in
theorem cm_tokens  (ur : Int32) (h : sm_tokens f_count = ur) : hq_Ct l ym_tokens bm_tokens 1 (some .int) { frames := 0, cells := 0, slots := 0, locals := 0 } D (hq_tys cI cZ cL) A [.ref (q 0)] (hm_w q cI cZ cL f_classes a_parent f_objects a_kindOf a_size a_root a_slotKind a_slot a_kept f_count a_code a_number f_want f_compared f_open a_opened f_rowCount a_rowKind a_rowValue f_many a_list f_seen f_fail f_level a_from a_eAt a_whereAt a_source a_distinct a_keeps f_at f_self f_brackets f_values a_vKind a_v f_waiting a_waits ++ z) (hm_w q cI cZ cL f_classes a_parent f_objects a_kindOf a_size a_root a_slotKind a_slot a_kept f_count a_code a_number f_want f_compared f_open a_opened f_rowCount a_rowKind a_rowValue f_many a_list f_seen f_fail f_level a_from a_eAt a_whereAt a_source a_distinct a_keeps f_at f_self f_brackets f_values a_vKind a_v f_waiting a_waits ++ z) (some (.int ur)) 0 0 := by
  refine hq_of (by decide) ?_ (Nat.le_of_ble_eq_true rfl)
  intro p e s m below meth c R args Q hRm hQ hx hb hr hml hts hown hlocks hnm hP hK hD ls hl hS
  have hl : lv_has ls 1 [(0, .ref (q 0))] := hl
  have hown : s.vm.findClass "HeapQueriesModel" = some m.cls := hown
  unfold sm_tokens at h
  refine lv_aload_n hx hb dm_tokens_0 rfl (lv_at hl 0 rfl) ?_
  refine gm_0_count hx hb hts hown hK hP wi_90 dm_tokens_1 ?_
  exact hq_iret hx hb hr hlocks hQ hK hP hD hS (by rw [← h]) rfl dm_tokens_4
end
section
variable {p : Program} {l : Launch} {e : Env} {R : Room} {s : State} {m : MethodId} {args : Array Value} {below : List Frame} {meth : Method} {c : Code} {H H0 : Heap} {locs : List Loc} {cells slots : Nat} {Q : State → Prop}
variable {cc : ByteArray} {pc idx nC : Nat} {ls : Array Slot} {rest : List Value} {D : va_G} {A : Nat → Prop} {own : String} {q : Nat → Nat} {cI cZ cL : ClassId} {z w : va_W}
variable {f_classes f_objects f_count f_want f_compared f_open f_rowCount f_many f_seen f_fail f_level f_at f_self f_brackets f_values f_waiting : Int32}
variable {a_parent a_kindOf a_size a_root a_slotKind a_slot a_kept a_code a_number a_opened a_rowKind a_rowValue a_list a_from a_eAt a_whereAt a_source a_distinct a_keeps a_vKind a_v a_waits : Nat → Int32}
theorem km_tokens  (ur : Int32) (hu : sm_tokens f_count = ur) (hx : p.tables.exec = Jvm.exec) (hb : c.code = cc) (hml : c.maxLocals = nC) (hts : ∀ x ∈ hq_tbl, x.before args s = true) (hown : s.vm.findClass own = some m.cls) (hK : va_K D hq_cl (hq_tys cI cZ cL) s) (hP : va_P D hq_cl (hm_w q cI cZ cL f_classes a_parent f_objects a_kindOf a_size a_root a_slotKind a_slot a_kept f_count a_code a_number f_want f_compared f_open a_opened f_rowCount a_rowKind a_rowValue f_many a_list f_seen f_fail f_level a_from a_eAt a_whereAt a_source a_distinct a_keeps f_at f_self f_brackets f_values a_vKind a_v f_waiting a_waits ++ z) H) (hD : va_D A (hm_w q cI cZ cL f_classes a_parent f_objects a_kindOf a_size a_root a_slotKind a_slot a_kept f_count a_code a_number f_want f_compared f_open a_opened f_rowCount a_rowKind a_rowValue f_many a_list f_seen f_fail f_level a_from a_eAt a_whereAt a_source a_distinct a_keeps f_at f_self f_brackets f_values a_vKind a_v f_waiting a_waits ++ z)) (hS : va_S A H0 H locs) (h1 : Cond.methodLink own idx ym_tokens ∈ hq_tbl) (hR : 0 + 1 ≤ R.frames ∧ 8 + (1 + 11) + 0 ≤ R.locals) (hls : ls.size = nC) (hW : (rest.map fun v => v.category).sum ≤ 8) (hdg : decode cc pc = .ok (.invokevirtual idx, 3)) (hf : cells + 0 ≤ R.cells ∧ slots + 0 ≤ R.slots) (kk : ∀ (H1 : Heap) (locs1 : List Loc), va_P D hq_cl (hm_w q cI cZ cL f_classes a_parent f_objects a_kindOf a_size a_root a_slotKind a_slot a_kept f_count a_code a_number f_want f_compared f_open a_opened f_rowCount a_rowKind a_rowValue f_many a_list f_seen f_fail f_level a_from a_eAt a_whereAt a_source a_distinct a_keeps f_at f_self f_brackets f_values a_vKind a_v f_waiting a_waits ++ z) H1 → va_D A (hm_w q cI cZ cL f_classes a_parent f_objects a_kindOf a_size a_root a_slotKind a_slot a_kept f_count a_code a_number f_want f_compared f_open a_opened f_rowCount a_rowKind a_rowValue f_many a_list f_seen f_fail f_level a_from a_eAt a_whereAt a_source a_distinct a_keeps f_at f_self f_brackets f_values a_vKind a_v f_waiting a_waits ++ z) → va_S A H0 H1 locs1 → W p l e R s m args below meth c H1 locs1 cells slots Q (F0 m (pc + 3) ls (.int ur :: rest))) : W p l e R s m args below meth c H locs cells slots Q (F0 m pc ls (.ref (q 0) :: rest)) :=
  hq_callV (q0 := 0) hx hb hml hown hts hK hP hD hS (cm_tokens  ur hu) rfl rfl h1 wi_400 wi_401 wi_338 wi_402 0 rfl (by decide +kernel) ⟨rfl, rfl⟩ hR hls rfl hW hdg hf kk
end
theorem dm_depth_0 : decode bm_depth 0 = .ok (.iconst 0, 1) := by decide +kernel
theorem dm_depth_1 : decode bm_depth 1 = .ok (.istore_n 1, 1) := by decide +kernel
theorem dm_depth_2 : decode bm_depth 2 = .ok (.iconst 0, 1) := by decide +kernel
theorem dm_depth_3 : decode bm_depth 3 = .ok (.istore_n 2, 1) := by decide +kernel
theorem dm_depth_4 : decode bm_depth 4 = .ok (.iload_n 2, 1) := by decide +kernel
theorem dm_depth_5 : decode bm_depth 5 = .ok (.aload_n 0, 1) := by decide +kernel
theorem dm_depth_6 : decode bm_depth 6 = .ok (.getfield 131, 3) := by decide +kernel
theorem dm_depth_9 : decode bm_depth 9 = .ok (.if_icmp .ge 45, 3) := by decide +kernel
theorem dm_depth_12 : decode bm_depth 12 = .ok (.aload_n 0, 1) := by decide +kernel
theorem dm_depth_13 : decode bm_depth 13 = .ok (.getfield 32, 3) := by decide +kernel
theorem dm_depth_16 : decode bm_depth 16 = .ok (.iload_n 2, 1) := by decide +kernel
theorem dm_depth_17 : decode bm_depth 17 = .ok (.iaload, 1) := by decide +kernel
theorem dm_depth_18 : decode bm_depth 18 = .ok (.bipush 6, 2) := by decide +kernel
theorem dm_depth_20 : decode bm_depth 20 = .ok (.if_icmp .ne 9, 3) := by decide +kernel
theorem dm_depth_23 : decode bm_depth 23 = .ok (.iload_n 1, 1) := by decide +kernel
theorem dm_depth_24 : decode bm_depth 24 = .ok (.iconst 1, 1) := by decide +kernel
theorem dm_depth_25 : decode bm_depth 25 = .ok (.iadd, 1) := by decide +kernel
theorem dm_depth_26 : decode bm_depth 26 = .ok (.goto 21, 3) := by decide +kernel
theorem dm_depth_29 : decode bm_depth 29 = .ok (.aload_n 0, 1) := by decide +kernel
theorem dm_depth_30 : decode bm_depth 30 = .ok (.getfield 32, 3) := by decide +kernel
theorem dm_depth_33 : decode bm_depth 33 = .ok (.iload_n 2, 1) := by decide +kernel
theorem dm_depth_34 : decode bm_depth 34 = .ok (.iaload, 1) := by decide +kernel
theorem dm_depth_35 : decode bm_depth 35 = .ok (.bipush 7, 2) := by decide +kernel
theorem dm_depth_37 : decode bm_depth 37 = .ok (.if_icmp .ne 9, 3) := by decide +kernel
theorem dm_depth_40 : decode bm_depth 40 = .ok (.iload_n 1, 1) := by decide +kernel
theorem dm_depth_41 : decode bm_depth 41 = .ok (.iconst 1, 1) := by decide +kernel
theorem dm_depth_42 : decode bm_depth 42 = .ok (.isub, 1) := by decide +kernel
theorem dm_depth_43 : decode bm_depth 43 = .ok (.goto 4, 3) := by decide +kernel
theorem dm_depth_46 : decode bm_depth 46 = .ok (.iload_n 1, 1) := by decide +kernel
theorem dm_depth_47 : decode bm_depth 47 = .ok (.istore_n 1, 1) := by decide +kernel
theorem dm_depth_48 : decode bm_depth 48 = .ok (.iinc 2 1, 3) := by decide +kernel
theorem dm_depth_51 : decode bm_depth 51 = .ok (.goto (-47), 3) := by decide +kernel
theorem dm_depth_54 : decode bm_depth 54 = .ok (.iload_n 1, 1) := by decide +kernel
theorem dm_depth_55 : decode bm_depth 55 = .ok (.ireturn, 1) := by decide +kernel
section
variable {l : Launch} {D : va_G} {A : Nat → Prop} {z w : va_W} {q : Nat → Nat} {cI cZ cL : ClassId}
variable {f_classes f_objects f_count f_want f_compared f_open f_rowCount f_many f_seen f_fail f_level f_at f_self f_brackets f_values f_waiting : Int32}
variable {a_parent a_kindOf a_size a_root a_slotKind a_slot a_kept a_code a_number a_opened a_rowKind a_rowValue a_list a_from a_eAt a_whereAt a_source a_distinct a_keeps a_vKind a_v a_waits : Nat → Int32}
set_option maxHeartbeats 4000000 in
set_option maxRecDepth 100000 in
theorem cm_depth  (ur : Int32) (h : sm_depth f_count a_code = some ur) : hq_Ct l ym_depth bm_depth 3 (some .int) { frames := 0, cells := 0, slots := 0, locals := 0 } D (hq_tys cI cZ cL) A [.ref (q 0)] (hm_w q cI cZ cL f_classes a_parent f_objects a_kindOf a_size a_root a_slotKind a_slot a_kept f_count a_code a_number f_want f_compared f_open a_opened f_rowCount a_rowKind a_rowValue f_many a_list f_seen f_fail f_level a_from a_eAt a_whereAt a_source a_distinct a_keeps f_at f_self f_brackets f_values a_vKind a_v f_waiting a_waits ++ z) (hm_w q cI cZ cL f_classes a_parent f_objects a_kindOf a_size a_root a_slotKind a_slot a_kept f_count a_code a_number f_want f_compared f_open a_opened f_rowCount a_rowKind a_rowValue f_many a_list f_seen f_fail f_level a_from a_eAt a_whereAt a_source a_distinct a_keeps f_at f_self f_brackets f_values a_vKind a_v f_waiting a_waits ++ z) (some (.int ur)) 0 0 := by
  refine hq_of (by decide) ?_ (Nat.le_of_ble_eq_true rfl)
  intro p e s m below meth c R args Q hRm hQ hx hb hr hml hts hown hlocks hnm hP hK hD ls hl hS
  have hl : lv_has ls 3 [(0, .ref (q 0))] := hl
  have hown : s.vm.findClass "HeapQueriesModel" = some m.cls := hown
  unfold sm_depth at h
  have L4 : ∀ (n : Nat) (l1 : Int32) (l2 : Int32) {ls : Array Slot} {H : Heap} {locs : List Loc}, lv_has ls 3 [(0, .ref (q 0)), (1, .int l1), (2, .int l2)] → va_P D hq_cl (hm_w q cI cZ cL f_classes a_parent f_objects a_kindOf a_size a_root a_slotKind a_slot a_kept f_count a_code a_number f_want f_compared f_open a_opened f_rowCount a_rowKind a_rowValue f_many a_list f_seen f_fail f_level a_from a_eAt a_whereAt a_source a_distinct a_keeps f_at f_self f_brackets f_values a_vKind a_v f_waiting a_waits ++ z) H → va_D A (hm_w q cI cZ cL f_classes a_parent f_objects a_kindOf a_size a_root a_slotKind a_slot a_kept f_count a_code a_number f_want f_compared f_open a_opened f_rowCount a_rowKind a_rowValue f_many a_list f_seen f_fail f_level a_from a_eAt a_whereAt a_source a_distinct a_keeps f_at f_self f_brackets f_values a_vKind a_v f_waiting a_waits ++ z) → va_S A s.heap H locs → ∀ u4, sm_depth_L4 n l1 l2 f_count a_code = some u4 → (∀ (ls : Array Slot) (H : Heap) (locs : List Loc), lv_has ls 3 [(1, .int u4)] → va_P D hq_cl (hm_w q cI cZ cL f_classes a_parent f_objects a_kindOf a_size a_root a_slotKind a_slot a_kept f_count a_code a_number f_want f_compared f_open a_opened f_rowCount a_rowKind a_rowValue f_many a_list f_seen f_fail f_level a_from a_eAt a_whereAt a_source a_distinct a_keeps f_at f_self f_brackets f_values a_vKind a_v f_waiting a_waits ++ z) H → va_D A (hm_w q cI cZ cL f_classes a_parent f_objects a_kindOf a_size a_root a_slotKind a_slot a_kept f_count a_code a_number f_want f_compared f_open a_opened f_rowCount a_rowKind a_rowValue f_many a_list f_seen f_fail f_level a_from a_eAt a_whereAt a_source a_distinct a_keeps f_at f_self f_brackets f_values a_vKind a_v f_waiting a_waits ++ z) → va_S A s.heap H locs → W p l e R s m args below meth c H locs 0 0 Q (F0 m 54 ls [])) → W p l e R s m args below meth c H locs 0 0 Q (F0 m 4 ls []) := by
    intro n
    induction n with
    | zero =>
      intro l1 l2 ls H locs hl hP hD hS u4 h kx
      have h : (none : Option (Int32)) = some u4 := h
      cases h
    | succ n ih =>
      intro l1 l2 ls H locs hl hP hD hS u4 h kx
      have h : sm_depth_L4_B (sm_depth_L4 n) l1 l2 f_count a_code = some u4 := h
      unfold sm_depth_L4_B at h
      refine lv_iload_n hx hb dm_depth_4 rfl (lv_at hl 2 rfl) ?_
      refine lv_aload_n hx hb dm_depth_5 rfl (lv_at hl 0 rfl) ?_
      refine gm_0_count hx hb hts hown hK hP wi_90 dm_depth_6 ?_
      refine lv_icmp_ge (tgt := 54) hx hb dm_depth_9 (by decide) (fun hc => ?_) (fun hc => ?_)
      · have h := (if_pos hc).symm.trans h
        have h := Option.some.inj h
        subst h
        exact kx ls H locs (lv_sub hl [1] rfl) hP hD hS
      · have h := (if_neg hc).symm.trans h
        refine lv_aload_n hx hb dm_depth_12 rfl (lv_at hl 0 rfl) ?_
        refine gm_0_code hx hb hts hown hK hP wi_91 dm_depth_13 ?_
        refine lv_iload_n hx hb dm_depth_16 rfl (lv_at hl 2 rfl) ?_
        obtain ⟨hin, h⟩ := hq_idx h
        refine am_8 hx hb hK hP hin dm_depth_17 ?_
        refine lv_bipush (v := 6) hx hb dm_depth_18 (by decide) ?_
        refine lv_icmp_ne (tgt := 29) hx hb dm_depth_20 (by decide) (fun hc => ?_) (fun hc => ?_)
        · have h := (if_neg hc).symm.trans h
          refine lv_aload_n hx hb dm_depth_29 rfl (lv_at hl 0 rfl) ?_
          refine gm_0_code hx hb hts hown hK hP wi_91 dm_depth_30 ?_
          refine lv_iload_n hx hb dm_depth_33 rfl (lv_at hl 2 rfl) ?_
          obtain ⟨hin, h⟩ := hq_idx h
          refine am_8 hx hb hK hP hin dm_depth_34 ?_
          refine lv_bipush (v := 7) hx hb dm_depth_35 (by decide) ?_
          refine lv_icmp_ne (tgt := 46) hx hb dm_depth_37 (by decide) (fun hc => ?_) (fun hc => ?_)
          · have h := (if_neg hc).symm.trans h
            refine lv_iload_n hx hb dm_depth_46 rfl (lv_at hl 1 rfl) ?_
            refine lv_istore_n (lv' := [(1, .int l1), (0, .ref (q 0)), (2, .int l2)]) hx hb dm_depth_47 rfl hl (by decide) rfl (fun ls hl => ?_)
            refine lv_iinc (k := 2) (v := l2 + 1) (lv' := [(2, .int (l2 + 1)), (1, .int l1), (0, .ref (q 0))]) hx hb dm_depth_48 hl rfl (congrArg (fun j => l2 + j) (by decide)) (by decide) rfl (fun ls hl => ?_)
            refine lv_goto (tgt := 4) hx hb dm_depth_51 (by decide) ?_
            exact ih l1 (l2 + 1) (lv_sub hl [2, 1, 0] rfl) hP hD hS u4 h kx
          · have h := (if_pos hc).symm.trans h
            refine lv_iload_n hx hb dm_depth_40 rfl (lv_at hl 1 rfl) ?_
            refine lv_iconst (v := 1) hx hb dm_depth_41 (by decide) ?_
            refine lv_isub hx hb dm_depth_42 ?_
            refine lv_goto (tgt := 47) hx hb dm_depth_43 (by decide) ?_
            refine lv_istore_n (lv' := [(1, .int (l1 - 1)), (0, .ref (q 0)), (2, .int l2)]) hx hb dm_depth_47 rfl hl (by decide) rfl (fun ls hl => ?_)
            refine lv_iinc (k := 2) (v := l2 + 1) (lv' := [(2, .int (l2 + 1)), (1, .int (l1 - 1)), (0, .ref (q 0))]) hx hb dm_depth_48 hl rfl (congrArg (fun j => l2 + j) (by decide)) (by decide) rfl (fun ls hl => ?_)
            refine lv_goto (tgt := 4) hx hb dm_depth_51 (by decide) ?_
            exact ih (l1 - 1) (l2 + 1) (lv_sub hl [2, 1, 0] rfl) hP hD hS u4 h kx
        · have h := (if_pos hc).symm.trans h
          refine lv_iload_n hx hb dm_depth_23 rfl (lv_at hl 1 rfl) ?_
          refine lv_iconst (v := 1) hx hb dm_depth_24 (by decide) ?_
          refine lv_iadd hx hb dm_depth_25 ?_
          refine lv_goto (tgt := 47) hx hb dm_depth_26 (by decide) ?_
          refine lv_istore_n (lv' := [(1, .int (l1 + 1)), (0, .ref (q 0)), (2, .int l2)]) hx hb dm_depth_47 rfl hl (by decide) rfl (fun ls hl => ?_)
          refine lv_iinc (k := 2) (v := l2 + 1) (lv' := [(2, .int (l2 + 1)), (1, .int (l1 + 1)), (0, .ref (q 0))]) hx hb dm_depth_48 hl rfl (congrArg (fun j => l2 + j) (by decide)) (by decide) rfl (fun ls hl => ?_)
          refine lv_goto (tgt := 4) hx hb dm_depth_51 (by decide) ?_
          exact ih (l1 + 1) (l2 + 1) (lv_sub hl [2, 1, 0] rfl) hP hD hS u4 h kx
  refine lv_iconst (v := 0) hx hb dm_depth_0 (by decide) ?_
  refine lv_istore_n (lv' := [(1, .int 0), (0, .ref (q 0))]) hx hb dm_depth_1 rfl hl (by decide) rfl (fun ls hl => ?_)
  refine lv_iconst (v := 0) hx hb dm_depth_2 (by decide) ?_
  refine lv_istore_n (lv' := [(2, .int 0), (1, .int 0), (0, .ref (q 0))]) hx hb dm_depth_3 rfl hl (by decide) rfl (fun ls hl => ?_)
  obtain ⟨u4, h4, h⟩ := hq_bind h
  refine L4 kF 0 0 (lv_sub hl [2, 1, 0] rfl) hP hD hS u4 h4 (fun ls H locs hl hP hD hS => ?_)
  refine lv_iload_n hx hb dm_depth_54 rfl (lv_at hl 0 rfl) ?_
  have h := Option.some.inj h
  exact hq_iret hx hb hr hlocks hQ hK hP hD hS (by rw [← h]) rfl dm_depth_55
end
section
variable {p : Program} {l : Launch} {e : Env} {R : Room} {s : State} {m : MethodId} {args : Array Value} {below : List Frame} {meth : Method} {c : Code} {H H0 : Heap} {locs : List Loc} {cells slots : Nat} {Q : State → Prop}
variable {cc : ByteArray} {pc idx nC : Nat} {ls : Array Slot} {rest : List Value} {D : va_G} {A : Nat → Prop} {own : String} {q : Nat → Nat} {cI cZ cL : ClassId} {z w : va_W}
variable {f_classes f_objects f_count f_want f_compared f_open f_rowCount f_many f_seen f_fail f_level f_at f_self f_brackets f_values f_waiting : Int32}
variable {a_parent a_kindOf a_size a_root a_slotKind a_slot a_kept a_code a_number a_opened a_rowKind a_rowValue a_list a_from a_eAt a_whereAt a_source a_distinct a_keeps a_vKind a_v a_waits : Nat → Int32}
theorem km_depth  (ur : Int32) (hu : sm_depth f_count a_code = some ur) (hx : p.tables.exec = Jvm.exec) (hb : c.code = cc) (hml : c.maxLocals = nC) (hts : ∀ x ∈ hq_tbl, x.before args s = true) (hown : s.vm.findClass own = some m.cls) (hK : va_K D hq_cl (hq_tys cI cZ cL) s) (hP : va_P D hq_cl (hm_w q cI cZ cL f_classes a_parent f_objects a_kindOf a_size a_root a_slotKind a_slot a_kept f_count a_code a_number f_want f_compared f_open a_opened f_rowCount a_rowKind a_rowValue f_many a_list f_seen f_fail f_level a_from a_eAt a_whereAt a_source a_distinct a_keeps f_at f_self f_brackets f_values a_vKind a_v f_waiting a_waits ++ z) H) (hD : va_D A (hm_w q cI cZ cL f_classes a_parent f_objects a_kindOf a_size a_root a_slotKind a_slot a_kept f_count a_code a_number f_want f_compared f_open a_opened f_rowCount a_rowKind a_rowValue f_many a_list f_seen f_fail f_level a_from a_eAt a_whereAt a_source a_distinct a_keeps f_at f_self f_brackets f_values a_vKind a_v f_waiting a_waits ++ z)) (hS : va_S A H0 H locs) (h1 : Cond.methodLink own idx ym_depth ∈ hq_tbl) (hR : 0 + 1 ≤ R.frames ∧ 8 + (3 + 11) + 0 ≤ R.locals) (hls : ls.size = nC) (hW : (rest.map fun v => v.category).sum ≤ 8) (hdg : decode cc pc = .ok (.invokevirtual idx, 3)) (hf : cells + 0 ≤ R.cells ∧ slots + 0 ≤ R.slots) (kk : ∀ (H1 : Heap) (locs1 : List Loc), va_P D hq_cl (hm_w q cI cZ cL f_classes a_parent f_objects a_kindOf a_size a_root a_slotKind a_slot a_kept f_count a_code a_number f_want f_compared f_open a_opened f_rowCount a_rowKind a_rowValue f_many a_list f_seen f_fail f_level a_from a_eAt a_whereAt a_source a_distinct a_keeps f_at f_self f_brackets f_values a_vKind a_v f_waiting a_waits ++ z) H1 → va_D A (hm_w q cI cZ cL f_classes a_parent f_objects a_kindOf a_size a_root a_slotKind a_slot a_kept f_count a_code a_number f_want f_compared f_open a_opened f_rowCount a_rowKind a_rowValue f_many a_list f_seen f_fail f_level a_from a_eAt a_whereAt a_source a_distinct a_keeps f_at f_self f_brackets f_values a_vKind a_v f_waiting a_waits ++ z) → va_S A H0 H1 locs1 → W p l e R s m args below meth c H1 locs1 cells slots Q (F0 m (pc + 3) ls (.int ur :: rest))) : W p l e R s m args below meth c H locs cells slots Q (F0 m pc ls (.ref (q 0) :: rest)) :=
  hq_callV (q0 := 0) hx hb hml hown hts hK hP hD hS (cm_depth  ur hu) rfl rfl h1 wi_403 wi_404 wi_338 wi_405 0 rfl (by decide +kernel) ⟨rfl, rfl⟩ hR hls rfl hW hdg hf kk
end
theorem dm_clear_0 : decode bm_clear 0 = .ok (.aload_n 0, 1) := by decide +kernel
theorem dm_clear_1 : decode bm_clear 1 = .ok (.iconst 0, 1) := by decide +kernel
theorem dm_clear_2 : decode bm_clear 2 = .ok (.putfield 131, 3) := by decide +kernel
theorem dm_clear_5 : decode bm_clear 5 = .ok (.return_, 1) := by decide +kernel
section
variable {l : Launch} {D : va_G} {A : Nat → Prop} {z w : va_W} {q : Nat → Nat} {cI cZ cL : ClassId}
variable {f_classes f_objects f_count f_want f_compared f_open f_rowCount f_many f_seen f_fail f_level f_at f_self f_brackets f_values f_waiting : Int32}
variable {a_parent a_kindOf a_size a_root a_slotKind a_slot a_kept a_code a_number a_opened a_rowKind a_rowValue a_list a_from a_eAt a_whereAt a_source a_distinct a_keeps a_vKind a_v a_waits : Nat → Int32}
set_option maxHeartbeats 4000000 in
set_option maxRecDepth 100000 in
theorem cm_clear  (ur : Int32) (h : sm_clear f_count = ur) : hq_Ct l ym_clear bm_clear 1 none { frames := 0, cells := 0, slots := 0, locals := 0 } D (hq_tys cI cZ cL) A [.ref (q 0)] (hm_w q cI cZ cL f_classes a_parent f_objects a_kindOf a_size a_root a_slotKind a_slot a_kept f_count a_code a_number f_want f_compared f_open a_opened f_rowCount a_rowKind a_rowValue f_many a_list f_seen f_fail f_level a_from a_eAt a_whereAt a_source a_distinct a_keeps f_at f_self f_brackets f_values a_vKind a_v f_waiting a_waits ++ z) (hm_w q cI cZ cL f_classes a_parent f_objects a_kindOf a_size a_root a_slotKind a_slot a_kept ur a_code a_number f_want f_compared f_open a_opened f_rowCount a_rowKind a_rowValue f_many a_list f_seen f_fail f_level a_from a_eAt a_whereAt a_source a_distinct a_keeps f_at f_self f_brackets f_values a_vKind a_v f_waiting a_waits ++ z) none 0 0 := by
  refine hq_of (by decide) ?_ (Nat.le_of_ble_eq_true rfl)
  intro p e s m below meth c R args Q hRm hQ hx hb hr hml hts hown hlocks hnm hP hK hD ls hl hS
  have hl : lv_has ls 1 [(0, .ref (q 0))] := hl
  have hown : s.vm.findClass "HeapQueriesModel" = some m.cls := hown
  unfold sm_clear at h
  refine lv_aload_n hx hb dm_clear_0 rfl (lv_at hl 0 rfl) ?_
  refine lv_iconst (v := 0) hx hb dm_clear_1 (by decide) ?_
  refine pm_0_count hx hb hts hown hK hP hD hS wi_90 dm_clear_2 (fun H locs hP hD hS => ?_)
  exact hq_vret hx hb hr hlocks hQ hK hP hD hS rfl (by rw [← h]) dm_clear_5
end
section
variable {p : Program} {l : Launch} {e : Env} {R : Room} {s : State} {m : MethodId} {args : Array Value} {below : List Frame} {meth : Method} {c : Code} {H H0 : Heap} {locs : List Loc} {cells slots : Nat} {Q : State → Prop}
variable {cc : ByteArray} {pc idx nC : Nat} {ls : Array Slot} {rest : List Value} {D : va_G} {A : Nat → Prop} {own : String} {q : Nat → Nat} {cI cZ cL : ClassId} {z w : va_W}
variable {f_classes f_objects f_count f_want f_compared f_open f_rowCount f_many f_seen f_fail f_level f_at f_self f_brackets f_values f_waiting : Int32}
variable {a_parent a_kindOf a_size a_root a_slotKind a_slot a_kept a_code a_number a_opened a_rowKind a_rowValue a_list a_from a_eAt a_whereAt a_source a_distinct a_keeps a_vKind a_v a_waits : Nat → Int32}
theorem km_clear  (ur : Int32) (hu : sm_clear f_count = ur) (hx : p.tables.exec = Jvm.exec) (hb : c.code = cc) (hml : c.maxLocals = nC) (hts : ∀ x ∈ hq_tbl, x.before args s = true) (hown : s.vm.findClass own = some m.cls) (hK : va_K D hq_cl (hq_tys cI cZ cL) s) (hP : va_P D hq_cl (hm_w q cI cZ cL f_classes a_parent f_objects a_kindOf a_size a_root a_slotKind a_slot a_kept f_count a_code a_number f_want f_compared f_open a_opened f_rowCount a_rowKind a_rowValue f_many a_list f_seen f_fail f_level a_from a_eAt a_whereAt a_source a_distinct a_keeps f_at f_self f_brackets f_values a_vKind a_v f_waiting a_waits ++ z) H) (hD : va_D A (hm_w q cI cZ cL f_classes a_parent f_objects a_kindOf a_size a_root a_slotKind a_slot a_kept f_count a_code a_number f_want f_compared f_open a_opened f_rowCount a_rowKind a_rowValue f_many a_list f_seen f_fail f_level a_from a_eAt a_whereAt a_source a_distinct a_keeps f_at f_self f_brackets f_values a_vKind a_v f_waiting a_waits ++ z)) (hS : va_S A H0 H locs) (h1 : Cond.methodLink own idx ym_clear ∈ hq_tbl) (hR : 0 + 1 ≤ R.frames ∧ 8 + (1 + 11) + 0 ≤ R.locals) (hls : ls.size = nC) (hW : (rest.map fun v => v.category).sum ≤ 8) (hdg : decode cc pc = .ok (.invokevirtual idx, 3)) (hf : cells + 0 ≤ R.cells ∧ slots + 0 ≤ R.slots) (kk : ∀ (H1 : Heap) (locs1 : List Loc), va_P D hq_cl (hm_w q cI cZ cL f_classes a_parent f_objects a_kindOf a_size a_root a_slotKind a_slot a_kept ur a_code a_number f_want f_compared f_open a_opened f_rowCount a_rowKind a_rowValue f_many a_list f_seen f_fail f_level a_from a_eAt a_whereAt a_source a_distinct a_keeps f_at f_self f_brackets f_values a_vKind a_v f_waiting a_waits ++ z) H1 → va_D A (hm_w q cI cZ cL f_classes a_parent f_objects a_kindOf a_size a_root a_slotKind a_slot a_kept ur a_code a_number f_want f_compared f_open a_opened f_rowCount a_rowKind a_rowValue f_many a_list f_seen f_fail f_level a_from a_eAt a_whereAt a_source a_distinct a_keeps f_at f_self f_brackets f_values a_vKind a_v f_waiting a_waits ++ z) → va_S A H0 H1 locs1 → W p l e R s m args below meth c H1 locs1 cells slots Q (F0 m (pc + 3) ls (rest))) : W p l e R s m args below meth c H locs cells slots Q (F0 m pc ls (.ref (q 0) :: rest)) :=
  hq_callV (q0 := 0) hx hb hml hown hts hK hP hD hS (cm_clear  ur hu) rfl rfl h1 wi_406 wi_407 wi_338 wi_408 0 rfl (by decide +kernel) ⟨rfl, rfl⟩ hR hls rfl hW hdg hf kk
end
theorem dm_under_0 : decode bm_under 0 = .ok (.iload_n 1, 1) := by decide +kernel
theorem dm_under_1 : decode bm_under 1 = .ok (.istore_n 3, 1) := by decide +kernel
theorem dm_under_2 : decode bm_under 2 = .ok (.iconst 0, 1) := by decide +kernel
theorem dm_under_3 : decode bm_under 3 = .ok (.istore 4, 2) := by decide +kernel
theorem dm_under_5 : decode bm_under 5 = .ok (.iload 4, 2) := by decide +kernel
theorem dm_under_7 : decode bm_under 7 = .ok (.bipush 8, 2) := by decide +kernel
theorem dm_under_9 : decode bm_under 9 = .ok (.if_icmp .ge 25, 3) := by decide +kernel
theorem dm_under_12 : decode bm_under 12 = .ok (.iload_n 3, 1) := by decide +kernel
theorem dm_under_13 : decode bm_under 13 = .ok (.ifCond .lt 21, 3) := by decide +kernel
theorem dm_under_16 : decode bm_under 16 = .ok (.iload_n 3, 1) := by decide +kernel
theorem dm_under_17 : decode bm_under 17 = .ok (.iload_n 2, 1) := by decide +kernel
theorem dm_under_18 : decode bm_under 18 = .ok (.if_icmp .eq 16, 3) := by decide +kernel
theorem dm_under_21 : decode bm_under 21 = .ok (.aload_n 0, 1) := by decide +kernel
theorem dm_under_22 : decode bm_under 22 = .ok (.getfield 7, 3) := by decide +kernel
theorem dm_under_25 : decode bm_under 25 = .ok (.iload_n 3, 1) := by decide +kernel
theorem dm_under_26 : decode bm_under 26 = .ok (.iaload, 1) := by decide +kernel
theorem dm_under_27 : decode bm_under 27 = .ok (.istore_n 3, 1) := by decide +kernel
theorem dm_under_28 : decode bm_under 28 = .ok (.iinc 4 1, 3) := by decide +kernel
theorem dm_under_31 : decode bm_under 31 = .ok (.goto (-26), 3) := by decide +kernel
theorem dm_under_34 : decode bm_under 34 = .ok (.iload_n 3, 1) := by decide +kernel
theorem dm_under_35 : decode bm_under 35 = .ok (.iload_n 2, 1) := by decide +kernel
theorem dm_under_36 : decode bm_under 36 = .ok (.if_icmp .ne 7, 3) := by decide +kernel
theorem dm_under_39 : decode bm_under 39 = .ok (.iconst 1, 1) := by decide +kernel
theorem dm_under_40 : decode bm_under 40 = .ok (.goto 4, 3) := by decide +kernel
theorem dm_under_43 : decode bm_under 43 = .ok (.iconst 0, 1) := by decide +kernel
theorem dm_under_44 : decode bm_under 44 = .ok (.ireturn, 1) := by decide +kernel
section
variable {l : Launch} {D : va_G} {A : Nat → Prop} {z w : va_W} {q : Nat → Nat} {cI cZ cL : ClassId}
variable {f_classes f_objects f_count f_want f_compared f_open f_rowCount f_many f_seen f_fail f_level f_at f_self f_brackets f_values f_waiting : Int32}
variable {a_parent a_kindOf a_size a_root a_slotKind a_slot a_kept a_code a_number a_opened a_rowKind a_rowValue a_list a_from a_eAt a_whereAt a_source a_distinct a_keeps a_vKind a_v a_waits : Nat → Int32}
set_option maxHeartbeats 4000000 in
set_option maxRecDepth 100000 in
theorem cm_under (l1 : Int32) (l2 : Int32) (ur : Int32) (h : sm_under l1 l2 a_parent = some ur) : hq_Ct l ym_under bm_under 5 (some .boolean) { frames := 0, cells := 0, slots := 0, locals := 0 } D (hq_tys cI cZ cL) A [.ref (q 0), .int l1, .int l2] (hm_w q cI cZ cL f_classes a_parent f_objects a_kindOf a_size a_root a_slotKind a_slot a_kept f_count a_code a_number f_want f_compared f_open a_opened f_rowCount a_rowKind a_rowValue f_many a_list f_seen f_fail f_level a_from a_eAt a_whereAt a_source a_distinct a_keeps f_at f_self f_brackets f_values a_vKind a_v f_waiting a_waits ++ z) (hm_w q cI cZ cL f_classes a_parent f_objects a_kindOf a_size a_root a_slotKind a_slot a_kept f_count a_code a_number f_want f_compared f_open a_opened f_rowCount a_rowKind a_rowValue f_many a_list f_seen f_fail f_level a_from a_eAt a_whereAt a_source a_distinct a_keeps f_at f_self f_brackets f_values a_vKind a_v f_waiting a_waits ++ z) (some (.int ur)) 0 0 := by
  refine hq_of (by decide) ?_ (Nat.le_of_ble_eq_true rfl)
  intro p e s m below meth c R args Q hRm hQ hx hb hr hml hts hown hlocks hnm hP hK hD ls hl hS
  have hl : lv_has ls 5 [(0, .ref (q 0)), (1, .int l1), (2, .int l2)] := hl
  have hown : s.vm.findClass "HeapQueriesModel" = some m.cls := hown
  unfold sm_under at h
  have J34 : ∀ (l2 : Int32) (l3 : Int32) {ls : Array Slot} {H : Heap} {locs : List Loc}, lv_has ls 5 [(2, .int l2), (3, .int l3)] → va_P D hq_cl (hm_w q cI cZ cL f_classes a_parent f_objects a_kindOf a_size a_root a_slotKind a_slot a_kept f_count a_code a_number f_want f_compared f_open a_opened f_rowCount a_rowKind a_rowValue f_many a_list f_seen f_fail f_level a_from a_eAt a_whereAt a_source a_distinct a_keeps f_at f_self f_brackets f_values a_vKind a_v f_waiting a_waits ++ z) H → va_D A (hm_w q cI cZ cL f_classes a_parent f_objects a_kindOf a_size a_root a_slotKind a_slot a_kept f_count a_code a_number f_want f_compared f_open a_opened f_rowCount a_rowKind a_rowValue f_many a_list f_seen f_fail f_level a_from a_eAt a_whereAt a_source a_distinct a_keeps f_at f_self f_brackets f_values a_vKind a_v f_waiting a_waits ++ z) → va_S A s.heap H locs → sm_under_J34 l2 l3 a_parent = some ur → W p l e R s m args below meth c H locs 0 0 Q (F0 m 34 ls []) := by
    intro l2 l3 ls H locs hl hP hD hS h
    unfold sm_under_J34 at h
    refine lv_iload_n hx hb dm_under_34 rfl (lv_at hl 1 rfl) ?_
    refine lv_iload_n hx hb dm_under_35 rfl (lv_at hl 0 rfl) ?_
    refine lv_icmp_ne (tgt := 43) hx hb dm_under_36 (by decide) (fun hc => ?_) (fun hc => ?_)
    · have h := (if_neg hc).symm.trans h
      refine lv_iconst (v := 0) hx hb dm_under_43 (by decide) ?_
      have h := Option.some.inj h
      exact hq_zret hx hb hr hlocks hQ hK hP hD hS (by decide) (by rw [← h]) rfl dm_under_44
    · have h := (if_pos hc).symm.trans h
      refine lv_iconst (v := 1) hx hb dm_under_39 (by decide) ?_
      refine lv_goto (tgt := 44) hx hb dm_under_40 (by decide) ?_
      have h := Option.some.inj h
      exact hq_zret hx hb hr hlocks hQ hK hP hD hS (by decide) (by rw [← h]) rfl dm_under_44
  have L5 : ∀ (n : Nat) (l2 : Int32) (l3 : Int32) (l4 : Int32) {ls : Array Slot} {H : Heap} {locs : List Loc}, lv_has ls 5 [(0, .ref (q 0)), (2, .int l2), (3, .int l3), (4, .int l4)] → va_P D hq_cl (hm_w q cI cZ cL f_classes a_parent f_objects a_kindOf a_size a_root a_slotKind a_slot a_kept f_count a_code a_number f_want f_compared f_open a_opened f_rowCount a_rowKind a_rowValue f_many a_list f_seen f_fail f_level a_from a_eAt a_whereAt a_source a_distinct a_keeps f_at f_self f_brackets f_values a_vKind a_v f_waiting a_waits ++ z) H → va_D A (hm_w q cI cZ cL f_classes a_parent f_objects a_kindOf a_size a_root a_slotKind a_slot a_kept f_count a_code a_number f_want f_compared f_open a_opened f_rowCount a_rowKind a_rowValue f_many a_list f_seen f_fail f_level a_from a_eAt a_whereAt a_source a_distinct a_keeps f_at f_self f_brackets f_values a_vKind a_v f_waiting a_waits ++ z) → va_S A s.heap H locs → ∀ u5, sm_under_L5 n l2 l3 l4 a_parent = some u5 → (∀ (ls : Array Slot) (H : Heap) (locs : List Loc), lv_has ls 5 [(2, .int l2), (3, .int u5)] → va_P D hq_cl (hm_w q cI cZ cL f_classes a_parent f_objects a_kindOf a_size a_root a_slotKind a_slot a_kept f_count a_code a_number f_want f_compared f_open a_opened f_rowCount a_rowKind a_rowValue f_many a_list f_seen f_fail f_level a_from a_eAt a_whereAt a_source a_distinct a_keeps f_at f_self f_brackets f_values a_vKind a_v f_waiting a_waits ++ z) H → va_D A (hm_w q cI cZ cL f_classes a_parent f_objects a_kindOf a_size a_root a_slotKind a_slot a_kept f_count a_code a_number f_want f_compared f_open a_opened f_rowCount a_rowKind a_rowValue f_many a_list f_seen f_fail f_level a_from a_eAt a_whereAt a_source a_distinct a_keeps f_at f_self f_brackets f_values a_vKind a_v f_waiting a_waits ++ z) → va_S A s.heap H locs → W p l e R s m args below meth c H locs 0 0 Q (F0 m 34 ls [])) → W p l e R s m args below meth c H locs 0 0 Q (F0 m 5 ls []) := by
    intro n
    induction n with
    | zero =>
      intro l2 l3 l4 ls H locs hl hP hD hS u5 h kx
      have h : (none : Option (Int32)) = some u5 := h
      cases h
    | succ n ih =>
      intro l2 l3 l4 ls H locs hl hP hD hS u5 h kx
      have h : sm_under_L5_B (sm_under_L5 n) l2 l3 l4 a_parent = some u5 := h
      unfold sm_under_L5_B at h
      refine lv_iload hx hb dm_under_5 (lv_at hl 3 rfl) ?_
      refine lv_bipush (v := 8) hx hb dm_under_7 (by decide) ?_
      refine lv_icmp_ge (tgt := 34) hx hb dm_under_9 (by decide) (fun hc => ?_) (fun hc => ?_)
      · have h := (if_pos hc).symm.trans h
        have h := Option.some.inj h
        subst h
        exact kx ls H locs (lv_sub hl [1, 2] rfl) hP hD hS
      · have h := (if_neg hc).symm.trans h
        refine lv_iload_n hx hb dm_under_12 rfl (lv_at hl 2 rfl) ?_
        refine lv_if_lt (tgt := 34) hx hb dm_under_13 (by decide) (fun hc => ?_) (fun hc => ?_)
        · have h := (if_pos hc).symm.trans h
          have h := Option.some.inj h
          subst h
          exact kx ls H locs (lv_sub hl [1, 2] rfl) hP hD hS
        · have h := (if_neg hc).symm.trans h
          refine lv_iload_n hx hb dm_under_16 rfl (lv_at hl 2 rfl) ?_
          refine lv_iload_n hx hb dm_under_17 rfl (lv_at hl 1 rfl) ?_
          refine lv_icmp_eq (tgt := 34) hx hb dm_under_18 (by decide) (fun hc => ?_) (fun hc => ?_)
          · have h := (if_pos hc).symm.trans h
            have h := Option.some.inj h
            subst h
            exact kx ls H locs (lv_sub hl [1, 2] rfl) hP hD hS
          · have h := (if_neg hc).symm.trans h
            refine lv_aload_n hx hb dm_under_21 rfl (lv_at hl 0 rfl) ?_
            refine gm_0_parent hx hb hts hown hK hP wi_67 dm_under_22 ?_
            refine lv_iload_n hx hb dm_under_25 rfl (lv_at hl 2 rfl) ?_
            obtain ⟨hin, h⟩ := hq_idx h
            refine am_1 hx hb hK hP hin dm_under_26 ?_
            refine lv_istore_n (lv' := [(3, .int (a_parent l3.toNatClampNeg)), (0, .ref (q 0)), (2, .int l2), (4, .int l4)]) hx hb dm_under_27 rfl hl (by decide) rfl (fun ls hl => ?_)
            refine lv_iinc (k := 3) (v := l4 + 1) (lv' := [(4, .int (l4 + 1)), (3, .int (a_parent l3.toNatClampNeg)), (0, .ref (q 0)), (2, .int l2)]) hx hb dm_under_28 hl rfl (congrArg (fun j => l4 + j) (by decide)) (by decide) rfl (fun ls hl => ?_)
            refine lv_goto (tgt := 5) hx hb dm_under_31 (by decide) ?_
            exact ih l2 (a_parent l3.toNatClampNeg) (l4 + 1) (lv_sub hl [2, 3, 1, 0] rfl) hP hD hS u5 h kx
  refine lv_iload_n hx hb dm_under_0 rfl (lv_at hl 1 rfl) ?_
  refine lv_istore_n (lv' := [(3, .int l1), (0, .ref (q 0)), (1, .int l1), (2, .int l2)]) hx hb dm_under_1 rfl hl (by decide) rfl (fun ls hl => ?_)
  refine lv_iconst (v := 0) hx hb dm_under_2 (by decide) ?_
  refine lv_istore (lv' := [(4, .int 0), (3, .int l1), (0, .ref (q 0)), (1, .int l1), (2, .int l2)]) hx hb dm_under_3 hl (by decide) rfl (fun ls hl => ?_)
  obtain ⟨u5, h5, h⟩ := hq_bind h
  refine L5 kF l2 l1 0 (lv_sub hl [2, 4, 1, 0] rfl) hP hD hS u5 h5 (fun ls H locs hl hP hD hS => ?_)
  exact J34 l2 u5 hl hP hD hS h
end
section
variable {p : Program} {l : Launch} {e : Env} {R : Room} {s : State} {m : MethodId} {args : Array Value} {below : List Frame} {meth : Method} {c : Code} {H H0 : Heap} {locs : List Loc} {cells slots : Nat} {Q : State → Prop}
variable {cc : ByteArray} {pc idx nC : Nat} {ls : Array Slot} {rest : List Value} {D : va_G} {A : Nat → Prop} {own : String} {q : Nat → Nat} {cI cZ cL : ClassId} {z w : va_W}
variable {f_classes f_objects f_count f_want f_compared f_open f_rowCount f_many f_seen f_fail f_level f_at f_self f_brackets f_values f_waiting : Int32}
variable {a_parent a_kindOf a_size a_root a_slotKind a_slot a_kept a_code a_number a_opened a_rowKind a_rowValue a_list a_from a_eAt a_whereAt a_source a_distinct a_keeps a_vKind a_v a_waits : Nat → Int32}
theorem km_under (l1 : Int32) (l2 : Int32) (ur : Int32) (hu : sm_under l1 l2 a_parent = some ur) (hx : p.tables.exec = Jvm.exec) (hb : c.code = cc) (hml : c.maxLocals = nC) (hts : ∀ x ∈ hq_tbl, x.before args s = true) (hown : s.vm.findClass own = some m.cls) (hK : va_K D hq_cl (hq_tys cI cZ cL) s) (hP : va_P D hq_cl (hm_w q cI cZ cL f_classes a_parent f_objects a_kindOf a_size a_root a_slotKind a_slot a_kept f_count a_code a_number f_want f_compared f_open a_opened f_rowCount a_rowKind a_rowValue f_many a_list f_seen f_fail f_level a_from a_eAt a_whereAt a_source a_distinct a_keeps f_at f_self f_brackets f_values a_vKind a_v f_waiting a_waits ++ z) H) (hD : va_D A (hm_w q cI cZ cL f_classes a_parent f_objects a_kindOf a_size a_root a_slotKind a_slot a_kept f_count a_code a_number f_want f_compared f_open a_opened f_rowCount a_rowKind a_rowValue f_many a_list f_seen f_fail f_level a_from a_eAt a_whereAt a_source a_distinct a_keeps f_at f_self f_brackets f_values a_vKind a_v f_waiting a_waits ++ z)) (hS : va_S A H0 H locs) (h1 : Cond.methodLink own idx ym_under ∈ hq_tbl) (hR : 0 + 1 ≤ R.frames ∧ 8 + (5 + 11) + 0 ≤ R.locals) (hls : ls.size = nC) (hW : (rest.map fun v => v.category).sum ≤ 8) (hdg : decode cc pc = .ok (.invokevirtual idx, 3)) (hf : cells + 0 ≤ R.cells ∧ slots + 0 ≤ R.slots) (kk : ∀ (H1 : Heap) (locs1 : List Loc), va_P D hq_cl (hm_w q cI cZ cL f_classes a_parent f_objects a_kindOf a_size a_root a_slotKind a_slot a_kept f_count a_code a_number f_want f_compared f_open a_opened f_rowCount a_rowKind a_rowValue f_many a_list f_seen f_fail f_level a_from a_eAt a_whereAt a_source a_distinct a_keeps f_at f_self f_brackets f_values a_vKind a_v f_waiting a_waits ++ z) H1 → va_D A (hm_w q cI cZ cL f_classes a_parent f_objects a_kindOf a_size a_root a_slotKind a_slot a_kept f_count a_code a_number f_want f_compared f_open a_opened f_rowCount a_rowKind a_rowValue f_many a_list f_seen f_fail f_level a_from a_eAt a_whereAt a_source a_distinct a_keeps f_at f_self f_brackets f_values a_vKind a_v f_waiting a_waits ++ z) → va_S A H0 H1 locs1 → W p l e R s m args below meth c H1 locs1 cells slots Q (F0 m (pc + 3) ls (.int ur :: rest))) : W p l e R s m args below meth c H locs cells slots Q (F0 m pc ls (.int l2 :: .int l1 :: .ref (q 0) :: rest)) :=
  hq_callV (q0 := 0) hx hb hml hown hts hK hP hD hS (cm_under l1 l2 ur hu) rfl rfl h1 wi_409 wi_410 wi_338 wi_411 2 rfl (by decide +kernel) ⟨rfl, rfl⟩ hR hls rfl hW hdg hf kk
end
theorem dm_gather_0 : decode bm_gather 0 = .ok (.aload_n 0, 1) := by decide +kernel
theorem dm_gather_1 : decode bm_gather 1 = .ok (.iconst 0, 1) := by decide +kernel
theorem dm_gather_2 : decode bm_gather 2 = .ok (.putfield 165, 3) := by decide +kernel
theorem dm_gather_5 : decode bm_gather 5 = .ok (.aload_n 0, 1) := by decide +kernel
theorem dm_gather_6 : decode bm_gather 6 = .ok (.getfield 59, 3) := by decide +kernel
theorem dm_gather_9 : decode bm_gather 9 = .ok (.aload_n 0, 1) := by decide +kernel
theorem dm_gather_10 : decode bm_gather 10 = .ok (.getfield 152, 3) := by decide +kernel
theorem dm_gather_13 : decode bm_gather 13 = .ok (.iaload, 1) := by decide +kernel
theorem dm_gather_14 : decode bm_gather 14 = .ok (.istore_n 1, 1) := by decide +kernel
theorem dm_gather_15 : decode bm_gather 15 = .ok (.iload_n 1, 1) := by decide +kernel
theorem dm_gather_16 : decode bm_gather 16 = .ok (.ifCond .ge 87, 3) := by decide +kernel
theorem dm_gather_19 : decode bm_gather 19 = .ok (.aload_n 0, 1) := by decide +kernel
theorem dm_gather_20 : decode bm_gather 20 = .ok (.getfield 50, 3) := by decide +kernel
theorem dm_gather_23 : decode bm_gather 23 = .ok (.aload_n 0, 1) := by decide +kernel
theorem dm_gather_24 : decode bm_gather 24 = .ok (.getfield 152, 3) := by decide +kernel
theorem dm_gather_27 : decode bm_gather 27 = .ok (.iconst 1, 1) := by decide +kernel
theorem dm_gather_28 : decode bm_gather 28 = .ok (.iadd, 1) := by decide +kernel
theorem dm_gather_29 : decode bm_gather 29 = .ok (.iaload, 1) := by decide +kernel
theorem dm_gather_30 : decode bm_gather 30 = .ok (.istore_n 2, 1) := by decide +kernel
theorem dm_gather_31 : decode bm_gather 31 = .ok (.iload_n 2, 1) := by decide +kernel
theorem dm_gather_32 : decode bm_gather 32 = .ok (.aload_n 0, 1) := by decide +kernel
theorem dm_gather_33 : decode bm_gather 33 = .ok (.getfield 149, 3) := by decide +kernel
theorem dm_gather_36 : decode bm_gather 36 = .ok (.if_icmp .ge 51, 3) := by decide +kernel
theorem dm_gather_39 : decode bm_gather 39 = .ok (.aload_n 0, 1) := by decide +kernel
theorem dm_gather_40 : decode bm_gather 40 = .ok (.getfield 47, 3) := by decide +kernel
theorem dm_gather_43 : decode bm_gather 43 = .ok (.aload_n 0, 1) := by decide +kernel
theorem dm_gather_44 : decode bm_gather 44 = .ok (.getfield 165, 3) := by decide +kernel
theorem dm_gather_47 : decode bm_gather 47 = .ok (.aload_n 0, 1) := by decide +kernel
theorem dm_gather_48 : decode bm_gather 48 = .ok (.getfield 44, 3) := by decide +kernel
theorem dm_gather_51 : decode bm_gather 51 = .ok (.iload_n 2, 1) := by decide +kernel
theorem dm_gather_52 : decode bm_gather 52 = .ok (.iaload, 1) := by decide +kernel
theorem dm_gather_53 : decode bm_gather 53 = .ok (.iastore, 1) := by decide +kernel
theorem dm_gather_54 : decode bm_gather 54 = .ok (.aload_n 0, 1) := by decide +kernel
theorem dm_gather_55 : decode bm_gather 55 = .ok (.aload_n 0, 1) := by decide +kernel
theorem dm_gather_56 : decode bm_gather 56 = .ok (.getfield 41, 3) := by decide +kernel
theorem dm_gather_59 : decode bm_gather 59 = .ok (.iload_n 2, 1) := by decide +kernel
theorem dm_gather_60 : decode bm_gather 60 = .ok (.iaload, 1) := by decide +kernel
theorem dm_gather_61 : decode bm_gather 61 = .ok (.iconst 2, 1) := by decide +kernel
theorem dm_gather_62 : decode bm_gather 62 = .ok (.if_icmp .ne 12, 3) := by decide +kernel
theorem dm_gather_65 : decode bm_gather 65 = .ok (.aload_n 0, 1) := by decide +kernel
theorem dm_gather_66 : decode bm_gather 66 = .ok (.getfield 165, 3) := by decide +kernel
theorem dm_gather_69 : decode bm_gather 69 = .ok (.iconst 1, 1) := by decide +kernel
theorem dm_gather_70 : decode bm_gather 70 = .ok (.iadd, 1) := by decide +kernel
theorem dm_gather_71 : decode bm_gather 71 = .ok (.goto 7, 3) := by decide +kernel
theorem dm_gather_74 : decode bm_gather 74 = .ok (.aload_n 0, 1) := by decide +kernel
theorem dm_gather_75 : decode bm_gather 75 = .ok (.getfield 165, 3) := by decide +kernel
theorem dm_gather_78 : decode bm_gather 78 = .ok (.putfield 165, 3) := by decide +kernel
theorem dm_gather_81 : decode bm_gather 81 = .ok (.iinc 2 1, 3) := by decide +kernel
theorem dm_gather_84 : decode bm_gather 84 = .ok (.goto (-53), 3) := by decide +kernel
theorem dm_gather_87 : decode bm_gather 87 = .ok (.aload_n 0, 1) := by decide +kernel
theorem dm_gather_88 : decode bm_gather 88 = .ok (.aload_n 0, 1) := by decide +kernel
theorem dm_gather_89 : decode bm_gather 89 = .ok (.getfield 50, 3) := by decide +kernel
theorem dm_gather_92 : decode bm_gather 92 = .ok (.aload_n 0, 1) := by decide +kernel
theorem dm_gather_93 : decode bm_gather 93 = .ok (.getfield 152, 3) := by decide +kernel
theorem dm_gather_96 : decode bm_gather 96 = .ok (.iconst 1, 1) := by decide +kernel
theorem dm_gather_97 : decode bm_gather 97 = .ok (.iadd, 1) := by decide +kernel
theorem dm_gather_98 : decode bm_gather 98 = .ok (.iaload, 1) := by decide +kernel
theorem dm_gather_99 : decode bm_gather 99 = .ok (.putfield 149, 3) := by decide +kernel
theorem dm_gather_102 : decode bm_gather 102 = .ok (.return_, 1) := by decide +kernel
theorem dm_gather_103 : decode bm_gather 103 = .ok (.iconst 0, 1) := by decide +kernel
theorem dm_gather_104 : decode bm_gather 104 = .ok (.istore_n 2, 1) := by decide +kernel
theorem dm_gather_105 : decode bm_gather 105 = .ok (.iload_n 2, 1) := by decide +kernel
theorem dm_gather_106 : decode bm_gather 106 = .ok (.aload_n 0, 1) := by decide +kernel
theorem dm_gather_107 : decode bm_gather 107 = .ok (.getfield 81, 3) := by decide +kernel
theorem dm_gather_110 : decode bm_gather 110 = .ok (.if_icmp .ge 91, 3) := by decide +kernel
theorem dm_gather_113 : decode bm_gather 113 = .ok (.aload_n 0, 1) := by decide +kernel
theorem dm_gather_114 : decode bm_gather 114 = .ok (.getfield 32, 3) := by decide +kernel
theorem dm_gather_117 : decode bm_gather 117 = .ok (.iload_n 1, 1) := by decide +kernel
theorem dm_gather_118 : decode bm_gather 118 = .ok (.iaload, 1) := by decide +kernel
theorem dm_gather_119 : decode bm_gather 119 = .ok (.bipush 8, 2) := by decide +kernel
theorem dm_gather_121 : decode bm_gather 121 = .ok (.if_icmp .ne 26, 3) := by decide +kernel
theorem dm_gather_124 : decode bm_gather 124 = .ok (.aload_n 0, 1) := by decide +kernel
theorem dm_gather_125 : decode bm_gather 125 = .ok (.getfield 13, 3) := by decide +kernel
theorem dm_gather_128 : decode bm_gather 128 = .ok (.iload_n 2, 1) := by decide +kernel
theorem dm_gather_129 : decode bm_gather 129 = .ok (.iaload, 1) := by decide +kernel
theorem dm_gather_130 : decode bm_gather 130 = .ok (.aload_n 0, 1) := by decide +kernel
theorem dm_gather_131 : decode bm_gather 131 = .ok (.getfield 35, 3) := by decide +kernel
theorem dm_gather_134 : decode bm_gather 134 = .ok (.iload_n 1, 1) := by decide +kernel
theorem dm_gather_135 : decode bm_gather 135 = .ok (.iaload, 1) := by decide +kernel
theorem dm_gather_136 : decode bm_gather 136 = .ok (.if_icmp .ne 7, 3) := by decide +kernel
theorem dm_gather_139 : decode bm_gather 139 = .ok (.iconst 1, 1) := by decide +kernel
theorem dm_gather_140 : decode bm_gather 140 = .ok (.goto 23, 3) := by decide +kernel
theorem dm_gather_143 : decode bm_gather 143 = .ok (.iconst 0, 1) := by decide +kernel
theorem dm_gather_144 : decode bm_gather 144 = .ok (.goto 19, 3) := by decide +kernel
theorem dm_gather_147 : decode bm_gather 147 = .ok (.aload_n 0, 1) := by decide +kernel
theorem dm_gather_148 : decode bm_gather 148 = .ok (.aload_n 0, 1) := by decide +kernel
theorem dm_gather_149 : decode bm_gather 149 = .ok (.getfield 13, 3) := by decide +kernel
theorem dm_gather_152 : decode bm_gather 152 = .ok (.iload_n 2, 1) := by decide +kernel
theorem dm_gather_153 : decode bm_gather 153 = .ok (.iaload, 1) := by decide +kernel
theorem dm_gather_154 : decode bm_gather 154 = .ok (.aload_n 0, 1) := by decide +kernel
theorem dm_gather_155 : decode bm_gather 155 = .ok (.getfield 35, 3) := by decide +kernel
theorem dm_gather_158 : decode bm_gather 158 = .ok (.iload_n 1, 1) := by decide +kernel
theorem dm_gather_159 : decode bm_gather 159 = .ok (.iaload, 1) := by decide +kernel
theorem dm_gather_160 : decode bm_gather 160 = .ok (.invokevirtual 168, 3) := by decide +kernel
theorem dm_gather_163 : decode bm_gather 163 = .ok (.istore_n 3, 1) := by decide +kernel
theorem dm_gather_164 : decode bm_gather 164 = .ok (.aload_n 0, 1) := by decide +kernel
theorem dm_gather_165 : decode bm_gather 165 = .ok (.getfield 47, 3) := by decide +kernel
theorem dm_gather_168 : decode bm_gather 168 = .ok (.aload_n 0, 1) := by decide +kernel
theorem dm_gather_169 : decode bm_gather 169 = .ok (.getfield 165, 3) := by decide +kernel
theorem dm_gather_172 : decode bm_gather 172 = .ok (.iload_n 2, 1) := by decide +kernel
theorem dm_gather_173 : decode bm_gather 173 = .ok (.iastore, 1) := by decide +kernel
theorem dm_gather_174 : decode bm_gather 174 = .ok (.aload_n 0, 1) := by decide +kernel
theorem dm_gather_175 : decode bm_gather 175 = .ok (.iload_n 3, 1) := by decide +kernel
theorem dm_gather_176 : decode bm_gather 176 = .ok (.ifCond .eq 12, 3) := by decide +kernel
theorem dm_gather_179 : decode bm_gather 179 = .ok (.aload_n 0, 1) := by decide +kernel
theorem dm_gather_180 : decode bm_gather 180 = .ok (.getfield 165, 3) := by decide +kernel
theorem dm_gather_183 : decode bm_gather 183 = .ok (.iconst 1, 1) := by decide +kernel
theorem dm_gather_184 : decode bm_gather 184 = .ok (.iadd, 1) := by decide +kernel
theorem dm_gather_185 : decode bm_gather 185 = .ok (.goto 7, 3) := by decide +kernel
theorem dm_gather_188 : decode bm_gather 188 = .ok (.aload_n 0, 1) := by decide +kernel
theorem dm_gather_189 : decode bm_gather 189 = .ok (.getfield 165, 3) := by decide +kernel
theorem dm_gather_192 : decode bm_gather 192 = .ok (.putfield 165, 3) := by decide +kernel
theorem dm_gather_195 : decode bm_gather 195 = .ok (.iinc 2 1, 3) := by decide +kernel
theorem dm_gather_198 : decode bm_gather 198 = .ok (.goto (-93), 3) := by decide +kernel
theorem dm_gather_201 : decode bm_gather 201 = .ok (.return_, 1) := by decide +kernel
section
variable {l : Launch} {D : va_G} {A : Nat → Prop} {z w : va_W} {q : Nat → Nat} {cI cZ cL : ClassId}
variable {f_classes f_objects f_count f_want f_compared f_open f_rowCount f_many f_seen f_fail f_level f_at f_self f_brackets f_values f_waiting : Int32}
variable {a_parent a_kindOf a_size a_root a_slotKind a_slot a_kept a_code a_number a_opened a_rowKind a_rowValue a_list a_from a_eAt a_whereAt a_source a_distinct a_keeps a_vKind a_v a_waits : Nat → Int32}
set_option maxHeartbeats 4000000 in
set_option maxRecDepth 100000 in
theorem cm_gather  (ur : Int32 × Int32 × (Nat → Int32)) (h : sm_gather a_parent f_objects a_kindOf a_code a_number f_rowCount a_rowKind a_rowValue f_many a_list f_level a_from a_source = some ur) : hq_Ct l ym_gather bm_gather 4 none { frames := 1, cells := 0, slots := 0, locals := 24 } D (hq_tys cI cZ cL) A [.ref (q 0)] (hm_w q cI cZ cL f_classes a_parent f_objects a_kindOf a_size a_root a_slotKind a_slot a_kept f_count a_code a_number f_want f_compared f_open a_opened f_rowCount a_rowKind a_rowValue f_many a_list f_seen f_fail f_level a_from a_eAt a_whereAt a_source a_distinct a_keeps f_at f_self f_brackets f_values a_vKind a_v f_waiting a_waits ++ z) (hm_w q cI cZ cL f_classes a_parent f_objects a_kindOf a_size a_root a_slotKind a_slot a_kept f_count a_code a_number f_want f_compared f_open a_opened ur.1 a_rowKind a_rowValue ur.2.1 ur.2.2 f_seen f_fail f_level a_from a_eAt a_whereAt a_source a_distinct a_keeps f_at f_self f_brackets f_values a_vKind a_v f_waiting a_waits ++ z) none 0 0 := by
  refine hq_of (by decide) ?_ (Nat.le_of_ble_eq_true rfl)
  intro p e s m below meth c R args Q hRm hQ hx hb hr hml hts hown hlocks hnm hP hK hD ls hl hS
  have hl : lv_has ls 4 [(0, .ref (q 0))] := hl
  have hown : s.vm.findClass "HeapQueriesModel" = some m.cls := hown
  unfold sm_gather at h
  have L105 : ∀ (n : Nat) (l1 : Int32) (l2 : Int32) {f_rowCount : Int32} {f_many : Int32} {a_list : Nat → Int32} {ls : Array Slot} {H : Heap} {locs : List Loc}, lv_has ls 4 [(0, .ref (q 0)), (1, .int l1), (2, .int l2)] → va_P D hq_cl (hm_w q cI cZ cL f_classes a_parent f_objects a_kindOf a_size a_root a_slotKind a_slot a_kept f_count a_code a_number f_want f_compared f_open a_opened f_rowCount a_rowKind a_rowValue f_many a_list f_seen f_fail f_level a_from a_eAt a_whereAt a_source a_distinct a_keeps f_at f_self f_brackets f_values a_vKind a_v f_waiting a_waits ++ z) H → va_D A (hm_w q cI cZ cL f_classes a_parent f_objects a_kindOf a_size a_root a_slotKind a_slot a_kept f_count a_code a_number f_want f_compared f_open a_opened f_rowCount a_rowKind a_rowValue f_many a_list f_seen f_fail f_level a_from a_eAt a_whereAt a_source a_distinct a_keeps f_at f_self f_brackets f_values a_vKind a_v f_waiting a_waits ++ z) → va_S A s.heap H locs → ∀ u105, sm_gather_L105 n l1 l2 a_parent f_objects a_kindOf a_code a_number f_many a_list = some u105 → (∀ (ls : Array Slot) (H : Heap) (locs : List Loc), lv_has ls 4 [] → va_P D hq_cl (hm_w q cI cZ cL f_classes a_parent f_objects a_kindOf a_size a_root a_slotKind a_slot a_kept f_count a_code a_number f_want f_compared f_open a_opened f_rowCount a_rowKind a_rowValue u105.1 u105.2 f_seen f_fail f_level a_from a_eAt a_whereAt a_source a_distinct a_keeps f_at f_self f_brackets f_values a_vKind a_v f_waiting a_waits ++ z) H → va_D A (hm_w q cI cZ cL f_classes a_parent f_objects a_kindOf a_size a_root a_slotKind a_slot a_kept f_count a_code a_number f_want f_compared f_open a_opened f_rowCount a_rowKind a_rowValue u105.1 u105.2 f_seen f_fail f_level a_from a_eAt a_whereAt a_source a_distinct a_keeps f_at f_self f_brackets f_values a_vKind a_v f_waiting a_waits ++ z) → va_S A s.heap H locs → W p l e R s m args below meth c H locs 0 0 Q (F0 m 201 ls [])) → W p l e R s m args below meth c H locs 0 0 Q (F0 m 105 ls []) := by
    intro n
    induction n with
    | zero =>
      intro l1 l2 f_rowCount f_many a_list ls H locs hl hP hD hS u105 h kx
      have h : (none : Option (Int32 × (Nat → Int32))) = some u105 := h
      cases h
    | succ n ih =>
      intro l1 l2 f_rowCount f_many a_list ls H locs hl hP hD hS u105 h kx
      have h : sm_gather_L105_B (sm_gather_L105 n) l1 l2 a_parent f_objects a_kindOf a_code a_number f_many a_list = some u105 := h
      unfold sm_gather_L105_B at h
      have J163 : ∀ (l2 : Int32) (s0 : Int32) {f_many : Int32} {a_list : Nat → Int32} {ls : Array Slot} {H : Heap} {locs : List Loc}, lv_has ls 4 [(0, .ref (q 0)), (1, .int l1), (2, .int l2)] → va_P D hq_cl (hm_w q cI cZ cL f_classes a_parent f_objects a_kindOf a_size a_root a_slotKind a_slot a_kept f_count a_code a_number f_want f_compared f_open a_opened f_rowCount a_rowKind a_rowValue f_many a_list f_seen f_fail f_level a_from a_eAt a_whereAt a_source a_distinct a_keeps f_at f_self f_brackets f_values a_vKind a_v f_waiting a_waits ++ z) H → va_D A (hm_w q cI cZ cL f_classes a_parent f_objects a_kindOf a_size a_root a_slotKind a_slot a_kept f_count a_code a_number f_want f_compared f_open a_opened f_rowCount a_rowKind a_rowValue f_many a_list f_seen f_fail f_level a_from a_eAt a_whereAt a_source a_distinct a_keeps f_at f_self f_brackets f_values a_vKind a_v f_waiting a_waits ++ z) → va_S A s.heap H locs → sm_gather_J163 (sm_gather_L105 n) l1 l2 s0 a_parent f_objects a_kindOf a_code a_number f_many a_list = some u105 → W p l e R s m args below meth c H locs 0 0 Q (F0 m 163 ls [.int s0]) := by
        intro l2 s0 f_many a_list ls H locs hl hP hD hS h
        unfold sm_gather_J163 at h
        refine lv_istore_n (lv' := [(3, .int s0), (0, .ref (q 0)), (1, .int l1), (2, .int l2)]) hx hb dm_gather_163 rfl hl (by decide) rfl (fun ls hl => ?_)
        refine lv_aload_n hx hb dm_gather_164 rfl (lv_at hl 1 rfl) ?_
        refine gm_0_list hx hb hts hown hK hP wi_96 dm_gather_165 ?_
        refine lv_aload_n hx hb dm_gather_168 rfl (lv_at hl 1 rfl) ?_
        refine gm_0_many hx hb hts hown hK hP wi_97 dm_gather_169 ?_
        refine lv_iload_n hx hb dm_gather_172 rfl (lv_at hl 3 rfl) ?_
        obtain ⟨hin, h⟩ := hq_idx h
        refine tm_13 hx hb hK hP hD hS hin dm_gather_173 (fun H locs hP hD hS => ?_)
        refine lv_aload_n hx hb dm_gather_174 rfl (lv_at hl 1 rfl) ?_
        refine lv_iload_n hx hb dm_gather_175 rfl (lv_at hl 0 rfl) ?_
        refine lv_if_eq (tgt := 188) hx hb dm_gather_176 (by decide) (fun hc => ?_) (fun hc => ?_)
        · have h := (if_pos hc).symm.trans h
          refine lv_aload_n hx hb dm_gather_188 rfl (lv_at hl 1 rfl) ?_
          refine gm_0_many hx hb hts hown hK hP wi_97 dm_gather_189 ?_
          refine pm_0_many hx hb hts hown hK hP hD hS wi_97 dm_gather_192 (fun H locs hP hD hS => ?_)
          refine lv_iinc (k := 3) (v := l2 + 1) (lv' := [(2, .int (l2 + 1)), (3, .int s0), (0, .ref (q 0)), (1, .int l1)]) hx hb dm_gather_195 hl rfl (congrArg (fun j => l2 + j) (by decide)) (by decide) rfl (fun ls hl => ?_)
          refine lv_goto (tgt := 105) hx hb dm_gather_198 (by decide) ?_
          exact ih l1 (l2 + 1) (lv_sub hl [2, 3, 0] rfl) hP hD hS u105 h kx
        · have h := (if_neg hc).symm.trans h
          refine lv_aload_n hx hb dm_gather_179 rfl (lv_at hl 1 rfl) ?_
          refine gm_0_many hx hb hts hown hK hP wi_97 dm_gather_180 ?_
          refine lv_iconst (v := 1) hx hb dm_gather_183 (by decide) ?_
          refine lv_iadd hx hb dm_gather_184 ?_
          refine lv_goto (tgt := 192) hx hb dm_gather_185 (by decide) ?_
          refine pm_0_many hx hb hts hown hK hP hD hS wi_97 dm_gather_192 (fun H locs hP hD hS => ?_)
          refine lv_iinc (k := 3) (v := l2 + 1) (lv' := [(2, .int (l2 + 1)), (3, .int s0), (0, .ref (q 0)), (1, .int l1)]) hx hb dm_gather_195 hl rfl (congrArg (fun j => l2 + j) (by decide)) (by decide) rfl (fun ls hl => ?_)
          refine lv_goto (tgt := 105) hx hb dm_gather_198 (by decide) ?_
          exact ih l1 (l2 + 1) (lv_sub hl [2, 3, 0] rfl) hP hD hS u105 h kx
      refine lv_iload_n hx hb dm_gather_105 rfl (lv_at hl 2 rfl) ?_
      refine lv_aload_n hx hb dm_gather_106 rfl (lv_at hl 0 rfl) ?_
      refine gm_0_objects hx hb hts hown hK hP wi_68 dm_gather_107 ?_
      refine lv_icmp_ge (tgt := 201) hx hb dm_gather_110 (by decide) (fun hc => ?_) (fun hc => ?_)
      · have h := (if_pos hc).symm.trans h
        have h := Option.some.inj h
        subst h
        exact kx ls H locs (lv_sub hl [] rfl) hP hD hS
      · have h := (if_neg hc).symm.trans h
        refine lv_aload_n hx hb dm_gather_113 rfl (lv_at hl 0 rfl) ?_
        refine gm_0_code hx hb hts hown hK hP wi_91 dm_gather_114 ?_
        refine lv_iload_n hx hb dm_gather_117 rfl (lv_at hl 1 rfl) ?_
        obtain ⟨hin, h⟩ := hq_idx h
        refine am_8 hx hb hK hP hin dm_gather_118 ?_
        refine lv_bipush (v := 8) hx hb dm_gather_119 (by decide) ?_
        refine lv_icmp_ne (tgt := 147) hx hb dm_gather_121 (by decide) (fun hc => ?_) (fun hc => ?_)
        · have h := (if_neg hc).symm.trans h
          refine lv_aload_n hx hb dm_gather_147 rfl (lv_at hl 0 rfl) ?_
          refine lv_aload_n hx hb dm_gather_148 rfl (lv_at hl 0 rfl) ?_
          refine gm_0_kindOf hx hb hts hown hK hP wi_69 dm_gather_149 ?_
          refine lv_iload_n hx hb dm_gather_152 rfl (lv_at hl 2 rfl) ?_
          obtain ⟨hin, h⟩ := hq_idx h
          refine am_2 hx hb hK hP hin dm_gather_153 ?_
          refine lv_aload_n hx hb dm_gather_154 rfl (lv_at hl 0 rfl) ?_
          refine gm_0_number hx hb hts hown hK hP wi_94 dm_gather_155 ?_
          refine lv_iload_n hx hb dm_gather_158 rfl (lv_at hl 1 rfl) ?_
          obtain ⟨hin, h⟩ := hq_idx h
          refine am_9 hx hb hK hP hin dm_gather_159 ?_
          obtain ⟨v160, h160, h⟩ := hq_bind h
          refine km_under (a_kindOf l2.toNatClampNeg) (a_number l1.toNatClampNeg) v160 h160 hx hb hml hts hown hK hP hD hS wi_98 (by rw [hRm]; exact ⟨Nat.le_of_ble_eq_true rfl, Nat.le_of_ble_eq_true rfl⟩) hl.1 (Nat.le_of_ble_eq_true rfl) dm_gather_160 ⟨Nat.zero_le _, Nat.zero_le _⟩ (fun H locs hP hD hS => ?_)
          exact J163 l2 v160 hl hP hD hS h
        · have h := (if_pos hc).symm.trans h
          refine lv_aload_n hx hb dm_gather_124 rfl (lv_at hl 0 rfl) ?_
          refine gm_0_kindOf hx hb hts hown hK hP wi_69 dm_gather_125 ?_
          refine lv_iload_n hx hb dm_gather_128 rfl (lv_at hl 2 rfl) ?_
          obtain ⟨hin, h⟩ := hq_idx h
          refine am_2 hx hb hK hP hin dm_gather_129 ?_
          refine lv_aload_n hx hb dm_gather_130 rfl (lv_at hl 0 rfl) ?_
          refine gm_0_number hx hb hts hown hK hP wi_94 dm_gather_131 ?_
          refine lv_iload_n hx hb dm_gather_134 rfl (lv_at hl 1 rfl) ?_
          obtain ⟨hin, h⟩ := hq_idx h
          refine am_9 hx hb hK hP hin dm_gather_135 ?_
          refine lv_icmp_ne (tgt := 143) hx hb dm_gather_136 (by decide) (fun hc => ?_) (fun hc => ?_)
          · have h := (if_neg hc).symm.trans h
            refine lv_iconst (v := 0) hx hb dm_gather_143 (by decide) ?_
            refine lv_goto (tgt := 163) hx hb dm_gather_144 (by decide) ?_
            exact J163 l2 0 hl hP hD hS h
          · have h := (if_pos hc).symm.trans h
            refine lv_iconst (v := 1) hx hb dm_gather_139 (by decide) ?_
            refine lv_goto (tgt := 163) hx hb dm_gather_140 (by decide) ?_
            exact J163 l2 1 hl hP hD hS h
  have L31 : ∀ (n : Nat) (l2 : Int32) {f_rowCount : Int32} {f_many : Int32} {a_list : Nat → Int32} {ls : Array Slot} {H : Heap} {locs : List Loc}, lv_has ls 4 [(0, .ref (q 0)), (2, .int l2)] → va_P D hq_cl (hm_w q cI cZ cL f_classes a_parent f_objects a_kindOf a_size a_root a_slotKind a_slot a_kept f_count a_code a_number f_want f_compared f_open a_opened f_rowCount a_rowKind a_rowValue f_many a_list f_seen f_fail f_level a_from a_eAt a_whereAt a_source a_distinct a_keeps f_at f_self f_brackets f_values a_vKind a_v f_waiting a_waits ++ z) H → va_D A (hm_w q cI cZ cL f_classes a_parent f_objects a_kindOf a_size a_root a_slotKind a_slot a_kept f_count a_code a_number f_want f_compared f_open a_opened f_rowCount a_rowKind a_rowValue f_many a_list f_seen f_fail f_level a_from a_eAt a_whereAt a_source a_distinct a_keeps f_at f_self f_brackets f_values a_vKind a_v f_waiting a_waits ++ z) → va_S A s.heap H locs → ∀ u31, sm_gather_L31 n l2 f_rowCount a_rowKind a_rowValue f_many a_list = some u31 → (∀ (ls : Array Slot) (H : Heap) (locs : List Loc), lv_has ls 4 [(0, .ref (q 0))] → va_P D hq_cl (hm_w q cI cZ cL f_classes a_parent f_objects a_kindOf a_size a_root a_slotKind a_slot a_kept f_count a_code a_number f_want f_compared f_open a_opened f_rowCount a_rowKind a_rowValue u31.1 u31.2 f_seen f_fail f_level a_from a_eAt a_whereAt a_source a_distinct a_keeps f_at f_self f_brackets f_values a_vKind a_v f_waiting a_waits ++ z) H → va_D A (hm_w q cI cZ cL f_classes a_parent f_objects a_kindOf a_size a_root a_slotKind a_slot a_kept f_count a_code a_number f_want f_compared f_open a_opened f_rowCount a_rowKind a_rowValue u31.1 u31.2 f_seen f_fail f_level a_from a_eAt a_whereAt a_source a_distinct a_keeps f_at f_self f_brackets f_values a_vKind a_v f_waiting a_waits ++ z) → va_S A s.heap H locs → W p l e R s m args below meth c H locs 0 0 Q (F0 m 87 ls [])) → W p l e R s m args below meth c H locs 0 0 Q (F0 m 31 ls []) := by
    intro n
    induction n with
    | zero =>
      intro l2 f_rowCount f_many a_list ls H locs hl hP hD hS u31 h kx
      have h : (none : Option (Int32 × (Nat → Int32))) = some u31 := h
      cases h
    | succ n ih =>
      intro l2 f_rowCount f_many a_list ls H locs hl hP hD hS u31 h kx
      have h : sm_gather_L31_B (sm_gather_L31 n) l2 f_rowCount a_rowKind a_rowValue f_many a_list = some u31 := h
      unfold sm_gather_L31_B at h
      refine lv_iload_n hx hb dm_gather_31 rfl (lv_at hl 1 rfl) ?_
      refine lv_aload_n hx hb dm_gather_32 rfl (lv_at hl 0 rfl) ?_
      refine gm_0_rowCount hx hb hts hown hK hP wi_99 dm_gather_33 ?_
      refine lv_icmp_ge (tgt := 87) hx hb dm_gather_36 (by decide) (fun hc => ?_) (fun hc => ?_)
      · have h := (if_pos hc).symm.trans h
        have h := Option.some.inj h
        subst h
        exact kx ls H locs (lv_sub hl [0] rfl) hP hD hS
      · have h := (if_neg hc).symm.trans h
        refine lv_aload_n hx hb dm_gather_39 rfl (lv_at hl 0 rfl) ?_
        refine gm_0_list hx hb hts hown hK hP wi_96 dm_gather_40 ?_
        refine lv_aload_n hx hb dm_gather_43 rfl (lv_at hl 0 rfl) ?_
        refine gm_0_many hx hb hts hown hK hP wi_97 dm_gather_44 ?_
        refine lv_aload_n hx hb dm_gather_47 rfl (lv_at hl 0 rfl) ?_
        refine gm_0_rowValue hx hb hts hown hK hP wi_100 dm_gather_48 ?_
        refine lv_iload_n hx hb dm_gather_51 rfl (lv_at hl 1 rfl) ?_
        obtain ⟨hin, h⟩ := hq_idx h
        refine am_12 hx hb hK hP hin dm_gather_52 ?_
        obtain ⟨hin, h⟩ := hq_idx h
        refine tm_13 hx hb hK hP hD hS hin dm_gather_53 (fun H locs hP hD hS => ?_)
        refine lv_aload_n hx hb dm_gather_54 rfl (lv_at hl 0 rfl) ?_
        refine lv_aload_n hx hb dm_gather_55 rfl (lv_at hl 0 rfl) ?_
        refine gm_0_rowKind hx hb hts hown hK hP wi_101 dm_gather_56 ?_
        refine lv_iload_n hx hb dm_gather_59 rfl (lv_at hl 1 rfl) ?_
        obtain ⟨hin, h⟩ := hq_idx h
        refine am_11 hx hb hK hP hin dm_gather_60 ?_
        refine lv_iconst (v := 2) hx hb dm_gather_61 (by decide) ?_
        refine lv_icmp_ne (tgt := 74) hx hb dm_gather_62 (by decide) (fun hc => ?_) (fun hc => ?_)
        · have h := (if_neg hc).symm.trans h
          refine lv_aload_n hx hb dm_gather_74 rfl (lv_at hl 0 rfl) ?_
          refine gm_0_many hx hb hts hown hK hP wi_97 dm_gather_75 ?_
          refine pm_0_many hx hb hts hown hK hP hD hS wi_97 dm_gather_78 (fun H locs hP hD hS => ?_)
          refine lv_iinc (k := 1) (v := l2 + 1) (lv' := [(2, .int (l2 + 1)), (0, .ref (q 0))]) hx hb dm_gather_81 hl rfl (congrArg (fun j => l2 + j) (by decide)) (by decide) rfl (fun ls hl => ?_)
          refine lv_goto (tgt := 31) hx hb dm_gather_84 (by decide) ?_
          exact ih (l2 + 1) (lv_sub hl [1, 0] rfl) hP hD hS u31 h kx
        · have h := (if_pos hc).symm.trans h
          refine lv_aload_n hx hb dm_gather_65 rfl (lv_at hl 0 rfl) ?_
          refine gm_0_many hx hb hts hown hK hP wi_97 dm_gather_66 ?_
          refine lv_iconst (v := 1) hx hb dm_gather_69 (by decide) ?_
          refine lv_iadd hx hb dm_gather_70 ?_
          refine lv_goto (tgt := 78) hx hb dm_gather_71 (by decide) ?_
          refine pm_0_many hx hb hts hown hK hP hD hS wi_97 dm_gather_78 (fun H locs hP hD hS => ?_)
          refine lv_iinc (k := 1) (v := l2 + 1) (lv' := [(2, .int (l2 + 1)), (0, .ref (q 0))]) hx hb dm_gather_81 hl rfl (congrArg (fun j => l2 + j) (by decide)) (by decide) rfl (fun ls hl => ?_)
          refine lv_goto (tgt := 31) hx hb dm_gather_84 (by decide) ?_
          exact ih (l2 + 1) (lv_sub hl [1, 0] rfl) hP hD hS u31 h kx
  refine lv_aload_n hx hb dm_gather_0 rfl (lv_at hl 0 rfl) ?_
  refine lv_iconst (v := 0) hx hb dm_gather_1 (by decide) ?_
  refine pm_0_many hx hb hts hown hK hP hD hS wi_97 dm_gather_2 (fun H locs hP hD hS => ?_)
  refine lv_aload_n hx hb dm_gather_5 rfl (lv_at hl 0 rfl) ?_
  refine gm_0_source hx hb hts hown hK hP wi_102 dm_gather_6 ?_
  refine lv_aload_n hx hb dm_gather_9 rfl (lv_at hl 0 rfl) ?_
  refine gm_0_level hx hb hts hown hK hP wi_103 dm_gather_10 ?_
  obtain ⟨hin, h⟩ := hq_idx h
  refine am_17 hx hb hK hP hin dm_gather_13 ?_
  refine lv_istore_n (lv' := [(1, .int (a_source f_level.toNatClampNeg)), (0, .ref (q 0))]) hx hb dm_gather_14 rfl hl (by decide) rfl (fun ls hl => ?_)
  refine lv_iload_n hx hb dm_gather_15 rfl (lv_at hl 0 rfl) ?_
  refine lv_if_ge (tgt := 103) hx hb dm_gather_16 (by decide) (fun hc => ?_) (fun hc => ?_)
  · have h := (if_pos hc).symm.trans h
    refine lv_iconst (v := 0) hx hb dm_gather_103 (by decide) ?_
    refine lv_istore_n (lv' := [(2, .int 0), (1, .int (a_source f_level.toNatClampNeg)), (0, .ref (q 0))]) hx hb dm_gather_104 rfl hl (by decide) rfl (fun ls hl => ?_)
    obtain ⟨u105, h105, h⟩ := hq_bind h
    refine L105 kF (a_source f_level.toNatClampNeg) 0 (lv_sub hl [2, 1, 0] rfl) hP hD hS u105 h105 (fun ls H locs hl hP hD hS => ?_)
    have h := Option.some.inj h
    exact hq_vret hx hb hr hlocks hQ hK hP hD hS rfl (by rw [← h]) dm_gather_201
  · have h := (if_neg hc).symm.trans h
    refine lv_aload_n hx hb dm_gather_19 rfl (lv_at hl 1 rfl) ?_
    refine gm_0_from hx hb hts hown hK hP wi_104 dm_gather_20 ?_
    refine lv_aload_n hx hb dm_gather_23 rfl (lv_at hl 1 rfl) ?_
    refine gm_0_level hx hb hts hown hK hP wi_103 dm_gather_24 ?_
    refine lv_iconst (v := 1) hx hb dm_gather_27 (by decide) ?_
    refine lv_iadd hx hb dm_gather_28 ?_
    obtain ⟨hin, h⟩ := hq_idx h
    refine am_14 hx hb hK hP hin dm_gather_29 ?_
    refine lv_istore_n (lv' := [(2, .int (a_from (f_level + 1).toNatClampNeg)), (1, .int (a_source f_level.toNatClampNeg)), (0, .ref (q 0))]) hx hb dm_gather_30 rfl hl (by decide) rfl (fun ls hl => ?_)
    obtain ⟨u31, h31, h⟩ := hq_bind h
    refine L31 kF (a_from (f_level + 1).toNatClampNeg) (lv_sub hl [2, 0] rfl) hP hD hS u31 h31 (fun ls H locs hl hP hD hS => ?_)
    refine lv_aload_n hx hb dm_gather_87 rfl (lv_at hl 0 rfl) ?_
    refine lv_aload_n hx hb dm_gather_88 rfl (lv_at hl 0 rfl) ?_
    refine gm_0_from hx hb hts hown hK hP wi_104 dm_gather_89 ?_
    refine lv_aload_n hx hb dm_gather_92 rfl (lv_at hl 0 rfl) ?_
    refine gm_0_level hx hb hts hown hK hP wi_103 dm_gather_93 ?_
    refine lv_iconst (v := 1) hx hb dm_gather_96 (by decide) ?_
    refine lv_iadd hx hb dm_gather_97 ?_
    obtain ⟨hin, h⟩ := hq_idx h
    refine am_14 hx hb hK hP hin dm_gather_98 ?_
    refine pm_0_rowCount hx hb hts hown hK hP hD hS wi_99 dm_gather_99 (fun H locs hP hD hS => ?_)
    have h := Option.some.inj h
    exact hq_vret hx hb hr hlocks hQ hK hP hD hS rfl (by rw [← h]) dm_gather_102
end
section
variable {p : Program} {l : Launch} {e : Env} {R : Room} {s : State} {m : MethodId} {args : Array Value} {below : List Frame} {meth : Method} {c : Code} {H H0 : Heap} {locs : List Loc} {cells slots : Nat} {Q : State → Prop}
variable {cc : ByteArray} {pc idx nC : Nat} {ls : Array Slot} {rest : List Value} {D : va_G} {A : Nat → Prop} {own : String} {q : Nat → Nat} {cI cZ cL : ClassId} {z w : va_W}
variable {f_classes f_objects f_count f_want f_compared f_open f_rowCount f_many f_seen f_fail f_level f_at f_self f_brackets f_values f_waiting : Int32}
variable {a_parent a_kindOf a_size a_root a_slotKind a_slot a_kept a_code a_number a_opened a_rowKind a_rowValue a_list a_from a_eAt a_whereAt a_source a_distinct a_keeps a_vKind a_v a_waits : Nat → Int32}
theorem km_gather  (ur : Int32 × Int32 × (Nat → Int32)) (hu : sm_gather a_parent f_objects a_kindOf a_code a_number f_rowCount a_rowKind a_rowValue f_many a_list f_level a_from a_source = some ur) (hx : p.tables.exec = Jvm.exec) (hb : c.code = cc) (hml : c.maxLocals = nC) (hts : ∀ x ∈ hq_tbl, x.before args s = true) (hown : s.vm.findClass own = some m.cls) (hK : va_K D hq_cl (hq_tys cI cZ cL) s) (hP : va_P D hq_cl (hm_w q cI cZ cL f_classes a_parent f_objects a_kindOf a_size a_root a_slotKind a_slot a_kept f_count a_code a_number f_want f_compared f_open a_opened f_rowCount a_rowKind a_rowValue f_many a_list f_seen f_fail f_level a_from a_eAt a_whereAt a_source a_distinct a_keeps f_at f_self f_brackets f_values a_vKind a_v f_waiting a_waits ++ z) H) (hD : va_D A (hm_w q cI cZ cL f_classes a_parent f_objects a_kindOf a_size a_root a_slotKind a_slot a_kept f_count a_code a_number f_want f_compared f_open a_opened f_rowCount a_rowKind a_rowValue f_many a_list f_seen f_fail f_level a_from a_eAt a_whereAt a_source a_distinct a_keeps f_at f_self f_brackets f_values a_vKind a_v f_waiting a_waits ++ z)) (hS : va_S A H0 H locs) (h1 : Cond.methodLink own idx ym_gather ∈ hq_tbl) (hR : 1 + 1 ≤ R.frames ∧ 8 + (4 + 11) + 24 ≤ R.locals) (hls : ls.size = nC) (hW : (rest.map fun v => v.category).sum ≤ 8) (hdg : decode cc pc = .ok (.invokevirtual idx, 3)) (hf : cells + 0 ≤ R.cells ∧ slots + 0 ≤ R.slots) (kk : ∀ (H1 : Heap) (locs1 : List Loc), va_P D hq_cl (hm_w q cI cZ cL f_classes a_parent f_objects a_kindOf a_size a_root a_slotKind a_slot a_kept f_count a_code a_number f_want f_compared f_open a_opened ur.1 a_rowKind a_rowValue ur.2.1 ur.2.2 f_seen f_fail f_level a_from a_eAt a_whereAt a_source a_distinct a_keeps f_at f_self f_brackets f_values a_vKind a_v f_waiting a_waits ++ z) H1 → va_D A (hm_w q cI cZ cL f_classes a_parent f_objects a_kindOf a_size a_root a_slotKind a_slot a_kept f_count a_code a_number f_want f_compared f_open a_opened ur.1 a_rowKind a_rowValue ur.2.1 ur.2.2 f_seen f_fail f_level a_from a_eAt a_whereAt a_source a_distinct a_keeps f_at f_self f_brackets f_values a_vKind a_v f_waiting a_waits ++ z) → va_S A H0 H1 locs1 → W p l e R s m args below meth c H1 locs1 cells slots Q (F0 m (pc + 3) ls (rest))) : W p l e R s m args below meth c H locs cells slots Q (F0 m pc ls (.ref (q 0) :: rest)) :=
  hq_callV (q0 := 0) hx hb hml hown hts hK hP hD hS (cm_gather  ur hu) rfl rfl h1 wi_412 wi_413 wi_338 wi_414 0 rfl (by decide +kernel) ⟨rfl, rfl⟩ hR hls rfl hW hdg hf kk
end
theorem dm_rank_0 : decode bm_rank 0 = .ok (.iload_n 0, 1) := by decide +kernel
theorem dm_rank_1 : decode bm_rank 1 = .ok (.bipush 17, 2) := by decide +kernel
theorem dm_rank_3 : decode bm_rank 3 = .ok (.if_icmp .gt 10, 3) := by decide +kernel
theorem dm_rank_6 : decode bm_rank 6 = .ok (.iload_n 0, 1) := by decide +kernel
theorem dm_rank_7 : decode bm_rank 7 = .ok (.bipush 14, 2) := by decide +kernel
theorem dm_rank_9 : decode bm_rank 9 = .ok (.isub, 1) := by decide +kernel
theorem dm_rank_10 : decode bm_rank 10 = .ok (.goto 25, 3) := by decide +kernel
theorem dm_rank_13 : decode bm_rank 13 = .ok (.iload_n 0, 1) := by decide +kernel
theorem dm_rank_14 : decode bm_rank 14 = .ok (.bipush 20, 2) := by decide +kernel
theorem dm_rank_16 : decode bm_rank 16 = .ok (.if_icmp .gt 7, 3) := by decide +kernel
theorem dm_rank_19 : decode bm_rank 19 = .ok (.iconst 4, 1) := by decide +kernel
theorem dm_rank_20 : decode bm_rank 20 = .ok (.goto 15, 3) := by decide +kernel
theorem dm_rank_23 : decode bm_rank 23 = .ok (.iload_n 0, 1) := by decide +kernel
theorem dm_rank_24 : decode bm_rank 24 = .ok (.bipush 22, 2) := by decide +kernel
theorem dm_rank_26 : decode bm_rank 26 = .ok (.if_icmp .gt 7, 3) := by decide +kernel
theorem dm_rank_29 : decode bm_rank 29 = .ok (.iconst 5, 1) := by decide +kernel
theorem dm_rank_30 : decode bm_rank 30 = .ok (.goto 5, 3) := by decide +kernel
theorem dm_rank_33 : decode bm_rank 33 = .ok (.bipush 6, 2) := by decide +kernel
theorem dm_rank_35 : decode bm_rank 35 = .ok (.ireturn, 1) := by decide +kernel
section
variable {l : Launch} {D : va_G} {A : Nat → Prop} {z w : va_W} {q : Nat → Nat} {cI cZ cL : ClassId}
set_option maxHeartbeats 4000000 in
set_option maxRecDepth 100000 in
theorem cm_rank (l0 : Int32) (ur : Int32) (h : sm_rank l0 = ur) : hq_Ct l ym_rank bm_rank 1 (some .int) { frames := 0, cells := 0, slots := 0, locals := 0 } D (hq_tys cI cZ cL) A [.int l0] w w (some (.int ur)) 0 0 := by
  refine hq_of (by decide) ?_ (Nat.le_of_ble_eq_true rfl)
  intro p e s m below meth c R args Q hRm hQ hx hb hr hml hts hown hlocks hnm hP hK hD ls hl hS
  have hl : lv_has ls 1 [(0, .int l0)] := hl
  have hown : s.vm.findClass "HeapQueriesModel" = some m.cls := hown
  unfold sm_rank at h
  refine lv_iload_n hx hb dm_rank_0 rfl (lv_at hl 0 rfl) ?_
  refine lv_bipush (v := 17) hx hb dm_rank_1 (by decide) ?_
  refine lv_icmp_gt (tgt := 13) hx hb dm_rank_3 (by decide) (fun hc => ?_) (fun hc => ?_)
  · have h := (if_pos hc).symm.trans h
    refine lv_iload_n hx hb dm_rank_13 rfl (lv_at hl 0 rfl) ?_
    refine lv_bipush (v := 20) hx hb dm_rank_14 (by decide) ?_
    refine lv_icmp_gt (tgt := 23) hx hb dm_rank_16 (by decide) (fun hc => ?_) (fun hc => ?_)
    · have h := (if_pos hc).symm.trans h
      refine lv_iload_n hx hb dm_rank_23 rfl (lv_at hl 0 rfl) ?_
      refine lv_bipush (v := 22) hx hb dm_rank_24 (by decide) ?_
      refine lv_icmp_gt (tgt := 33) hx hb dm_rank_26 (by decide) (fun hc => ?_) (fun hc => ?_)
      · have h := (if_pos hc).symm.trans h
        refine lv_bipush (v := 6) hx hb dm_rank_33 (by decide) ?_
        exact hq_iret hx hb hr hlocks hQ hK hP hD hS (by rw [← h]) rfl dm_rank_35
      · have h := (if_neg hc).symm.trans h
        refine lv_iconst (v := 5) hx hb dm_rank_29 (by decide) ?_
        refine lv_goto (tgt := 35) hx hb dm_rank_30 (by decide) ?_
        exact hq_iret hx hb hr hlocks hQ hK hP hD hS (by rw [← h]) rfl dm_rank_35
    · have h := (if_neg hc).symm.trans h
      refine lv_iconst (v := 4) hx hb dm_rank_19 (by decide) ?_
      refine lv_goto (tgt := 35) hx hb dm_rank_20 (by decide) ?_
      exact hq_iret hx hb hr hlocks hQ hK hP hD hS (by rw [← h]) rfl dm_rank_35
  · have h := (if_neg hc).symm.trans h
    refine lv_iload_n hx hb dm_rank_6 rfl (lv_at hl 0 rfl) ?_
    refine lv_bipush (v := 14) hx hb dm_rank_7 (by decide) ?_
    refine lv_isub hx hb dm_rank_9 ?_
    refine lv_goto (tgt := 35) hx hb dm_rank_10 (by decide) ?_
    exact hq_iret hx hb hr hlocks hQ hK hP hD hS (by rw [← h]) rfl dm_rank_35
end
section
variable {p : Program} {l : Launch} {e : Env} {R : Room} {s : State} {m : MethodId} {args : Array Value} {below : List Frame} {meth : Method} {c : Code} {H H0 : Heap} {locs : List Loc} {cells slots : Nat} {Q : State → Prop}
variable {cc : ByteArray} {pc idx nC : Nat} {ls : Array Slot} {rest : List Value} {D : va_G} {A : Nat → Prop} {own : String} {q : Nat → Nat} {cI cZ cL : ClassId} {z w : va_W}
theorem km_rank (l0 : Int32) (ur : Int32) (hu : sm_rank l0 = ur) (hx : p.tables.exec = Jvm.exec) (hb : c.code = cc) (hml : c.maxLocals = nC) (hts : ∀ x ∈ hq_tbl, x.before args s = true) (hown : s.vm.findClass own = some m.cls) (hK : va_K D hq_cl (hq_tys cI cZ cL) s) (hP : va_P D hq_cl w H) (hD : va_D A w) (hS : va_S A H0 H locs) (h1 : Cond.methodLink own idx ym_rank ∈ hq_tbl) (hR : 0 + 1 ≤ R.frames ∧ 8 + (1 + 11) + 0 ≤ R.locals) (hls : ls.size = nC) (hW : (rest.map fun v => v.category).sum ≤ 8) (hdg : decode cc pc = .ok (.invokestatic idx, 3)) (hf : cells + 0 ≤ R.cells ∧ slots + 0 ≤ R.slots) (kk : ∀ (H1 : Heap) (locs1 : List Loc), va_P D hq_cl w H1 → va_D A w → va_S A H0 H1 locs1 → W p l e R s m args below meth c H1 locs1 cells slots Q (F0 m (pc + 3) ls (.int ur :: rest))) : W p l e R s m args below meth c H locs cells slots Q (F0 m pc ls (.int l0 :: rest)) :=
  hq_callS hx hb hml hown hts hK hP hD hS (cm_rank l0 ur hu) h1 wi_415 wi_338 wi_416 1 rfl (by decide +kernel) ⟨rfl, rfl⟩ hR hls rfl hW hdg hf kk
end
theorem dm_give_0 : decode bm_give 0 = .ok (.aload_n 0, 1) := by decide +kernel
theorem dm_give_1 : decode bm_give 1 = .ok (.aload_n 0, 1) := by decide +kernel
theorem dm_give_2 : decode bm_give 2 = .ok (.getfield 195, 3) := by decide +kernel
theorem dm_give_5 : decode bm_give 5 = .ok (.iload_n 3, 1) := by decide +kernel
theorem dm_give_6 : decode bm_give 6 = .ok (.isub, 1) := by decide +kernel
theorem dm_give_7 : decode bm_give 7 = .ok (.putfield 195, 3) := by decide +kernel
theorem dm_give_10 : decode bm_give 10 = .ok (.aload_n 0, 1) := by decide +kernel
theorem dm_give_11 : decode bm_give 11 = .ok (.getfield 68, 3) := by decide +kernel
theorem dm_give_14 : decode bm_give 14 = .ok (.aload_n 0, 1) := by decide +kernel
theorem dm_give_15 : decode bm_give 15 = .ok (.getfield 195, 3) := by decide +kernel
theorem dm_give_18 : decode bm_give 18 = .ok (.iload_n 1, 1) := by decide +kernel
theorem dm_give_19 : decode bm_give 19 = .ok (.iastore, 1) := by decide +kernel
theorem dm_give_20 : decode bm_give 20 = .ok (.aload_n 0, 1) := by decide +kernel
theorem dm_give_21 : decode bm_give 21 = .ok (.getfield 71, 3) := by decide +kernel
theorem dm_give_24 : decode bm_give 24 = .ok (.aload_n 0, 1) := by decide +kernel
theorem dm_give_25 : decode bm_give 25 = .ok (.getfield 195, 3) := by decide +kernel
theorem dm_give_28 : decode bm_give 28 = .ok (.iload_n 1, 1) := by decide +kernel
theorem dm_give_29 : decode bm_give 29 = .ok (.ifCond .ne 7, 3) := by decide +kernel
theorem dm_give_32 : decode bm_give 32 = .ok (.iconst 0, 1) := by decide +kernel
theorem dm_give_33 : decode bm_give 33 = .ok (.goto 4, 3) := by decide +kernel
theorem dm_give_36 : decode bm_give 36 = .ok (.iload_n 2, 1) := by decide +kernel
theorem dm_give_37 : decode bm_give 37 = .ok (.iastore, 1) := by decide +kernel
theorem dm_give_38 : decode bm_give 38 = .ok (.aload_n 0, 1) := by decide +kernel
theorem dm_give_39 : decode bm_give 39 = .ok (.dup, 1) := by decide +kernel
theorem dm_give_40 : decode bm_give 40 = .ok (.getfield 195, 3) := by decide +kernel
theorem dm_give_43 : decode bm_give 43 = .ok (.iconst 1, 1) := by decide +kernel
theorem dm_give_44 : decode bm_give 44 = .ok (.iadd, 1) := by decide +kernel
theorem dm_give_45 : decode bm_give 45 = .ok (.putfield 195, 3) := by decide +kernel
theorem dm_give_48 : decode bm_give 48 = .ok (.return_, 1) := by decide +kernel
section
variable {l : Launch} {D : va_G} {A : Nat → Prop} {z w : va_W} {q : Nat → Nat} {cI cZ cL : ClassId}
variable {f_classes f_objects f_count f_want f_compared f_open f_rowCount f_many f_seen f_fail f_level f_at f_self f_brackets f_values f_waiting : Int32}
variable {a_parent a_kindOf a_size a_root a_slotKind a_slot a_kept a_code a_number a_opened a_rowKind a_rowValue a_list a_from a_eAt a_whereAt a_source a_distinct a_keeps a_vKind a_v a_waits : Nat → Int32}
set_option maxHeartbeats 4000000 in
set_option maxRecDepth 100000 in
theorem cm_give (l1 : Int32) (l2 : Int32) (l3 : Int32) (ur : Int32 × (Nat → Int32) × (Nat → Int32)) (h : sm_give l1 l2 l3 f_values a_vKind a_v = some ur) : hq_Ct l ym_give bm_give 4 none { frames := 0, cells := 0, slots := 0, locals := 0 } D (hq_tys cI cZ cL) A [.ref (q 0), .int l1, .int l2, .int l3] (hm_w q cI cZ cL f_classes a_parent f_objects a_kindOf a_size a_root a_slotKind a_slot a_kept f_count a_code a_number f_want f_compared f_open a_opened f_rowCount a_rowKind a_rowValue f_many a_list f_seen f_fail f_level a_from a_eAt a_whereAt a_source a_distinct a_keeps f_at f_self f_brackets f_values a_vKind a_v f_waiting a_waits ++ z) (hm_w q cI cZ cL f_classes a_parent f_objects a_kindOf a_size a_root a_slotKind a_slot a_kept f_count a_code a_number f_want f_compared f_open a_opened f_rowCount a_rowKind a_rowValue f_many a_list f_seen f_fail f_level a_from a_eAt a_whereAt a_source a_distinct a_keeps f_at f_self f_brackets ur.1 ur.2.1 ur.2.2 f_waiting a_waits ++ z) none 0 0 := by
  refine hq_of (by decide) ?_ (Nat.le_of_ble_eq_true rfl)
  intro p e s m below meth c R args Q hRm hQ hx hb hr hml hts hown hlocks hnm hP hK hD ls hl hS
  have hl : lv_has ls 4 [(0, .ref (q 0)), (1, .int l1), (2, .int l2), (3, .int l3)] := hl
  have hown : s.vm.findClass "HeapQueriesModel" = some m.cls := hown
  unfold sm_give at h
  have J37 : ∀ (s1 : Int32) (s2 : Int32) {f_values : Int32} {a_vKind : Nat → Int32} {a_v : Nat → Int32} {ls : Array Slot} {H : Heap} {locs : List Loc}, lv_has ls 4 [(0, .ref (q 0))] → va_P D hq_cl (hm_w q cI cZ cL f_classes a_parent f_objects a_kindOf a_size a_root a_slotKind a_slot a_kept f_count a_code a_number f_want f_compared f_open a_opened f_rowCount a_rowKind a_rowValue f_many a_list f_seen f_fail f_level a_from a_eAt a_whereAt a_source a_distinct a_keeps f_at f_self f_brackets f_values a_vKind a_v f_waiting a_waits ++ z) H → va_D A (hm_w q cI cZ cL f_classes a_parent f_objects a_kindOf a_size a_root a_slotKind a_slot a_kept f_count a_code a_number f_want f_compared f_open a_opened f_rowCount a_rowKind a_rowValue f_many a_list f_seen f_fail f_level a_from a_eAt a_whereAt a_source a_distinct a_keeps f_at f_self f_brackets f_values a_vKind a_v f_waiting a_waits ++ z) → va_S A s.heap H locs → sm_give_J37 s1 s2 f_values a_vKind a_v = some ur → W p l e R s m args below meth c H locs 0 0 Q (F0 m 37 ls [.int s2, .int s1, .ref (q 21)]) := by
    intro s1 s2 f_values a_vKind a_v ls H locs hl hP hD hS h
    unfold sm_give_J37 at h
    obtain ⟨hin, h⟩ := hq_idx h
    refine tm_21 hx hb hK hP hD hS hin dm_give_37 (fun H locs hP hD hS => ?_)
    refine lv_aload_n hx hb dm_give_38 rfl (lv_at hl 0 rfl) ?_
    refine lv_dup hx hb dm_give_39 rfl ?_
    refine gm_0_values hx hb hts hown hK hP wi_105 dm_give_40 ?_
    refine lv_iconst (v := 1) hx hb dm_give_43 (by decide) ?_
    refine lv_iadd hx hb dm_give_44 ?_
    refine pm_0_values hx hb hts hown hK hP hD hS wi_105 dm_give_45 (fun H locs hP hD hS => ?_)
    have h := Option.some.inj h
    exact hq_vret hx hb hr hlocks hQ hK hP hD hS rfl (by rw [← h]) dm_give_48
  refine lv_aload_n hx hb dm_give_0 rfl (lv_at hl 0 rfl) ?_
  refine lv_aload_n hx hb dm_give_1 rfl (lv_at hl 0 rfl) ?_
  refine gm_0_values hx hb hts hown hK hP wi_105 dm_give_2 ?_
  refine lv_iload_n hx hb dm_give_5 rfl (lv_at hl 3 rfl) ?_
  refine lv_isub hx hb dm_give_6 ?_
  refine pm_0_values hx hb hts hown hK hP hD hS wi_105 dm_give_7 (fun H locs hP hD hS => ?_)
  refine lv_aload_n hx hb dm_give_10 rfl (lv_at hl 0 rfl) ?_
  refine gm_0_vKind hx hb hts hown hK hP wi_106 dm_give_11 ?_
  refine lv_aload_n hx hb dm_give_14 rfl (lv_at hl 0 rfl) ?_
  refine gm_0_values hx hb hts hown hK hP wi_105 dm_give_15 ?_
  refine lv_iload_n hx hb dm_give_18 rfl (lv_at hl 1 rfl) ?_
  obtain ⟨hin, h⟩ := hq_idx h
  refine tm_20 hx hb hK hP hD hS hin dm_give_19 (fun H locs hP hD hS => ?_)
  refine lv_aload_n hx hb dm_give_20 rfl (lv_at hl 0 rfl) ?_
  refine gm_0_v hx hb hts hown hK hP wi_107 dm_give_21 ?_
  refine lv_aload_n hx hb dm_give_24 rfl (lv_at hl 0 rfl) ?_
  refine gm_0_values hx hb hts hown hK hP wi_105 dm_give_25 ?_
  refine lv_iload_n hx hb dm_give_28 rfl (lv_at hl 1 rfl) ?_
  refine lv_if_ne (tgt := 36) hx hb dm_give_29 (by decide) (fun hc => ?_) (fun hc => ?_)
  · have h := (if_neg hc).symm.trans h
    refine lv_iload_n hx hb dm_give_36 rfl (lv_at hl 2 rfl) ?_
    exact J37 (f_values - l3) l2 (lv_sub hl [0] rfl) hP hD hS h
  · have h := (if_pos hc).symm.trans h
    refine lv_iconst (v := 0) hx hb dm_give_32 (by decide) ?_
    refine lv_goto (tgt := 37) hx hb dm_give_33 (by decide) ?_
    exact J37 (f_values - l3) 0 (lv_sub hl [0] rfl) hP hD hS h
end
section
variable {p : Program} {l : Launch} {e : Env} {R : Room} {s : State} {m : MethodId} {args : Array Value} {below : List Frame} {meth : Method} {c : Code} {H H0 : Heap} {locs : List Loc} {cells slots : Nat} {Q : State → Prop}
variable {cc : ByteArray} {pc idx nC : Nat} {ls : Array Slot} {rest : List Value} {D : va_G} {A : Nat → Prop} {own : String} {q : Nat → Nat} {cI cZ cL : ClassId} {z w : va_W}
variable {f_classes f_objects f_count f_want f_compared f_open f_rowCount f_many f_seen f_fail f_level f_at f_self f_brackets f_values f_waiting : Int32}
variable {a_parent a_kindOf a_size a_root a_slotKind a_slot a_kept a_code a_number a_opened a_rowKind a_rowValue a_list a_from a_eAt a_whereAt a_source a_distinct a_keeps a_vKind a_v a_waits : Nat → Int32}
theorem km_give (l1 : Int32) (l2 : Int32) (l3 : Int32) (ur : Int32 × (Nat → Int32) × (Nat → Int32)) (hu : sm_give l1 l2 l3 f_values a_vKind a_v = some ur) (hx : p.tables.exec = Jvm.exec) (hb : c.code = cc) (hml : c.maxLocals = nC) (hts : ∀ x ∈ hq_tbl, x.before args s = true) (hown : s.vm.findClass own = some m.cls) (hK : va_K D hq_cl (hq_tys cI cZ cL) s) (hP : va_P D hq_cl (hm_w q cI cZ cL f_classes a_parent f_objects a_kindOf a_size a_root a_slotKind a_slot a_kept f_count a_code a_number f_want f_compared f_open a_opened f_rowCount a_rowKind a_rowValue f_many a_list f_seen f_fail f_level a_from a_eAt a_whereAt a_source a_distinct a_keeps f_at f_self f_brackets f_values a_vKind a_v f_waiting a_waits ++ z) H) (hD : va_D A (hm_w q cI cZ cL f_classes a_parent f_objects a_kindOf a_size a_root a_slotKind a_slot a_kept f_count a_code a_number f_want f_compared f_open a_opened f_rowCount a_rowKind a_rowValue f_many a_list f_seen f_fail f_level a_from a_eAt a_whereAt a_source a_distinct a_keeps f_at f_self f_brackets f_values a_vKind a_v f_waiting a_waits ++ z)) (hS : va_S A H0 H locs) (h1 : Cond.methodLink own idx ym_give ∈ hq_tbl) (hR : 0 + 1 ≤ R.frames ∧ 8 + (4 + 11) + 0 ≤ R.locals) (hls : ls.size = nC) (hW : (rest.map fun v => v.category).sum ≤ 8) (hdg : decode cc pc = .ok (.invokevirtual idx, 3)) (hf : cells + 0 ≤ R.cells ∧ slots + 0 ≤ R.slots) (kk : ∀ (H1 : Heap) (locs1 : List Loc), va_P D hq_cl (hm_w q cI cZ cL f_classes a_parent f_objects a_kindOf a_size a_root a_slotKind a_slot a_kept f_count a_code a_number f_want f_compared f_open a_opened f_rowCount a_rowKind a_rowValue f_many a_list f_seen f_fail f_level a_from a_eAt a_whereAt a_source a_distinct a_keeps f_at f_self f_brackets ur.1 ur.2.1 ur.2.2 f_waiting a_waits ++ z) H1 → va_D A (hm_w q cI cZ cL f_classes a_parent f_objects a_kindOf a_size a_root a_slotKind a_slot a_kept f_count a_code a_number f_want f_compared f_open a_opened f_rowCount a_rowKind a_rowValue f_many a_list f_seen f_fail f_level a_from a_eAt a_whereAt a_source a_distinct a_keeps f_at f_self f_brackets ur.1 ur.2.1 ur.2.2 f_waiting a_waits ++ z) → va_S A H0 H1 locs1 → W p l e R s m args below meth c H1 locs1 cells slots Q (F0 m (pc + 3) ls (rest))) : W p l e R s m args below meth c H locs cells slots Q (F0 m pc ls (.int l3 :: .int l2 :: .int l1 :: .ref (q 0) :: rest)) :=
  hq_callV (q0 := 0) hx hb hml hown hts hK hP hD hS (cm_give l1 l2 l3 ur hu) rfl rfl h1 wi_417 wi_418 wi_338 wi_419 3 rfl (by decide +kernel) ⟨rfl, rfl⟩ hR hls rfl hW hdg hf kk
end
theorem dm_truth_0 : decode bm_truth 0 = .ok (.aload_n 0, 1) := by decide +kernel
theorem dm_truth_1 : decode bm_truth 1 = .ok (.getfield 68, 3) := by decide +kernel
theorem dm_truth_4 : decode bm_truth 4 = .ok (.aload_n 0, 1) := by decide +kernel
theorem dm_truth_5 : decode bm_truth 5 = .ok (.getfield 195, 3) := by decide +kernel
theorem dm_truth_8 : decode bm_truth 8 = .ok (.iconst 1, 1) := by decide +kernel
theorem dm_truth_9 : decode bm_truth 9 = .ok (.isub, 1) := by decide +kernel
theorem dm_truth_10 : decode bm_truth 10 = .ok (.iaload, 1) := by decide +kernel
theorem dm_truth_11 : decode bm_truth 11 = .ok (.iconst 2, 1) := by decide +kernel
theorem dm_truth_12 : decode bm_truth 12 = .ok (.if_icmp .ne 10, 3) := by decide +kernel
theorem dm_truth_15 : decode bm_truth 15 = .ok (.aload_n 0, 1) := by decide +kernel
theorem dm_truth_16 : decode bm_truth 16 = .ok (.bipush (-3), 2) := by decide +kernel
theorem dm_truth_18 : decode bm_truth 18 = .ok (.putfield 143, 3) := by decide +kernel
theorem dm_truth_21 : decode bm_truth 21 = .ok (.return_, 1) := by decide +kernel
theorem dm_truth_22 : decode bm_truth 22 = .ok (.aload_n 0, 1) := by decide +kernel
theorem dm_truth_23 : decode bm_truth 23 = .ok (.iconst 1, 1) := by decide +kernel
theorem dm_truth_24 : decode bm_truth 24 = .ok (.aload_n 0, 1) := by decide +kernel
theorem dm_truth_25 : decode bm_truth 25 = .ok (.getfield 71, 3) := by decide +kernel
theorem dm_truth_28 : decode bm_truth 28 = .ok (.aload_n 0, 1) := by decide +kernel
theorem dm_truth_29 : decode bm_truth 29 = .ok (.getfield 195, 3) := by decide +kernel
theorem dm_truth_32 : decode bm_truth 32 = .ok (.iconst 1, 1) := by decide +kernel
theorem dm_truth_33 : decode bm_truth 33 = .ok (.isub, 1) := by decide +kernel
theorem dm_truth_34 : decode bm_truth 34 = .ok (.iaload, 1) := by decide +kernel
theorem dm_truth_35 : decode bm_truth 35 = .ok (.ifCond .ne 7, 3) := by decide +kernel
theorem dm_truth_38 : decode bm_truth 38 = .ok (.iload_n 1, 1) := by decide +kernel
theorem dm_truth_39 : decode bm_truth 39 = .ok (.goto 6, 3) := by decide +kernel
theorem dm_truth_42 : decode bm_truth 42 = .ok (.iconst 1, 1) := by decide +kernel
theorem dm_truth_43 : decode bm_truth 43 = .ok (.iload_n 1, 1) := by decide +kernel
theorem dm_truth_44 : decode bm_truth 44 = .ok (.isub, 1) := by decide +kernel
theorem dm_truth_45 : decode bm_truth 45 = .ok (.iconst 1, 1) := by decide +kernel
theorem dm_truth_46 : decode bm_truth 46 = .ok (.invokevirtual 207, 3) := by decide +kernel
theorem dm_truth_49 : decode bm_truth 49 = .ok (.return_, 1) := by decide +kernel
section
variable {l : Launch} {D : va_G} {A : Nat → Prop} {z w : va_W} {q : Nat → Nat} {cI cZ cL : ClassId}
variable {f_classes f_objects f_count f_want f_compared f_open f_rowCount f_many f_seen f_fail f_level f_at f_self f_brackets f_values f_waiting : Int32}
variable {a_parent a_kindOf a_size a_root a_slotKind a_slot a_kept a_code a_number a_opened a_rowKind a_rowValue a_list a_from a_eAt a_whereAt a_source a_distinct a_keeps a_vKind a_v a_waits : Nat → Int32}
set_option maxHeartbeats 4000000 in
set_option maxRecDepth 100000 in
theorem cm_truth (l1 : Int32) (ur : Int32 × Int32 × (Nat → Int32) × (Nat → Int32)) (h : sm_truth l1 f_fail f_values a_vKind a_v = some ur) : hq_Ct l ym_truth bm_truth 2 none { frames := 1, cells := 0, slots := 0, locals := 23 } D (hq_tys cI cZ cL) A [.ref (q 0), .int l1] (hm_w q cI cZ cL f_classes a_parent f_objects a_kindOf a_size a_root a_slotKind a_slot a_kept f_count a_code a_number f_want f_compared f_open a_opened f_rowCount a_rowKind a_rowValue f_many a_list f_seen f_fail f_level a_from a_eAt a_whereAt a_source a_distinct a_keeps f_at f_self f_brackets f_values a_vKind a_v f_waiting a_waits ++ z) (hm_w q cI cZ cL f_classes a_parent f_objects a_kindOf a_size a_root a_slotKind a_slot a_kept f_count a_code a_number f_want f_compared f_open a_opened f_rowCount a_rowKind a_rowValue f_many a_list f_seen ur.1 f_level a_from a_eAt a_whereAt a_source a_distinct a_keeps f_at f_self f_brackets ur.2.1 ur.2.2.1 ur.2.2.2 f_waiting a_waits ++ z) none 0 0 := by
  refine hq_of (by decide) ?_ (Nat.le_of_ble_eq_true rfl)
  intro p e s m below meth c R args Q hRm hQ hx hb hr hml hts hown hlocks hnm hP hK hD ls hl hS
  have hl : lv_has ls 2 [(0, .ref (q 0)), (1, .int l1)] := hl
  have hown : s.vm.findClass "HeapQueriesModel" = some m.cls := hown
  unfold sm_truth at h
  refine lv_aload_n hx hb dm_truth_0 rfl (lv_at hl 0 rfl) ?_
  refine gm_0_vKind hx hb hts hown hK hP wi_106 dm_truth_1 ?_
  refine lv_aload_n hx hb dm_truth_4 rfl (lv_at hl 0 rfl) ?_
  refine gm_0_values hx hb hts hown hK hP wi_105 dm_truth_5 ?_
  refine lv_iconst (v := 1) hx hb dm_truth_8 (by decide) ?_
  refine lv_isub hx hb dm_truth_9 ?_
  obtain ⟨hin, h⟩ := hq_idx h
  refine am_20 hx hb hK hP hin dm_truth_10 ?_
  refine lv_iconst (v := 2) hx hb dm_truth_11 (by decide) ?_
  refine lv_icmp_ne (tgt := 22) hx hb dm_truth_12 (by decide) (fun hc => ?_) (fun hc => ?_)
  · have h := (if_neg hc).symm.trans h
    refine lv_aload_n hx hb dm_truth_22 rfl (lv_at hl 0 rfl) ?_
    refine lv_iconst (v := 1) hx hb dm_truth_23 (by decide) ?_
    refine lv_aload_n hx hb dm_truth_24 rfl (lv_at hl 0 rfl) ?_
    refine gm_0_v hx hb hts hown hK hP wi_107 dm_truth_25 ?_
    refine lv_aload_n hx hb dm_truth_28 rfl (lv_at hl 0 rfl) ?_
    refine gm_0_values hx hb hts hown hK hP wi_105 dm_truth_29 ?_
    refine lv_iconst (v := 1) hx hb dm_truth_32 (by decide) ?_
    refine lv_isub hx hb dm_truth_33 ?_
    obtain ⟨hin, h⟩ := hq_idx h
    refine am_21 hx hb hK hP hin dm_truth_34 ?_
    refine lv_if_ne (tgt := 42) hx hb dm_truth_35 (by decide) (fun hc => ?_) (fun hc => ?_)
    · have h := (if_neg hc).symm.trans h
      refine lv_iconst (v := 1) hx hb dm_truth_42 (by decide) ?_
      refine lv_iload_n hx hb dm_truth_43 rfl (lv_at hl 1 rfl) ?_
      refine lv_isub hx hb dm_truth_44 ?_
      refine lv_iconst (v := 1) hx hb dm_truth_45 (by decide) ?_
      obtain ⟨v46, h46, h⟩ := hq_bind h
      refine km_give 1 (1 - l1) 1 v46 h46 hx hb hml hts hown hK hP hD hS wi_108 (by rw [hRm]; exact ⟨Nat.le_of_ble_eq_true rfl, Nat.le_of_ble_eq_true rfl⟩) hl.1 (Nat.le_of_ble_eq_true rfl) dm_truth_46 ⟨Nat.zero_le _, Nat.zero_le _⟩ (fun H locs hP hD hS => ?_)
      have h := Option.some.inj h
      exact hq_vret hx hb hr hlocks hQ hK hP hD hS rfl (by rw [← h]) dm_truth_49
    · have h := (if_pos hc).symm.trans h
      refine lv_iload_n hx hb dm_truth_38 rfl (lv_at hl 1 rfl) ?_
      refine lv_goto (tgt := 45) hx hb dm_truth_39 (by decide) ?_
      refine lv_iconst (v := 1) hx hb dm_truth_45 (by decide) ?_
      obtain ⟨v46, h46, h⟩ := hq_bind h
      refine km_give 1 l1 1 v46 h46 hx hb hml hts hown hK hP hD hS wi_108 (by rw [hRm]; exact ⟨Nat.le_of_ble_eq_true rfl, Nat.le_of_ble_eq_true rfl⟩) hl.1 (Nat.le_of_ble_eq_true rfl) dm_truth_46 ⟨Nat.zero_le _, Nat.zero_le _⟩ (fun H locs hP hD hS => ?_)
      have h := Option.some.inj h
      exact hq_vret hx hb hr hlocks hQ hK hP hD hS rfl (by rw [← h]) dm_truth_49
  · have h := (if_pos hc).symm.trans h
    refine lv_aload_n hx hb dm_truth_15 rfl (lv_at hl 0 rfl) ?_
    refine lv_bipush (v := (-3)) hx hb dm_truth_16 (by decide) ?_
    refine pm_0_fail hx hb hts hown hK hP hD hS wi_109 dm_truth_18 (fun H locs hP hD hS => ?_)
    have h := Option.some.inj h
    exact hq_vret hx hb hr hlocks hQ hK hP hD hS rfl (by rw [← h]) dm_truth_21
end
section
variable {p : Program} {l : Launch} {e : Env} {R : Room} {s : State} {m : MethodId} {args : Array Value} {below : List Frame} {meth : Method} {c : Code} {H H0 : Heap} {locs : List Loc} {cells slots : Nat} {Q : State → Prop}
variable {cc : ByteArray} {pc idx nC : Nat} {ls : Array Slot} {rest : List Value} {D : va_G} {A : Nat → Prop} {own : String} {q : Nat → Nat} {cI cZ cL : ClassId} {z w : va_W}
variable {f_classes f_objects f_count f_want f_compared f_open f_rowCount f_many f_seen f_fail f_level f_at f_self f_brackets f_values f_waiting : Int32}
variable {a_parent a_kindOf a_size a_root a_slotKind a_slot a_kept a_code a_number a_opened a_rowKind a_rowValue a_list a_from a_eAt a_whereAt a_source a_distinct a_keeps a_vKind a_v a_waits : Nat → Int32}
theorem km_truth (l1 : Int32) (ur : Int32 × Int32 × (Nat → Int32) × (Nat → Int32)) (hu : sm_truth l1 f_fail f_values a_vKind a_v = some ur) (hx : p.tables.exec = Jvm.exec) (hb : c.code = cc) (hml : c.maxLocals = nC) (hts : ∀ x ∈ hq_tbl, x.before args s = true) (hown : s.vm.findClass own = some m.cls) (hK : va_K D hq_cl (hq_tys cI cZ cL) s) (hP : va_P D hq_cl (hm_w q cI cZ cL f_classes a_parent f_objects a_kindOf a_size a_root a_slotKind a_slot a_kept f_count a_code a_number f_want f_compared f_open a_opened f_rowCount a_rowKind a_rowValue f_many a_list f_seen f_fail f_level a_from a_eAt a_whereAt a_source a_distinct a_keeps f_at f_self f_brackets f_values a_vKind a_v f_waiting a_waits ++ z) H) (hD : va_D A (hm_w q cI cZ cL f_classes a_parent f_objects a_kindOf a_size a_root a_slotKind a_slot a_kept f_count a_code a_number f_want f_compared f_open a_opened f_rowCount a_rowKind a_rowValue f_many a_list f_seen f_fail f_level a_from a_eAt a_whereAt a_source a_distinct a_keeps f_at f_self f_brackets f_values a_vKind a_v f_waiting a_waits ++ z)) (hS : va_S A H0 H locs) (h1 : Cond.methodLink own idx ym_truth ∈ hq_tbl) (hR : 1 + 1 ≤ R.frames ∧ 8 + (2 + 11) + 23 ≤ R.locals) (hls : ls.size = nC) (hW : (rest.map fun v => v.category).sum ≤ 8) (hdg : decode cc pc = .ok (.invokevirtual idx, 3)) (hf : cells + 0 ≤ R.cells ∧ slots + 0 ≤ R.slots) (kk : ∀ (H1 : Heap) (locs1 : List Loc), va_P D hq_cl (hm_w q cI cZ cL f_classes a_parent f_objects a_kindOf a_size a_root a_slotKind a_slot a_kept f_count a_code a_number f_want f_compared f_open a_opened f_rowCount a_rowKind a_rowValue f_many a_list f_seen ur.1 f_level a_from a_eAt a_whereAt a_source a_distinct a_keeps f_at f_self f_brackets ur.2.1 ur.2.2.1 ur.2.2.2 f_waiting a_waits ++ z) H1 → va_D A (hm_w q cI cZ cL f_classes a_parent f_objects a_kindOf a_size a_root a_slotKind a_slot a_kept f_count a_code a_number f_want f_compared f_open a_opened f_rowCount a_rowKind a_rowValue f_many a_list f_seen ur.1 f_level a_from a_eAt a_whereAt a_source a_distinct a_keeps f_at f_self f_brackets ur.2.1 ur.2.2.1 ur.2.2.2 f_waiting a_waits ++ z) → va_S A H0 H1 locs1 → W p l e R s m args below meth c H1 locs1 cells slots Q (F0 m (pc + 3) ls (rest))) : W p l e R s m args below meth c H locs cells slots Q (F0 m pc ls (.int l1 :: .ref (q 0) :: rest)) :=
  hq_callV (q0 := 0) hx hb hml hown hts hK hP hD hS (cm_truth l1 ur hu) rfl rfl h1 wi_420 wi_421 wi_338 wi_422 1 rfl (by decide +kernel) ⟨rfl, rfl⟩ hR hls rfl hW hdg hf kk
end
