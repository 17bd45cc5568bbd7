/-! methods that make objects: contracts that tell what the world has become -/
def hq_N (U : State) : Prop := va_Nw (.methodLinkNest "HeapQueries" 11 yxh_init "HeapQueries") U ∧ va_Nw (.methodLinkNest "HeapQueries$Heap" 27 yxs_init "HeapQueries") U ∧ va_Nw (.methodLinkNest "HeapQueries" 18 yxt_init "HeapQueries") U ∧ va_Nw (.methodLinkNest "HeapQueries" 25 yxw_init "HeapQueries") U ∧ va_Nw (.methodLinkNest "HeapQueries$Reader" 29 yxl_init "HeapQueries") U
theorem hq_N.warm {s U : State} (hW : s.WarmedH U.vm) (h : hq_N s) : hq_N U := ⟨va_Nw.warmM hW h.1, va_Nw.warmM hW h.2.1, va_Nw.warmM hW h.2.2.1, va_Nw.warmM hW h.2.2.2.1, va_Nw.warmM hW h.2.2.2.2⟩
theorem hq_N.same {u U : State} (h : u.vm = U.vm) (hN : hq_N u) : hq_N U := ⟨va_Nw.same rfl h hN.1, va_Nw.same rfl h hN.2.1, va_Nw.same rfl h hN.2.2.1, va_Nw.same rfl h hN.2.2.2.1, va_Nw.same rfl h hN.2.2.2.2⟩
def hq_Pn (D : va_G) (tys : List (ClassId × FieldType)) (A : Nat → Prop) (w0 : va_W) (av : List Value) : Array Value → State → Prop :=
  va_Pc av (fun U => va_P D hq_cl w0 U.heap ∧ va_K D hq_cl tys U ∧ va_D A w0 ∧ (∀ q : Nat, U.heap.size ≤ q → A q) ∧ hq_N U)
def hq_Qn (D : va_G) (tys : List (ClassId × FieldType)) (A : Nat → Prop) (Post : Option Value → va_W → Prop) : Array Value → State → Outcome → State → Prop :=
  fun _ st oc t => ∃ o w1, oc = .returned o ∧ Post o w1 ∧ va_P D hq_cl w1 t.heap ∧ va_K D hq_cl tys t ∧ va_D A w1 ∧ va_F A st t
def hq_Cn (l : Launch) (y : MethodName) (bc : ByteArray) (nL : Nat) (ret : Option FieldType) (rm : Room) (D : va_G) (tys : List (ClassId × FieldType)) (A : Nat → Prop) (av : List Value) (w0 : va_W) (Post : Option Value → va_W → Prop) (mc ms : Nat) : Prop :=
  Met l y (Cond.code y bc nL ret :: hq_tbl) rm (hq_Pn D tys A w0 av) (hq_Qn D tys A Post) mc ms A
theorem hq_blindn {D : va_G} {tys : List (ClassId × FieldType)} {A : Nat → Prop} {w0 : va_W} {av : List Value} : FrameBlind (hq_Pn D tys A w0 av) := fun a U g mk q => by
  obtain ⟨q0, qP, qK, qD, qA, qN⟩ := q
  exact ⟨q0, qP, va_K.moved (u := U) (U := U.calling g mk a) (Vm.Alike.refl U.vm) qK, qD, qA, qN.same rfl⟩
section HQN
variable {p : Program} {l : Launch} {e : Env} {R : Room} {s : State} {m : MethodId} {args : Array Value} {below : List Frame} {meth : Method} {c : Code} {H H0 : Heap} {locs : List Loc} {cells slots : Nat} {Q : State → Prop}
variable {cc bc : ByteArray} {pc nL k nC idx mc ms : Nat} {ls : Array Slot} {rest st0 As av : List Value} {D : va_G} {tys : List (ClassId × FieldType)} {A : Nat → Prop} {w w0 w1 : va_W} {o : Option Value} {y : MethodName} {ret : Option FieldType} {rm : Room} {own C : String} {b : Nat} {a : Array Value} {Post : Option Value → va_W → Prop}
theorem hq_ofn (hy : plainName y.cls = true)
    (body : ∀ p e s m below meth c R args Q, R = rm → Q = MQ below (hq_Qn D tys A Post) args s mc ms A → p.tables.exec = Jvm.exec → c.code = bc → meth.sig.returnType = ret → c.maxLocals = nL → (∀ x ∈ hq_tbl, x.before args s = true) → s.vm.findClass y.cls = some m.cls → meth.locks = false → meth.name = y.name → va_P D hq_cl w0 s.heap → va_K D hq_cl tys s → va_D A w0 → (∀ q : Nat, s.heap.size ≤ q → A q) → hq_N s →
      ∀ ls, lv_has ls nL (lv_args 0 av) → va_S A s.heap s.heap [] → W p l e R s m args below meth c s.heap [] 0 0 Q (F0 m 0 ls [])) (hn : (lg_sl av).length ≤ nL) : hq_Cn l y bc nL ret rm D tys A av w0 Post mc ms := by
  refine Met.ofW (cc := bc) (maxL := nL) (ret := ret) hy rfl ?_
  intro p e s m args below meth c s₁ B hml hv
  obtain ⟨rfl, hP, hK, hD, hA, hN⟩ := hv
  have hts := atoms_spec (ws := Cond.code y bc nL ret :: hq_tbl) B.pre
  have hl := lv_entry av (n := nL) hn
  rw [lg_entry_eq]
  exact body p e s m below meth c _ _ _ rfl rfl B.exec B.bytes B.returns hml (fun x hx => hts x (List.mem_cons_of_mem _ hx)) (findClass_of_methodNamed B.named) B.notSynchronized (name_of_methodNamed B.named B.method).1 hP hK hD hA hN _ hl va_S.rf
theorem hq_aretn {r : Option Nat} {C : String} (hx : p.tables.exec = Jvm.exec) (hb : c.code = cc) (hr : meth.sig.returnType = some (.object C)) (hlocks : meth.locks = false) (hQ : Q = MQ below (hq_Qn D tys A Post) args s mc ms A) (hc : cells ≤ mc) (hs : slots ≤ ms) (hK : va_K D hq_cl tys s) (hP : va_P D hq_cl w H) (hD : va_D A w) (hS : va_S A s.heap H locs) (hpost : Post (some (va_rf r)) w) (hdg : decode cc pc = .ok (.areturn, 1)) :
    W p l e R s m args below meth c H locs cells slots Q (F0 m pc ls [va_rf r]) := by
  subst hQ
  refine W.widen hc hs ?_
  exact W.aret hx hb hr (Or.inl ⟨C, rfl⟩) (by cases r with
    | none => exact Or.inl rfl
    | some a => exact Or.inr ⟨a, rfl⟩) (fun t ht hW => ⟨_, w, rfl, hpost, by rw [ht]; exact hP, va_K.moved hW.alike hK, hD, hS.F ht⟩) hS.2.2 hdg hlocks
theorem hq_gon (hr : va_Run p l e R s m args below meth c H locs cells slots mc ms (F0 m pc ls st0) rest (hq_Qn D tys A Post a) A) (hS : va_S A H0 H locs)
    (kk : ∀ (o : Option Value) (w1 : va_W) (H1 : Heap) (locs1 : List Loc), Post o w1 → va_P D hq_cl w1 H1 → va_D A w1 → va_S A H0 H1 locs1 → W p l e R s m args below meth c H1 locs1 (cells + mc) (slots + ms) Q (F0 m (pc + 3) ls (o.toList ++ rest))) : W p l e R s m args below meth c H locs cells slots Q (F0 m pc ls st0) := by
  intro T hT X
  obtain ⟨v, st₀, t, T', L, h0, X', hL, e1, e2, ⟨o, w1, hv, hpost, hp, hk0, hd, hz, hk⟩, st⟩ := hr T hT X
  cases hv
  rw [h0] at hz hk
  obtain ⟨t2, a1, b1⟩ := kk _ w1 T'.heap (locs ++ L) hpost (by rw [e1]; exact hp) hd ⟨Nat.le_trans hS.1 (by rw [e1]; exact hz), fun q h1 h2 => by rw [e1, hk q (Nat.lt_of_lt_of_le h1 hS.1) h2]; exact hS.2.1 q h1 h2, fun q hq => by
      rcases List.mem_append.mp hq with h | h
      · exact hS.2.2 q h
      · exact hL q h⟩ T' rfl X'
  exact ⟨t2, st t2 a1, b1⟩
theorem hq_callVn {fs : List Value} {ci q0 : Nat} {T : u_T} {N : Nat} (hx : p.tables.exec = Jvm.exec) (hb : c.code = cc) (hml : c.maxLocals = nC) (hown : s.vm.findClass own = some m.cls) (hts : ∀ x ∈ hq_tbl, x.before args s = true) (hK : va_K D hq_cl tys s) (hA : ∀ q : Nat, s.heap.size ≤ q → A q) (hN : hq_N s) (hP : va_P D hq_cl w0 H) (hD : va_D A w0) (hS : va_S A s.heap H locs)
    (hM : hq_Cn l y bc nL ret rm D tys A (.ref b :: As) w0 Post mc ms) (he : w0[q0]? = some (b, .inr (ci, fs))) (hc : hq_cl[ci]? = some (y.cls, T, N))
    (h1 : Cond.methodLink own idx y ∈ hq_tbl) (h2 : Cond.instanceMethod y ∈ hq_tbl) (h3 : Cond.selects y.cls y y ∈ hq_tbl) (h4 : Cond.initialized y.cls ∈ hq_tbl) (h5 : Cond.code y bc nL ret ∈ hq_tbl)
    (nA : Nat) (hnA : As.length = nA) (hd : y.cls ≠ "java/lang/invoke/MethodHandle" ∧ y.cls ≠ "java/lang/invoke/VarHandle" ∧ (parseMethodDescriptor y.desc).map (fun d => d.parameters.length) = some nA) (hrm : rm.cells = mc ∧ rm.slots = ms) (hR : rm.frames + 1 ≤ R.frames ∧ 8 + (nL + 11) + rm.locals ≤ R.locals) (hls : ls.size = nC) (hst : st0 = As.reverse ++ .ref b :: rest) (hW : (rest.map fun v => v.category).sum ≤ 8) (hdg : decode cc pc = .ok (.invokevirtual idx, 3)) (hf : cells + mc ≤ R.cells ∧ slots + ms ≤ R.slots)
    (kk : ∀ (o : Option Value) (w1 : va_W) (H1 : Heap) (locs1 : List Loc), Post o w1 → va_P D hq_cl w1 H1 → va_D A w1 → va_S A s.heap H1 locs1 → W p l e R s m args below meth c H1 locs1 (cells + mc) (slots + ms) Q (F0 m (pc + 3) ls (o.toList ++ rest))) : W p l e R s m args below meth c H locs cells slots Q (F0 m pc ls st0) := by
  subst hnA
  refine hq_gon (va_runV (n := As.length) (Ts := hq_tbl) (As := As) ⟨hx, hb, hml, hown, hts⟩ hM (cwV As.length hts (hq_sub fun x hx => ?_) rfl hrm.1 hrm.2 ⟨rfl, hd⟩ hR) ⟨hq_blindn, va_recv hK hP hc he, fun U hU hW => ⟨rfl, by rw [hU]; exact hP, va_K.moved hW.alike hK, hD, fun q hq => hA q (Nat.le_trans hS.1 (by rw [← hU]; exact hq)), hN.warm hW⟩⟩ rfl rfl hls hst (lv_room hW) hdg hf) hS kk
  simp only [wsV, List.cons_append, List.nil_append, List.mem_cons] at hx
  rcases hx with rfl | rfl | rfl | rfl | rfl | hx
  · exact h1
  · exact h2
  · exact h3
  · exact h4
  · exact h5
  · exact hx
/-- a constructor's call -/
theorem hq_callI (hx : p.tables.exec = Jvm.exec) (hb : c.code = cc) (hml : c.maxLocals = nC) (hown : s.vm.findClass own = some m.cls) (hts : ∀ x ∈ hq_tbl, x.before args s = true) (hK : va_K D hq_cl tys s) (hP : va_P D hq_cl w0 H) (hD : va_D A w0) (hS : va_S A H0 H locs)
    (hM : hq_Ct l y bc nL none rm D tys A (.ref b :: As) w0 w1 none mc ms)
    (h1 : Cond.methodLink own idx y ∈ hq_tbl) (h2 : Cond.instanceMethod y ∈ hq_tbl) (h4 : Cond.initialized y.cls ∈ hq_tbl) (h5 : Cond.code y bc nL none ∈ hq_tbl) (hy1 : y.name = "<init>")
    (nA : Nat) (hnA : As.length = nA) (hd : y.cls ≠ "java/lang/invoke/MethodHandle" ∧ y.cls ≠ "java/lang/invoke/VarHandle" ∧ (parseMethodDescriptor y.desc).map (fun d => d.parameters.length) = some nA) (hrm : rm.cells = mc ∧ rm.slots = ms) (hR : rm.frames + 1 ≤ R.frames ∧ 8 + (nL + 11) + rm.locals ≤ R.locals) (hls : ls.size = nC) (hst : st0 = As.reverse ++ .ref b :: rest) (hW : (rest.map fun v => v.category).sum ≤ 8) (hdg : decode cc pc = .ok (.invokespecial idx, 3)) (hf : cells + mc ≤ R.cells ∧ slots + ms ≤ R.slots)
    (kk : ∀ (H1 : Heap) (locs1 : List Loc), va_P D hq_cl w1 H1 → va_D A w1 → va_S A H0 H1 locs1 → W p l e R s m args below meth c H1 locs1 (cells + mc) (slots + ms) Q (F0 m (pc + 3) ls rest)) : W p l e R s m args below meth c H locs cells slots Q (F0 m pc ls st0) := by
  subst hnA
  refine hq_go (va_runI (n := As.length) (Ts := hq_tbl) (As := As) ⟨hx, hb, hml, hown, hts⟩ hM (cwI As.length hts (hq_sub fun x hx => ?_) rfl hrm.1 hrm.2 (hts _ h4) (hts _ h1) (hts _ h2) hy1 hd hR) ⟨hq_blind, fun U hU hW => ⟨rfl, by rw [hU]; exact hP, va_K.moved hW.alike hK, hD⟩⟩ rfl rfl hls hst (lv_room hW) hdg hf) hS kk
  rcases List.mem_cons.mp hx with rfl | hx
  · exact h5
  · exact hx
theorem hq_callIN {host : String} (hx : p.tables.exec = Jvm.exec) (hb : c.code = cc) (hml : c.maxLocals = nC) (hown : s.vm.findClass own = some m.cls) (hts : ∀ x ∈ hq_tbl, x.before args s = true) (hK : va_K D hq_cl tys s) (hP : va_P D hq_cl w0 H) (hD : va_D A w0) (hS : va_S A H0 H locs)
    (hM : hq_Ct l y bc nL none rm D tys A (.ref b :: As) w0 w1 none mc ms)
    (h1 : va_Nw (.methodLinkNest own idx y host) s) (h2 : Cond.instanceMethod y ∈ hq_tbl) (h4 : Cond.initialized y.cls ∈ hq_tbl) (h5 : Cond.code y bc nL none ∈ hq_tbl) (hy1 : y.name = "<init>")
    (nA : Nat) (hnA : As.length = nA) (hd : y.cls ≠ "java/lang/invoke/MethodHandle" ∧ y.cls ≠ "java/lang/invoke/VarHandle" ∧ (parseMethodDescriptor y.desc).map (fun d => d.parameters.length) = some nA) (hrm : rm.cells = mc ∧ rm.slots = ms) (hR : rm.frames + 1 ≤ R.frames ∧ 8 + (nL + 11) + rm.locals ≤ R.locals) (hls : ls.size = nC) (hst : st0 = As.reverse ++ .ref b :: rest) (hW : (rest.map fun v => v.category).sum ≤ 8) (hdg : decode cc pc = .ok (.invokespecial idx, 3)) (hf : cells + mc ≤ R.cells ∧ slots + ms ≤ R.slots)
    (kk : ∀ (H1 : Heap) (locs1 : List Loc), va_P D hq_cl w1 H1 → va_D A w1 → va_S A H0 H1 locs1 → W p l e R s m args below meth c H1 locs1 (cells + mc) (slots + ms) Q (F0 m (pc + 3) ls rest)) : W p l e R s m args below meth c H locs cells slots Q (F0 m pc ls st0) := by
  subst hnA
  refine hq_go (va_runIN (n := As.length) (Ts := hq_tbl) (As := As) ⟨hx, hb, hml, hown, hts⟩ hM ⟨va_cnB As.length hts (hq_sub fun x hx => ?_) rfl hrm.1 hrm.2 h1 (hts _ h4) hd hR, hy1, hts _ h2⟩ ⟨hq_blind, fun U hU hW => ⟨rfl, by rw [hU]; exact hP, va_K.moved hW.alike hK, hD⟩⟩ rfl rfl hls hst (lv_room hW) hdg hf) hS kk
  rcases List.mem_cons.mp hx with rfl | hx
  · exact h5
  · exact hx
end HQN
/-! the constructors of Node and Select -/
theorem dxn_init_0 : decode bxn_init 0 = .ok (.aload_n 0, 1) := by decide +kernel
theorem dxn_init_1 : decode bxn_init 1 = .ok (.invokespecial 1, 3) := by decide +kernel
theorem dxn_init_4 : decode bxn_init 4 = .ok (.aload_n 0, 1) := by decide +kernel
theorem dxn_init_5 : decode bxn_init 5 = .ok (.iload_n 1, 1) := by decide +kernel
theorem dxn_init_6 : decode bxn_init 6 = .ok (.putfield 7, 3) := by decide +kernel
theorem dxn_init_9 : decode bxn_init 9 = .ok (.aload_n 0, 1) := by decide +kernel
theorem dxn_init_10 : decode bxn_init 10 = .ok (.iload_n 2, 1) := by decide +kernel
theorem dxn_init_11 : decode bxn_init 11 = .ok (.putfield 13, 3) := by decide +kernel
theorem dxn_init_14 : decode bxn_init 14 = .ok (.aload_n 0, 1) := by decide +kernel
theorem dxn_init_15 : decode bxn_init 15 = .ok (.aload_n 3, 1) := by decide +kernel
theorem dxn_init_16 : decode bxn_init 16 = .ok (.putfield 16, 3) := by decide +kernel
theorem dxn_init_19 : decode bxn_init 19 = .ok (.aload_n 0, 1) := by decide +kernel
theorem dxn_init_20 : decode bxn_init 20 = .ok (.aload 4, 2) := by decide +kernel
theorem dxn_init_22 : decode bxn_init 22 = .ok (.putfield 20, 3) := by decide +kernel
theorem dxn_init_25 : decode bxn_init 25 = .ok (.return_, 1) := by decide +kernel
theorem dxl_init_0 : decode bxl_init 0 = .ok (.aload_n 0, 1) := by decide +kernel
theorem dxl_init_1 : decode bxl_init 1 = .ok (.invokespecial 1, 3) := by decide +kernel
theorem dxl_init_4 : decode bxl_init 4 = .ok (.return_, 1) := by decide +kernel
theorem hq_set {w : va_W} {q0 : Nat} {x y : Nat × va_E} (h : w[q0]? = some x) : (w.set q0 y)[q0]? = some y := List.getElem?_set_self (List.getElem?_eq_some_iff.mp h).1
theorem hq_nref {C : String} (r : Option Nat) : narrow (.object C) (va_rf r) = va_rf r := by cases r <;> rfl
theorem hq_fref {C : String} (r : Option Nat) : fits (.object C) (va_rf r) = true := by cases r <;> rfl
section
variable {l : Launch} {D : va_G} {A : Nat → Prop} {z w : va_W} {q : Nat → Nat} {cI cZ cL : ClassId}
set_option maxHeartbeats 4000000 in
theorem cxn_init {q0 a : Nat} (code num : Int32) (lf rt : Option Nat) (he : w[q0]? = some (a, .inr (7, [.int 0, .int 0, .null, .null]))) :
    hq_Ct l yxn_init bxn_init 5 none { frames := 1, cells := 0, slots := 0, locals := 12 } D (hq_tys cI cZ cL) A [.ref a, .int code, .int num, va_rf lf, va_rf rt] w (w.set q0 (a, .inr (7, [.int code, .int num, va_rf lf, va_rf rt]))) none 0 0 := by
  refine hq_of (by decide) ?_ (by cases lf <;> cases rt <;> exact Nat.le_of_ble_eq_true rfl)
  intro p e s m below meth c R args Q hRm hQ hx hb hr hml hts hown hlocks hnm hP hK hD ls hl hS
  have hla : lv_args 0 [.ref a, .int code, .int num, va_rf lf, va_rf rt] = [(0, .ref a), (1, .int code), (2, .int num), (3, va_rf lf), (4, va_rf rt)] := by cases lf <;> cases rt <;> rfl
  rw [hla] at hl
  have hown : s.vm.findClass "HeapQueries$Node" = some m.cls := hown
  have hnm : meth.name = "<init>" := hnm
  refine lv_aload_n hx hb dxn_init_0 rfl (lv_at hl 0 rfl) ?_
  refine W.objInit hx hb hown (hts _ wi_610) (hts _ wi_611) (hts _ wi_612) rfl (by rw [hml]; exact hl.1) rfl dxn_init_1 (by rw [hRm]; exact Nat.le_of_ble_eq_true rfl) (by rw [hRm]; exact Nat.le_of_ble_eq_true rfl) ?_
  refine W.eq (g2 := F0 m 4 ls []) rfl ?_
  refine lv_aload_n hx hb dxn_init_4 rfl (lv_at hl 0 rfl) ?_
  refine lv_iload_n hx hb dxn_init_5 rfl (lv_at hl 1 rfl) ?_
  refine va_putF (ty := .int) hx hb hts hin_xn hty_xn hty_xn_ok hnm_xn hown hK hP hD hS q0 he rfl 0 (by decide) (hts _ wi_613) (fun _ h9 => h9) rfl hnm rfl (by decide +kernel) rfl rfl (Nat.le_of_ble_eq_true rfl) dxn_init_6 (fun H locs hP hD hS => ?_)
  have he := hq_set (y := (a, .inr (7, [.int code, .int 0, .null, .null]))) he
  refine lv_aload_n hx hb dxn_init_9 rfl (lv_at hl 0 rfl) ?_
  refine lv_iload_n hx hb dxn_init_10 rfl (lv_at hl 2 rfl) ?_
  refine va_putF (ty := .int) hx hb hts hin_xn hty_xn hty_xn_ok hnm_xn hown hK hP hD hS q0 he rfl 1 (by decide) (hts _ wi_614) (fun _ h9 => h9) rfl hnm rfl (by decide +kernel) rfl rfl (Nat.le_of_ble_eq_true rfl) dxn_init_11 (fun H locs hP hD hS => ?_)
  have he := hq_set (y := (a, .inr (7, [.int code, .int num, .null, .null]))) he
  refine lv_aload_n hx hb dxn_init_14 rfl (lv_at hl 0 rfl) ?_
  refine hq_aload_n hx hb dxn_init_15 rfl (lv_at hl 3 rfl) ?_
  refine va_putF (ty := .object "HeapQueries$Node") hx hb hts hin_xn hty_xn hty_xn_ok hnm_xn hown hK hP hD hS q0 he rfl 2 (by decide) (hts _ wi_615) (fun _ h9 => h9) rfl hnm rfl (by decide +kernel) (hq_nref lf) (hq_fref lf) (Nat.le_of_ble_eq_true rfl) dxn_init_16 (fun H locs hP hD hS => ?_)
  have he := hq_set (y := (a, .inr (7, [.int code, .int num, va_rf lf, .null]))) he
  refine lv_aload_n hx hb dxn_init_19 rfl (lv_at hl 0 rfl) ?_
  refine hq_aload hx hb dxn_init_20 (lv_at hl 4 rfl) ?_
  refine va_putF (ty := .object "HeapQueries$Node") hx hb hts hin_xn hty_xn hty_xn_ok hnm_xn hown hK hP hD hS q0 he rfl 3 (by decide) (hts _ wi_616) (fun _ h9 => h9) rfl hnm rfl (by decide +kernel) (hq_nref rt) (hq_fref rt) (Nat.le_of_ble_eq_true rfl) dxn_init_22 (fun H locs hP hD hS => ?_)
  refine hq_vret hx hb hr hlocks hQ hK hP hD hS rfl ?_ dxn_init_25
  rw [List.set_set, List.set_set, List.set_set]
  rfl
theorem cxl_init {a : Nat} : hq_Ct l yxl_init bxl_init 1 none { frames := 1, cells := 0, slots := 0, locals := 12 } D (hq_tys cI cZ cL) A [.ref a] w w none 0 0 := by
  refine hq_of (by decide) ?_ (Nat.le_of_ble_eq_true rfl)
  intro p e s m below meth c R args Q hRm hQ hx hb hr hml hts hown hlocks hnm hP hK hD ls hl hS
  have hl : lv_has ls 1 [(0, .ref a)] := hl
  have hown : s.vm.findClass "HeapQueries$Select" = some m.cls := hown
  refine lv_aload_n hx hb dxl_init_0 rfl (lv_at hl 0 rfl) ?_
  refine W.objInit hx hb hown (hts _ wi_617) (hts _ wi_611) (hts _ wi_612) rfl (by rw [hml]; exact hl.1) rfl dxl_init_1 (by rw [hRm]; exact Nat.le_of_ble_eq_true rfl) (by rw [hRm]; exact Nat.le_of_ble_eq_true rfl) ?_
  refine W.eq (g2 := F0 m 4 ls []) rfl ?_
  exact hq_vret hx hb hr hlocks hQ hK hP hD hS rfl rfl dxl_init_4
end
