/-! what a method starts from, calls -/
def NWl : List Cond := [Cond.methodLinkNest RX6 11 yX1_init "WindFrontiers", Cond.methodLinkNest RX1 11 yX5_init "WindFrontiers", Cond.methodLinkNest RX1 20 yX4_init "WindFrontiers", Cond.methodLinkNest RX3 11 yX4_init "WindFrontiers", Cond.methodLinkNest RX6 43 yX2_init "WindFrontiers", Cond.methodLinkNest RX6 50 yX0_init "WindFrontiers", Cond.methodLinkNest RX1 98 yX6_bitOf "WindFrontiers", Cond.methodLinkNest RX4 39 yX6_isWithin "WindFrontiers", Cond.methodLinkNest RX4 77 yX6_oneIf "WindFrontiers", Cond.methodLinkNest RX0 40 yX6_bitOf "WindFrontiers"]
def NW (U : State) : Prop := (∀ w ∈ NWl, va_Nw w U) ∧ va_AO "WindFrontiers$Strand" U
theorem NW_same {u U : State} (h : u.vm = U.vm) (hN : NW u) : NW U := by
  refine ⟨fun w hw => ?_, hN.2.moved (by rw [h]; exact Vm.Alike.refl _)⟩
  have h0 := hN.1 w hw
  simp only [NWl, List.mem_cons, List.not_mem_nil, or_false] at hw
  rcases hw with rfl | rfl | rfl | rfl | rfl | rfl | rfl | rfl | rfl | rfl <;> exact va_Nw.same rfl h h0
theorem NW_warm {s U : State} (hW : s.WarmedH U.vm) (hN : NW s) : NW U := by
  refine ⟨fun w hw => ?_, hN.2.moved hW.alike⟩
  have h0 := hN.1 w hw
  simp only [NWl, List.mem_cons, List.not_mem_nil, or_false] at hw
  rcases hw with rfl | rfl | rfl | rfl | rfl | rfl | rfl | rfl | rfl | rfl <;> exact va_Nw.warmM hW h0
theorem NW_of {s : State} {args : Array Value} (hts : ∀ w ∈ lw_tbl, w.before args s = true) : NW s := by
  refine ⟨fun w hw => ?_, va_AO.of (hts _ wn_1_109)⟩
  simp only [NWl, List.mem_cons, List.not_mem_nil, or_false] at hw
  rcases hw with rfl | rfl | rfl | rfl | rfl | rfl | rfl | rfl | rfl | rfl
  · exact va_Nw.of rfl (hts _ wn_1_20)
  · exact va_Nw.of rfl (hts _ wn_1_26)
  · exact va_Nw.of rfl (hts _ wn_1_41)
  · exact va_Nw.of rfl (hts _ wn_1_108)
  · exact va_Nw.of rfl (hts _ wn_1_127)
  · exact va_Nw.of rfl (hts _ wn_1_150)
  · exact va_Nw.of rfl (hts _ wn_2_14)
  · exact va_Nw.of rfl (hts _ wn_2_49)
  · exact va_Nw.of rfl (hts _ wn_2_185)
  · exact va_Nw.of rfl (hts _ wn_3_15)
/-- a method with a world -/
def GPre (D : va_G) (tys : List (ClassId × FieldType)) (w : va_W) (av : List Value) (sz : Nat) : Array Value → State → Prop := va_Pc av (fun U => U.heap.size = sz ∧ va_P D vwCl w U.heap ∧ va_K D vwCl tys U ∧ va_D (fun _ => True) w ∧ NW U)
/-- a method without one -/
def SPre (av : List Value) : Array Value → State → Prop := va_Pc av (fun U => NW U)
def GAt (D : va_G) (tys : List (ClassId × FieldType)) (A : Nat → Prop) (w : va_W) (t : State) : Prop := va_P D vwCl w t.heap ∧ va_K D vwCl tys t ∧ va_D A w
theorem GPre_blind {D : va_G} {tys : List (ClassId × FieldType)} {w : va_W} {av : List Value} {sz : Nat} : FrameBlind (GPre D tys w av sz) := fun a U g mk q => by
  obtain ⟨q0, q1, qP, qK, qD, qN⟩ := q
  exact ⟨q0, q1, qP, va_K.moved (u := U) (U := U.calling g mk a) (Vm.Alike.refl U.vm) qK, qD, NW_same (u := U) rfl qN⟩
theorem SPre_blind {av : List Value} : FrameBlind (SPre av) := fun a U g mk q => by
  obtain ⟨q0, qN⟩ := q
  exact ⟨q0, NW_same (u := U) rfl qN⟩
theorem wm_ts {y : MethodName} {cc : ByteArray} {n : Nat} {ret : Option FieldType} {a : Array Value} {s : State} (h : ∀ w ∈ wm y cc n ret, w.before a s = true) : ∀ w ∈ AL, w.before a s = true := fun w hw => h w (List.mem_cons_of_mem _ hw)
section MET
variable {l : Launch} {y : MethodName} {cc : ByteArray} {nL : Nat} {ret : Option FieldType} {rm : Room} {D : va_G} {tys : List (ClassId × FieldType)} {w : va_W} {av : List Value} {sz mc ms : Nat}
/-- a method with a world that reads alone -/
theorem metP {Qc : Array Value → State → Outcome → State → Prop} (hy : plainName y.cls = true) (hn : (lg_sl av).length ≤ nL)
    (body : ∀ (p : Program) (e : Env) (s : State) (m : MethodId) (below : List Frame) (meth : Method) (c : Code) (ls : Array Slot), CallFix p m c cc nL s av.toArray AL y.cls → meth.sig.returnType = ret → meth.locks = false → s.heap.size = sz → va_P D vwCl w s.heap → va_K D vwCl tys s → va_D (fun _ => True) w → NW s → lv_has ls nL (lv_args 0 av) → W p l e rm s m av.toArray below meth c s.heap [] 0 0 (MQ below Qc av.toArray s mc ms (fun _ => False)) (F0 m 0 ls [])) :
    Met l y (wm y cc nL ret) rm (GPre D tys w av sz) Qc mc ms (fun _ => False) := by
  refine Met.ofW (cc := cc) (maxL := nL) (ret := ret) hy rfl ?_
  intro p e s m args below meth c s₁ B hml hv
  obtain ⟨rfl, hsz, hP, hK, hD, hN⟩ := hv
  have hl := lv_entry av (n := nL) hn
  rw [lg_entry_eq]
  exact body p e s m below meth c _ ⟨B.exec, B.bytes, hml, findClass_of_methodNamed B.named, wm_ts (atoms_spec (ws := wm y cc nL ret) B.pre)⟩ B.returns B.notSynchronized hsz hP hK hD hN hl
/-- a method without a world -/
theorem metS {Qc : Array Value → State → Outcome → State → Prop} (hy : plainName y.cls = true) (hn : (lg_sl av).length ≤ nL)
    (body : ∀ (p : Program) (e : Env) (s : State) (m : MethodId) (below : List Frame) (meth : Method) (c : Code) (ls : Array Slot), CallFix p m c cc nL s av.toArray AL y.cls → meth.sig.returnType = ret → meth.locks = false → NW s → lv_has ls nL (lv_args 0 av) → W p l e rm s m av.toArray below meth c s.heap [] 0 0 (MQ below Qc av.toArray s mc ms (fun _ => False)) (F0 m 0 ls [])) :
    Met l y (wm y cc nL ret) rm (SPre av) Qc mc ms (fun _ => False) := by
  refine Met.ofW (cc := cc) (maxL := nL) (ret := ret) hy rfl ?_
  intro p e s m args below meth c s₁ B hml hv
  obtain ⟨rfl, hN⟩ := hv
  have hl := lv_entry av (n := nL) hn
  rw [lg_entry_eq]
  exact body p e s m below meth c _ ⟨B.exec, B.bytes, hml, findClass_of_methodNamed B.named, wm_ts (atoms_spec (ws := wm y cc nL ret) B.pre)⟩ B.returns B.notSynchronized hN hl
/-- a method with a world that it changes -/
theorem metQ {Qc : (Nat → Prop) → Array Value → State → Outcome → State → Prop} (hy : plainName y.cls = true) (hn : (lg_sl av).length ≤ nL)
    (body : ∀ (p : Program) (e : Env) (s : State) (m : MethodId) (below : List Frame) (meth : Method) (c : Code) (ls : Array Slot) (A : Nat → Prop), CallFix p m c cc nL s av.toArray AL y.cls → meth.sig.returnType = ret → meth.locks = false → s.heap.size = sz → va_P D vwCl w s.heap → va_K D vwCl tys s → va_D A w → va_S A s.heap s.heap [] → (∀ q, s.heap.size ≤ q → A q) → NW s → lv_has ls nL (lv_args 0 av) → W p l e rm s m av.toArray below meth c s.heap [] 0 0 (MQ below (Qc A) av.toArray s mc ms A) (F0 m 0 ls [])) :
    Met l y (wm y cc nL ret) rm (GPre D tys w av sz) (Qc (va_A w sz)) mc ms (va_A w sz) := by
  refine Met.ofW (cc := cc) (maxL := nL) (ret := ret) hy rfl ?_
  intro p e s m args below meth c s₁ B hml hv
  obtain ⟨rfl, hsz, hP, hK, hD, hN⟩ := hv
  have hl := lv_entry av (n := nL) hn
  rw [lg_entry_eq]
  refine body p e s m below meth c _ (va_A w sz) ⟨B.exec, B.bytes, hml, findClass_of_methodNamed B.named, wm_ts (atoms_spec (ws := wm y cc nL ret) B.pre)⟩ B.returns B.notSynchronized hsz hP hK hD.self va_S.rf (fun q h => Or.inr (by rw [← hsz]; exact h)) hN hl
end MET
section CALL
variable {p : Program} {l : Launch} {e : Env} {R : Room} {s : State} {m : MethodId} {args : Array Value} {below : List Frame} {meth : Method} {c : Code} {H : Heap} {locs : List Loc} {cells slots : Nat} {Q : State → Prop}
variable {cc bytes : ByteArray} {pc nL maxL idx n : Nat} {ls : Array Slot} {rest st0 As : List Value} {D : va_G} {A : Nat → Prop} {H0 : Heap} {own C : String} {y : MethodName} {ret : Option FieldType} {rm : Room} {b : Addr} {tys : List (ClassId × FieldType)} {w : va_W}
theorem GPre_U (hK : va_K D vwCl tys s) (hP : va_P D vwCl w H) (hD : va_D A w) (hN : NW s) {av : List Value} : ∀ U : State, U.heap = H → s.WarmedH U.vm → GPre D tys w av H.size av.toArray U := fun U hU hW =>
  ⟨rfl, by rw [hU], by rw [hU]; exact hP, va_K.moved hW.alike hK, hD.weaken (fun _ _ _ _ => trivial), NW_warm hW hN⟩
abbrev CWv (own C : String) (idx : Nat) (y : MethodName) (cc : ByteArray) (n : Nat) (ret : Option FieldType) : Prop := Cond.methodLink own idx y ∈ AL ∧ Cond.instanceMethod y ∈ AL ∧ Cond.selects C y y ∈ AL ∧ Cond.initialized C ∈ AL ∧ Cond.code y cc n ret ∈ AL
abbrev CWs (own : String) (idx : Nat) (y : MethodName) (cc : ByteArray) (n : Nat) (ret : Option FieldType) : Prop := Cond.methodLink own idx y ∈ AL ∧ Cond.static y ∈ AL ∧ Cond.initialized y.cls ∈ AL ∧ Cond.code y cc n ret ∈ AL
/-- own's private static of a nest mate -/
abbrev CWn (own : String) (idx : Nat) (y : MethodName) (cc : ByteArray) (n : Nat) (ret : Option FieldType) : Prop := Cond.methodLinkNest own idx y "WindFrontiers" ∈ NWl ∧ Cond.static y ∈ AL ∧ Cond.initialized y.cls ∈ AL ∧ Cond.code y cc n ret ∈ AL
theorem cw_v (S : CallFix p m c cc nL s args AL own) (cw : CWv own C idx y bytes maxL ret) (hrm : rm.cells = 0 ∧ rm.slots = 0) (hd : y.cls = C ∧ y.cls ≠ "java/lang/invoke/MethodHandle" ∧ y.cls ≠ "java/lang/invoke/VarHandle" ∧ (parseMethodDescriptor y.desc).map (fun d => d.parameters.length) = some n) (hR : rm.frames + 1 ≤ R.frames ∧ 8 + (maxL + 11) + rm.locals ≤ R.locals) : CallW R s args own C idx y bytes maxL ret (wm y bytes maxL ret) rm 0 0 n :=
  cwV n S.2.2.2.2 (gd_V cw.1 cw.2.1 cw.2.2.1 cw.2.2.2.1 cw.2.2.2.2) rfl hrm.1 hrm.2 hd hR
theorem cw_s (S : CallFix p m c cc nL s args AL own) (cw : CWs own idx y bytes maxL ret) (hrm : rm.cells = 0 ∧ rm.slots = 0) (hd : y.cls ≠ "java/lang/invoke/MethodHandle" ∧ y.cls ≠ "java/lang/invoke/VarHandle" ∧ (parseMethodDescriptor y.desc).map (fun d => d.parameters.length) = some n) (hR : rm.frames + 1 ≤ R.frames ∧ 8 + (maxL + 11) + rm.locals ≤ R.locals) : CallB R s args own idx y bytes maxL ret (wm y bytes maxL ret) rm 0 0 n ∧ (Cond.static y).before args s = true :=
  va_cwS n S.2.2.2.2 (gd_S cw.1 cw.2.1 cw.2.2.1 cw.2.2.2) rfl hrm.1 hrm.2 hd hR
/-- a virtual call that reads alone: its run -/
theorem run_vP {Qc : Array Value → State → Outcome → State → Prop} (S : CallFix p m c cc nL s args AL own) (hK : va_K D vwCl tys s) (hP : va_P D vwCl w H) (hD : va_D A w) (hN : NW s)
    (hM : Met l y (wm y bytes maxL ret) rm (GPre D tys w (.ref b :: As) H.size) Qc 0 0 (fun _ => False)) (hr : ∃ cell : Cell, H[b]? = some cell ∧ cell.vm.isStatics = false ∧ s.vm.findClass C = some cell.cls)
    (cw : CWv own C idx y bytes maxL ret) (hrm : rm.cells = 0 ∧ rm.slots = 0) (hd : y.cls = C ∧ y.cls ≠ "java/lang/invoke/MethodHandle" ∧ y.cls ≠ "java/lang/invoke/VarHandle" ∧ (parseMethodDescriptor y.desc).map (fun d => d.parameters.length) = some n) (hR : rm.frames + 1 ≤ R.frames ∧ 8 + (maxL + 11) + rm.locals ≤ R.locals)
    (hn : As.length = n) (hsz : ls.size = nL) (hst : st0 = As.reverse ++ .ref b :: rest) (hcat : (rest.map fun v => v.category).sum ≤ 8) (hdg : decode cc pc = .ok (.invokevirtual idx, 3)) (hf : cells ≤ R.cells ∧ slots ≤ R.slots) :
    CallRun p l e R s m args below meth c H locs cells slots 0 0 (F0 m pc ls st0) rest (Qc (Value.ref b :: As).toArray) (fun _ => False) :=
  W.runV S hM (cw_v S cw hrm hd hR) ⟨GPre_blind, hr, GPre_U hK hP hD hN⟩ rfl hn hsz hst (lv_room hcat) hdg hf
theorem run_sP {Qc : Array Value → State → Outcome → State → Prop} (S : CallFix p m c cc nL s args AL own) (hN : NW s)
    (hM : Met l y (wm y bytes maxL ret) rm (SPre As) Qc 0 0 (fun _ => False))
    (cw : CWs own idx y bytes maxL ret) (hrm : rm.cells = 0 ∧ rm.slots = 0) (hd : y.cls ≠ "java/lang/invoke/MethodHandle" ∧ y.cls ≠ "java/lang/invoke/VarHandle" ∧ (parseMethodDescriptor y.desc).map (fun d => d.parameters.length) = some n) (hR : rm.frames + 1 ≤ R.frames ∧ 8 + (maxL + 11) + rm.locals ≤ R.locals)
    (hn : As.length = n) (hsz : ls.size = nL) (hst : st0 = As.reverse ++ rest) (hcat : (rest.map fun v => v.category).sum ≤ 8) (hdg : decode cc pc = .ok (.invokestatic idx, 3)) (hf : cells ≤ R.cells ∧ slots ≤ R.slots) :
    CallRun p l e R s m args below meth c H locs cells slots 0 0 (F0 m pc ls st0) rest (Qc As.toArray) (fun _ => False) :=
  W.runS S hM (cw_s S cw hrm hd hR) ⟨SPre_blind, fun U _ hW => ⟨rfl, NW_warm hW hN⟩⟩ rfl hn hsz hst (lv_room hcat) hdg hf
theorem run_nP {Qc : Array Value → State → Outcome → State → Prop} (S : CallFix p m c cc nL s args AL own) (hN : NW s)
    (hM : Met l y (wm y bytes maxL ret) rm (SPre As) Qc 0 0 (fun _ => False))
    (cw : CWn own idx y bytes maxL ret) (hrm : rm.cells = 0 ∧ rm.slots = 0) (hd : y.cls ≠ "java/lang/invoke/MethodHandle" ∧ y.cls ≠ "java/lang/invoke/VarHandle" ∧ (parseMethodDescriptor y.desc).map (fun d => d.parameters.length) = some n) (hR : rm.frames + 1 ≤ R.frames ∧ 8 + (maxL + 11) + rm.locals ≤ R.locals)
    (hn : As.length = n) (hsz : ls.size = nL) (hst : st0 = As.reverse ++ rest) (hcat : (rest.map fun v => v.category).sum ≤ 8) (hdg : decode cc pc = .ok (.invokestatic idx, 3)) (hf : cells ≤ R.cells ∧ slots ≤ R.slots) :
    CallRun p l e R s m args below meth c H locs cells slots 0 0 (F0 m pc ls st0) rest (Qc As.toArray) (fun _ => False) :=
  va_Run.run (va_runSN (host := "WindFrontiers") S hM ⟨va_cnB n S.2.2.2.2 (gd_wm (fun _ h => h) cw.2.2.2) rfl hrm.1 hrm.2 (hN.1 _ cw.1) (S.2.2.2.2 _ cw.2.2.1) hd hR, S.2.2.2.2 _ cw.2.1, trivial⟩ ⟨SPre_blind, fun U _ hW => ⟨rfl, NW_warm hW hN⟩⟩ rfl hn hsz hst (lv_room hcat) hdg hf)
theorem fr_A (hD : va_D A w) (hS : va_S A H0 H locs) (hA : ∀ q, H0.size ≤ q → A q) : ∀ q, va_A w H.size q → A q := by
  intro q h
  rcases h with ⟨k, e, h⟩ | h
  · exact hD.2 k (q, e) h
  · exact hA q (Nat.le_trans hS.1 h)
/-- a virtual call that changes the world -/
theorem run_vQ {Qc : Array Value → State → Outcome → State → Prop} (S : CallFix p m c cc nL s args AL own) (hK : va_K D vwCl tys s) (hP : va_P D vwCl w H) (hD : va_D A w) (hN : NW s)
    (hM : Met l y (wm y bytes maxL ret) rm (GPre D tys w (.ref b :: As) H.size) Qc 0 0 (va_A w H.size)) (hr : ∃ cell : Cell, H[b]? = some cell ∧ cell.vm.isStatics = false ∧ s.vm.findClass C = some cell.cls)
    (cw : CWv own C idx y bytes maxL ret) (hrm : rm.cells = 0 ∧ rm.slots = 0) (hd : y.cls = C ∧ y.cls ≠ "java/lang/invoke/MethodHandle" ∧ y.cls ≠ "java/lang/invoke/VarHandle" ∧ (parseMethodDescriptor y.desc).map (fun d => d.parameters.length) = some n) (hR : rm.frames + 1 ≤ R.frames ∧ 8 + (maxL + 11) + rm.locals ≤ R.locals)
    (hn : As.length = n) (hsz : ls.size = nL) (hst : st0 = As.reverse ++ .ref b :: rest) (hcat : (rest.map fun v => v.category).sum ≤ 8) (hdg : decode cc pc = .ok (.invokevirtual idx, 3)) (hf : cells ≤ R.cells ∧ slots ≤ R.slots) :
    va_Run p l e R s m args below meth c H locs cells slots 0 0 (F0 m pc ls st0) rest (Qc (Value.ref b :: As).toArray) (va_A w H.size) :=
  va_runV S hM (cw_v S cw hrm hd hR) ⟨GPre_blind, hr, GPre_U hK hP hD hN⟩ rfl hn hsz hst (lv_room hcat) hdg hf
theorem run_sQ {Qc : Array Value → State → Outcome → State → Prop} (S : CallFix p m c cc nL s args AL own) (hK : va_K D vwCl tys s) (hP : va_P D vwCl w H) (hD : va_D A w) (hN : NW s)
    (hM : Met l y (wm y bytes maxL ret) rm (GPre D tys w As H.size) Qc 0 0 (va_A w H.size))
    (cw : CWs own idx y bytes maxL ret) (hrm : rm.cells = 0 ∧ rm.slots = 0) (hd : y.cls ≠ "java/lang/invoke/MethodHandle" ∧ y.cls ≠ "java/lang/invoke/VarHandle" ∧ (parseMethodDescriptor y.desc).map (fun d => d.parameters.length) = some n) (hR : rm.frames + 1 ≤ R.frames ∧ 8 + (maxL + 11) + rm.locals ≤ R.locals)
    (hn : As.length = n) (hsz : ls.size = nL) (hst : st0 = As.reverse ++ rest) (hcat : (rest.map fun v => v.category).sum ≤ 8) (hdg : decode cc pc = .ok (.invokestatic idx, 3)) (hf : cells ≤ R.cells ∧ slots ≤ R.slots) :
    va_Run p l e R s m args below meth c H locs cells slots 0 0 (F0 m pc ls st0) rest (Qc As.toArray) (va_A w H.size) :=
  va_runS S hM (cw_s S cw hrm hd hR) ⟨GPre_blind, GPre_U hK hP hD hN⟩ rfl hn hsz hst (lv_room hcat) hdg hf
/-- behind a call that changes the world, with a number -/
theorem on_i {T : Type} {post : Int32 → T → Prop} {W1 : T → va_W} {a : Array Value} (hr : va_Run p l e R s m args below meth c H locs cells slots 0 0 (F0 m pc ls st0) rest (va_Qi post (fun u t => GAt D tys (va_A w H.size) (W1 u) t) (va_A w H.size) a) (va_A w H.size)) (hD : va_D A w) (hS : va_S A H0 H locs) (hA : ∀ q, H0.size ≤ q → A q)
    (kk : ∀ (r : Int32) (u : T) (H1 : Heap) (locs1 : List Loc), post r u → va_P D vwCl (W1 u) H1 → va_D A (W1 u) → va_S A H0 H1 locs1 → W p l e R s m args below meth c H1 locs1 cells slots Q (F0 m (pc + 3) ls (.int r :: rest))) : W p l e R s m args below meth c H locs cells slots Q (F0 m pc ls st0) := by
  refine va_calli hr hS (fun q _ h => fr_A hD hS hA q h) (fr_A hD hS hA) (fun r u t H1 locs1 ht hvm hp hB hz hk hS1 => ?_)
  obtain ⟨hP1, hK1, hD1⟩ := hB
  rw [ht] at hP1
  exact kk r u H1 locs1 hp hP1 (hD1.weaken (fun _ _ _ h => fr_A hD hS hA _ h)) hS1
theorem on_v {T : Type} {post : T → Prop} {W1 : T → va_W} {a : Array Value} (hr : va_Run p l e R s m args below meth c H locs cells slots 0 0 (F0 m pc ls st0) rest (va_Qv post (fun u t => GAt D tys (va_A w H.size) (W1 u) t) (va_A w H.size) a) (va_A w H.size)) (hD : va_D A w) (hS : va_S A H0 H locs) (hA : ∀ q, H0.size ≤ q → A q)
    (kk : ∀ (u : T) (H1 : Heap) (locs1 : List Loc), post u → va_P D vwCl (W1 u) H1 → va_D A (W1 u) → va_S A H0 H1 locs1 → W p l e R s m args below meth c H1 locs1 cells slots Q (F0 m (pc + 3) ls rest)) : W p l e R s m args below meth c H locs cells slots Q (F0 m pc ls st0) := by
  refine va_callv hr hS (fun q _ h => fr_A hD hS hA q h) (fr_A hD hS hA) (fun u t H1 locs1 ht hvm hp hB hz hk hS1 => ?_)
  obtain ⟨hP1, hK1, hD1⟩ := hB
  rw [ht] at hP1
  exact kk u H1 locs1 hp hP1 (hD1.weaken (fun _ _ _ h => fr_A hD hS hA _ h)) hS1
end CALL
