/-! what a method starts from, calls -/
def NWl : List Cond := [Cond.methodLinkNest RX6 11 yX1_init "WindFrontiers", Cond.methodLinkNest RX1 11 yX5_init "WindFrontiers", Cond.methodLinkNest RX1 20 yX4_init "WindFrontiers", Cond.methodLinkNest RX3 11 yX4_init "WindFrontiers", Cond.methodLinkNest RX6 43 yX2_init "WindFrontiers", Cond.methodLinkNest RX6 50 yX0_init "WindFrontiers", Cond.methodLinkNest RX1 98 yX6_bitOf "WindFrontiers", Cond.methodLinkNest RX4 39 yX6_isWithin "WindFrontiers", Cond.methodLinkNest RX4 77 yX6_oneIf "WindFrontiers", Cond.methodLinkNest RX0 40 yX6_bitOf "WindFrontiers"]
def NW (U : State) : Prop := (∀ w ∈ NWl, va_Nw w U) ∧ va_AO "WindFrontiers$Strand" U
theorem NW_same {u U : State} (h : u.vm = U.vm) (hN : NW u) : NW U := by
  refine ⟨fun w hw => ?_, hN.2.moved (by rw [h]; exact Vm.Alike.refl _)⟩
  have h0 := hN.1 w hw
  simp only [NWl, List.mem_cons, List.not_mem_nil, or_false] at hw
  rcases hw with rfl | rfl | rfl | rfl | rfl | rfl | rfl | rfl | rfl | rfl <;> exact va_Nw.same rfl h h0
theorem NW_warm {s U : State} (hW : s.WarmedH U.vm) (hN : NW s) : NW U := by
  refine ⟨fun w hw => ?_, hN.2.moved hW.alike⟩
  have h0 := hN.1 w hw
  simp only [NWl, List.mem_cons, List.not_mem_nil, or_false] at hw
  rcases hw with rfl | rfl | rfl | rfl | rfl | rfl | rfl | rfl | rfl | rfl <;> exact va_Nw.warmM hW h0
theorem NW_of {s : State} {args : Array Value} (hts : ∀ w ∈ lw_tbl, w.before args s = true) : NW s := by
  refine ⟨fun w hw => ?_, va_AO.of (hts _ wn_1_109)⟩
  simp only [NWl, List.mem_cons, List.not_mem_nil, or_false] at hw
  rcases hw with rfl | rfl | rfl | rfl | rfl | rfl | rfl | rfl | rfl | rfl
  · exact va_Nw.of rfl (hts _ wn_1_20)
  · exact va_Nw.of rfl (hts _ wn_1_26)
  · exact va_Nw.of rfl (hts _ wn_1_41)
  · exact va_Nw.of rfl (hts _ wn_1_108)
  · exact va_Nw.of rfl (hts _ wn_1_127)
  · exact va_Nw.of rfl (hts _ wn_1_150)
  · exact va_Nw.of rfl (hts _ wn_2_14)
  · exact va_Nw.of rfl (hts _ wn_2_49)
  · exact va_Nw.of rfl (hts _ wn_2_185)
  · exact va_Nw.of rfl (hts _ wn_3_15)
/-- a method with a world -/
def GPre (D : va_G) (tys : List (ClassId × FieldType)) (w : va_W) (av : List Value) (sz : Nat) : Array Value → State → Prop := va_Pc av (fun U => U.heap.size = sz ∧ va_P D vwCl w U.heap ∧ va_K D vwCl tys U ∧ va_D (fun _ => True) w ∧ NW U)
/-- a method without one -/
def SPre (av : List Value) : Array Value → State → Prop := va_Pc av (fun U => NW U)
def GAt (D : va_G) (tys : List (ClassId × FieldType)) (A : Nat → Prop) (w : va_W) (t : State) : Prop := va_P D vwCl w t.heap ∧ va_K D vwCl tys t ∧ va_D A w
theorem GPre_blind {D : va_G} {tys : List (ClassId × FieldType)} {w : va_W} {av : List Value} {sz : Nat} : FrameBlind (GPre D tys w av sz) := fun a U g mk q => by
  obtain ⟨q0, q1, qP, qK, qD, qN⟩ := q
  exact ⟨q0, q1, qP, va_K.moved (u := U) (U := U.calling g mk a) (Vm.Alike.refl U.vm) qK, qD, NW_same (u := U) rfl qN⟩
theorem SPre_blind {av : List Value} : FrameBlind (SPre av) := fun a U g mk q => by
  obtain ⟨q0, qN⟩ := q
  exact ⟨q0, NW_same (u := U) rfl qN⟩
theorem wm_ts {y : MethodName} {cc : ByteArray} {n : Nat} {ret : Option FieldType} {a : Array Value} {s : State} (h : ∀ w ∈ wm y cc n ret, w.before a s = true) : ∀ w ∈ AL, w.before a s = true := fun w hw => h w (List.mem_cons_of_mem _ hw)
section MET
variable {l : Launch} {y : MethodName} {cc : ByteArray} {nL : Nat} {ret : Option FieldType} {rm : Room} {D : va_G} {tys : List (ClassId × FieldType)} {w : va_W} {av : List Value} {sz : Nat}
theorem metP_i {post : Int32 → Prop} (hy : plainName y.cls = true) (hn : (lg_sl av).length ≤ nL)
    (body : ∀ (p : Program) (e : Env) (s : State) (m : MethodId) (args : Array Value) (below : List Frame) (meth : Method) (c : Code) (ls : Array Slot) (Q : State → Prop), CallFix p m c cc nL s args AL y.cls → s.heap.size = sz → va_P D vwCl w s.heap → va_K D vwCl tys s → va_D (fun _ => True) w → NW s → lv_has ls nL (lv_args 0 av) → (∀ (v : Int32) (pc : Nat) (ls : Array Slot), post v → decode cc pc = .ok (.ireturn, 1) → W p l e rm s m args below meth c s.heap [] 0 0 Q (F0 m pc ls [.int v])) → W p l e rm s m args below meth c s.heap [] 0 0 Q (F0 m 0 ls [])) :
    Met l y (wm y cc nL (some .int)) rm (GPre D tys w av sz) (vp_Si post) 0 0 (fun _ => False) := by
  refine Met.ofW (cc := cc) (maxL := nL) (ret := (some .int)) hy rfl ?_
  intro p e s m args below meth c s₁ B hml hv
  obtain ⟨rfl, hsz, hP, hK, hD, hN⟩ := hv
  have hr := B.returns
  have hlocks := B.notSynchronized
  have hl := lv_entry av (n := nL) hn
  rw [lg_entry_eq]
  refine body p e s m _ below meth c _ _ ⟨B.exec, B.bytes, hml, findClass_of_methodNamed B.named, wm_ts (atoms_spec (ws := wm y cc nL (some .int)) B.pre)⟩ hsz hP hK hD hN hl ?_
  intro v pc ls hv hd
  exact W.iret B.exec B.bytes hr (fun t ht hW => ⟨_, rfl, hv, ht⟩) (fun _ h => by cases h) hd
theorem metS_i {post : Int32 → Prop} (hy : plainName y.cls = true) (hn : (lg_sl av).length ≤ nL)
    (body : ∀ (p : Program) (e : Env) (s : State) (m : MethodId) (args : Array Value) (below : List Frame) (meth : Method) (c : Code) (ls : Array Slot) (Q : State → Prop), CallFix p m c cc nL s args AL y.cls → NW s → lv_has ls nL (lv_args 0 av) → (∀ (v : Int32) (pc : Nat) (ls : Array Slot), post v → decode cc pc = .ok (.ireturn, 1) → W p l e rm s m args below meth c s.heap [] 0 0 Q (F0 m pc ls [.int v])) → W p l e rm s m args below meth c s.heap [] 0 0 Q (F0 m 0 ls [])) :
    Met l y (wm y cc nL (some .int)) rm (SPre av) (vp_Si post) 0 0 (fun _ => False) := by
  refine Met.ofW (cc := cc) (maxL := nL) (ret := (some .int)) hy rfl ?_
  intro p e s m args below meth c s₁ B hml hv
  obtain ⟨rfl, hN⟩ := hv
  have hr := B.returns
  have hlocks := B.notSynchronized
  have hl := lv_entry av (n := nL) hn
  rw [lg_entry_eq]
  refine body p e s m _ below meth c _ _ ⟨B.exec, B.bytes, hml, findClass_of_methodNamed B.named, wm_ts (atoms_spec (ws := wm y cc nL (some .int)) B.pre)⟩ hN hl ?_
  intro v pc ls hv hd
  exact W.iret B.exec B.bytes hr (fun t ht hW => ⟨_, rfl, hv, ht⟩) (fun _ h => by cases h) hd
theorem metP_z {post : Int32 → Prop} (hy : plainName y.cls = true) (hn : (lg_sl av).length ≤ nL)
    (body : ∀ (p : Program) (e : Env) (s : State) (m : MethodId) (args : Array Value) (below : List Frame) (meth : Method) (c : Code) (ls : Array Slot) (Q : State → Prop), CallFix p m c cc nL s args AL y.cls → s.heap.size = sz → va_P D vwCl w s.heap → va_K D vwCl tys s → va_D (fun _ => True) w → NW s → lv_has ls nL (lv_args 0 av) → (∀ (v : Int32) (pc : Nat) (ls : Array Slot), post v ∧ (v = 0 ∨ v = 1) → decode cc pc = .ok (.ireturn, 1) → W p l e rm s m args below meth c s.heap [] 0 0 Q (F0 m pc ls [.int v])) → W p l e rm s m args below meth c s.heap [] 0 0 Q (F0 m 0 ls [])) :
    Met l y (wm y cc nL (some .boolean)) rm (GPre D tys w av sz) (vp_Si (fun r => post r ∧ (r = 0 ∨ r = 1))) 0 0 (fun _ => False) := by
  refine Met.ofW (cc := cc) (maxL := nL) (ret := (some .boolean)) hy rfl ?_
  intro p e s m args below meth c s₁ B hml hv
  obtain ⟨rfl, hsz, hP, hK, hD, hN⟩ := hv
  have hr := B.returns
  have hlocks := B.notSynchronized
  have hl := lv_entry av (n := nL) hn
  rw [lg_entry_eq]
  refine body p e s m _ below meth c _ _ ⟨B.exec, B.bytes, hml, findClass_of_methodNamed B.named, wm_ts (atoms_spec (ws := wm y cc nL (some .boolean)) B.pre)⟩ hsz hP hK hD hN hl ?_
  intro v pc ls hv hd
  exact W.zret B.exec B.bytes hr (bo_nar hv.2) (fun t ht hW => ⟨_, rfl, hv, ht⟩) (fun _ h => by cases h) hd
theorem metS_z {post : Int32 → Prop} (hy : plainName y.cls = true) (hn : (lg_sl av).length ≤ nL)
    (body : ∀ (p : Program) (e : Env) (s : State) (m : MethodId) (args : Array Value) (below : List Frame) (meth : Method) (c : Code) (ls : Array Slot) (Q : State → Prop), CallFix p m c cc nL s args AL y.cls → NW s → lv_has ls nL (lv_args 0 av) → (∀ (v : Int32) (pc : Nat) (ls : Array Slot), post v ∧ (v = 0 ∨ v = 1) → decode cc pc = .ok (.ireturn, 1) → W p l e rm s m args below meth c s.heap [] 0 0 Q (F0 m pc ls [.int v])) → W p l e rm s m args below meth c s.heap [] 0 0 Q (F0 m 0 ls [])) :
    Met l y (wm y cc nL (some .boolean)) rm (SPre av) (vp_Si (fun r => post r ∧ (r = 0 ∨ r = 1))) 0 0 (fun _ => False) := by
  refine Met.ofW (cc := cc) (maxL := nL) (ret := (some .boolean)) hy rfl ?_
  intro p e s m args below meth c s₁ B hml hv
  obtain ⟨rfl, hN⟩ := hv
  have hr := B.returns
  have hlocks := B.notSynchronized
  have hl := lv_entry av (n := nL) hn
  rw [lg_entry_eq]
  refine body p e s m _ below meth c _ _ ⟨B.exec, B.bytes, hml, findClass_of_methodNamed B.named, wm_ts (atoms_spec (ws := wm y cc nL (some .boolean)) B.pre)⟩ hN hl ?_
  intro v pc ls hv hd
  exact W.zret B.exec B.bytes hr (bo_nar hv.2) (fun t ht hW => ⟨_, rfl, hv, ht⟩) (fun _ h => by cases h) hd
theorem metP_l {post : Int64 → Prop} (hy : plainName y.cls = true) (hn : (lg_sl av).length ≤ nL)
    (body : ∀ (p : Program) (e : Env) (s : State) (m : MethodId) (args : Array Value) (below : List Frame) (meth : Method) (c : Code) (ls : Array Slot) (Q : State → Prop), CallFix p m c cc nL s args AL y.cls → s.heap.size = sz → va_P D vwCl w s.heap → va_K D vwCl tys s → va_D (fun _ => True) w → NW s → lv_has ls nL (lv_args 0 av) → (∀ (v : Int64) (pc : Nat) (ls : Array Slot), post v → decode cc pc = .ok (.lreturn, 1) → W p l e rm s m args below meth c s.heap [] 0 0 Q (F0 m pc ls [.long v])) → W p l e rm s m args below meth c s.heap [] 0 0 Q (F0 m 0 ls [])) :
    Met l y (wm y cc nL (some .long)) rm (GPre D tys w av sz) (vp_Sl post) 0 0 (fun _ => False) := by
  refine Met.ofW (cc := cc) (maxL := nL) (ret := (some .long)) hy rfl ?_
  intro p e s m args below meth c s₁ B hml hv
  obtain ⟨rfl, hsz, hP, hK, hD, hN⟩ := hv
  have hr := B.returns
  have hlocks := B.notSynchronized
  have hl := lv_entry av (n := nL) hn
  rw [lg_entry_eq]
  refine body p e s m _ below meth c _ _ ⟨B.exec, B.bytes, hml, findClass_of_methodNamed B.named, wm_ts (atoms_spec (ws := wm y cc nL (some .long)) B.pre)⟩ hsz hP hK hD hN hl ?_
  intro v pc ls hv hd
  exact W.lret B.exec B.bytes hr (fun t ht hW => ⟨_, rfl, hv, ht⟩) (fun _ h => by cases h) hd
theorem metS_l {post : Int64 → Prop} (hy : plainName y.cls = true) (hn : (lg_sl av).length ≤ nL)
    (body : ∀ (p : Program) (e : Env) (s : State) (m : MethodId) (args : Array Value) (below : List Frame) (meth : Method) (c : Code) (ls : Array Slot) (Q : State → Prop), CallFix p m c cc nL s args AL y.cls → NW s → lv_has ls nL (lv_args 0 av) → (∀ (v : Int64) (pc : Nat) (ls : Array Slot), post v → decode cc pc = .ok (.lreturn, 1) → W p l e rm s m args below meth c s.heap [] 0 0 Q (F0 m pc ls [.long v])) → W p l e rm s m args below meth c s.heap [] 0 0 Q (F0 m 0 ls [])) :
    Met l y (wm y cc nL (some .long)) rm (SPre av) (vp_Sl post) 0 0 (fun _ => False) := by
  refine Met.ofW (cc := cc) (maxL := nL) (ret := (some .long)) hy rfl ?_
  intro p e s m args below meth c s₁ B hml hv
  obtain ⟨rfl, hN⟩ := hv
  have hr := B.returns
  have hlocks := B.notSynchronized
  have hl := lv_entry av (n := nL) hn
  rw [lg_entry_eq]
  refine body p e s m _ below meth c _ _ ⟨B.exec, B.bytes, hml, findClass_of_methodNamed B.named, wm_ts (atoms_spec (ws := wm y cc nL (some .long)) B.pre)⟩ hN hl ?_
  intro v pc ls hv hd
  exact W.lret B.exec B.bytes hr (fun t ht hW => ⟨_, rfl, hv, ht⟩) (fun _ h => by cases h) hd
theorem metP_r {nm : String} {va : Value} (hy : plainName y.cls = true) (hn : (lg_sl av).length ≤ nL)
    (body : ∀ (p : Program) (e : Env) (s : State) (m : MethodId) (args : Array Value) (below : List Frame) (meth : Method) (c : Code) (ls : Array Slot) (Q : State → Prop), CallFix p m c cc nL s args AL y.cls → s.heap.size = sz → va_P D vwCl w s.heap → va_K D vwCl tys s → va_D (fun _ => True) w → NW s → lv_has ls nL (lv_args 0 av) → (∀ (v : Value) (pc : Nat) (ls : Array Slot), v = va ∧ (v = .null ∨ ∃ a, v = .ref a) → decode cc pc = .ok (.areturn, 1) → W p l e rm s m args below meth c s.heap [] 0 0 Q (F0 m pc ls [v])) → W p l e rm s m args below meth c s.heap [] 0 0 Q (F0 m 0 ls [])) :
    Met l y (wm y cc nL (some (.object nm))) rm (GPre D tys w av sz) (va_Sr (fun _ => True) (fun _ => va)) 0 0 (fun _ => False) := by
  refine Met.ofW (cc := cc) (maxL := nL) (ret := (some (.object nm))) hy rfl ?_
  intro p e s m args below meth c s₁ B hml hv
  obtain ⟨rfl, hsz, hP, hK, hD, hN⟩ := hv
  have hr := B.returns
  have hlocks := B.notSynchronized
  have hl := lv_entry av (n := nL) hn
  rw [lg_entry_eq]
  refine body p e s m _ below meth c _ _ ⟨B.exec, B.bytes, hml, findClass_of_methodNamed B.named, wm_ts (atoms_spec (ws := wm y cc nL (some (.object nm))) B.pre)⟩ hsz hP hK hD hN hl ?_
  intro v pc ls hv hd
  exact W.aret B.exec B.bytes hr (Or.inl ⟨_, rfl⟩) hv.2 (fun t ht hW => ⟨0, by rw [hv.1], trivial, ht⟩) (fun _ h => by cases h) hd
theorem metS_r {nm : String} {va : Value} (hy : plainName y.cls = true) (hn : (lg_sl av).length ≤ nL)
    (body : ∀ (p : Program) (e : Env) (s : State) (m : MethodId) (args : Array Value) (below : List Frame) (meth : Method) (c : Code) (ls : Array Slot) (Q : State → Prop), CallFix p m c cc nL s args AL y.cls → NW s → lv_has ls nL (lv_args 0 av) → (∀ (v : Value) (pc : Nat) (ls : Array Slot), v = va ∧ (v = .null ∨ ∃ a, v = .ref a) → decode cc pc = .ok (.areturn, 1) → W p l e rm s m args below meth c s.heap [] 0 0 Q (F0 m pc ls [v])) → W p l e rm s m args below meth c s.heap [] 0 0 Q (F0 m 0 ls [])) :
    Met l y (wm y cc nL (some (.object nm))) rm (SPre av) (va_Sr (fun _ => True) (fun _ => va)) 0 0 (fun _ => False) := by
  refine Met.ofW (cc := cc) (maxL := nL) (ret := (some (.object nm))) hy rfl ?_
  intro p e s m args below meth c s₁ B hml hv
  obtain ⟨rfl, hN⟩ := hv
  have hr := B.returns
  have hlocks := B.notSynchronized
  have hl := lv_entry av (n := nL) hn
  rw [lg_entry_eq]
  refine body p e s m _ below meth c _ _ ⟨B.exec, B.bytes, hml, findClass_of_methodNamed B.named, wm_ts (atoms_spec (ws := wm y cc nL (some (.object nm))) B.pre)⟩ hN hl ?_
  intro v pc ls hv hd
  exact W.aret B.exec B.bytes hr (Or.inl ⟨_, rfl⟩) hv.2 (fun t ht hW => ⟨0, by rw [hv.1], trivial, ht⟩) (fun _ h => by cases h) hd
theorem metQ_i {T : Type} {W1 : T → va_W} {post : Int32 → T → Prop} (hy : plainName y.cls = true) (hn : (lg_sl av).length ≤ nL)
    (body : ∀ (p : Program) (e : Env) (s : State) (m : MethodId) (args : Array Value) (below : List Frame) (meth : Method) (c : Code) (ls : Array Slot) (A : Nat → Prop) (Q : State → Prop), CallFix p m c cc nL s args AL y.cls → s.heap.size = sz → va_P D vwCl w s.heap → va_K D vwCl tys s → va_D A w → va_S A s.heap s.heap [] → (∀ q, s.heap.size ≤ q → A q) → NW s → lv_has ls nL (lv_args 0 av) → (∀ (v : Int32) (u : T) (pc : Nat) (ls : Array Slot) (H : Heap) (locs : List Loc), post v u → va_P D vwCl (W1 u) H → va_D A (W1 u) → va_S A s.heap H locs → decode cc pc = .ok (.ireturn, 1) → W p l e rm s m args below meth c H locs 0 0 Q (F0 m pc ls [.int v])) → W p l e rm s m args below meth c s.heap [] 0 0 Q (F0 m 0 ls [])) :
    Met l y (wm y cc nL (some .int)) rm (GPre D tys w av sz) (va_Qi post (fun u t => GAt D tys (va_A w sz) (W1 u) t) (va_A w sz)) 0 0 (va_A w sz) := by
  refine Met.ofW (cc := cc) (maxL := nL) (ret := (some .int)) hy rfl ?_
  intro p e s m args below meth c s₁ B hml hv
  obtain ⟨rfl, hsz, hP, hK, hD, hN⟩ := hv
  have hr := B.returns
  have hlocks := B.notSynchronized
  have hl := lv_entry av (n := nL) hn
  rw [lg_entry_eq]
  refine body p e s m _ below meth c _ (va_A w sz) _ ⟨B.exec, B.bytes, hml, findClass_of_methodNamed B.named, wm_ts (atoms_spec (ws := wm y cc nL (some .int)) B.pre)⟩ hsz hP hK hD.self va_S.rf (fun q h => Or.inr (by rw [← hsz]; exact h)) hN hl ?_
  intro v u pc ls H locs hv hP1 hD1 hS1 hd
  exact W.iret B.exec B.bytes hr (fun t ht hW => ⟨⟨_, u, rfl, hv, by rw [ht]; exact hP1, va_K.moved hW.alike hK, hD1⟩, hS1.F ht⟩) hS1.2.2 hd
theorem metQ_z {T : Type} {W1 : T → va_W} {post : Int32 → T → Prop} (hy : plainName y.cls = true) (hn : (lg_sl av).length ≤ nL)
    (body : ∀ (p : Program) (e : Env) (s : State) (m : MethodId) (args : Array Value) (below : List Frame) (meth : Method) (c : Code) (ls : Array Slot) (A : Nat → Prop) (Q : State → Prop), CallFix p m c cc nL s args AL y.cls → s.heap.size = sz → va_P D vwCl w s.heap → va_K D vwCl tys s → va_D A w → va_S A s.heap s.heap [] → (∀ q, s.heap.size ≤ q → A q) → NW s → lv_has ls nL (lv_args 0 av) → (∀ (v : Int32) (u : T) (pc : Nat) (ls : Array Slot) (H : Heap) (locs : List Loc), post v u ∧ (v = 0 ∨ v = 1) → va_P D vwCl (W1 u) H → va_D A (W1 u) → va_S A s.heap H locs → decode cc pc = .ok (.ireturn, 1) → W p l e rm s m args below meth c H locs 0 0 Q (F0 m pc ls [.int v])) → W p l e rm s m args below meth c s.heap [] 0 0 Q (F0 m 0 ls [])) :
    Met l y (wm y cc nL (some .boolean)) rm (GPre D tys w av sz) (va_Qi (fun r u => post r u ∧ (r = 0 ∨ r = 1)) (fun u t => GAt D tys (va_A w sz) (W1 u) t) (va_A w sz)) 0 0 (va_A w sz) := by
  refine Met.ofW (cc := cc) (maxL := nL) (ret := (some .boolean)) hy rfl ?_
  intro p e s m args below meth c s₁ B hml hv
  obtain ⟨rfl, hsz, hP, hK, hD, hN⟩ := hv
  have hr := B.returns
  have hlocks := B.notSynchronized
  have hl := lv_entry av (n := nL) hn
  rw [lg_entry_eq]
  refine body p e s m _ below meth c _ (va_A w sz) _ ⟨B.exec, B.bytes, hml, findClass_of_methodNamed B.named, wm_ts (atoms_spec (ws := wm y cc nL (some .boolean)) B.pre)⟩ hsz hP hK hD.self va_S.rf (fun q h => Or.inr (by rw [← hsz]; exact h)) hN hl ?_
  intro v u pc ls H locs hv hP1 hD1 hS1 hd
  exact W.zret B.exec B.bytes hr (bo_nar hv.2) (fun t ht hW => ⟨⟨_, u, rfl, hv, by rw [ht]; exact hP1, va_K.moved hW.alike hK, hD1⟩, hS1.F ht⟩) hS1.2.2 hd
theorem metQ_v {T : Type} {W1 : T → va_W} {post : T → Prop} (hy : plainName y.cls = true) (hn : (lg_sl av).length ≤ nL)
    (body : ∀ (p : Program) (e : Env) (s : State) (m : MethodId) (args : Array Value) (below : List Frame) (meth : Method) (c : Code) (ls : Array Slot) (A : Nat → Prop) (Q : State → Prop), CallFix p m c cc nL s args AL y.cls → s.heap.size = sz → va_P D vwCl w s.heap → va_K D vwCl tys s → va_D A w → va_S A s.heap s.heap [] → (∀ q, s.heap.size ≤ q → A q) → NW s → lv_has ls nL (lv_args 0 av) → (∀ (u : T) (pc : Nat) (ls : Array Slot) (H : Heap) (locs : List Loc), post u → va_P D vwCl (W1 u) H → va_D A (W1 u) → va_S A s.heap H locs → decode cc pc = .ok (.return_, 1) → W p l e rm s m args below meth c H locs 0 0 Q (F0 m pc ls [])) → W p l e rm s m args below meth c s.heap [] 0 0 Q (F0 m 0 ls [])) :
    Met l y (wm y cc nL none) rm (GPre D tys w av sz) (va_Qv post (fun u t => GAt D tys (va_A w sz) (W1 u) t) (va_A w sz)) 0 0 (va_A w sz) := by
  refine Met.ofW (cc := cc) (maxL := nL) (ret := none) hy rfl ?_
  intro p e s m args below meth c s₁ B hml hv
  obtain ⟨rfl, hsz, hP, hK, hD, hN⟩ := hv
  have hr := B.returns
  have hlocks := B.notSynchronized
  have hl := lv_entry av (n := nL) hn
  rw [lg_entry_eq]
  refine body p e s m _ below meth c _ (va_A w sz) _ ⟨B.exec, B.bytes, hml, findClass_of_methodNamed B.named, wm_ts (atoms_spec (ws := wm y cc nL none) B.pre)⟩ hsz hP hK hD.self va_S.rf (fun q h => Or.inr (by rw [← hsz]; exact h)) hN hl ?_
  intro u pc ls H locs hv hP1 hD1 hS1 hd
  exact W.vret B.exec B.bytes hr (fun t ht hW => ⟨⟨u, rfl, hv, by rw [ht]; exact hP1, va_K.moved hW.alike hK, hD1⟩, hS1.F ht⟩) hS1.2.2 hd
end MET
section CALL
variable {p : Program} {l : Launch} {e : Env} {R : Room} {s : State} {m : MethodId} {args : Array Value} {below : List Frame} {meth : Method} {c : Code} {H : Heap} {locs : List Loc} {cells slots : Nat} {Q : State → Prop}
variable {cc bytes : ByteArray} {pc nL maxL idx n : Nat} {ls : Array Slot} {rest st0 As : List Value} {D : va_G} {A : Nat → Prop} {H0 : Heap} {own C : String} {y : MethodName} {ret : Option FieldType} {rm : Room} {b : Addr} {tys : List (ClassId × FieldType)} {w : va_W}
theorem GPre_U (hK : va_K D vwCl tys s) (hP : va_P D vwCl w H) (hD : va_D A w) (hN : NW s) {av : List Value} : ∀ U : State, U.heap = H → s.WarmedH U.vm → GPre D tys w av H.size av.toArray U := fun U hU hW =>
  ⟨rfl, by rw [hU], by rw [hU]; exact hP, va_K.moved hW.alike hK, hD.weaken (fun _ _ _ _ => trivial), NW_warm hW hN⟩
abbrev CWv (own C : String) (idx : Nat) (y : MethodName) (cc : ByteArray) (n : Nat) (ret : Option FieldType) : Prop := Cond.methodLink own idx y ∈ AL ∧ Cond.instanceMethod y ∈ AL ∧ Cond.selects C y y ∈ AL ∧ Cond.initialized C ∈ AL ∧ Cond.code y cc n ret ∈ AL
abbrev CWs (own : String) (idx : Nat) (y : MethodName) (cc : ByteArray) (n : Nat) (ret : Option FieldType) : Prop := Cond.methodLink own idx y ∈ AL ∧ Cond.static y ∈ AL ∧ Cond.initialized y.cls ∈ AL ∧ Cond.code y cc n ret ∈ AL
/-- own's private static of a nest mate -/
abbrev CWn (own : String) (idx : Nat) (y : MethodName) (cc : ByteArray) (n : Nat) (ret : Option FieldType) : Prop := Cond.methodLinkNest own idx y "WindFrontiers" ∈ NWl ∧ Cond.static y ∈ AL ∧ Cond.initialized y.cls ∈ AL ∧ Cond.code y cc n ret ∈ AL
theorem cw_v (S : CallFix p m c cc nL s args AL own) (cw : CWv own C idx y bytes maxL ret) (hrm : rm.cells = 0 ∧ rm.slots = 0) (hd : y.cls = C ∧ y.cls ≠ "java/lang/invoke/MethodHandle" ∧ y.cls ≠ "java/lang/invoke/VarHandle" ∧ (parseMethodDescriptor y.desc).map (fun d => d.parameters.length) = some n) (hR : rm.frames + 1 ≤ R.frames ∧ 8 + (maxL + 11) + rm.locals ≤ R.locals) : CallW R s args own C idx y bytes maxL ret (wm y bytes maxL ret) rm 0 0 n :=
  cwV n S.2.2.2.2 (gd_V cw.1 cw.2.1 cw.2.2.1 cw.2.2.2.1 cw.2.2.2.2) rfl hrm.1 hrm.2 hd hR
theorem cw_s (S : CallFix p m c cc nL s args AL own) (cw : CWs own idx y bytes maxL ret) (hrm : rm.cells = 0 ∧ rm.slots = 0) (hd : y.cls ≠ "java/lang/invoke/MethodHandle" ∧ y.cls ≠ "java/lang/invoke/VarHandle" ∧ (parseMethodDescriptor y.desc).map (fun d => d.parameters.length) = some n) (hR : rm.frames + 1 ≤ R.frames ∧ 8 + (maxL + 11) + rm.locals ≤ R.locals) : CallB R s args own idx y bytes maxL ret (wm y bytes maxL ret) rm 0 0 n ∧ (Cond.static y).before args s = true :=
  va_cwS n S.2.2.2.2 (gd_S cw.1 cw.2.1 cw.2.2.1 cw.2.2.2) rfl hrm.1 hrm.2 hd hR
/-- a virtual call that reads alone: its run -/
theorem run_vP {Qc : Array Value → State → Outcome → State → Prop} (S : CallFix p m c cc nL s args AL own) (hK : va_K D vwCl tys s) (hP : va_P D vwCl w H) (hD : va_D A w) (hN : NW s)
    (hM : Met l y (wm y bytes maxL ret) rm (GPre D tys w (.ref b :: As) H.size) Qc 0 0 (fun _ => False)) (hr : ∃ cell : Cell, H[b]? = some cell ∧ cell.vm.isStatics = false ∧ s.vm.findClass C = some cell.cls)
    (cw : CWv own C idx y bytes maxL ret) (hrm : rm.cells = 0 ∧ rm.slots = 0) (hd : y.cls = C ∧ y.cls ≠ "java/lang/invoke/MethodHandle" ∧ y.cls ≠ "java/lang/invoke/VarHandle" ∧ (parseMethodDescriptor y.desc).map (fun d => d.parameters.length) = some n) (hR : rm.frames + 1 ≤ R.frames ∧ 8 + (maxL + 11) + rm.locals ≤ R.locals)
    (hn : As.length = n) (hsz : ls.size = nL) (hst : st0 = As.reverse ++ .ref b :: rest) (hcat : (rest.map fun v => v.category).sum ≤ 8) (hdg : decode cc pc = .ok (.invokevirtual idx, 3)) (hf : cells ≤ R.cells ∧ slots ≤ R.slots) :
    CallRun p l e R s m args below meth c H locs cells slots 0 0 (F0 m pc ls st0) rest (Qc (Value.ref b :: As).toArray) (fun _ => False) :=
  W.runV S hM (cw_v S cw hrm hd hR) ⟨GPre_blind, hr, GPre_U hK hP hD hN⟩ rfl hn hsz hst (lv_room hcat) hdg hf
theorem run_sP {Qc : Array Value → State → Outcome → State → Prop} (S : CallFix p m c cc nL s args AL own) (hN : NW s)
    (hM : Met l y (wm y bytes maxL ret) rm (SPre As) Qc 0 0 (fun _ => False))
    (cw : CWs own idx y bytes maxL ret) (hrm : rm.cells = 0 ∧ rm.slots = 0) (hd : y.cls ≠ "java/lang/invoke/MethodHandle" ∧ y.cls ≠ "java/lang/invoke/VarHandle" ∧ (parseMethodDescriptor y.desc).map (fun d => d.parameters.length) = some n) (hR : rm.frames + 1 ≤ R.frames ∧ 8 + (maxL + 11) + rm.locals ≤ R.locals)
    (hn : As.length = n) (hsz : ls.size = nL) (hst : st0 = As.reverse ++ rest) (hcat : (rest.map fun v => v.category).sum ≤ 8) (hdg : decode cc pc = .ok (.invokestatic idx, 3)) (hf : cells ≤ R.cells ∧ slots ≤ R.slots) :
    CallRun p l e R s m args below meth c H locs cells slots 0 0 (F0 m pc ls st0) rest (Qc As.toArray) (fun _ => False) :=
  W.runS S hM (cw_s S cw hrm hd hR) ⟨SPre_blind, fun U _ hW => ⟨rfl, NW_warm hW hN⟩⟩ rfl hn hsz hst (lv_room hcat) hdg hf
theorem run_nP {Qc : Array Value → State → Outcome → State → Prop} (S : CallFix p m c cc nL s args AL own) (hN : NW s)
    (hM : Met l y (wm y bytes maxL ret) rm (SPre As) Qc 0 0 (fun _ => False))
    (cw : CWn own idx y bytes maxL ret) (hrm : rm.cells = 0 ∧ rm.slots = 0) (hd : y.cls ≠ "java/lang/invoke/MethodHandle" ∧ y.cls ≠ "java/lang/invoke/VarHandle" ∧ (parseMethodDescriptor y.desc).map (fun d => d.parameters.length) = some n) (hR : rm.frames + 1 ≤ R.frames ∧ 8 + (maxL + 11) + rm.locals ≤ R.locals)
    (hn : As.length = n) (hsz : ls.size = nL) (hst : st0 = As.reverse ++ rest) (hcat : (rest.map fun v => v.category).sum ≤ 8) (hdg : decode cc pc = .ok (.invokestatic idx, 3)) (hf : cells ≤ R.cells ∧ slots ≤ R.slots) :
    CallRun p l e R s m args below meth c H locs cells slots 0 0 (F0 m pc ls st0) rest (Qc As.toArray) (fun _ => False) :=
  va_Run.run (va_runSN (host := "WindFrontiers") S hM ⟨va_cnB n S.2.2.2.2 (gd_wm (fun _ h => h) cw.2.2.2) rfl hrm.1 hrm.2 (hN.1 _ cw.1) (S.2.2.2.2 _ cw.2.2.1) hd hR, S.2.2.2.2 _ cw.2.1, trivial⟩ ⟨SPre_blind, fun U _ hW => ⟨rfl, NW_warm hW hN⟩⟩ rfl hn hsz hst (lv_room hcat) hdg hf)
theorem fr_A (hD : va_D A w) (hS : va_S A H0 H locs) (hA : ∀ q, H0.size ≤ q → A q) : ∀ q, va_A w H.size q → A q := by
  intro q h
  rcases h with ⟨k, e, h⟩ | h
  · exact hD.2 k (q, e) h
  · exact hA q (Nat.le_trans hS.1 h)
/-- a virtual call that changes the world -/
theorem run_vQ {Qc : Array Value → State → Outcome → State → Prop} (S : CallFix p m c cc nL s args AL own) (hK : va_K D vwCl tys s) (hP : va_P D vwCl w H) (hD : va_D A w) (hN : NW s)
    (hM : Met l y (wm y bytes maxL ret) rm (GPre D tys w (.ref b :: As) H.size) Qc 0 0 (va_A w H.size)) (hr : ∃ cell : Cell, H[b]? = some cell ∧ cell.vm.isStatics = false ∧ s.vm.findClass C = some cell.cls)
    (cw : CWv own C idx y bytes maxL ret) (hrm : rm.cells = 0 ∧ rm.slots = 0) (hd : y.cls = C ∧ y.cls ≠ "java/lang/invoke/MethodHandle" ∧ y.cls ≠ "java/lang/invoke/VarHandle" ∧ (parseMethodDescriptor y.desc).map (fun d => d.parameters.length) = some n) (hR : rm.frames + 1 ≤ R.frames ∧ 8 + (maxL + 11) + rm.locals ≤ R.locals)
    (hn : As.length = n) (hsz : ls.size = nL) (hst : st0 = As.reverse ++ .ref b :: rest) (hcat : (rest.map fun v => v.category).sum ≤ 8) (hdg : decode cc pc = .ok (.invokevirtual idx, 3)) (hf : cells ≤ R.cells ∧ slots ≤ R.slots) :
    va_Run p l e R s m args below meth c H locs cells slots 0 0 (F0 m pc ls st0) rest (Qc (Value.ref b :: As).toArray) (va_A w H.size) :=
  va_runV S hM (cw_v S cw hrm hd hR) ⟨GPre_blind, hr, GPre_U hK hP hD hN⟩ rfl hn hsz hst (lv_room hcat) hdg hf
theorem run_sQ {Qc : Array Value → State → Outcome → State → Prop} (S : CallFix p m c cc nL s args AL own) (hK : va_K D vwCl tys s) (hP : va_P D vwCl w H) (hD : va_D A w) (hN : NW s)
    (hM : Met l y (wm y bytes maxL ret) rm (GPre D tys w As H.size) Qc 0 0 (va_A w H.size))
    (cw : CWs own idx y bytes maxL ret) (hrm : rm.cells = 0 ∧ rm.slots = 0) (hd : y.cls ≠ "java/lang/invoke/MethodHandle" ∧ y.cls ≠ "java/lang/invoke/VarHandle" ∧ (parseMethodDescriptor y.desc).map (fun d => d.parameters.length) = some n) (hR : rm.frames + 1 ≤ R.frames ∧ 8 + (maxL + 11) + rm.locals ≤ R.locals)
    (hn : As.length = n) (hsz : ls.size = nL) (hst : st0 = As.reverse ++ rest) (hcat : (rest.map fun v => v.category).sum ≤ 8) (hdg : decode cc pc = .ok (.invokestatic idx, 3)) (hf : cells ≤ R.cells ∧ slots ≤ R.slots) :
    va_Run p l e R s m args below meth c H locs cells slots 0 0 (F0 m pc ls st0) rest (Qc As.toArray) (va_A w H.size) :=
  va_runS S hM (cw_s S cw hrm hd hR) ⟨GPre_blind, GPre_U hK hP hD hN⟩ rfl hn hsz hst (lv_room hcat) hdg hf
/-- behind a call that changes the world, with a number -/
theorem on_i {T : Type} {post : Int32 → T → Prop} {W1 : T → va_W} {a : Array Value} (hr : va_Run p l e R s m args below meth c H locs cells slots 0 0 (F0 m pc ls st0) rest (va_Qi post (fun u t => GAt D tys (va_A w H.size) (W1 u) t) (va_A w H.size) a) (va_A w H.size)) (hD : va_D A w) (hS : va_S A H0 H locs) (hA : ∀ q, H0.size ≤ q → A q)
    (kk : ∀ (r : Int32) (u : T) (H1 : Heap) (locs1 : List Loc), post r u → va_P D vwCl (W1 u) H1 → va_D A (W1 u) → va_S A H0 H1 locs1 → W p l e R s m args below meth c H1 locs1 cells slots Q (F0 m (pc + 3) ls (.int r :: rest))) : W p l e R s m args below meth c H locs cells slots Q (F0 m pc ls st0) := by
  refine va_calli hr hS (fun q _ h => fr_A hD hS hA q h) (fr_A hD hS hA) (fun r u t H1 locs1 ht hvm hp hB hz hk hS1 => ?_)
  obtain ⟨hP1, hK1, hD1⟩ := hB
  rw [ht] at hP1
  exact kk r u H1 locs1 hp hP1 (hD1.weaken (fun _ _ _ h => fr_A hD hS hA _ h)) hS1
theorem on_v {T : Type} {post : T → Prop} {W1 : T → va_W} {a : Array Value} (hr : va_Run p l e R s m args below meth c H locs cells slots 0 0 (F0 m pc ls st0) rest (va_Qv post (fun u t => GAt D tys (va_A w H.size) (W1 u) t) (va_A w H.size) a) (va_A w H.size)) (hD : va_D A w) (hS : va_S A H0 H locs) (hA : ∀ q, H0.size ≤ q → A q)
    (kk : ∀ (u : T) (H1 : Heap) (locs1 : List Loc), post u → va_P D vwCl (W1 u) H1 → va_D A (W1 u) → va_S A H0 H1 locs1 → W p l e R s m args below meth c H1 locs1 cells slots Q (F0 m (pc + 3) ls rest)) : W p l e R s m args below meth c H locs cells slots Q (F0 m pc ls st0) := by
  refine va_callv hr hS (fun q _ h => fr_A hD hS hA q h) (fr_A hD hS hA) (fun u t H1 locs1 ht hvm hp hB hz hk hS1 => ?_)
  obtain ⟨hP1, hK1, hD1⟩ := hB
  rw [ht] at hP1
  exact kk u H1 locs1 hp hP1 (hD1.weaken (fun _ _ _ h => fr_A hD hS hA _ h)) hS1
end CALL
def ush (x y : Int32) : Int32 := (x.toUInt32 >>> (y.toUInt32 &&& Int32.toUInt32 31)).toInt32
def rem (x y : Int32) : Int32 := x - x / y * y
def nm2 {α β γ : Type} (v : α × β) (k : α → β → γ) : γ := k v.1 v.2
def nm3 {α β γ δ : Type} (v : α × β × γ) (k : α → β → γ → δ) : δ := k v.1 v.2.1 v.2.2
def nm4 {α β γ δ ε : Type} (v : α × β × γ × δ) (k : α → β → γ → δ → ε) : ε := k v.1 v.2.1 v.2.2.1 v.2.2.2
def nm5 {α β γ δ ε ζ : Type} (v : α × β × γ × δ × ε) (k : α → β → γ → δ → ε → ζ) : ζ := k v.1 v.2.1 v.2.2.1 v.2.2.2.1 v.2.2.2.2
theorem nm2_u {α β γ : Type} {v : α × β} {a : α} {b : β} {k : α → β → γ} {T : γ} (e : (a, b) = v) (h : nm2 v k = T) : k a b = T := by subst e; exact h
theorem nm3_u {α β γ δ : Type} {v : α × β × γ} {a : α} {b : β} {c : γ} {k : α → β → γ → δ} {T : δ} (e : (a, b, c) = v) (h : nm3 v k = T) : k a b c = T := by subst e; exact h
theorem nm4_u {α β γ δ ε : Type} {v : α × β × γ × δ} {a : α} {b : β} {c : γ} {d : δ} {k : α → β → γ → δ → ε} {T : ε} (e : (a, b, c, d) = v) (h : nm4 v k = T) : k a b c d = T := by subst e; exact h
theorem nm5_u {α β γ δ ε ζ : Type} {v : α × β × γ × δ × ε} {a : α} {b : β} {c : γ} {d : δ} {f : ε} {k : α → β → γ → δ → ε → ζ} {T : ζ} (e : (a, b, c, d, f) = v) (h : nm5 v k = T) : k a b c d f = T := by subst e; exact h
theorem ix_of {x : Int32} {n : Nat} (h1 : 0 ≤ x.toInt) (h2 : x.toInt < n) : vp_in x n := vp_in_iff.mpr ⟨h1, h2⟩
theorem i0 {x : Int32} : 0 ≤ x ↔ 0 ≤ x.toInt := Int32.le_iff_toInt_le
theorem ms_up {i B : Int32} {n : Nat} (h : ¬ B ≤ i) (hm : (B.toInt - i.toInt).toNat < n + 1) : (B.toInt - (i + 1).toInt).toNat < n := by
  have h1 : i.toInt < B.toInt := by rw [Int32.le_iff_toInt_le] at h; omega
  have h2 : (i + 1).toInt = i.toInt + 1 := by
    rw [Int32.toInt_add]
    have := Int32.toInt_lt B
    have := Int32.le_toInt i
    show (i.toInt + 1).bmod (2 ^ 32) = _
    rw [Int.bmod_eq_of_le (by omega) (by omega)]
  omega
theorem ms_up2 {i B : Int32} {n : Nat} (h : i < B) (hm : (B.toInt - i.toInt).toNat < n + 1) : (B.toInt - (i + 1).toInt).toNat < n := ms_up (fun q => by rw [Int32.lt_iff_toInt_lt] at h; rw [Int32.le_iff_toInt_le] at q; omega) hm
theorem up1 {i B : Int32} (h : i < B) : (i + 1).toInt = i.toInt + 1 := by
  rw [Int32.toInt_add]
  rw [Int32.lt_iff_toInt_lt] at h
  have := Int32.toInt_lt B
  have := Int32.le_toInt i
  show (i.toInt + 1).bmod (2 ^ 32) = _
  rw [Int.bmod_eq_of_le (by omega) (by omega)]
theorem nle_lt {i B : Int32} (h : ¬ B ≤ i) : i < B := by rw [Int32.le_iff_toInt_le] at h; rw [Int32.lt_iff_toInt_lt]; omega
theorem up0 {i B : Int32} (h : ¬ B ≤ i) (h0 : 0 ≤ i.toInt) : 0 ≤ (i + 1).toInt := by rw [up1 (nle_lt h)]; omega
theorem ix_ge_nle {x : Int32} {N : Int32} {n : Nat} (h1 : 0 ≤ x) (h2 : ¬ N ≤ x) (hN : N.toInt ≤ n := by decide) : vp_in x n := ix_of (i0.mp h1) (by have := nle_lt h2; rw [Int32.lt_iff_toInt_lt] at this; omega)
theorem ix_ng_nle {x : Int32} {N : Int32} {n : Nat} (h1 : ¬ x < 0) (h2 : ¬ N ≤ x) (hN : N.toInt ≤ n := by decide) : vp_in x n := ix_of (by rw [Int32.lt_iff_toInt_lt] at h1; have : (0 : Int32).toInt = 0 := rfl; omega) (by have := nle_lt h2; rw [Int32.lt_iff_toInt_lt] at this; omega)
theorem ix_inv_nle {x : Int32} {N : Int32} {n : Nat} (h1 : 0 ≤ x.toInt) (h2 : ¬ N ≤ x) (hN : N.toInt ≤ n := by decide) : vp_in x n := ix_of h1 (by have := nle_lt h2; rw [Int32.lt_iff_toInt_lt] at this; omega)
theorem ix_ng_lt {x : Int32} {N : Int32} {n : Nat} (h1 : ¬ x < 0) (h2 : x < N) (hN : N.toInt ≤ n := by decide) : vp_in x n := ix_of (by rw [Int32.lt_iff_toInt_lt] at h1; have : (0 : Int32).toInt = 0 := rfl; omega) (by rw [Int32.lt_iff_toInt_lt] at h2; omega)
theorem ix_ge_lt {x : Int32} {N : Int32} {n : Nat} (h1 : 0 ≤ x) (h2 : x < N) (hN : N.toInt ≤ n := by decide) : vp_in x n := ix_of (i0.mp h1) (by rw [Int32.lt_iff_toInt_lt] at h2; omega)
theorem ix_inv_lt {x : Int32} {N : Int32} {n : Nat} (h1 : 0 ≤ x.toInt) (h2 : x < N) (hN : N.toInt ≤ n := by decide) : vp_in x n := ix_of h1 (by rw [Int32.lt_iff_toInt_lt] at h2; omega)
section REM
variable {p : Program} {l : Launch} {e : Env} {R : Room} {s : State} {m : MethodId} {args : Array Value} {below : List Frame} {meth : Method} {c : Code} {H : Heap} {locs : List Loc} {cells slots : Nat} {Q : State → Prop} {cc : ByteArray} {pc : Nat} {ls : Array Slot} {rest : List Value}
theorem lv_rem (hexec : p.tables.exec = Jvm.exec) (hb : c.code = cc) {x y : Int32} (hdg : decode cc pc = .ok (.irem, 1)) (hne : ¬ y = 0) (k : W p l e R s m args below meth c H locs cells slots Q (F0 m (pc + 1) ls (.int (rem x y) :: rest))) : W p l e R s m args below meth c H locs cells slots Q (F0 m pc ls (.int y :: .int x :: rest)) := lv_irem hexec hb hdg hne k
end REM
theorem nw_0 : Cond.methodLinkNest RX6 11 yX1_init "WindFrontiers" ∈ NWl := List.mem_of_getElem? (i := 0) rfl
theorem nw_1 : Cond.methodLinkNest RX1 11 yX5_init "WindFrontiers" ∈ NWl := List.mem_of_getElem? (i := 1) rfl
theorem nw_2 : Cond.methodLinkNest RX1 20 yX4_init "WindFrontiers" ∈ NWl := List.mem_of_getElem? (i := 2) rfl
theorem nw_3 : Cond.methodLinkNest RX3 11 yX4_init "WindFrontiers" ∈ NWl := List.mem_of_getElem? (i := 3) rfl
theorem nw_4 : Cond.methodLinkNest RX6 43 yX2_init "WindFrontiers" ∈ NWl := List.mem_of_getElem? (i := 4) rfl
theorem nw_5 : Cond.methodLinkNest RX6 50 yX0_init "WindFrontiers" ∈ NWl := List.mem_of_getElem? (i := 5) rfl
theorem nw_6 : Cond.methodLinkNest RX1 98 yX6_bitOf "WindFrontiers" ∈ NWl := List.mem_of_getElem? (i := 6) rfl
theorem nw_7 : Cond.methodLinkNest RX4 39 yX6_isWithin "WindFrontiers" ∈ NWl := List.mem_of_getElem? (i := 7) rfl
theorem nw_8 : Cond.methodLinkNest RX4 77 yX6_oneIf "WindFrontiers" ∈ NWl := List.mem_of_getElem? (i := 8) rfl
theorem nw_9 : Cond.methodLinkNest RX0 40 yX6_bitOf "WindFrontiers" ∈ NWl := List.mem_of_getElem? (i := 9) rfl
