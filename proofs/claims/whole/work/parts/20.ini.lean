/-! constructors: a world's new cells stand behind it -/
theorem ax_get (w0 l : va_W) (i : Nat) : (w0 ++ l)[w0.length + i]? = l[i]? := by rw [List.getElem?_append_right (Nat.le_add_right _ _), Nat.add_sub_cancel_left]
theorem ax_set (w0 l : va_W) (i : Nat) (x : Nat × va_E) : (w0 ++ l).set (w0.length + i) x = w0 ++ l.set i x := by rw [List.set_append_right _ _ (Nat.le_add_right _ _), Nat.add_sub_cancel_left]
section MK
variable {l : Launch} {y : MethodName} {cc : ByteArray} {nL mc ms : Nat} {rm : Room} {D : va_G} {tys : List (ClassId × FieldType)} {w : va_W} {av : List Value} {sz : Nat}
theorem metN {T : Type} {W1 : T → va_W} (hy : plainName y.cls = true) (hi : y.name = "<init>") (hn : (lg_sl av).length ≤ nL)
    (body : ∀ (p : Program) (e : Env) (s : State) (m : MethodId) (args : Array Value) (below : List Frame) (meth : Method) (c : Code) (ls : Array Slot) (A : Nat → Prop) (Q : State → Prop), CallFix p m c cc nL s args AL y.cls → meth.name = "<init>" → s.heap.size = sz → va_P D vwCl w s.heap → va_K D vwCl tys s → va_D A w → va_S A s.heap s.heap [] → (∀ q, s.heap.size ≤ q → A q) → NW s → lv_has ls nL (lv_args 0 av) → (∀ (u : T) (pc : Nat) (ls : Array Slot) (H : Heap) (locs : List Loc), va_P D vwCl (W1 u) H → va_D A (W1 u) → va_S A s.heap H locs → decode cc pc = .ok (.return_, 1) → W p l e rm s m args below meth c H locs mc ms Q (F0 m pc ls [])) → W p l e rm s m args below meth c s.heap [] 0 0 Q (F0 m 0 ls [])) :
    Met l y (wm y cc nL none) rm (GPre D tys w av sz) (va_Qv (fun _ : T => True) (fun u t => GAt D tys (va_A w sz) (W1 u) t) (va_A w sz)) mc ms (va_A w sz) := by
  refine Met.ofW (cc := cc) (maxL := nL) (ret := none) hy rfl ?_
  intro p e s m args below meth c s₁ B hml hv
  obtain ⟨rfl, hsz, hP, hK, hD, hN⟩ := hv
  have hr := B.returns
  have hlocks := B.notSynchronized
  have hl := lv_entry av (n := nL) hn
  rw [lg_entry_eq]
  refine body p e s m _ below meth c _ (va_A w sz) _ ⟨B.exec, B.bytes, hml, findClass_of_methodNamed B.named, wm_ts (atoms_spec (ws := wm y cc nL none) B.pre)⟩ ((name_of_methodNamed B.named B.method).1.trans hi) hsz hP hK hD.self va_S.rf (fun q h => Or.inr (by rw [← hsz]; exact h)) hN hl ?_
  intro u pc ls H locs hP1 hD1 hS1 hd
  exact W.vret B.exec B.bytes hr (fun t ht hW => ⟨⟨u, rfl, trivial, by rw [ht]; exact hP1, va_K.moved hW.alike hK, hD1⟩, hS1.F ht⟩) hS1.2.2 hd
end MK
section MKC
variable {p : Program} {l : Launch} {e : Env} {R : Room} {s : State} {m : MethodId} {args : Array Value} {below : List Frame} {meth : Method} {c : Code} {H : Heap} {locs : List Loc} {cells slots mc ms : Nat} {Q : State → Prop}
variable {cc : ByteArray} {pc nL : Nat} {ls : Array Slot} {rest st0 : List Value} {D : va_G} {A : Nat → Prop} {H0 : Heap} {own : String} {tys : List (ClassId × FieldType)} {w : va_W} {cI cZ cO : ClassId}
theorem on_n {T : Type} {W1 : T → va_W} {a : Array Value} (hr : va_Run p l e R s m args below meth c H locs cells slots mc ms (F0 m pc ls st0) rest (va_Qv (fun _ : T => True) (fun u t => GAt D tys (va_A w H.size) (W1 u) t) (va_A w H.size) a) (va_A w H.size)) (hD : va_D A w) (hS : va_S A H0 H locs) (hA : ∀ q, H0.size ≤ q → A q)
    (kk : ∀ (u : T) (H1 : Heap) (locs1 : List Loc), va_P D vwCl (W1 u) H1 → va_D A (W1 u) → va_S A H0 H1 locs1 → W p l e R s m args below meth c H1 locs1 (cells + mc) (slots + ms) Q (F0 m (pc + 3) ls rest)) : W p l e R s m args below meth c H locs cells slots Q (F0 m pc ls st0) := by
  refine va_callv hr hS (fun q _ h => fr_A hD hS hA q h) (fr_A hD hS hA) (fun u t H1 locs1 ht hvm hp hB hz hk hS1 => ?_)
  obtain ⟨hP1, hK1, hD1⟩ := hB
  rw [ht] at hP1
  exact kk u H1 locs1 hP1 (hD1.weaken (fun _ _ _ h => fr_A hD hS hA _ h)) hS1
theorem nw_int {w0 l0 : va_W} (C : CallFix p m c cc nL s args AL own) (hK : va_K D vwCl (ty3 cI cZ cO) s) (hP : va_P D vwCl (w0 ++ l0) H) (hD : va_D A (w0 ++ l0)) (hS : va_S A H0 H locs) (hA : ∀ q, H0.size ≤ q → A q)
    {n : Int32} {N : Nat} (hn : ¬ n < 0) (hN : n.toNatClampNeg = N) (hbytes : N * 4 ≤ 536870912) (hcells : cells + 1 ≤ R.cells) (hslots : slots + N ≤ R.slots) (hdg : decode cc pc = .ok (.newarray .int, 2))
    (kk : ∀ (q : Nat) (H1 : Heap), va_P D vwCl (w0 ++ (l0 ++ [(q, .inl (cI, N, .inl (fun _ => 0)))])) H1 → va_D A (w0 ++ (l0 ++ [(q, .inl (cI, N, .inl (fun _ => 0)))])) → va_S A H0 H1 locs → W p l e R s m args below meth c H1 locs (cells + 1) (slots + N) Q (F0 m (pc + 2) ls (.ref q :: rest))) : W p l e R s m args below meth c H locs cells slots Q (F0 m pc ls (.int n :: rest)) := by
  refine va_newa (atype := .int) (ty := .int) (a0 := (N, .inl (fun _ => 0))) C.1 C.2.1 (C.2.2.2.2 _ wd_1_38) rfl hK hP hD hS hA (fun cA => rfl) hn hN hbytes hcells hslots hdg (fun q cA H1 hK1 hP1 hD1 hS1 => ?_)
  have e1 := va_nm_int (hK1.2 3 (cA, .int) rfl).2
  have e2 := va_nm_int (hK.2 0 (cI, .int) rfl).2
  have e : cA = cI := Option.some.inj (e1.symm.trans e2)
  subst e
  rw [List.append_assoc] at hP1 hD1
  exact kk q H1 hP1 hD1 hS1
theorem nw_boolean {w0 l0 : va_W} (C : CallFix p m c cc nL s args AL own) (hK : va_K D vwCl (ty3 cI cZ cO) s) (hP : va_P D vwCl (w0 ++ l0) H) (hD : va_D A (w0 ++ l0)) (hS : va_S A H0 H locs) (hA : ∀ q, H0.size ≤ q → A q)
    {n : Int32} {N : Nat} (hn : ¬ n < 0) (hN : n.toNatClampNeg = N) (hbytes : N * 1 ≤ 536870912) (hcells : cells + 1 ≤ R.cells) (hslots : slots + N ≤ R.slots) (hdg : decode cc pc = .ok (.newarray .boolean, 2))
    (kk : ∀ (q : Nat) (H1 : Heap), va_P D vwCl (w0 ++ (l0 ++ [(q, .inl (cZ, N, .inl (fun _ => 0)))])) H1 → va_D A (w0 ++ (l0 ++ [(q, .inl (cZ, N, .inl (fun _ => 0)))])) → va_S A H0 H1 locs → W p l e R s m args below meth c H1 locs (cells + 1) (slots + N) Q (F0 m (pc + 2) ls (.ref q :: rest))) : W p l e R s m args below meth c H locs cells slots Q (F0 m pc ls (.int n :: rest)) := by
  refine va_newa (atype := .boolean) (ty := .boolean) (a0 := (N, .inl (fun _ => 0))) C.1 C.2.1 (C.2.2.2.2 _ wd_3_142) rfl hK hP hD hS hA (fun cA => rfl) hn hN hbytes hcells hslots hdg (fun q cA H1 hK1 hP1 hD1 hS1 => ?_)
  have e1 := va_nm_boolean (hK1.2 3 (cA, .boolean) rfl).2
  have e2 := va_nm_boolean (hK.2 1 (cZ, .boolean) rfl).2
  have e : cA = cZ := Option.some.inj (e1.symm.trans e2)
  subst e
  rw [List.append_assoc] at hP1 hD1
  exact kk q H1 hP1 hD1 hS1
end MKC
theorem hv_X0_init : yX0_init.cls ≠ "java/lang/invoke/MethodHandle" ∧ yX0_init.cls ≠ "java/lang/invoke/VarHandle" ∧ (parseMethodDescriptor yX0_init.desc).map (fun d => d.parameters.length) = some 0 := by decide +kernel
theorem df_0 : ∀ j, j < 1 → defaultValue (tyX0 j) = vp_V [.long 0] j
  | 0, _ => rfl
  | n + 1, h => absurd h (by omega)
set_option maxHeartbeats 4000000 in
set_option maxRecDepth 100000 in
theorem c_X0_init {l : Launch} {D : va_G} {cI cZ cO : ClassId} {w0 : va_W} {h0 : Nat} (sz : Nat) : Met l yX0_init (wm yX0_init cX0_init 1 none) ({ frames := 1, cells := 0, slots := 0, locals := 12 } : Room) (GPre D (ty3 cI cZ cO) (w0 ++ [(h0, .inr (0, [.long 0]))]) [.ref h0] sz) (va_Qv (fun _ : Unit => True) (fun u t => GAt D (ty3 cI cZ cO) (va_A (w0 ++ [(h0, .inr (0, [.long 0]))]) sz) ((fun u : Unit => w0 ++ [(h0, .inr (0, [.long 0]))]) u) t) (va_A (w0 ++ [(h0, .inr (0, [.long 0]))]) sz)) 0 0 (va_A (w0 ++ [(h0, .inr (0, [.long 0]))]) sz) := by
  refine metN (l := l) (D := D) (tys := ty3 cI cZ cO) (y := yX0_init) (cc := cX0_init) (nL := 1) (mc := 0) (ms := 0) (rm := { frames := 1, cells := 0, slots := 0, locals := 12 }) (av := [.ref h0]) (sz := sz) (w := w0 ++ [(h0, .inr (0, [.long 0]))]) (W1 := (fun u : Unit => w0 ++ [(h0, .inr (0, [.long 0]))])) (by decide) (by decide) (Nat.le_of_ble_eq_true rfl) ?_
  intro p e s m args below meth c ls A Q C C_in hsz hP hK hD hS hA hN hl hret
  have hx := C.1
  have hb := C.2.1
  have hl : lv_has ls 1 [(0, .ref h0)] := hl
  refine lv_aload_n hx hb dX0_init_0 rfl (lv_at hl 0 rfl) ?_
  refine W.objInit hx hb C.2.2.2.1 (C.2.2.2.2 _ wd_1_153) (C.2.2.2.2 _ wd_1_16) (C.2.2.2.2 _ wd_1_17) rfl (by rw [C.2.2.1]; exact hl.1) rfl dX0_init_1 (Nat.le_of_ble_eq_true rfl) (Nat.le_of_ble_eq_true rfl) ?_
  refine W.eq (g2 := F0 m 4 ls []) rfl ?_
  exact hret () _ _ _ _ hP hD hS dX0_init_4
theorem hv_X2_init : yX2_init.cls ≠ "java/lang/invoke/MethodHandle" ∧ yX2_init.cls ≠ "java/lang/invoke/VarHandle" ∧ (parseMethodDescriptor yX2_init.desc).map (fun d => d.parameters.length) = some 0 := by decide +kernel
theorem df_2 : ∀ j, j < 5 → defaultValue (tyX2 j) = vp_V [.int 0, .int 0, .int 0, .int 0, .int 0] j
  | 0, _ => rfl
  | 1, _ => rfl
  | 2, _ => rfl
  | 3, _ => rfl
  | 4, _ => rfl
  | n + 5, h => absurd h (by omega)
set_option maxHeartbeats 4000000 in
set_option maxRecDepth 100000 in
theorem c_X2_init {l : Launch} {D : va_G} {cI cZ cO : ClassId} {w0 : va_W} {h0 : Nat} (sz : Nat) : Met l yX2_init (wm yX2_init cX2_init 1 none) ({ frames := 1, cells := 0, slots := 0, locals := 12 } : Room) (GPre D (ty3 cI cZ cO) (w0 ++ [(h0, .inr (2, [.int 0, .int 0, .int 0, .int 0, .int 0]))]) [.ref h0] sz) (va_Qv (fun _ : Unit => True) (fun u t => GAt D (ty3 cI cZ cO) (va_A (w0 ++ [(h0, .inr (2, [.int 0, .int 0, .int 0, .int 0, .int 0]))]) sz) ((fun u : Unit => w0 ++ [(h0, .inr (2, [.int 0, .int 0, .int 0, .int 0, .int 0]))]) u) t) (va_A (w0 ++ [(h0, .inr (2, [.int 0, .int 0, .int 0, .int 0, .int 0]))]) sz)) 0 0 (va_A (w0 ++ [(h0, .inr (2, [.int 0, .int 0, .int 0, .int 0, .int 0]))]) sz) := by
  refine metN (l := l) (D := D) (tys := ty3 cI cZ cO) (y := yX2_init) (cc := cX2_init) (nL := 1) (mc := 0) (ms := 0) (rm := { frames := 1, cells := 0, slots := 0, locals := 12 }) (av := [.ref h0]) (sz := sz) (w := w0 ++ [(h0, .inr (2, [.int 0, .int 0, .int 0, .int 0, .int 0]))]) (W1 := (fun u : Unit => w0 ++ [(h0, .inr (2, [.int 0, .int 0, .int 0, .int 0, .int 0]))])) (by decide) (by decide) (Nat.le_of_ble_eq_true rfl) ?_
  intro p e s m args below meth c ls A Q C C_in hsz hP hK hD hS hA hN hl hret
  have hx := C.1
  have hb := C.2.1
  have hl : lv_has ls 1 [(0, .ref h0)] := hl
  refine lv_aload_n hx hb dX2_init_0 rfl (lv_at hl 0 rfl) ?_
  refine W.objInit hx hb C.2.2.2.1 (C.2.2.2.2 _ wd_1_130) (C.2.2.2.2 _ wd_1_16) (C.2.2.2.2 _ wd_1_17) rfl (by rw [C.2.2.1]; exact hl.1) rfl dX2_init_1 (Nat.le_of_ble_eq_true rfl) (Nat.le_of_ble_eq_true rfl) ?_
  refine W.eq (g2 := F0 m 4 ls []) rfl ?_
  exact hret () _ _ _ _ hP hD hS dX2_init_4
theorem hv_X5_init : yX5_init.cls ≠ "java/lang/invoke/MethodHandle" ∧ yX5_init.cls ≠ "java/lang/invoke/VarHandle" ∧ (parseMethodDescriptor yX5_init.desc).map (fun d => d.parameters.length) = some 0 := by decide +kernel
theorem df_5 : ∀ j, j < 2 → defaultValue (tyX5 j) = vp_V [.null, .int 0] j
  | 0, _ => rfl
  | 1, _ => rfl
  | n + 2, h => absurd h (by omega)
set_option maxHeartbeats 4000000 in
set_option maxRecDepth 100000 in
theorem c_X5_init {l : Launch} {D : va_G} {cI cZ cO : ClassId} {w0 : va_W} {h0 : Nat} (sz : Nat) : Met l yX5_init (wm yX5_init cX5_init 1 none) ({ frames := 1, cells := 1, slots := 150, locals := 12 } : Room) (GPre D (ty3 cI cZ cO) (w0 ++ [(h0, .inr (5, [.null, .int 0]))]) [.ref h0] sz) (va_Qv (fun _ : Nat => True) (fun u t => GAt D (ty3 cI cZ cO) (va_A (w0 ++ [(h0, .inr (5, [.null, .int 0]))]) sz) ((fun u : Nat => w0 ++ [(h0, .inr (5, [.ref u, .int 0])), (u, .inl (cI, 150, .inl (fun _ => 0)))]) u) t) (va_A (w0 ++ [(h0, .inr (5, [.null, .int 0]))]) sz)) 1 150 (va_A (w0 ++ [(h0, .inr (5, [.null, .int 0]))]) sz) := by
  refine metN (l := l) (D := D) (tys := ty3 cI cZ cO) (y := yX5_init) (cc := cX5_init) (nL := 1) (mc := 1) (ms := 150) (rm := { frames := 1, cells := 1, slots := 150, locals := 12 }) (av := [.ref h0]) (sz := sz) (w := w0 ++ [(h0, .inr (5, [.null, .int 0]))]) (W1 := (fun u : Nat => w0 ++ [(h0, .inr (5, [.ref u, .int 0])), (u, .inl (cI, 150, .inl (fun _ => 0)))])) (by decide) (by decide) (Nat.le_of_ble_eq_true rfl) ?_
  intro p e s m args below meth c ls A Q C C_in hsz hP hK hD hS hA hN hl hret
  have hx := C.1
  have hb := C.2.1
  have hl : lv_has ls 1 [(0, .ref h0)] := hl
  refine lv_aload_n hx hb dX5_init_0 rfl (lv_at hl 0 rfl) ?_
  refine W.objInit hx hb C.2.2.2.1 (C.2.2.2.2 _ wd_1_29) (C.2.2.2.2 _ wd_1_16) (C.2.2.2.2 _ wd_1_17) rfl (by rw [C.2.2.1]; exact hl.1) rfl dX5_init_1 (Nat.le_of_ble_eq_true rfl) (Nat.le_of_ble_eq_true rfl) ?_
  refine W.eq (g2 := F0 m 4 ls []) rfl ?_
  refine lv_aload_n hx hb dX5_init_4 rfl (lv_at hl 0 rfl) ?_
  refine lv_sipush (v := 150) hx hb dX5_init_5 (by decide) ?_
  refine nw_int (N := 150) C hK hP hD hS hA (by decide) (by decide) (Nat.le_of_ble_eq_true rfl) (Nat.le_of_ble_eq_true rfl) (Nat.le_of_ble_eq_true rfl) dX5_init_8 (fun q8 H hP hD hS => ?_)
  have hP : va_P D vwCl (w0 ++ [(h0, .inr (5, [.null, .int 0])), (q8, .inl (cI, 150, .inl (fun _ => 0)))]) H := hP
  have hD : va_D A (w0 ++ [(h0, .inr (5, [.null, .int 0])), (q8, .inl (cI, 150, .inl (fun _ => 0)))]) := hD
  refine va_putF (D := D) (ci := 5) (v := .ref q8) (ty := .array .int) (C := RX5) (T := TX5) (N := 2) hx hb C.2.2.2.2 inA5 tyX5 tyX5_ok nmX5 C.2.2.2.1 hK hP hD hS (w0.length + 0) ((ax_get _ _ _).trans rfl) rfl 0 (by decide) (C.2.2.2.2 _ wd_1_30) (fun _ h => h) rfl C_in rfl (by decide +kernel) rfl rfl (Nat.le_of_ble_eq_true rfl) dX5_init_10 (fun H locs hP hD hS => ?_)
  rw [ax_set] at hP hD
  have hP : va_P D vwCl (w0 ++ [(h0, .inr (5, [.ref q8, .int 0])), (q8, .inl (cI, 150, .inl (fun _ => 0)))]) H := hP
  have hD : va_D A (w0 ++ [(h0, .inr (5, [.ref q8, .int 0])), (q8, .inl (cI, 150, .inl (fun _ => 0)))]) := hD
  exact hret q8 _ _ _ _ hP hD hS dX5_init_13
theorem hv_X4_init : yX4_init.cls ≠ "java/lang/invoke/MethodHandle" ∧ yX4_init.cls ≠ "java/lang/invoke/VarHandle" ∧ (parseMethodDescriptor yX4_init.desc).map (fun d => d.parameters.length) = some 0 := by decide +kernel
theorem df_4 : ∀ j, j < 6 → defaultValue (tyX4 j) = vp_V [.int 0, .int 0, .int 0, .int 0, .int 0, .null] j
  | 0, _ => rfl
  | 1, _ => rfl
  | 2, _ => rfl
  | 3, _ => rfl
  | 4, _ => rfl
  | 5, _ => rfl
  | n + 6, h => absurd h (by omega)
set_option maxHeartbeats 4000000 in
set_option maxRecDepth 100000 in
theorem c_X4_init {l : Launch} {D : va_G} {cI cZ cO : ClassId} {w0 : va_W} {h0 : Nat} (sz : Nat) : Met l yX4_init (wm yX4_init cX4_init 1 none) ({ frames := 1, cells := 1, slots := 5, locals := 12 } : Room) (GPre D (ty3 cI cZ cO) (w0 ++ [(h0, .inr (4, [.int 0, .int 0, .int 0, .int 0, .int 0, .null]))]) [.ref h0] sz) (va_Qv (fun _ : Nat => True) (fun u t => GAt D (ty3 cI cZ cO) (va_A (w0 ++ [(h0, .inr (4, [.int 0, .int 0, .int 0, .int 0, .int 0, .null]))]) sz) ((fun u : Nat => w0 ++ [(h0, .inr (4, [.int 3, .int 3, .int 0, .int 0, .int 0, .ref u])), (u, .inl (cI, 5, .inl (fun _ => 0)))]) u) t) (va_A (w0 ++ [(h0, .inr (4, [.int 0, .int 0, .int 0, .int 0, .int 0, .null]))]) sz)) 1 5 (va_A (w0 ++ [(h0, .inr (4, [.int 0, .int 0, .int 0, .int 0, .int 0, .null]))]) sz) := by
  refine metN (l := l) (D := D) (tys := ty3 cI cZ cO) (y := yX4_init) (cc := cX4_init) (nL := 1) (mc := 1) (ms := 5) (rm := { frames := 1, cells := 1, slots := 5, locals := 12 }) (av := [.ref h0]) (sz := sz) (w := w0 ++ [(h0, .inr (4, [.int 0, .int 0, .int 0, .int 0, .int 0, .null]))]) (W1 := (fun u : Nat => w0 ++ [(h0, .inr (4, [.int 3, .int 3, .int 0, .int 0, .int 0, .ref u])), (u, .inl (cI, 5, .inl (fun _ => 0)))])) (by decide) (by decide) (Nat.le_of_ble_eq_true rfl) ?_
  intro p e s m args below meth c ls A Q C C_in hsz hP hK hD hS hA hN hl hret
  have hx := C.1
  have hb := C.2.1
  have hl : lv_has ls 1 [(0, .ref h0)] := hl
  refine lv_aload_n hx hb dX4_init_0 rfl (lv_at hl 0 rfl) ?_
  refine W.objInit hx hb C.2.2.2.1 (C.2.2.2.2 _ wd_1_44) (C.2.2.2.2 _ wd_1_16) (C.2.2.2.2 _ wd_1_17) rfl (by rw [C.2.2.1]; exact hl.1) rfl dX4_init_1 (Nat.le_of_ble_eq_true rfl) (Nat.le_of_ble_eq_true rfl) ?_
  refine W.eq (g2 := F0 m 4 ls []) rfl ?_
  refine lv_aload_n hx hb dX4_init_4 rfl (lv_at hl 0 rfl) ?_
  refine lv_iconst (v := 3) hx hb dX4_init_5 (by decide) ?_
  refine va_put (D := D) (ci := 4) (v := .int 3) (ty := .int) (C := RX4) (T := TX4) (N := 6) hx hb C.2.2.2.2 inA4 tyX4 tyX4_ok nmX4 C.2.2.2.1 hK hP hD hS (w0.length + 0) ((ax_get _ _ _).trans rfl) rfl 0 (by decide) (C.2.2.2.2 _ wd_1_45) (fun _ h => h) rfl (by decide +kernel) rfl rfl (Nat.le_of_ble_eq_true rfl) dX4_init_6 (fun H locs hP hD hS => ?_)
  rw [ax_set] at hP hD
  have hP : va_P D vwCl (w0 ++ [(h0, .inr (4, [.int 3, .int 0, .int 0, .int 0, .int 0, .null]))]) H := hP
  have hD : va_D A (w0 ++ [(h0, .inr (4, [.int 3, .int 0, .int 0, .int 0, .int 0, .null]))]) := hD
  refine lv_aload_n hx hb dX4_init_9 rfl (lv_at hl 0 rfl) ?_
  refine lv_iconst (v := 3) hx hb dX4_init_10 (by decide) ?_
  refine va_put (D := D) (ci := 4) (v := .int 3) (ty := .int) (C := RX4) (T := TX4) (N := 6) hx hb C.2.2.2.2 inA4 tyX4 tyX4_ok nmX4 C.2.2.2.1 hK hP hD hS (w0.length + 0) ((ax_get _ _ _).trans rfl) rfl 1 (by decide) (C.2.2.2.2 _ wd_1_48) (fun _ h => h) rfl (by decide +kernel) rfl rfl (Nat.le_of_ble_eq_true rfl) dX4_init_11 (fun H locs hP hD hS => ?_)
  rw [ax_set] at hP hD
  have hP : va_P D vwCl (w0 ++ [(h0, .inr (4, [.int 3, .int 3, .int 0, .int 0, .int 0, .null]))]) H := hP
  have hD : va_D A (w0 ++ [(h0, .inr (4, [.int 3, .int 3, .int 0, .int 0, .int 0, .null]))]) := hD
  refine lv_aload_n hx hb dX4_init_14 rfl (lv_at hl 0 rfl) ?_
  refine lv_iconst (v := 5) hx hb dX4_init_15 (by decide) ?_
  refine nw_int (N := 5) C hK hP hD hS hA (by decide) (by decide) (Nat.le_of_ble_eq_true rfl) (Nat.le_of_ble_eq_true rfl) (Nat.le_of_ble_eq_true rfl) dX4_init_16 (fun q16 H hP hD hS => ?_)
  have hP : va_P D vwCl (w0 ++ [(h0, .inr (4, [.int 3, .int 3, .int 0, .int 0, .int 0, .null])), (q16, .inl (cI, 5, .inl (fun _ => 0)))]) H := hP
  have hD : va_D A (w0 ++ [(h0, .inr (4, [.int 3, .int 3, .int 0, .int 0, .int 0, .null])), (q16, .inl (cI, 5, .inl (fun _ => 0)))]) := hD
  refine va_putF (D := D) (ci := 4) (v := .ref q16) (ty := .array .int) (C := RX4) (T := TX4) (N := 6) hx hb C.2.2.2.2 inA4 tyX4 tyX4_ok nmX4 C.2.2.2.1 hK hP hD hS (w0.length + 0) ((ax_get _ _ _).trans rfl) rfl 5 (by decide) (C.2.2.2.2 _ wd_1_60) (fun _ h => h) rfl C_in rfl (by decide +kernel) rfl rfl (Nat.le_of_ble_eq_true rfl) dX4_init_18 (fun H locs hP hD hS => ?_)
  rw [ax_set] at hP hD
  have hP : va_P D vwCl (w0 ++ [(h0, .inr (4, [.int 3, .int 3, .int 0, .int 0, .int 0, .ref q16])), (q16, .inl (cI, 5, .inl (fun _ => 0)))]) H := hP
  have hD : va_D A (w0 ++ [(h0, .inr (4, [.int 3, .int 3, .int 0, .int 0, .int 0, .ref q16])), (q16, .inl (cI, 5, .inl (fun _ => 0)))]) := hD
  exact hret q16 _ _ _ _ hP hD hS dX4_init_21
theorem hv_X1_init : yX1_init.cls ≠ "java/lang/invoke/MethodHandle" ∧ yX1_init.cls ≠ "java/lang/invoke/VarHandle" ∧ (parseMethodDescriptor yX1_init.desc).map (fun d => d.parameters.length) = some 0 := by decide +kernel
theorem df_1 : ∀ j, j < 8 → defaultValue (tyX1 j) = vp_V [.null, .null, .int 0, .int 0, .int 0, .int 0, .int 0, .int 0] j
  | 0, _ => rfl
  | 1, _ => rfl
  | 2, _ => rfl
  | 3, _ => rfl
  | 4, _ => rfl
  | 5, _ => rfl
  | 6, _ => rfl
  | 7, _ => rfl
  | n + 8, h => absurd h (by omega)
set_option maxHeartbeats 4000000 in
set_option maxRecDepth 100000 in
theorem c_X1_init {l : Launch} {D : va_G} {cI cZ cO : ClassId} {w0 : va_W} {h0 : Nat} (sz : Nat) : Met l yX1_init (wm yX1_init cX1_init 1 none) ({ frames := 2, cells := 4, slots := 163, locals := 32 } : Room) (GPre D (ty3 cI cZ cO) (w0 ++ [(h0, .inr (1, [.null, .null, .int 0, .int 0, .int 0, .int 0, .int 0, .int 0]))]) [.ref h0] sz) (va_Qv (fun _ : Nat × Nat × Nat × Nat => True) (fun u t => GAt D (ty3 cI cZ cO) (va_A (w0 ++ [(h0, .inr (1, [.null, .null, .int 0, .int 0, .int 0, .int 0, .int 0, .int 0]))]) sz) ((fun u : Nat × Nat × Nat × Nat => w0 ++ [(h0, .inr (1, [.ref u.1, .ref u.2.2.1, .int 0, .int 0, .int 0, .int 0, .int 0, .int 0])), (u.1, .inr (5, [.ref u.2.1, .int 0])), (u.2.1, .inl (cI, 150, .inl (fun _ => 0))), (u.2.2.1, .inr (4, [.int 3, .int 3, .int 0, .int 0, .int 0, .ref u.2.2.2])), (u.2.2.2, .inl (cI, 5, .inl (fun _ => 0)))]) u) t) (va_A (w0 ++ [(h0, .inr (1, [.null, .null, .int 0, .int 0, .int 0, .int 0, .int 0, .int 0]))]) sz)) 4 163 (va_A (w0 ++ [(h0, .inr (1, [.null, .null, .int 0, .int 0, .int 0, .int 0, .int 0, .int 0]))]) sz) := by
  refine metN (l := l) (D := D) (tys := ty3 cI cZ cO) (y := yX1_init) (cc := cX1_init) (nL := 1) (mc := 4) (ms := 163) (rm := { frames := 2, cells := 4, slots := 163, locals := 32 }) (av := [.ref h0]) (sz := sz) (w := w0 ++ [(h0, .inr (1, [.null, .null, .int 0, .int 0, .int 0, .int 0, .int 0, .int 0]))]) (W1 := (fun u : Nat × Nat × Nat × Nat => w0 ++ [(h0, .inr (1, [.ref u.1, .ref u.2.2.1, .int 0, .int 0, .int 0, .int 0, .int 0, .int 0])), (u.1, .inr (5, [.ref u.2.1, .int 0])), (u.2.1, .inl (cI, 150, .inl (fun _ => 0))), (u.2.2.1, .inr (4, [.int 3, .int 3, .int 0, .int 0, .int 0, .ref u.2.2.2])), (u.2.2.2, .inl (cI, 5, .inl (fun _ => 0)))])) (by decide) (by decide) (Nat.le_of_ble_eq_true rfl) ?_
  intro p e s m args below meth c ls A Q C C_in hsz hP hK hD hS hA hN hl hret
  have hx := C.1
  have hb := C.2.1
  have hl : lv_has ls 1 [(0, .ref h0)] := hl
  refine lv_aload_n hx hb dX1_init_0 rfl (lv_at hl 0 rfl) ?_
  refine W.objInit hx hb C.2.2.2.1 (C.2.2.2.2 _ wd_1_23) (C.2.2.2.2 _ wd_1_16) (C.2.2.2.2 _ wd_1_17) rfl (by rw [C.2.2.1]; exact hl.1) rfl dX1_init_1 (Nat.le_of_ble_eq_true rfl) (Nat.le_of_ble_eq_true rfl) ?_
  refine W.eq (g2 := F0 m 4 ls []) rfl ?_
  refine lv_aload_n hx hb dX1_init_4 rfl (lv_at hl 0 rfl) ?_
  refine va_new (D := D) (ci := 5) (fs := [.null, .int 0]) (C := RX5) (T := TX5) (N := 2) hx hb C.2.2.2.2 inA5 tyX5 tyX5_ok C.2.2.2.1 (C.2.2.2.2 _ wd_1_24) (C.2.2.2.2 _ wd_1_25) (C.2.2.2.2 _ wd_1_3) hK hP hD hS hA rfl df_5 (Nat.le_of_ble_eq_true rfl) (Nat.le_of_ble_eq_true rfl) dX1_init_5 (fun q5 H hP hD hS => ?_)
  refine lv_dup hx hb dX1_init_8 rfl ?_
  refine on_n (va_runIN (host := "WindFrontiers") (As := []) (rest := [.ref q5, .ref h0]) C (c_X5_init (w0 := w0 ++ [(h0, .inr (1, [.null, .null, .int 0, .int 0, .int 0, .int 0, .int 0, .int 0]))]) (h0 := q5) H.size) ⟨va_cnB 0 C.2.2.2.2 (gd_wm (fun _ h => h) wd_1_28) rfl rfl rfl (hN.1 _ nw_1) (C.2.2.2.2 _ wd_1_3) hv_X5_init ⟨Nat.le_of_ble_eq_true rfl, Nat.le_of_ble_eq_true rfl⟩, rfl, C.2.2.2.2 _ wd_1_27⟩ ⟨GPre_blind, GPre_U hK hP hD hN⟩ rfl rfl hl.1 rfl (lv_room (Nat.le_of_ble_eq_true rfl)) dX1_init_9 ⟨Nat.le_of_ble_eq_true rfl, Nat.le_of_ble_eq_true rfl⟩) hD hS hA (fun u H locs hP hD hS => ?_)
  obtain ⟨u9_0, rfl⟩ : ∃ z, z = u := ⟨_, rfl⟩
  rw [List.append_assoc] at hP hD
  have hP : va_P D vwCl (w0 ++ [(h0, .inr (1, [.null, .null, .int 0, .int 0, .int 0, .int 0, .int 0, .int 0])), (q5, .inr (5, [.ref u9_0, .int 0])), (u9_0, .inl (cI, 150, .inl (fun _ => 0)))]) H := hP
  have hD : va_D A (w0 ++ [(h0, .inr (1, [.null, .null, .int 0, .int 0, .int 0, .int 0, .int 0, .int 0])), (q5, .inr (5, [.ref u9_0, .int 0])), (u9_0, .inl (cI, 150, .inl (fun _ => 0)))]) := hD
  refine va_putF (D := D) (ci := 1) (v := .ref q5) (ty := .object "WindFrontiers$Text") (C := RX1) (T := TX1) (N := 8) hx hb C.2.2.2.2 inA1 tyX1 tyX1_ok nmX1 C.2.2.2.1 hK hP hD hS (w0.length + 0) ((ax_get _ _ _).trans rfl) rfl 0 (by decide) (C.2.2.2.2 _ wd_1_74) (fun _ h => h) rfl C_in rfl (by decide +kernel) rfl rfl (Nat.le_of_ble_eq_true rfl) dX1_init_12 (fun H locs hP hD hS => ?_)
  rw [ax_set] at hP hD
  have hP : va_P D vwCl (w0 ++ [(h0, .inr (1, [.ref q5, .null, .int 0, .int 0, .int 0, .int 0, .int 0, .int 0])), (q5, .inr (5, [.ref u9_0, .int 0])), (u9_0, .inl (cI, 150, .inl (fun _ => 0)))]) H := hP
  have hD : va_D A (w0 ++ [(h0, .inr (1, [.ref q5, .null, .int 0, .int 0, .int 0, .int 0, .int 0, .int 0])), (q5, .inr (5, [.ref u9_0, .int 0])), (u9_0, .inl (cI, 150, .inl (fun _ => 0)))]) := hD
  refine lv_aload_n hx hb dX1_init_15 rfl (lv_at hl 0 rfl) ?_
  refine va_new (D := D) (ci := 4) (fs := [.int 0, .int 0, .int 0, .int 0, .int 0, .null]) (C := RX4) (T := TX4) (N := 6) hx hb C.2.2.2.2 inA4 tyX4 tyX4_ok C.2.2.2.1 (C.2.2.2.2 _ wd_1_39) (C.2.2.2.2 _ wd_1_40) (C.2.2.2.2 _ wd_1_4) hK hP hD hS hA rfl df_4 (Nat.le_of_ble_eq_true rfl) (Nat.le_of_ble_eq_true rfl) dX1_init_16 (fun q16 H hP hD hS => ?_)
  refine lv_dup hx hb dX1_init_19 rfl ?_
  refine on_n (va_runIN (host := "WindFrontiers") (As := []) (rest := [.ref q16, .ref h0]) C (c_X4_init (w0 := w0 ++ [(h0, .inr (1, [.ref q5, .null, .int 0, .int 0, .int 0, .int 0, .int 0, .int 0])), (q5, .inr (5, [.ref u9_0, .int 0])), (u9_0, .inl (cI, 150, .inl (fun _ => 0)))]) (h0 := q16) H.size) ⟨va_cnB 0 C.2.2.2.2 (gd_wm (fun _ h => h) wd_1_43) rfl rfl rfl (hN.1 _ nw_2) (C.2.2.2.2 _ wd_1_4) hv_X4_init ⟨Nat.le_of_ble_eq_true rfl, Nat.le_of_ble_eq_true rfl⟩, rfl, C.2.2.2.2 _ wd_1_42⟩ ⟨GPre_blind, GPre_U hK hP hD hN⟩ rfl rfl hl.1 rfl (lv_room (Nat.le_of_ble_eq_true rfl)) dX1_init_20 ⟨Nat.le_of_ble_eq_true rfl, Nat.le_of_ble_eq_true rfl⟩) hD hS hA (fun u H locs hP hD hS => ?_)
  obtain ⟨u20_0, rfl⟩ : ∃ z, z = u := ⟨_, rfl⟩
  rw [List.append_assoc] at hP hD
  have hP : va_P D vwCl (w0 ++ [(h0, .inr (1, [.ref q5, .null, .int 0, .int 0, .int 0, .int 0, .int 0, .int 0])), (q5, .inr (5, [.ref u9_0, .int 0])), (u9_0, .inl (cI, 150, .inl (fun _ => 0))), (q16, .inr (4, [.int 3, .int 3, .int 0, .int 0, .int 0, .ref u20_0])), (u20_0, .inl (cI, 5, .inl (fun _ => 0)))]) H := hP
  have hD : va_D A (w0 ++ [(h0, .inr (1, [.ref q5, .null, .int 0, .int 0, .int 0, .int 0, .int 0, .int 0])), (q5, .inr (5, [.ref u9_0, .int 0])), (u9_0, .inl (cI, 150, .inl (fun _ => 0))), (q16, .inr (4, [.int 3, .int 3, .int 0, .int 0, .int 0, .ref u20_0])), (u20_0, .inl (cI, 5, .inl (fun _ => 0)))]) := hD
  refine va_putF (D := D) (ci := 1) (v := .ref q16) (ty := .object "WindFrontiers$Strand") (C := RX1) (T := TX1) (N := 8) hx hb C.2.2.2.2 inA1 tyX1 tyX1_ok nmX1 C.2.2.2.1 hK hP hD hS (w0.length + 0) ((ax_get _ _ _).trans rfl) rfl 1 (by decide) (C.2.2.2.2 _ wd_1_76) (fun _ h => h) rfl C_in rfl (by decide +kernel) rfl rfl (Nat.le_of_ble_eq_true rfl) dX1_init_23 (fun H locs hP hD hS => ?_)
  rw [ax_set] at hP hD
  have hP : va_P D vwCl (w0 ++ [(h0, .inr (1, [.ref q5, .ref q16, .int 0, .int 0, .int 0, .int 0, .int 0, .int 0])), (q5, .inr (5, [.ref u9_0, .int 0])), (u9_0, .inl (cI, 150, .inl (fun _ => 0))), (q16, .inr (4, [.int 3, .int 3, .int 0, .int 0, .int 0, .ref u20_0])), (u20_0, .inl (cI, 5, .inl (fun _ => 0)))]) H := hP
  have hD : va_D A (w0 ++ [(h0, .inr (1, [.ref q5, .ref q16, .int 0, .int 0, .int 0, .int 0, .int 0, .int 0])), (q5, .inr (5, [.ref u9_0, .int 0])), (u9_0, .inl (cI, 150, .inl (fun _ => 0))), (q16, .inr (4, [.int 3, .int 3, .int 0, .int 0, .int 0, .ref u20_0])), (u20_0, .inl (cI, 5, .inl (fun _ => 0)))]) := hD
  exact hret (q5, u9_0, q16, u20_0) _ _ _ _ hP hD hS dX1_init_26
theorem hv_X7_init : yX7_init.cls ≠ "java/lang/invoke/MethodHandle" ∧ yX7_init.cls ≠ "java/lang/invoke/VarHandle" ∧ (parseMethodDescriptor yX7_init.desc).map (fun d => d.parameters.length) = some 0 := by decide +kernel
theorem df_7 : ∀ j, j < 22 → defaultValue (tyX7 j) = vp_V [.int 0, .int 0, .null, .null, .null, .int 0, .null, .long 0, .null, .int 0, .int 0, .int 0, .int 0, .int 0, .int 0, .int 0, .int 0, .int 0, .null, .int 0, .int 0, .null] j
  | 0, _ => rfl
  | 1, _ => rfl
  | 2, _ => rfl
  | 3, _ => rfl
  | 4, _ => rfl
  | 5, _ => rfl
  | 6, _ => rfl
  | 7, _ => rfl
  | 8, _ => rfl
  | 9, _ => rfl
  | 10, _ => rfl
  | 11, _ => rfl
  | 12, _ => rfl
  | 13, _ => rfl
  | 14, _ => rfl
  | 15, _ => rfl
  | 16, _ => rfl
  | 17, _ => rfl
  | 18, _ => rfl
  | 19, _ => rfl
  | 20, _ => rfl
  | 21, _ => rfl
  | n + 22, h => absurd h (by omega)
set_option maxHeartbeats 4000000 in
set_option maxRecDepth 100000 in
theorem c_X7_init {l : Launch} {D : va_G} {cI cZ cO : ClassId} {w0 : va_W} {h0 : Nat} (sz : Nat) : Met l yX7_init (wm yX7_init cX7_init 1 none) ({ frames := 1, cells := 7, slots := 972, locals := 12 } : Room) (GPre D (ty3 cI cZ cO) (w0 ++ [(h0, .inr (7, [.int 0, .int 0, .null, .null, .null, .int 0, .null, .long 0, .null, .int 0, .int 0, .int 0, .int 0, .int 0, .int 0, .int 0, .int 0, .int 0, .null, .int 0, .int 0, .null]))]) [.ref h0] sz) (va_Qv (fun _ : Nat × Nat × Nat × Nat × Nat × Nat × Nat => True) (fun u t => GAt D (ty3 cI cZ cO) (va_A (w0 ++ [(h0, .inr (7, [.int 0, .int 0, .null, .null, .null, .int 0, .null, .long 0, .null, .int 0, .int 0, .int 0, .int 0, .int 0, .int 0, .int 0, .int 0, .int 0, .null, .int 0, .int 0, .null]))]) sz) ((fun u : Nat × Nat × Nat × Nat × Nat × Nat × Nat => w0 ++ [(h0, .inr (7, [.int 3, .int 3, .ref u.1, .ref u.2.1, .ref u.2.2.1, .int 0, .ref u.2.2.2.1, .long 0, .ref u.2.2.2.2.1, .int 0, .int 0, .int 0, .int 0, .int 0, .int 0, .int 0, .int 0, .int 0, .ref u.2.2.2.2.2.1, .int 0, .int 0, .ref u.2.2.2.2.2.2])), (u.1, .inl (cI, 254, .inl (fun _ => 0))), (u.2.1, .inl (cI, 508, .inl (fun _ => 0))), (u.2.2.1, .inl (cZ, 2, .inl (fun _ => 0))), (u.2.2.2.1, .inl (cI, 18, .inl (fun _ => 0))), (u.2.2.2.2.1, .inl (cI, 150, .inl (fun _ => 0))), (u.2.2.2.2.2.1, .inl (cI, 20, .inl (fun _ => 0))), (u.2.2.2.2.2.2, .inl (cI, 20, .inl (fun _ => 0)))]) u) t) (va_A (w0 ++ [(h0, .inr (7, [.int 0, .int 0, .null, .null, .null, .int 0, .null, .long 0, .null, .int 0, .int 0, .int 0, .int 0, .int 0, .int 0, .int 0, .int 0, .int 0, .null, .int 0, .int 0, .null]))]) sz)) 7 972 (va_A (w0 ++ [(h0, .inr (7, [.int 0, .int 0, .null, .null, .null, .int 0, .null, .long 0, .null, .int 0, .int 0, .int 0, .int 0, .int 0, .int 0, .int 0, .int 0, .int 0, .null, .int 0, .int 0, .null]))]) sz) := by
  refine metN (l := l) (D := D) (tys := ty3 cI cZ cO) (y := yX7_init) (cc := cX7_init) (nL := 1) (mc := 7) (ms := 972) (rm := { frames := 1, cells := 7, slots := 972, locals := 12 }) (av := [.ref h0]) (sz := sz) (w := w0 ++ [(h0, .inr (7, [.int 0, .int 0, .null, .null, .null, .int 0, .null, .long 0, .null, .int 0, .int 0, .int 0, .int 0, .int 0, .int 0, .int 0, .int 0, .int 0, .null, .int 0, .int 0, .null]))]) (W1 := (fun u : Nat × Nat × Nat × Nat × Nat × Nat × Nat => w0 ++ [(h0, .inr (7, [.int 3, .int 3, .ref u.1, .ref u.2.1, .ref u.2.2.1, .int 0, .ref u.2.2.2.1, .long 0, .ref u.2.2.2.2.1, .int 0, .int 0, .int 0, .int 0, .int 0, .int 0, .int 0, .int 0, .int 0, .ref u.2.2.2.2.2.1, .int 0, .int 0, .ref u.2.2.2.2.2.2])), (u.1, .inl (cI, 254, .inl (fun _ => 0))), (u.2.1, .inl (cI, 508, .inl (fun _ => 0))), (u.2.2.1, .inl (cZ, 2, .inl (fun _ => 0))), (u.2.2.2.1, .inl (cI, 18, .inl (fun _ => 0))), (u.2.2.2.2.1, .inl (cI, 150, .inl (fun _ => 0))), (u.2.2.2.2.2.1, .inl (cI, 20, .inl (fun _ => 0))), (u.2.2.2.2.2.2, .inl (cI, 20, .inl (fun _ => 0)))])) (by decide) (by decide) (Nat.le_of_ble_eq_true rfl) ?_
  intro p e s m args below meth c ls A Q C C_in hsz hP hK hD hS hA hN hl hret
  have hx := C.1
  have hb := C.2.1
  have hl : lv_has ls 1 [(0, .ref h0)] := hl
  refine lv_aload_n hx hb dX7_init_0 rfl (lv_at hl 0 rfl) ?_
  refine W.objInit hx hb C.2.2.2.1 (C.2.2.2.2 _ wd_3_74) (C.2.2.2.2 _ wd_1_16) (C.2.2.2.2 _ wd_1_17) rfl (by rw [C.2.2.1]; exact hl.1) rfl dX7_init_1 (Nat.le_of_ble_eq_true rfl) (Nat.le_of_ble_eq_true rfl) ?_
  refine W.eq (g2 := F0 m 4 ls []) rfl ?_
  refine lv_aload_n hx hb dX7_init_4 rfl (lv_at hl 0 rfl) ?_
  refine lv_iconst (v := 3) hx hb dX7_init_5 (by decide) ?_
  refine va_put (D := D) (ci := 7) (v := .int 3) (ty := .int) (C := RX7) (T := TX7) (N := 22) hx hb C.2.2.2.2 inA7 tyX7 tyX7_ok nmX7 C.2.2.2.1 hK hP hD hS (w0.length + 0) ((ax_get _ _ _).trans rfl) rfl 0 (by decide) (C.2.2.2.2 _ wd_3_75) (fun _ h => h) rfl (by decide +kernel) rfl rfl (Nat.le_of_ble_eq_true rfl) dX7_init_6 (fun H locs hP hD hS => ?_)
  rw [ax_set] at hP hD
  have hP : va_P D vwCl (w0 ++ [(h0, .inr (7, [.int 3, .int 0, .null, .null, .null, .int 0, .null, .long 0, .null, .int 0, .int 0, .int 0, .int 0, .int 0, .int 0, .int 0, .int 0, .int 0, .null, .int 0, .int 0, .null]))]) H := hP
  have hD : va_D A (w0 ++ [(h0, .inr (7, [.int 3, .int 0, .null, .null, .null, .int 0, .null, .long 0, .null, .int 0, .int 0, .int 0, .int 0, .int 0, .int 0, .int 0, .int 0, .int 0, .null, .int 0, .int 0, .null]))]) := hD
  refine lv_aload_n hx hb dX7_init_9 rfl (lv_at hl 0 rfl) ?_
  refine lv_iconst (v := 3) hx hb dX7_init_10 (by decide) ?_
  refine va_put (D := D) (ci := 7) (v := .int 3) (ty := .int) (C := RX7) (T := TX7) (N := 22) hx hb C.2.2.2.2 inA7 tyX7 tyX7_ok nmX7 C.2.2.2.1 hK hP hD hS (w0.length + 0) ((ax_get _ _ _).trans rfl) rfl 1 (by decide) (C.2.2.2.2 _ wd_3_76) (fun _ h => h) rfl (by decide +kernel) rfl rfl (Nat.le_of_ble_eq_true rfl) dX7_init_11 (fun H locs hP hD hS => ?_)
  rw [ax_set] at hP hD
  have hP : va_P D vwCl (w0 ++ [(h0, .inr (7, [.int 3, .int 3, .null, .null, .null, .int 0, .null, .long 0, .null, .int 0, .int 0, .int 0, .int 0, .int 0, .int 0, .int 0, .int 0, .int 0, .null, .int 0, .int 0, .null]))]) H := hP
  have hD : va_D A (w0 ++ [(h0, .inr (7, [.int 3, .int 3, .null, .null, .null, .int 0, .null, .long 0, .null, .int 0, .int 0, .int 0, .int 0, .int 0, .int 0, .int 0, .int 0, .int 0, .null, .int 0, .int 0, .null]))]) := hD
  refine lv_aload_n hx hb dX7_init_14 rfl (lv_at hl 0 rfl) ?_
  refine lv_sipush (v := 254) hx hb dX7_init_15 (by decide) ?_
  refine nw_int (N := 254) C hK hP hD hS hA (by decide) (by decide) (Nat.le_of_ble_eq_true rfl) (Nat.le_of_ble_eq_true rfl) (Nat.le_of_ble_eq_true rfl) dX7_init_18 (fun q18 H hP hD hS => ?_)
  have hP : va_P D vwCl (w0 ++ [(h0, .inr (7, [.int 3, .int 3, .null, .null, .null, .int 0, .null, .long 0, .null, .int 0, .int 0, .int 0, .int 0, .int 0, .int 0, .int 0, .int 0, .int 0, .null, .int 0, .int 0, .null])), (q18, .inl (cI, 254, .inl (fun _ => 0)))]) H := hP
  have hD : va_D A (w0 ++ [(h0, .inr (7, [.int 3, .int 3, .null, .null, .null, .int 0, .null, .long 0, .null, .int 0, .int 0, .int 0, .int 0, .int 0, .int 0, .int 0, .int 0, .int 0, .null, .int 0, .int 0, .null])), (q18, .inl (cI, 254, .inl (fun _ => 0)))]) := hD
  refine va_putF (D := D) (ci := 7) (v := .ref q18) (ty := .array .int) (C := RX7) (T := TX7) (N := 22) hx hb C.2.2.2.2 inA7 tyX7 tyX7_ok nmX7 C.2.2.2.1 hK hP hD hS (w0.length + 0) ((ax_get _ _ _).trans rfl) rfl 2 (by decide) (C.2.2.2.2 _ wd_3_77) (fun _ h => h) rfl C_in rfl (by decide +kernel) rfl rfl (Nat.le_of_ble_eq_true rfl) dX7_init_20 (fun H locs hP hD hS => ?_)
  rw [ax_set] at hP hD
  have hP : va_P D vwCl (w0 ++ [(h0, .inr (7, [.int 3, .int 3, .ref q18, .null, .null, .int 0, .null, .long 0, .null, .int 0, .int 0, .int 0, .int 0, .int 0, .int 0, .int 0, .int 0, .int 0, .null, .int 0, .int 0, .null])), (q18, .inl (cI, 254, .inl (fun _ => 0)))]) H := hP
  have hD : va_D A (w0 ++ [(h0, .inr (7, [.int 3, .int 3, .ref q18, .null, .null, .int 0, .null, .long 0, .null, .int 0, .int 0, .int 0, .int 0, .int 0, .int 0, .int 0, .int 0, .int 0, .null, .int 0, .int 0, .null])), (q18, .inl (cI, 254, .inl (fun _ => 0)))]) := hD
  refine lv_aload_n hx hb dX7_init_23 rfl (lv_at hl 0 rfl) ?_
  refine lv_sipush (v := 508) hx hb dX7_init_24 (by decide) ?_
  refine nw_int (N := 508) C hK hP hD hS hA (by decide) (by decide) (Nat.le_of_ble_eq_true rfl) (Nat.le_of_ble_eq_true rfl) (Nat.le_of_ble_eq_true rfl) dX7_init_27 (fun q27 H hP hD hS => ?_)
  have hP : va_P D vwCl (w0 ++ [(h0, .inr (7, [.int 3, .int 3, .ref q18, .null, .null, .int 0, .null, .long 0, .null, .int 0, .int 0, .int 0, .int 0, .int 0, .int 0, .int 0, .int 0, .int 0, .null, .int 0, .int 0, .null])), (q18, .inl (cI, 254, .inl (fun _ => 0))), (q27, .inl (cI, 508, .inl (fun _ => 0)))]) H := hP
  have hD : va_D A (w0 ++ [(h0, .inr (7, [.int 3, .int 3, .ref q18, .null, .null, .int 0, .null, .long 0, .null, .int 0, .int 0, .int 0, .int 0, .int 0, .int 0, .int 0, .int 0, .int 0, .null, .int 0, .int 0, .null])), (q18, .inl (cI, 254, .inl (fun _ => 0))), (q27, .inl (cI, 508, .inl (fun _ => 0)))]) := hD
  refine va_putF (D := D) (ci := 7) (v := .ref q27) (ty := .array .int) (C := RX7) (T := TX7) (N := 22) hx hb C.2.2.2.2 inA7 tyX7 tyX7_ok nmX7 C.2.2.2.1 hK hP hD hS (w0.length + 0) ((ax_get _ _ _).trans rfl) rfl 3 (by decide) (C.2.2.2.2 _ wd_3_78) (fun _ h => h) rfl C_in rfl (by decide +kernel) rfl rfl (Nat.le_of_ble_eq_true rfl) dX7_init_29 (fun H locs hP hD hS => ?_)
  rw [ax_set] at hP hD
  have hP : va_P D vwCl (w0 ++ [(h0, .inr (7, [.int 3, .int 3, .ref q18, .ref q27, .null, .int 0, .null, .long 0, .null, .int 0, .int 0, .int 0, .int 0, .int 0, .int 0, .int 0, .int 0, .int 0, .null, .int 0, .int 0, .null])), (q18, .inl (cI, 254, .inl (fun _ => 0))), (q27, .inl (cI, 508, .inl (fun _ => 0)))]) H := hP
  have hD : va_D A (w0 ++ [(h0, .inr (7, [.int 3, .int 3, .ref q18, .ref q27, .null, .int 0, .null, .long 0, .null, .int 0, .int 0, .int 0, .int 0, .int 0, .int 0, .int 0, .int 0, .int 0, .null, .int 0, .int 0, .null])), (q18, .inl (cI, 254, .inl (fun _ => 0))), (q27, .inl (cI, 508, .inl (fun _ => 0)))]) := hD
  refine lv_aload_n hx hb dX7_init_32 rfl (lv_at hl 0 rfl) ?_
  refine lv_iconst (v := 2) hx hb dX7_init_33 (by decide) ?_
  refine nw_boolean (N := 2) C hK hP hD hS hA (by decide) (by decide) (Nat.le_of_ble_eq_true rfl) (Nat.le_of_ble_eq_true rfl) (Nat.le_of_ble_eq_true rfl) dX7_init_34 (fun q34 H hP hD hS => ?_)
  have hP : va_P D vwCl (w0 ++ [(h0, .inr (7, [.int 3, .int 3, .ref q18, .ref q27, .null, .int 0, .null, .long 0, .null, .int 0, .int 0, .int 0, .int 0, .int 0, .int 0, .int 0, .int 0, .int 0, .null, .int 0, .int 0, .null])), (q18, .inl (cI, 254, .inl (fun _ => 0))), (q27, .inl (cI, 508, .inl (fun _ => 0))), (q34, .inl (cZ, 2, .inl (fun _ => 0)))]) H := hP
  have hD : va_D A (w0 ++ [(h0, .inr (7, [.int 3, .int 3, .ref q18, .ref q27, .null, .int 0, .null, .long 0, .null, .int 0, .int 0, .int 0, .int 0, .int 0, .int 0, .int 0, .int 0, .int 0, .null, .int 0, .int 0, .null])), (q18, .inl (cI, 254, .inl (fun _ => 0))), (q27, .inl (cI, 508, .inl (fun _ => 0))), (q34, .inl (cZ, 2, .inl (fun _ => 0)))]) := hD
  refine va_putF (D := D) (ci := 7) (v := .ref q34) (ty := .array .boolean) (C := RX7) (T := TX7) (N := 22) hx hb C.2.2.2.2 inA7 tyX7 tyX7_ok nmX7 C.2.2.2.1 hK hP hD hS (w0.length + 0) ((ax_get _ _ _).trans rfl) rfl 4 (by decide) (C.2.2.2.2 _ wd_3_79) (fun _ h => h) rfl C_in rfl (by decide +kernel) rfl rfl (Nat.le_of_ble_eq_true rfl) dX7_init_36 (fun H locs hP hD hS => ?_)
  rw [ax_set] at hP hD
  have hP : va_P D vwCl (w0 ++ [(h0, .inr (7, [.int 3, .int 3, .ref q18, .ref q27, .ref q34, .int 0, .null, .long 0, .null, .int 0, .int 0, .int 0, .int 0, .int 0, .int 0, .int 0, .int 0, .int 0, .null, .int 0, .int 0, .null])), (q18, .inl (cI, 254, .inl (fun _ => 0))), (q27, .inl (cI, 508, .inl (fun _ => 0))), (q34, .inl (cZ, 2, .inl (fun _ => 0)))]) H := hP
  have hD : va_D A (w0 ++ [(h0, .inr (7, [.int 3, .int 3, .ref q18, .ref q27, .ref q34, .int 0, .null, .long 0, .null, .int 0, .int 0, .int 0, .int 0, .int 0, .int 0, .int 0, .int 0, .int 0, .null, .int 0, .int 0, .null])), (q18, .inl (cI, 254, .inl (fun _ => 0))), (q27, .inl (cI, 508, .inl (fun _ => 0))), (q34, .inl (cZ, 2, .inl (fun _ => 0)))]) := hD
  refine lv_aload_n hx hb dX7_init_39 rfl (lv_at hl 0 rfl) ?_
  refine lv_bipush (v := 18) hx hb dX7_init_40 (by decide) ?_
  refine nw_int (N := 18) C hK hP hD hS hA (by decide) (by decide) (Nat.le_of_ble_eq_true rfl) (Nat.le_of_ble_eq_true rfl) (Nat.le_of_ble_eq_true rfl) dX7_init_42 (fun q42 H hP hD hS => ?_)
  have hP : va_P D vwCl (w0 ++ [(h0, .inr (7, [.int 3, .int 3, .ref q18, .ref q27, .ref q34, .int 0, .null, .long 0, .null, .int 0, .int 0, .int 0, .int 0, .int 0, .int 0, .int 0, .int 0, .int 0, .null, .int 0, .int 0, .null])), (q18, .inl (cI, 254, .inl (fun _ => 0))), (q27, .inl (cI, 508, .inl (fun _ => 0))), (q34, .inl (cZ, 2, .inl (fun _ => 0))), (q42, .inl (cI, 18, .inl (fun _ => 0)))]) H := hP
  have hD : va_D A (w0 ++ [(h0, .inr (7, [.int 3, .int 3, .ref q18, .ref q27, .ref q34, .int 0, .null, .long 0, .null, .int 0, .int 0, .int 0, .int 0, .int 0, .int 0, .int 0, .int 0, .int 0, .null, .int 0, .int 0, .null])), (q18, .inl (cI, 254, .inl (fun _ => 0))), (q27, .inl (cI, 508, .inl (fun _ => 0))), (q34, .inl (cZ, 2, .inl (fun _ => 0))), (q42, .inl (cI, 18, .inl (fun _ => 0)))]) := hD
  refine va_putF (D := D) (ci := 7) (v := .ref q42) (ty := .array .int) (C := RX7) (T := TX7) (N := 22) hx hb C.2.2.2.2 inA7 tyX7 tyX7_ok nmX7 C.2.2.2.1 hK hP hD hS (w0.length + 0) ((ax_get _ _ _).trans rfl) rfl 6 (by decide) (C.2.2.2.2 _ wd_3_81) (fun _ h => h) rfl C_in rfl (by decide +kernel) rfl rfl (Nat.le_of_ble_eq_true rfl) dX7_init_44 (fun H locs hP hD hS => ?_)
  rw [ax_set] at hP hD
  have hP : va_P D vwCl (w0 ++ [(h0, .inr (7, [.int 3, .int 3, .ref q18, .ref q27, .ref q34, .int 0, .ref q42, .long 0, .null, .int 0, .int 0, .int 0, .int 0, .int 0, .int 0, .int 0, .int 0, .int 0, .null, .int 0, .int 0, .null])), (q18, .inl (cI, 254, .inl (fun _ => 0))), (q27, .inl (cI, 508, .inl (fun _ => 0))), (q34, .inl (cZ, 2, .inl (fun _ => 0))), (q42, .inl (cI, 18, .inl (fun _ => 0)))]) H := hP
  have hD : va_D A (w0 ++ [(h0, .inr (7, [.int 3, .int 3, .ref q18, .ref q27, .ref q34, .int 0, .ref q42, .long 0, .null, .int 0, .int 0, .int 0, .int 0, .int 0, .int 0, .int 0, .int 0, .int 0, .null, .int 0, .int 0, .null])), (q18, .inl (cI, 254, .inl (fun _ => 0))), (q27, .inl (cI, 508, .inl (fun _ => 0))), (q34, .inl (cZ, 2, .inl (fun _ => 0))), (q42, .inl (cI, 18, .inl (fun _ => 0)))]) := hD
  refine lv_aload_n hx hb dX7_init_47 rfl (lv_at hl 0 rfl) ?_
  refine lv_sipush (v := 150) hx hb dX7_init_48 (by decide) ?_
  refine nw_int (N := 150) C hK hP hD hS hA (by decide) (by decide) (Nat.le_of_ble_eq_true rfl) (Nat.le_of_ble_eq_true rfl) (Nat.le_of_ble_eq_true rfl) dX7_init_51 (fun q51 H hP hD hS => ?_)
  have hP : va_P D vwCl (w0 ++ [(h0, .inr (7, [.int 3, .int 3, .ref q18, .ref q27, .ref q34, .int 0, .ref q42, .long 0, .null, .int 0, .int 0, .int 0, .int 0, .int 0, .int 0, .int 0, .int 0, .int 0, .null, .int 0, .int 0, .null])), (q18, .inl (cI, 254, .inl (fun _ => 0))), (q27, .inl (cI, 508, .inl (fun _ => 0))), (q34, .inl (cZ, 2, .inl (fun _ => 0))), (q42, .inl (cI, 18, .inl (fun _ => 0))), (q51, .inl (cI, 150, .inl (fun _ => 0)))]) H := hP
  have hD : va_D A (w0 ++ [(h0, .inr (7, [.int 3, .int 3, .ref q18, .ref q27, .ref q34, .int 0, .ref q42, .long 0, .null, .int 0, .int 0, .int 0, .int 0, .int 0, .int 0, .int 0, .int 0, .int 0, .null, .int 0, .int 0, .null])), (q18, .inl (cI, 254, .inl (fun _ => 0))), (q27, .inl (cI, 508, .inl (fun _ => 0))), (q34, .inl (cZ, 2, .inl (fun _ => 0))), (q42, .inl (cI, 18, .inl (fun _ => 0))), (q51, .inl (cI, 150, .inl (fun _ => 0)))]) := hD
  refine va_putF (D := D) (ci := 7) (v := .ref q51) (ty := .array .int) (C := RX7) (T := TX7) (N := 22) hx hb C.2.2.2.2 inA7 tyX7 tyX7_ok nmX7 C.2.2.2.1 hK hP hD hS (w0.length + 0) ((ax_get _ _ _).trans rfl) rfl 8 (by decide) (C.2.2.2.2 _ wd_3_83) (fun _ h => h) rfl C_in rfl (by decide +kernel) rfl rfl (Nat.le_of_ble_eq_true rfl) dX7_init_53 (fun H locs hP hD hS => ?_)
  rw [ax_set] at hP hD
  have hP : va_P D vwCl (w0 ++ [(h0, .inr (7, [.int 3, .int 3, .ref q18, .ref q27, .ref q34, .int 0, .ref q42, .long 0, .ref q51, .int 0, .int 0, .int 0, .int 0, .int 0, .int 0, .int 0, .int 0, .int 0, .null, .int 0, .int 0, .null])), (q18, .inl (cI, 254, .inl (fun _ => 0))), (q27, .inl (cI, 508, .inl (fun _ => 0))), (q34, .inl (cZ, 2, .inl (fun _ => 0))), (q42, .inl (cI, 18, .inl (fun _ => 0))), (q51, .inl (cI, 150, .inl (fun _ => 0)))]) H := hP
  have hD : va_D A (w0 ++ [(h0, .inr (7, [.int 3, .int 3, .ref q18, .ref q27, .ref q34, .int 0, .ref q42, .long 0, .ref q51, .int 0, .int 0, .int 0, .int 0, .int 0, .int 0, .int 0, .int 0, .int 0, .null, .int 0, .int 0, .null])), (q18, .inl (cI, 254, .inl (fun _ => 0))), (q27, .inl (cI, 508, .inl (fun _ => 0))), (q34, .inl (cZ, 2, .inl (fun _ => 0))), (q42, .inl (cI, 18, .inl (fun _ => 0))), (q51, .inl (cI, 150, .inl (fun _ => 0)))]) := hD
  refine lv_aload_n hx hb dX7_init_56 rfl (lv_at hl 0 rfl) ?_
  refine lv_bipush (v := 20) hx hb dX7_init_57 (by decide) ?_
  refine nw_int (N := 20) C hK hP hD hS hA (by decide) (by decide) (Nat.le_of_ble_eq_true rfl) (Nat.le_of_ble_eq_true rfl) (Nat.le_of_ble_eq_true rfl) dX7_init_59 (fun q59 H hP hD hS => ?_)
  have hP : va_P D vwCl (w0 ++ [(h0, .inr (7, [.int 3, .int 3, .ref q18, .ref q27, .ref q34, .int 0, .ref q42, .long 0, .ref q51, .int 0, .int 0, .int 0, .int 0, .int 0, .int 0, .int 0, .int 0, .int 0, .null, .int 0, .int 0, .null])), (q18, .inl (cI, 254, .inl (fun _ => 0))), (q27, .inl (cI, 508, .inl (fun _ => 0))), (q34, .inl (cZ, 2, .inl (fun _ => 0))), (q42, .inl (cI, 18, .inl (fun _ => 0))), (q51, .inl (cI, 150, .inl (fun _ => 0))), (q59, .inl (cI, 20, .inl (fun _ => 0)))]) H := hP
  have hD : va_D A (w0 ++ [(h0, .inr (7, [.int 3, .int 3, .ref q18, .ref q27, .ref q34, .int 0, .ref q42, .long 0, .ref q51, .int 0, .int 0, .int 0, .int 0, .int 0, .int 0, .int 0, .int 0, .int 0, .null, .int 0, .int 0, .null])), (q18, .inl (cI, 254, .inl (fun _ => 0))), (q27, .inl (cI, 508, .inl (fun _ => 0))), (q34, .inl (cZ, 2, .inl (fun _ => 0))), (q42, .inl (cI, 18, .inl (fun _ => 0))), (q51, .inl (cI, 150, .inl (fun _ => 0))), (q59, .inl (cI, 20, .inl (fun _ => 0)))]) := hD
  refine va_putF (D := D) (ci := 7) (v := .ref q59) (ty := .array .int) (C := RX7) (T := TX7) (N := 22) hx hb C.2.2.2.2 inA7 tyX7 tyX7_ok nmX7 C.2.2.2.1 hK hP hD hS (w0.length + 0) ((ax_get _ _ _).trans rfl) rfl 18 (by decide) (C.2.2.2.2 _ wd_3_93) (fun _ h => h) rfl C_in rfl (by decide +kernel) rfl rfl (Nat.le_of_ble_eq_true rfl) dX7_init_61 (fun H locs hP hD hS => ?_)
  rw [ax_set] at hP hD
  have hP : va_P D vwCl (w0 ++ [(h0, .inr (7, [.int 3, .int 3, .ref q18, .ref q27, .ref q34, .int 0, .ref q42, .long 0, .ref q51, .int 0, .int 0, .int 0, .int 0, .int 0, .int 0, .int 0, .int 0, .int 0, .ref q59, .int 0, .int 0, .null])), (q18, .inl (cI, 254, .inl (fun _ => 0))), (q27, .inl (cI, 508, .inl (fun _ => 0))), (q34, .inl (cZ, 2, .inl (fun _ => 0))), (q42, .inl (cI, 18, .inl (fun _ => 0))), (q51, .inl (cI, 150, .inl (fun _ => 0))), (q59, .inl (cI, 20, .inl (fun _ => 0)))]) H := hP
  have hD : va_D A (w0 ++ [(h0, .inr (7, [.int 3, .int 3, .ref q18, .ref q27, .ref q34, .int 0, .ref q42, .long 0, .ref q51, .int 0, .int 0, .int 0, .int 0, .int 0, .int 0, .int 0, .int 0, .int 0, .ref q59, .int 0, .int 0, .null])), (q18, .inl (cI, 254, .inl (fun _ => 0))), (q27, .inl (cI, 508, .inl (fun _ => 0))), (q34, .inl (cZ, 2, .inl (fun _ => 0))), (q42, .inl (cI, 18, .inl (fun _ => 0))), (q51, .inl (cI, 150, .inl (fun _ => 0))), (q59, .inl (cI, 20, .inl (fun _ => 0)))]) := hD
  refine lv_aload_n hx hb dX7_init_64 rfl (lv_at hl 0 rfl) ?_
  refine lv_bipush (v := 20) hx hb dX7_init_65 (by decide) ?_
  refine nw_int (N := 20) C hK hP hD hS hA (by decide) (by decide) (Nat.le_of_ble_eq_true rfl) (Nat.le_of_ble_eq_true rfl) (Nat.le_of_ble_eq_true rfl) dX7_init_67 (fun q67 H hP hD hS => ?_)
  have hP : va_P D vwCl (w0 ++ [(h0, .inr (7, [.int 3, .int 3, .ref q18, .ref q27, .ref q34, .int 0, .ref q42, .long 0, .ref q51, .int 0, .int 0, .int 0, .int 0, .int 0, .int 0, .int 0, .int 0, .int 0, .ref q59, .int 0, .int 0, .null])), (q18, .inl (cI, 254, .inl (fun _ => 0))), (q27, .inl (cI, 508, .inl (fun _ => 0))), (q34, .inl (cZ, 2, .inl (fun _ => 0))), (q42, .inl (cI, 18, .inl (fun _ => 0))), (q51, .inl (cI, 150, .inl (fun _ => 0))), (q59, .inl (cI, 20, .inl (fun _ => 0))), (q67, .inl (cI, 20, .inl (fun _ => 0)))]) H := hP
  have hD : va_D A (w0 ++ [(h0, .inr (7, [.int 3, .int 3, .ref q18, .ref q27, .ref q34, .int 0, .ref q42, .long 0, .ref q51, .int 0, .int 0, .int 0, .int 0, .int 0, .int 0, .int 0, .int 0, .int 0, .ref q59, .int 0, .int 0, .null])), (q18, .inl (cI, 254, .inl (fun _ => 0))), (q27, .inl (cI, 508, .inl (fun _ => 0))), (q34, .inl (cZ, 2, .inl (fun _ => 0))), (q42, .inl (cI, 18, .inl (fun _ => 0))), (q51, .inl (cI, 150, .inl (fun _ => 0))), (q59, .inl (cI, 20, .inl (fun _ => 0))), (q67, .inl (cI, 20, .inl (fun _ => 0)))]) := hD
  refine va_putF (D := D) (ci := 7) (v := .ref q67) (ty := .array .int) (C := RX7) (T := TX7) (N := 22) hx hb C.2.2.2.2 inA7 tyX7 tyX7_ok nmX7 C.2.2.2.1 hK hP hD hS (w0.length + 0) ((ax_get _ _ _).trans rfl) rfl 21 (by decide) (C.2.2.2.2 _ wd_3_96) (fun _ h => h) rfl C_in rfl (by decide +kernel) rfl rfl (Nat.le_of_ble_eq_true rfl) dX7_init_69 (fun H locs hP hD hS => ?_)
  rw [ax_set] at hP hD
  have hP : va_P D vwCl (w0 ++ [(h0, .inr (7, [.int 3, .int 3, .ref q18, .ref q27, .ref q34, .int 0, .ref q42, .long 0, .ref q51, .int 0, .int 0, .int 0, .int 0, .int 0, .int 0, .int 0, .int 0, .int 0, .ref q59, .int 0, .int 0, .ref q67])), (q18, .inl (cI, 254, .inl (fun _ => 0))), (q27, .inl (cI, 508, .inl (fun _ => 0))), (q34, .inl (cZ, 2, .inl (fun _ => 0))), (q42, .inl (cI, 18, .inl (fun _ => 0))), (q51, .inl (cI, 150, .inl (fun _ => 0))), (q59, .inl (cI, 20, .inl (fun _ => 0))), (q67, .inl (cI, 20, .inl (fun _ => 0)))]) H := hP
  have hD : va_D A (w0 ++ [(h0, .inr (7, [.int 3, .int 3, .ref q18, .ref q27, .ref q34, .int 0, .ref q42, .long 0, .ref q51, .int 0, .int 0, .int 0, .int 0, .int 0, .int 0, .int 0, .int 0, .int 0, .ref q59, .int 0, .int 0, .ref q67])), (q18, .inl (cI, 254, .inl (fun _ => 0))), (q27, .inl (cI, 508, .inl (fun _ => 0))), (q34, .inl (cZ, 2, .inl (fun _ => 0))), (q42, .inl (cI, 18, .inl (fun _ => 0))), (q51, .inl (cI, 150, .inl (fun _ => 0))), (q59, .inl (cI, 20, .inl (fun _ => 0))), (q67, .inl (cI, 20, .inl (fun _ => 0)))]) := hD
  exact hret (q18, q27, q34, q42, q51, q59, q67) _ _ _ _ hP hD hS dX7_init_72
