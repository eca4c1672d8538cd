/-! Story() -/
def sE (u : Nat) : va_E := .inr (4, [.int 3, .int 3, .int 0, .int 0, .int 0, .ref u])
def aE (cI : ClassId) : va_E := .inl (cI, 5, .inl (fun _ => 0))
def stP (cI : ClassId) (x : Nat × Nat) : va_W := [(x.1, sE x.2), (x.2, aE cI)]
def bE (cO : ClassId) (f : Nat → Option Nat) : va_E := .inl (cO, 10, .inr (.inr (.inr (.inr f))))
def lpW (cI cO : ClassId) (h a b q : Nat) (L : List (Nat × Nat)) : va_W := [(h, .inr (3, [.ref a, .ref q, .int 0, .int 0])), (a, sE b), (b, aE cI), (q, bE cO (fun j => (L[j]?).map Prod.fst))] ++ L.flatMap (stP cI)
def stW (cI cO : ClassId) (h : Nat) (u : Nat × Nat × Nat × (Nat → Nat × Nat)) : va_W := [(h, .inr (3, [.ref u.1, .ref u.2.2.1, .int 0, .int 0])), (u.1, sE u.2.1), (u.2.1, aE cI), (u.2.2.1, bE cO (fun i => some (u.2.2.2 i).1))] ++ (List.range 10).flatMap (fun i => stP cI (u.2.2.2 i))
theorem lp_next {cI cO : ClassId} {h a b q x y i : Nat} {L : List (Nat × Nat)} (hi : i = L.length) : (lpW cI cO h a b q L ++ stP cI (x, y)).set 3 (q, bE cO (va_up (fun j => (L[j]?).map Prod.fst) i (some x))) = lpW cI cO h a b q (L ++ [(x, y)]) := by
  have e : va_up (fun j => (L[j]?).map Prod.fst) i (some x) = fun j => ((L ++ [(x, y)])[j]?).map Prod.fst := by
    funext j
    unfold va_up
    by_cases c : j = i
    · subst c
      subst hi
      simp
    · rw [if_neg c]
      by_cases c2 : j < L.length
      · rw [List.getElem?_append_left c2]
      · show Option.map Prod.fst L[j]? = _
        rw [List.getElem?_eq_none (Nat.le_of_not_lt c2), List.getElem?_eq_none (by simp; omega)]
  rw [e]
  unfold lpW
  rw [List.flatMap_append]
  have e2 : ([(x, y)] : List (Nat × Nat)).flatMap (stP cI) = stP cI (x, y) := by simp
  rw [e2, ← List.append_assoc]
  rfl
theorem bE_cell {cO : ClassId} {f g : Nat → Option Nat} (h : ∀ i, i < 10 → f i = g i) {a : Nat} {D : va_G} {H : Heap} (hP : va_at D vwCl (a, bE cO f) H) : va_at D vwCl (a, bE cO g) H := by
  have e : H[a]? = some (arrV cO 10 (fun j => va_rf (f j))) := hP
  show H[a]? = some (arrV cO 10 (fun j => va_rf (g j)))
  rw [e]
  congr 1
  show ({ cls := cO, slots := Array.ofFn (n := 10) fun j => va_rf (f j.val), vm := .none } : Cell) = { cls := cO, slots := Array.ofFn (n := 10) fun j => va_rf (g j.val), vm := .none }
  congr 2
  funext j
  rw [h j.1 j.2]
theorem ch_P {D : va_G} {H : Heap} {ws : va_W} {k a : Nat} {cO : ClassId} {f g : Nat → Option Nat} (hP : va_P D vwCl ws H) (hk : ws[k]? = some (a, bE cO f)) (h : ∀ i, i < 10 → f i = g i) : va_P D vwCl (ws.set k (a, bE cO g)) H := by
  intro j q hq
  by_cases c : j = k
  · subst c
    have hl := (List.getElem?_eq_some_iff.mp hk).1
    rw [List.getElem?_set_self hl] at hq
    cases hq
    exact bE_cell h (hP _ _ hk)
  · rw [List.getElem?_set_ne (Ne.symm c)] at hq
    exact hP _ _ hq
section MK2
variable {l : Launch} {y : MethodName} {cc : ByteArray} {nL mc ms : Nat} {rm : Room} {D : va_G} {tys : List (ClassId × FieldType)} {w : va_W} {av : List Value} {sz : Nat}
theorem metNp {T : Type} {W1 : T → va_W} {post : T → Prop} (hy : plainName y.cls = true) (hi : y.name = "<init>") (hn : (lg_sl av).length ≤ nL)
    (body : ∀ (p : Program) (e : Env) (s : State) (m : MethodId) (args : Array Value) (below : List Frame) (meth : Method) (c : Code) (ls : Array Slot) (A : Nat → Prop) (Q : State → Prop), CallFix p m c cc nL s args AL y.cls → meth.name = "<init>" → s.heap.size = sz → va_P D vwCl w s.heap → va_K D vwCl tys s → va_D A w → va_S A s.heap s.heap [] → (∀ q, s.heap.size ≤ q → A q) → NW s → lv_has ls nL (lv_args 0 av) → (∀ (u : T) (pc : Nat) (ls : Array Slot) (H : Heap) (locs : List Loc), post u → va_P D vwCl (W1 u) H → va_D A (W1 u) → va_S A s.heap H locs → decode cc pc = .ok (.return_, 1) → W p l e rm s m args below meth c H locs mc ms Q (F0 m pc ls [])) → W p l e rm s m args below meth c s.heap [] 0 0 Q (F0 m 0 ls [])) :
    Met l y (wm y cc nL none) rm (GPre D tys w av sz) (va_Qv post (fun u t => GAt D tys (va_A w sz) (W1 u) t) (va_A w sz)) mc ms (va_A w sz) := by
  refine Met.ofW (cc := cc) (maxL := nL) (ret := none) hy rfl ?_
  intro p e s m args below meth c s₁ B hml hv
  obtain ⟨rfl, hsz, hP, hK, hD, hN⟩ := hv
  have hr := B.returns
  have hlocks := B.notSynchronized
  have hl := lv_entry av (n := nL) hn
  rw [lg_entry_eq]
  refine body p e s m _ below meth c _ (va_A w sz) _ ⟨B.exec, B.bytes, hml, findClass_of_methodNamed B.named, wm_ts (atoms_spec (ws := wm y cc nL none) B.pre)⟩ ((name_of_methodNamed B.named B.method).1.trans hi) hsz hP hK hD.self va_S.rf (fun q h => Or.inr (by rw [← hsz]; exact h)) hN hl ?_
  intro u pc ls H locs hv hP1 hD1 hS1 hd
  exact W.vret B.exec B.bytes hr (fun t ht hW => ⟨⟨u, rfl, hv, by rw [ht]; exact hP1, va_K.moved hW.alike hK, hD1⟩, hS1.F ht⟩) hS1.2.2 hd
end MK2
section MKD
variable {p : Program} {l : Launch} {e : Env} {R : Room} {s : State} {m : MethodId} {args : Array Value} {below : List Frame} {meth : Method} {c : Code} {H : Heap} {locs : List Loc} {cells slots mc ms : Nat} {Q : State → Prop}
variable {cc : ByteArray} {pc nL : Nat} {ls : Array Slot} {rest st0 : List Value} {D : va_G} {A : Nat → Prop} {H0 : Heap} {own : String} {tys : List (ClassId × FieldType)} {w : va_W} {cI cZ cO : ClassId}
theorem nw_obj {w0 l0 : va_W} {index : Nat} (C : CallFix p m c cc nL s args AL own) (hN : NW s) (hcl : Cond.classLink own index RX4 ∈ AL) (hK : va_K D vwCl (ty3 cI cZ cO) s) (hP : va_P D vwCl (w0 ++ l0) H) (hD : va_D A (w0 ++ l0)) (hS : va_S A H0 H locs) (hA : ∀ q, H0.size ≤ q → A q)
    (hcells : cells + 1 ≤ R.cells) (hslots : slots + 10 ≤ R.slots) (hdg : decode cc pc = .ok (.anewarray index, 3))
    (kk : ∀ (q : Nat) (H1 : Heap), va_P D vwCl (w0 ++ (l0 ++ [(q, bE cO (fun _ => none))])) H1 → va_D A (w0 ++ (l0 ++ [(q, bE cO (fun _ => none))])) → va_S A H0 H1 locs → W p l e R s m args below meth c H1 locs (cells + 1) (slots + 10) Q (F0 m (pc + 3) ls (.ref q :: rest))) : W p l e R s m args below meth c H locs cells slots Q (F0 m pc ls (.int 10 :: rest)) := by
  refine va_newq (C := "WindFrontiers$Strand") C.1 C.2.1 C.2.2.2.1 (C.2.2.2.2 _ hcl) hN.2 hK hP hD hS hA (N' := 10) (by decide) (by decide) (Nat.le_of_ble_eq_true rfl) hcells hslots hdg (fun q cA H1 hK1 hP1 hD1 hS1 => ?_)
  obtain ⟨-, -, -, -, -, e1⟩ := (hK1.2 3 (cA, .object "WindFrontiers$Strand") rfl).2
  obtain ⟨-, -, -, -, -, e2⟩ := (hK.2 2 (cO, .object "WindFrontiers$Strand") rfl).2
  have e : cA = cO := Option.some.inj (e1.symm.trans e2)
  subst e
  rw [List.append_assoc] at hP1 hD1
  exact kk q H1 hP1 hD1 hS1
end MKD
theorem hv_X3_init : yX3_init.cls ≠ "java/lang/invoke/MethodHandle" ∧ yX3_init.cls ≠ "java/lang/invoke/VarHandle" ∧ (parseMethodDescriptor yX3_init.desc).map (fun d => d.parameters.length) = some 0 := by decide +kernel
theorem df_3 : ∀ j, j < 4 → defaultValue (tyX3 j) = vp_V [.null, .null, .int 0, .int 0] j
  | 0, _ => rfl
  | 1, _ => rfl
  | 2, _ => rfl
  | 3, _ => rfl
  | n + 4, h => absurd h (by omega)
set_option maxHeartbeats 4000000 in
set_option maxRecDepth 100000 in
theorem c_X3_init {l : Launch} {D : va_G} {cI cZ cO : ClassId} {w0 : va_W} {h0 : Nat} (sz : Nat) : Met l yX3_init (wm yX3_init cX3_init 2 none) ({ frames := 2, cells := 23, slots := 131, locals := 32 } : Room) (GPre D (ty3 cI cZ cO) (w0 ++ [(h0, .inr (3, [.null, .null, .int 0, .int 0]))]) [.ref h0] sz) (va_Qv (fun _ : Nat × Nat × Nat × (Nat → Nat × Nat) => True) (fun u t => GAt D (ty3 cI cZ cO) (va_A (w0 ++ [(h0, .inr (3, [.null, .null, .int 0, .int 0]))]) sz) (w0 ++ stW cI cO h0 u) t) (va_A (w0 ++ [(h0, .inr (3, [.null, .null, .int 0, .int 0]))]) sz)) 23 131 (va_A (w0 ++ [(h0, .inr (3, [.null, .null, .int 0, .int 0]))]) sz) := by
  refine metN (l := l) (D := D) (tys := ty3 cI cZ cO) (y := yX3_init) (cc := cX3_init) (nL := 2) (mc := 23) (ms := 131) (rm := ({ frames := 2, cells := 23, slots := 131, locals := 32 } : Room)) (av := [.ref h0]) (sz := sz) (w := w0 ++ [(h0, .inr (3, [.null, .null, .int 0, .int 0]))]) (W1 := fun u : Nat × Nat × Nat × (Nat → Nat × Nat) => w0 ++ stW cI cO h0 u) (by decide) (by decide) (Nat.le_of_ble_eq_true rfl) ?_
  intro p e s m args below meth c ls A Q C C_in hsz hP hK hD hS hA hN hl hret
  have hx := C.1
  have hb := C.2.1
  have hl : lv_has ls 2 [(0, .ref h0)] := hl
  refine lv_aload_n hx hb dX3_init_0 rfl (lv_at hl 0 rfl) ?_
  refine W.objInit hx hb C.2.2.2.1 (C.2.2.2.2 _ wd_1_106) (C.2.2.2.2 _ wd_1_16) (C.2.2.2.2 _ wd_1_17) rfl (by rw [C.2.2.1]; exact hl.1) rfl dX3_init_1 (Nat.le_of_ble_eq_true rfl) (Nat.le_of_ble_eq_true rfl) ?_
  refine W.eq (g2 := F0 m 4 ls []) rfl ?_
  refine lv_aload_n hx hb dX3_init_4 rfl (lv_at hl 0 rfl) ?_
  refine va_new (D := D) (ci := 4) (fs := [.int 0, .int 0, .int 0, .int 0, .int 0, .null]) (C := RX4) (T := TX4) (N := 6) hx hb C.2.2.2.2 inA4 tyX4 tyX4_ok C.2.2.2.1 (C.2.2.2.2 _ wd_1_107) (C.2.2.2.2 _ wd_1_40) (C.2.2.2.2 _ wd_1_4) hK hP hD hS hA rfl df_4 (Nat.le_of_ble_eq_true rfl) (Nat.le_of_ble_eq_true rfl) dX3_init_5 (fun q5 H hP hD hS => ?_)
  refine lv_dup hx hb dX3_init_8 rfl ?_
  refine on_n (va_runIN (host := "WindFrontiers") (As := []) (rest := [.ref q5, .ref h0]) C (c_X4_init (w0 := w0 ++ [(h0, .inr (3, [.null, .null, .int 0, .int 0]))]) (h0 := q5) H.size) ⟨va_cnB 0 C.2.2.2.2 (gd_wm (fun _ h => h) wd_1_43) rfl rfl rfl (hN.1 _ nw_3) (C.2.2.2.2 _ wd_1_4) hv_X4_init ⟨Nat.le_of_ble_eq_true rfl, Nat.le_of_ble_eq_true rfl⟩, rfl, C.2.2.2.2 _ wd_1_42⟩ ⟨GPre_blind, GPre_U hK hP hD hN⟩ rfl rfl hl.1 rfl (lv_room (Nat.le_of_ble_eq_true rfl)) dX3_init_9 ⟨Nat.le_of_ble_eq_true rfl, Nat.le_of_ble_eq_true rfl⟩) hD hS hA (fun u H locs hP hD hS => ?_)
  obtain ⟨u9_0, rfl⟩ : ∃ z, z = u := ⟨_, rfl⟩
  rw [List.append_assoc] at hP hD
  have hP : va_P D vwCl (w0 ++ [(h0, .inr (3, [.null, .null, .int 0, .int 0])), (q5, .inr (4, [.int 3, .int 3, .int 0, .int 0, .int 0, .ref u9_0])), (u9_0, .inl (cI, 5, .inl (fun _ => 0)))]) H := hP
  have hD : va_D A (w0 ++ [(h0, .inr (3, [.null, .null, .int 0, .int 0])), (q5, .inr (4, [.int 3, .int 3, .int 0, .int 0, .int 0, .ref u9_0])), (u9_0, .inl (cI, 5, .inl (fun _ => 0)))]) := hD
  refine va_putF (D := D) (ci := 3) (v := .ref q5) (ty := .object "WindFrontiers$Strand") (C := RX3) (T := TX3) (N := 4) hx hb C.2.2.2.2 inA3 tyX3 tyX3_ok nmX3 C.2.2.2.1 hK hP hD hS (w0.length + 0) ((ax_get _ _ _).trans rfl) rfl 0 (by decide) (C.2.2.2.2 _ wd_1_110) (fun _ h => h) rfl C_in rfl (by decide +kernel) rfl rfl (Nat.le_of_ble_eq_true rfl) dX3_init_12 (fun H locs hP hD hS => ?_)
  rw [ax_set] at hP hD
  have hP : va_P D vwCl (w0 ++ [(h0, .inr (3, [.ref q5, .null, .int 0, .int 0])), (q5, .inr (4, [.int 3, .int 3, .int 0, .int 0, .int 0, .ref u9_0])), (u9_0, .inl (cI, 5, .inl (fun _ => 0)))]) H := hP
  have hD : va_D A (w0 ++ [(h0, .inr (3, [.ref q5, .null, .int 0, .int 0])), (q5, .inr (4, [.int 3, .int 3, .int 0, .int 0, .int 0, .ref u9_0])), (u9_0, .inl (cI, 5, .inl (fun _ => 0)))]) := hD
  refine lv_aload_n hx hb dX3_init_15 rfl (lv_at hl 0 rfl) ?_
  refine lv_bipush (v := 10) hx hb dX3_init_16 (by decide) ?_
  refine nw_obj (l0 := [(h0, .inr (3, [.ref q5, .null, .int 0, .int 0])), (q5, .inr (4, [.int 3, .int 3, .int 0, .int 0, .int 0, .ref u9_0])), (u9_0, .inl (cI, 5, .inl (fun _ => 0)))]) C hN wd_1_107 hK hP hD hS hA (Nat.le_of_ble_eq_true rfl) (Nat.le_of_ble_eq_true rfl) dX3_init_18 (fun q18 H hP hD hS => ?_)
  have hP : va_P D vwCl (w0 ++ [(h0, .inr (3, [.ref q5, .null, .int 0, .int 0])), (q5, .inr (4, [.int 3, .int 3, .int 0, .int 0, .int 0, .ref u9_0])), (u9_0, .inl (cI, 5, .inl (fun _ => 0))), (q18, bE cO (fun _ => none))]) H := hP
  have hD : va_D A (w0 ++ [(h0, .inr (3, [.ref q5, .null, .int 0, .int 0])), (q5, .inr (4, [.int 3, .int 3, .int 0, .int 0, .int 0, .ref u9_0])), (u9_0, .inl (cI, 5, .inl (fun _ => 0))), (q18, bE cO (fun _ => none))]) := hD
  refine va_putF (D := D) (ci := 3) (v := .ref q18) (ty := .array (.object "WindFrontiers$Strand")) (C := RX3) (T := TX3) (N := 4) hx hb C.2.2.2.2 inA3 tyX3 tyX3_ok nmX3 C.2.2.2.1 hK hP hD hS (w0.length + 0) ((ax_get _ _ _).trans rfl) rfl 1 (by decide) (C.2.2.2.2 _ wd_1_112) (fun _ h => h) rfl C_in rfl (by decide +kernel) rfl rfl (Nat.le_of_ble_eq_true rfl) dX3_init_21 (fun H locs hP hD hS => ?_)
  rw [ax_set] at hP hD
  have hP : va_P D vwCl (w0 ++ [(h0, .inr (3, [.ref q5, .ref q18, .int 0, .int 0])), (q5, .inr (4, [.int 3, .int 3, .int 0, .int 0, .int 0, .ref u9_0])), (u9_0, .inl (cI, 5, .inl (fun _ => 0))), (q18, bE cO (fun _ => none))]) H := hP
  have hD : va_D A (w0 ++ [(h0, .inr (3, [.ref q5, .ref q18, .int 0, .int 0])), (q5, .inr (4, [.int 3, .int 3, .int 0, .int 0, .int 0, .ref u9_0])), (u9_0, .inl (cI, 5, .inl (fun _ => 0))), (q18, bE cO (fun _ => none))]) := hD
  have hP : va_P D vwCl (w0 ++ lpW cI cO h0 q5 u9_0 q18 []) H := hP
  have hD : va_D A (w0 ++ lpW cI cO h0 q5 u9_0 q18 []) := hD
  refine lv_iconst (v := 0) hx hb dX3_init_24 (by decide) ?_
  refine lv_istore_n (lv' := [(1, .int 0), (0, .ref h0)]) hx hb dX3_init_25 rfl hl (by decide) rfl (fun ls hl => ?_)
  have LP : ∀ (k : Nat) (L : List (Nat × Nat)) (ls : Array Slot) (H : Heap) (locs : List Loc), L.length + k = 10 → lv_has ls 2 [(1, .int (nI L.length)), (0, .ref h0)] → va_P D vwCl (w0 ++ lpW cI cO h0 q5 u9_0 q18 L) H → va_D A (w0 ++ lpW cI cO h0 q5 u9_0 q18 L) → va_S A s.heap H locs → W p l e ({ frames := 2, cells := 23, slots := 131, locals := 32 } : Room) s m args below meth c H locs (3 + 2 * L.length) (21 + 11 * L.length) Q (F0 m 26 ls []) := by
    intro k
    induction k with
    | zero =>
      intro L ls H locs hL hl hP hD hS
      refine lv_iload_n hx hb dX3_init_26 rfl (lv_at hl 0 rfl) ?_
      refine lv_aload_n hx hb dX3_init_27 rfl (lv_at hl 1 rfl) ?_
      refine va_get (D := D) (ci := 3) (v := .ref q18) (C := RX3) (T := TX3) (N := 4) hx hb C.2.2.2.2 inA3 C.2.2.2.1 hK hP (w0.length + 0) ((ax_get _ _ _).trans rfl) rfl 1 (by decide) (C.2.2.2.2 _ wd_1_112) (fun _ h => h) rfl dX3_init_28 ?_
      refine va_alen (v := 10) hx hb hK hP (w0.length + 3) 2 ((ax_get _ _ _).trans rfl) rfl rfl dX3_init_31 ?_
      refine lv_icmp_ge (tgt := 54) hx hb dX3_init_32 (by decide) (fun c1 => ?_) (fun c1 => ?_)
      · have hLL : L.length = 10 := hL
        obtain ⟨f, hf⟩ : ∃ f : Nat → Nat × Nat, f = fun i => L.getD i (0, 0) := ⟨_, rfl⟩
        have e1 : L = (List.range 10).map f := by
          apply List.ext_getElem?
          intro i
          by_cases hi : i < 10
          · rw [List.getElem?_map, List.getElem?_range hi, hf, List.getElem?_eq_getElem (by omega)]
            simp [hLL, hi]
          · rw [List.getElem?_eq_none (by omega), List.getElem?_eq_none (by simp; omega)]
        have hP1 := ch_P (g := fun i => some (f i).1) hP (k := w0.length + 3) ((ax_get _ _ _).trans rfl) (fun i hi => by rw [e1, List.getElem?_map, List.getElem?_range hi]; rfl)
        have hD1 := hD.set (p := w0.length + 3) (e := bE cO (fun i => some (f i).1)) ((ax_get _ _ _).trans rfl)
        rw [ax_set] at hP1 hD1
        have e2 : (lpW cI cO h0 q5 u9_0 q18 L).set 3 (q18, bE cO (fun i => some (f i).1)) = stW cI cO h0 (q5, u9_0, q18, f) := by
          unfold lpW stW
          have e3 : L.flatMap (stP cI) = (List.range 10).flatMap (fun i => stP cI (f i)) := by rw [e1, List.flatMap_map]
          rw [e3]
          rfl
        rw [e2] at hP1 hD1
        refine W.widen (k := 23) (n := 131) (by omega) (by omega) ?_
        exact hret (q5, u9_0, q18, f) _ _ _ _ hP1 hD1 hS dX3_init_54
      · exact absurd (show (10 : Int32) ≤ nI L.length by rw [show L.length = 10 from hL]; decide) c1
    | succ k ih =>
      intro L ls H locs hL hl hP hD hS
      refine lv_iload_n hx hb dX3_init_26 rfl (lv_at hl 0 rfl) ?_
      refine lv_aload_n hx hb dX3_init_27 rfl (lv_at hl 1 rfl) ?_
      refine va_get (D := D) (ci := 3) (v := .ref q18) (C := RX3) (T := TX3) (N := 4) hx hb C.2.2.2.2 inA3 C.2.2.2.1 hK hP (w0.length + 0) ((ax_get _ _ _).trans rfl) rfl 1 (by decide) (C.2.2.2.2 _ wd_1_112) (fun _ h => h) rfl dX3_init_28 ?_
      refine va_alen (v := 10) hx hb hK hP (w0.length + 3) 2 ((ax_get _ _ _).trans rfl) rfl rfl dX3_init_31 ?_
      refine lv_icmp_ge (tgt := 54) hx hb dX3_init_32 (by decide) (fun c1 => ?_) (fun c1 => ?_)
      · exact absurd (show (10 : Int32) ≤ nI L.length from c1) (by rw [Int32.le_iff_toInt_le, nI_toI (by omega)]; show ¬ (10 : Int) ≤ _; omega)
      · refine lv_aload_n hx hb dX3_init_35 rfl (lv_at hl 1 rfl) ?_
        refine va_get (D := D) (ci := 3) (v := .ref q18) (C := RX3) (T := TX3) (N := 4) hx hb C.2.2.2.2 inA3 C.2.2.2.1 hK hP (w0.length + 0) ((ax_get _ _ _).trans rfl) rfl 1 (by decide) (C.2.2.2.2 _ wd_1_112) (fun _ h => h) rfl dX3_init_36 ?_
        refine lv_iload_n hx hb dX3_init_39 rfl (lv_at hl 0 rfl) ?_
        refine va_new (D := D) (ci := 4) (fs := [.int 0, .int 0, .int 0, .int 0, .int 0, .null]) (C := RX4) (T := TX4) (N := 6) hx hb C.2.2.2.2 inA4 tyX4 tyX4_ok C.2.2.2.1 (C.2.2.2.2 _ wd_1_107) (C.2.2.2.2 _ wd_1_40) (C.2.2.2.2 _ wd_1_4) hK hP hD hS hA rfl df_4 (show 3 + 2 * L.length + 1 ≤ 23 by omega) (show 21 + 11 * L.length + 6 ≤ 131 by omega) dX3_init_40 (fun q40 H hP hD hS => ?_)
        refine lv_dup hx hb dX3_init_43 rfl ?_
        refine on_n (va_runIN (host := "WindFrontiers") (As := []) (rest := [.ref q40, .int (nI L.length), .ref q18]) C (c_X4_init (w0 := w0 ++ lpW cI cO h0 q5 u9_0 q18 L) (h0 := q40) H.size) ⟨va_cnB 0 C.2.2.2.2 (gd_wm (fun _ h => h) wd_1_43) rfl rfl rfl (hN.1 _ nw_3) (C.2.2.2.2 _ wd_1_4) hv_X4_init ⟨Nat.le_of_ble_eq_true rfl, Nat.le_of_ble_eq_true rfl⟩, rfl, C.2.2.2.2 _ wd_1_42⟩ ⟨GPre_blind, GPre_U hK hP hD hN⟩ rfl rfl hl.1 rfl (lv_room (Nat.le_of_ble_eq_true rfl)) dX3_init_44 ⟨show 3 + 2 * L.length + 1 + 1 ≤ 23 by omega, show 21 + 11 * L.length + 6 + 5 ≤ 131 by omega⟩) hD hS hA (fun u H locs hP hD hS => ?_)
        have hP : va_P D vwCl ((w0 ++ lpW cI cO h0 q5 u9_0 q18 L) ++ stP cI (q40, u)) H := hP
        have hD : va_D A ((w0 ++ lpW cI cO h0 q5 u9_0 q18 L) ++ stP cI (q40, u)) := hD
        have g0 : ((w0 ++ lpW cI cO h0 q5 u9_0 q18 L) ++ stP cI (q40, u))[w0.length + 3]? = some (q18, bE cO (fun j => (L[j]?).map Prod.fst)) := by rw [List.append_assoc]; exact (ax_get _ _ _).trans rfl
        have g1 : ((w0 ++ lpW cI cO h0 q5 u9_0 q18 L) ++ stP cI (q40, u))[(w0 ++ lpW cI cO h0 q5 u9_0 q18 L).length + 0]? = some (q40, sE u) := (ax_get _ _ _).trans rfl
        have hcl : (nI L.length).toNatClampNeg = L.length := nI_clamp (by omega)
        refine va_astq (D := D) (cl := vwCl) (r := (RX4, TX4, 6)) hx hb hK hP hD hS (w0.length + 3) 2 ((w0 ++ lpW cI cO h0 q5 u9_0 q18 L).length + 0) 4 g0 rfl g1 rfl (ix_of (by rw [nI_toI (by omega)]; omega) (by rw [nI_toI (by omega)]; omega)) dX3_init_47 (fun H locs hP hD hS => ?_)
        have e5 : (((w0 ++ lpW cI cO h0 q5 u9_0 q18 L) ++ stP cI (q40, u)).set (w0.length + 3) (q18, .inl (cO, 10, .inr (.inr (.inr (.inr (va_up (fun j => (L[j]?).map Prod.fst) (nI L.length).toNatClampNeg (some q40)))))))) = w0 ++ lpW cI cO h0 q5 u9_0 q18 (L ++ [(q40, u)]) := by rw [List.append_assoc, ax_set]; exact congrArg _ (lp_next hcl)
        rw [e5] at hP hD
        refine lv_iinc (v := nI L.length + 1) (lv' := [(1, .int (nI L.length + 1)), (0, .ref h0)]) hx hb dX3_init_48 hl (k := 0) rfl rfl (by decide) rfl (fun ls hl => ?_)
        refine lv_goto (tgt := 26) hx hb dX3_init_51 (by decide) ?_
        have el : (L ++ [(q40, u)]).length = L.length + 1 := by simp
        refine W.widen (k := 3 + 2 * (L ++ [(q40, u)]).length) (n := 21 + 11 * (L ++ [(q40, u)]).length) (by omega) (by omega) ?_
        exact ih (L ++ [(q40, u)]) ls H locs (by omega) (by rw [el, nI_succ]; exact hl) hP hD hS
  exact LP 10 [] ls H locs rfl hl hP hD hS
