theorem hv_X4_heldBy : yX4_heldBy.cls = RX4 ∧ yX4_heldBy.cls ≠ "java/lang/invoke/MethodHandle" ∧ yX4_heldBy.cls ≠ "java/lang/invoke/VarHandle" ∧ (parseMethodDescriptor yX4_heldBy.desc).map (fun d => d.parameters.length) = some 1 := by decide +kernel
theorem hd_X4_heldBy : yX4_heldBy.cls ≠ "java/lang/invoke/MethodHandle" ∧ yX4_heldBy.cls ≠ "java/lang/invoke/VarHandle" ∧ (parseMethodDescriptor yX4_heldBy.desc).map (fun d => d.parameters.length) = some 1 := hv_X4_heldBy.2
def sp_X4_heldBy (Hd : Nat → Nat → Int32) (k : Nat) (x1 : Int32) : Int32 :=
  if x1 < 0 then (0 : Int32) else (if (5 : Int32) ≤ x1 then (0 : Int32) else (Hd k x1.toNatClampNeg))
theorem sp_X4_heldBy_s (Hd : Nat → Nat → Int32) (k : Nat) (x1 : Int32) : (if x1 < 0 then (0 : Int32) else (if (5 : Int32) ≤ x1 then (0 : Int32) else (Hd k x1.toNatClampNeg))) = sp_X4_heldBy Hd k x1 := rfl
set_option maxHeartbeats 4000000 in
set_option maxRecDepth 100000 in
theorem c_X4_heldBy {l : Launch} {D : va_G} {cI cZ cO : ClassId} {sk : Nat → Nat} {g tb : Nat → Int32} {V Hd : Nat → Nat → Int32} {tr : Int64} {k : Nat} {x1 : Int32} (hk : k < 34) (sz : Nat) : Met l yX4_heldBy (wm yX4_heldBy cX4_heldBy 2 (some .int)) ({ frames := 0, cells := 0, slots := 0, locals := 0 } : Room) (GPre D (ty3 cI cZ cO) (WW cI cO sk g tb V Hd tr) [.ref (sk (20 + 2 * k)), .int x1] sz) (vp_Si (fun r => r = sp_X4_heldBy Hd k x1)) 0 0 (fun _ => False) := by
  refine metP_i (post := (fun r => r = sp_X4_heldBy Hd k x1)) (by decide) (Nat.le_of_ble_eq_true rfl) ?_
  intro p e s m args below meth c ls Q C hsz hP hK hD hN hl hret
  have hx := C.1
  have hb := C.2.1
  have hl : lv_has ls 2 [(0, .ref (sk (20 + 2 * k))), (1, .int x1)] := hl
  have hT := sp_X4_heldBy_s Hd k x1
  refine lv_iload_n hx hb dX4_heldBy_0 rfl (lv_at hl 1 rfl) ?_
  refine lv_if_lt (tgt := 22) hx hb dX4_heldBy_1 (by decide) (fun c_1 => ?_) (fun c_1 => ?_)
  · have hT := it_t c_1 hT
    refine lv_iconst (v := 0) hx hb dX4_heldBy_22 (by decide) ?_
    exact hret _ _ _ hT dX4_heldBy_23
  · have hT := it_f c_1 hT
    refine lv_iload_n hx hb dX4_heldBy_4 rfl (lv_at hl 1 rfl) ?_
    refine lv_aload_n hx hb dX4_heldBy_5 rfl (lv_at hl 0 rfl) ?_
    refine gX4_held C hK hP hk wd_1_60 dX4_heldBy_6 ?_
    refine lX_held C hK hP hk dX4_heldBy_9 ?_
    refine lv_icmp_ge (tgt := 22) hx hb dX4_heldBy_10 (by decide) (fun c_2 => ?_) (fun c_2 => ?_)
    · have hT := it_t c_2 hT
      refine lv_iconst (v := 0) hx hb dX4_heldBy_22 (by decide) ?_
      exact hret _ _ _ hT dX4_heldBy_23
    · have hT := it_f c_2 hT
      refine lv_aload_n hx hb dX4_heldBy_13 rfl (lv_at hl 0 rfl) ?_
      refine gX4_held C hK hP hk wd_1_60 dX4_heldBy_14 ?_
      refine lv_iload_n hx hb dX4_heldBy_17 rfl (lv_at hl 1 rfl) ?_
      refine aX_held C hK hP hk (ix_ng_nle c_1 c_2) dX4_heldBy_18 ?_
      refine lv_goto (tgt := 23) hx hb dX4_heldBy_19 (by decide) ?_
      exact hret _ _ _ hT dX4_heldBy_23
theorem hv_X4_rowOf : yX4_rowOf.cls = RX4 ∧ yX4_rowOf.cls ≠ "java/lang/invoke/MethodHandle" ∧ yX4_rowOf.cls ≠ "java/lang/invoke/VarHandle" ∧ (parseMethodDescriptor yX4_rowOf.desc).map (fun d => d.parameters.length) = some 1 := by decide +kernel
theorem hd_X4_rowOf : yX4_rowOf.cls ≠ "java/lang/invoke/MethodHandle" ∧ yX4_rowOf.cls ≠ "java/lang/invoke/VarHandle" ∧ (parseMethodDescriptor yX4_rowOf.desc).map (fun d => d.parameters.length) = some 1 := hv_X4_rowOf.2
def sp_X4_rowOf (V : Nat → Nat → Int32) (k : Nat) (x1 : Int32) : Int32 :=
  (((1 : Int32) <<< ((V k 0) &&& 31)) - (1 : Int32)) <<< (((5 : Int32) * x1) &&& 31)
theorem sp_X4_rowOf_s (V : Nat → Nat → Int32) (k : Nat) (x1 : Int32) : ((((1 : Int32) <<< ((V k 0) &&& 31)) - (1 : Int32)) <<< (((5 : Int32) * x1) &&& 31)) = sp_X4_rowOf V k x1 := rfl
set_option maxHeartbeats 4000000 in
set_option maxRecDepth 100000 in
theorem c_X4_rowOf {l : Launch} {D : va_G} {cI cZ cO : ClassId} {sk : Nat → Nat} {g tb : Nat → Int32} {V Hd : Nat → Nat → Int32} {tr : Int64} {k : Nat} {x1 : Int32} (hk : k < 34) (sz : Nat) : Met l yX4_rowOf (wm yX4_rowOf cX4_rowOf 2 (some .int)) ({ frames := 0, cells := 0, slots := 0, locals := 0 } : Room) (GPre D (ty3 cI cZ cO) (WW cI cO sk g tb V Hd tr) [.ref (sk (20 + 2 * k)), .int x1] sz) (vp_Si (fun r => r = sp_X4_rowOf V k x1)) 0 0 (fun _ => False) := by
  refine metP_i (post := (fun r => r = sp_X4_rowOf V k x1)) (by decide) (Nat.le_of_ble_eq_true rfl) ?_
  intro p e s m args below meth c ls Q C hsz hP hK hD hN hl hret
  have hx := C.1
  have hb := C.2.1
  have hl : lv_has ls 2 [(0, .ref (sk (20 + 2 * k))), (1, .int x1)] := hl
  have hT := sp_X4_rowOf_s V k x1
  refine lv_iconst (v := 1) hx hb dX4_rowOf_0 (by decide) ?_
  refine lv_aload_n hx hb dX4_rowOf_1 rfl (lv_at hl 0 rfl) ?_
  refine gX4_wide C hK hP hk wd_1_45 dX4_rowOf_2 ?_
  refine lv_ishl hx hb dX4_rowOf_5 ?_
  refine lv_iconst (v := 1) hx hb dX4_rowOf_6 (by decide) ?_
  refine lv_isub hx hb dX4_rowOf_7 ?_
  refine lv_iconst (v := 5) hx hb dX4_rowOf_8 (by decide) ?_
  refine lv_iload_n hx hb dX4_rowOf_9 rfl (lv_at hl 1 rfl) ?_
  refine lv_imul hx hb dX4_rowOf_10 ?_
  refine lv_ishl hx hb dX4_rowOf_11 ?_
  exact hret _ _ _ hT dX4_rowOf_12
theorem hv_X4_cellsFrom : yX4_cellsFrom.cls = RX4 ∧ yX4_cellsFrom.cls ≠ "java/lang/invoke/MethodHandle" ∧ yX4_cellsFrom.cls ≠ "java/lang/invoke/VarHandle" ∧ (parseMethodDescriptor yX4_cellsFrom.desc).map (fun d => d.parameters.length) = some 1 := by decide +kernel
theorem hd_X4_cellsFrom : yX4_cellsFrom.cls ≠ "java/lang/invoke/MethodHandle" ∧ yX4_cellsFrom.cls ≠ "java/lang/invoke/VarHandle" ∧ (parseMethodDescriptor yX4_cellsFrom.desc).map (fun d => d.parameters.length) = some 1 := hv_X4_cellsFrom.2
def lp_X4_cellsFrom_4 (V : Nat → Nat → Int32) (k : Nat) : Nat → Int32 → Int32 → Int32
  | 0, y_1, y_2 => y_1
  | n + 1, y_1, y_2 => if (V k 1) ≤ y_2 then y_1 else (nm (sp_X4_rowOf V k y_2) (fun r_5 => lp_X4_cellsFrom_4 V k n (y_1 ||| r_5) (y_2 + 1)))
theorem lp_X4_cellsFrom_4_s (V : Nat → Nat → Int32) (k : Nat) (n : Nat) (y_1 : Int32) (y_2 : Int32) : (if (V k 1) ≤ y_2 then y_1 else (nm (sp_X4_rowOf V k y_2) (fun r_5 => lp_X4_cellsFrom_4 V k n (y_1 ||| r_5) (y_2 + 1)))) = lp_X4_cellsFrom_4 V k (n + 1) y_1 y_2 := rfl
def sp_X4_cellsFrom (V : Nat → Nat → Int32) (k : Nat) (x1 : Int32) : Int32 :=
  nm (lp_X4_cellsFrom_4 V k (((V k 1).toInt - x1.toInt).toNat + 1) (0 : Int32) x1) (fun e_3 => e_3)
theorem sp_X4_cellsFrom_s (V : Nat → Nat → Int32) (k : Nat) (x1 : Int32) : (nm (lp_X4_cellsFrom_4 V k (((V k 1).toInt - x1.toInt).toNat + 1) (0 : Int32) x1) (fun e_3 => e_3)) = sp_X4_cellsFrom V k x1 := rfl
set_option maxHeartbeats 4000000 in
set_option maxRecDepth 100000 in
theorem c_X4_cellsFrom {l : Launch} {D : va_G} {cI cZ cO : ClassId} {sk : Nat → Nat} {g tb : Nat → Int32} {V Hd : Nat → Nat → Int32} {tr : Int64} {k : Nat} {x1 : Int32} (hk : k < 34) (sz : Nat) : Met l yX4_cellsFrom (wm yX4_cellsFrom cX4_cellsFrom 4 (some .int)) ({ frames := 1, cells := 0, slots := 0, locals := 21 } : Room) (GPre D (ty3 cI cZ cO) (WW cI cO sk g tb V Hd tr) [.ref (sk (20 + 2 * k)), .int x1] sz) (vp_Si (fun r => r = sp_X4_cellsFrom V k x1)) 0 0 (fun _ => False) := by
  refine metP_i (post := (fun r => r = sp_X4_cellsFrom V k x1)) (by decide) (Nat.le_of_ble_eq_true rfl) ?_
  intro p e s m args below meth c ls Q C hsz hP hK hD hN hl hret
  have hx := C.1
  have hb := C.2.1
  have hl : lv_has ls 4 [(0, .ref (sk (20 + 2 * k))), (1, .int x1)] := hl
  have hT := sp_X4_cellsFrom_s V k x1
  refine lv_iconst (v := 0) hx hb dX4_cellsFrom_0 (by decide) ?_
  refine lv_istore_n (lv' := [(2, .int (0 : Int32)), (0, .ref (sk (20 + 2 * k))), (1, .int x1)]) hx hb dX4_cellsFrom_1 rfl hl (by decide) rfl (fun ls hl => ?_)
  refine lv_iload_n hx hb dX4_cellsFrom_2 rfl (lv_at hl 2 rfl) ?_
  refine lv_istore_n (lv' := [(3, .int x1), (2, .int (0 : Int32)), (0, .ref (sk (20 + 2 * k))), (1, .int x1)]) hx hb dX4_cellsFrom_3 rfl hl (by decide) rfl (fun ls hl => ?_)
  have L_4 : ∀ (n : Nat) (ls : Array Slot) (y_1 : Int32) (y_2 : Int32) (hm : ((V k 1).toInt - y_2.toInt).toNat < n) (hl : lv_has ls 4 [(0, .ref (sk (20 + 2 * k))), (2, .int y_1), (3, .int y_2)]) (kont : ∀ (ls : Array Slot) (e_3 : Int32), lv_has ls 4 [(2, .int e_3)] → e_3 = lp_X4_cellsFrom_4 V k n y_1 y_2 → W p l e ({ frames := 1, cells := 0, slots := 0, locals := 21 } : Room) s m args below meth c s.heap [] 0 0 Q (F0 m 26 ls [])), W p l e ({ frames := 1, cells := 0, slots := 0, locals := 21 } : Room) s m args below meth c s.heap [] 0 0 Q (F0 m 4 ls []) := by
    intro n
    induction n with
    | zero => intro ls y_1 y_2 hm; exact absurd hm (Nat.not_lt_zero _)
    | succ n ih =>
      intro ls y_1 y_2 hm hl kont
      have hT := lp_X4_cellsFrom_4_s V k n y_1 y_2
      refine lv_iload_n hx hb dX4_cellsFrom_4 rfl (lv_at hl 2 rfl) ?_
      refine lv_aload_n hx hb dX4_cellsFrom_5 rfl (lv_at hl 0 rfl) ?_
      refine gX4_rows C hK hP hk wd_1_48 dX4_cellsFrom_6 ?_
      refine lv_icmp_ge (tgt := 26) hx hb dX4_cellsFrom_9 (by decide) (fun c_4 => ?_) (fun c_4 => ?_)
      · have hT := it_t c_4 hT
        exact kont ls y_1 (lv_sub hl [1] rfl) hT
      · have hT := it_f c_4 hT
        refine lv_iload_n hx hb dX4_cellsFrom_12 rfl (lv_at hl 1 rfl) ?_
        refine lv_aload_n hx hb dX4_cellsFrom_13 rfl (lv_at hl 0 rfl) ?_
        refine lv_iload_n hx hb dX4_cellsFrom_14 rfl (lv_at hl 2 rfl) ?_
        refine vp_callSi (run_vP (As := [.int y_2]) (rest := [.int y_1]) C hK hP hD hN (c_X4_rowOf hk _) (rX4_r hK hP hk) ⟨wd_2_66, wd_2_68, ws_10, wd_1_4, wd_2_69⟩ ⟨rfl, rfl⟩ hv_X4_rowOf ⟨Nat.le_of_ble_eq_true rfl, Nat.le_of_ble_eq_true rfl⟩ rfl hl.1 rfl (Nat.le_of_ble_eq_true rfl) dX4_cellsFrom_15 ⟨Nat.zero_le _, Nat.zero_le _⟩) (fun r_5 hr_5 => ?_)
        have hT := nm_u hr_5 hT
        refine lv_ior hx hb dX4_cellsFrom_18 ?_
        refine lv_istore_n (lv' := [(2, .int (y_1 ||| r_5)), (0, .ref (sk (20 + 2 * k))), (3, .int y_2)]) hx hb dX4_cellsFrom_19 rfl hl (by decide) rfl (fun ls hl => ?_)
        refine lv_iinc (v := y_2 + 1) (lv' := [(3, .int (y_2 + 1)), (2, .int (y_1 ||| r_5)), (0, .ref (sk (20 + 2 * k)))]) hx hb dX4_cellsFrom_20 hl (k := 2) rfl rfl (by decide) rfl (fun ls hl => ?_)
        refine lv_goto (tgt := 4) hx hb dX4_cellsFrom_23 (by decide) ?_
        exact ih ls (y_1 ||| r_5) (y_2 + 1) (ms_up c_4 hm) (lv_sub hl [2, 1, 0] rfl) (fun ls z0 hl he => kont ls z0 hl (he.trans hT))
  refine L_4 (((V k 1).toInt - x1.toInt).toNat + 1) ls (0 : Int32) x1 (Nat.lt_succ_self _) (lv_sub hl [2, 1, 0] rfl) (fun ls e_3 hl he => ?_)
  have hT := nm_u he hT
  refine lv_iload_n hx hb dX4_cellsFrom_26 rfl (lv_at hl 0 rfl) ?_
  exact hret _ _ _ hT dX4_cellsFrom_27
theorem hv_X4_dryCells : yX4_dryCells.cls = RX4 ∧ yX4_dryCells.cls ≠ "java/lang/invoke/MethodHandle" ∧ yX4_dryCells.cls ≠ "java/lang/invoke/VarHandle" ∧ (parseMethodDescriptor yX4_dryCells.desc).map (fun d => d.parameters.length) = some 0 := by decide +kernel
theorem hd_X4_dryCells : yX4_dryCells.cls ≠ "java/lang/invoke/MethodHandle" ∧ yX4_dryCells.cls ≠ "java/lang/invoke/VarHandle" ∧ (parseMethodDescriptor yX4_dryCells.desc).map (fun d => d.parameters.length) = some 0 := hv_X4_dryCells.2
def sp_X4_dryCells (V : Nat → Nat → Int32) (k : Nat) : Int32 :=
  nm (sp_X4_cellsFrom V k (V k 4)) (fun r_1 => r_1)
theorem sp_X4_dryCells_s (V : Nat → Nat → Int32) (k : Nat) : (nm (sp_X4_cellsFrom V k (V k 4)) (fun r_1 => r_1)) = sp_X4_dryCells V k := rfl
set_option maxHeartbeats 4000000 in
set_option maxRecDepth 100000 in
theorem c_X4_dryCells {l : Launch} {D : va_G} {cI cZ cO : ClassId} {sk : Nat → Nat} {g tb : Nat → Int32} {V Hd : Nat → Nat → Int32} {tr : Int64} {k : Nat} (hk : k < 34) (sz : Nat) : Met l yX4_dryCells (wm yX4_dryCells cX4_dryCells 1 (some .int)) ({ frames := 2, cells := 0, slots := 0, locals := 44 } : Room) (GPre D (ty3 cI cZ cO) (WW cI cO sk g tb V Hd tr) [.ref (sk (20 + 2 * k))] sz) (vp_Si (fun r => r = sp_X4_dryCells V k)) 0 0 (fun _ => False) := by
  refine metP_i (post := (fun r => r = sp_X4_dryCells V k)) (by decide) (Nat.le_of_ble_eq_true rfl) ?_
  intro p e s m args below meth c ls Q C hsz hP hK hD hN hl hret
  have hx := C.1
  have hb := C.2.1
  have hl : lv_has ls 1 [(0, .ref (sk (20 + 2 * k)))] := hl
  have hT := sp_X4_dryCells_s V k
  refine lv_aload_n hx hb dX4_dryCells_0 rfl (lv_at hl 0 rfl) ?_
  refine lv_aload_n hx hb dX4_dryCells_1 rfl (lv_at hl 0 rfl) ?_
  refine gX4_tide C hK hP hk wd_1_57 dX4_dryCells_2 ?_
  refine vp_callSi (run_vP (As := [.int (V k 4)]) (rest := []) C hK hP hD hN (c_X4_cellsFrom hk _) (rX4_r hK hP hk) ⟨wd_2_62, wd_2_64, ws_9, wd_1_4, wd_2_65⟩ ⟨rfl, rfl⟩ hv_X4_cellsFrom ⟨Nat.le_of_ble_eq_true rfl, Nat.le_of_ble_eq_true rfl⟩ rfl hl.1 rfl (Nat.le_of_ble_eq_true rfl) dX4_dryCells_5 ⟨Nat.zero_le _, Nat.zero_le _⟩) (fun r_1 hr_1 => ?_)
  have hT := nm_u hr_1 hT
  exact hret _ _ _ hT dX4_dryCells_8
theorem hv_X4_bareCells : yX4_bareCells.cls = RX4 ∧ yX4_bareCells.cls ≠ "java/lang/invoke/MethodHandle" ∧ yX4_bareCells.cls ≠ "java/lang/invoke/VarHandle" ∧ (parseMethodDescriptor yX4_bareCells.desc).map (fun d => d.parameters.length) = some 0 := by decide +kernel
theorem hd_X4_bareCells : yX4_bareCells.cls ≠ "java/lang/invoke/MethodHandle" ∧ yX4_bareCells.cls ≠ "java/lang/invoke/VarHandle" ∧ (parseMethodDescriptor yX4_bareCells.desc).map (fun d => d.parameters.length) = some 0 := hv_X4_bareCells.2
def sp_X4_bareCells (V : Nat → Nat → Int32) (k : Nat) : Int32 :=
  nm (sp_X4_dryCells V k) (fun r_1 => r_1 &&& ((V k 2) ^^^ (-1 : Int32)))
theorem sp_X4_bareCells_s (V : Nat → Nat → Int32) (k : Nat) : (nm (sp_X4_dryCells V k) (fun r_1 => r_1 &&& ((V k 2) ^^^ (-1 : Int32)))) = sp_X4_bareCells V k := rfl
set_option maxHeartbeats 4000000 in
set_option maxRecDepth 100000 in
theorem c_X4_bareCells {l : Launch} {D : va_G} {cI cZ cO : ClassId} {sk : Nat → Nat} {g tb : Nat → Int32} {V Hd : Nat → Nat → Int32} {tr : Int64} {k : Nat} (hk : k < 34) (sz : Nat) : Met l yX4_bareCells (wm yX4_bareCells cX4_bareCells 1 (some .int)) ({ frames := 3, cells := 0, slots := 0, locals := 64 } : Room) (GPre D (ty3 cI cZ cO) (WW cI cO sk g tb V Hd tr) [.ref (sk (20 + 2 * k))] sz) (vp_Si (fun r => r = sp_X4_bareCells V k)) 0 0 (fun _ => False) := by
  refine metP_i (post := (fun r => r = sp_X4_bareCells V k)) (by decide) (Nat.le_of_ble_eq_true rfl) ?_
  intro p e s m args below meth c ls Q C hsz hP hK hD hN hl hret
  have hx := C.1
  have hb := C.2.1
  have hl : lv_has ls 1 [(0, .ref (sk (20 + 2 * k)))] := hl
  have hT := sp_X4_bareCells_s V k
  refine lv_aload_n hx hb dX4_bareCells_0 rfl (lv_at hl 0 rfl) ?_
  refine vp_callSi (run_vP (As := []) (rest := []) C hK hP hD hN (c_X4_dryCells hk _) (rX4_r hK hP hk) ⟨wd_2_86, wd_2_59, wd_2_60, wd_1_4, wd_2_61⟩ ⟨rfl, rfl⟩ hv_X4_dryCells ⟨Nat.le_of_ble_eq_true rfl, Nat.le_of_ble_eq_true rfl⟩ rfl hl.1 rfl (Nat.le_of_ble_eq_true rfl) dX4_bareCells_1 ⟨Nat.zero_le _, Nat.zero_le _⟩) (fun r_1 hr_1 => ?_)
  have hT := nm_u hr_1 hT
  refine lv_aload_n hx hb dX4_bareCells_4 rfl (lv_at hl 0 rfl) ?_
  refine gX4_cloth C hK hP hk wd_1_51 dX4_bareCells_5 ?_
  refine lv_iconst (v := -1) hx hb dX4_bareCells_8 (by decide) ?_
  refine lv_ixor hx hb dX4_bareCells_9 ?_
  refine lv_iand hx hb dX4_bareCells_10 ?_
  exact hret _ _ _ hT dX4_bareCells_11
theorem hv_X4_isCell : yX4_isCell.cls = RX4 ∧ yX4_isCell.cls ≠ "java/lang/invoke/MethodHandle" ∧ yX4_isCell.cls ≠ "java/lang/invoke/VarHandle" ∧ (parseMethodDescriptor yX4_isCell.desc).map (fun d => d.parameters.length) = some 2 := by decide +kernel
theorem hd_X4_isCell : yX4_isCell.cls ≠ "java/lang/invoke/MethodHandle" ∧ yX4_isCell.cls ≠ "java/lang/invoke/VarHandle" ∧ (parseMethodDescriptor yX4_isCell.desc).map (fun d => d.parameters.length) = some 2 := hv_X4_isCell.2
def sp_X4_isCell (V : Nat → Nat → Int32) (k : Nat) (x1 : Int32) (x2 : Int32) : Int32 :=
  nm (sp_X6_isWithin x1 ((V k 0) - (1 : Int32))) (fun r_1 => if r_1 = 0 then (0 : Int32) else (nm (sp_X6_isWithin x2 ((V k 1) - (1 : Int32))) (fun r_3 => if r_3 = 0 then (0 : Int32) else (1 : Int32))))
theorem sp_X4_isCell_s (V : Nat → Nat → Int32) (k : Nat) (x1 : Int32) (x2 : Int32) : (nm (sp_X6_isWithin x1 ((V k 0) - (1 : Int32))) (fun r_1 => if r_1 = 0 then (0 : Int32) else (nm (sp_X6_isWithin x2 ((V k 1) - (1 : Int32))) (fun r_3 => if r_3 = 0 then (0 : Int32) else (1 : Int32))))) = sp_X4_isCell V k x1 x2 := rfl
set_option maxHeartbeats 4000000 in
set_option maxRecDepth 100000 in
theorem c_X4_isCell {l : Launch} {D : va_G} {cI cZ cO : ClassId} {sk : Nat → Nat} {g tb : Nat → Int32} {V Hd : Nat → Nat → Int32} {tr : Int64} {k : Nat} {x1 : Int32} {x2 : Int32} (hk : k < 34) (sz : Nat) : Met l yX4_isCell (wm yX4_isCell cX4_isCell 3 (some .boolean)) ({ frames := 1, cells := 0, slots := 0, locals := 21 } : Room) (GPre D (ty3 cI cZ cO) (WW cI cO sk g tb V Hd tr) [.ref (sk (20 + 2 * k)), .int x1, .int x2] sz) (vp_Si (fun r => r = sp_X4_isCell V k x1 x2 ∧ (r = 0 ∨ r = 1))) 0 0 (fun _ => False) := by
  refine metP_z (post := (fun r => r = sp_X4_isCell V k x1 x2)) (by decide) (Nat.le_of_ble_eq_true rfl) ?_
  intro p e s m args below meth c ls Q C hsz hP hK hD hN hl hret
  have hx := C.1
  have hb := C.2.1
  have hl : lv_has ls 3 [(0, .ref (sk (20 + 2 * k))), (1, .int x1), (2, .int x2)] := hl
  have hT := sp_X4_isCell_s V k x1 x2
  refine lv_iload_n hx hb dX4_isCell_0 rfl (lv_at hl 1 rfl) ?_
  refine lv_aload_n hx hb dX4_isCell_1 rfl (lv_at hl 0 rfl) ?_
  refine gX4_wide C hK hP hk wd_1_45 dX4_isCell_2 ?_
  refine lv_iconst (v := 1) hx hb dX4_isCell_5 (by decide) ?_
  refine lv_isub hx hb dX4_isCell_6 ?_
  refine vp_callSi (run_nP (As := [.int x1, .int ((V k 0) - (1 : Int32))]) (rest := []) C hN (c_X6_isWithin) ⟨nw_7, wd_1_189, wd_1_1, wd_1_190⟩ ⟨rfl, rfl⟩ hd_X6_isWithin ⟨Nat.le_of_ble_eq_true rfl, Nat.le_of_ble_eq_true rfl⟩ rfl hl.1 rfl (Nat.le_of_ble_eq_true rfl) dX4_isCell_7 ⟨Nat.zero_le _, Nat.zero_le _⟩) (fun r_1 hr_1 => ?_)
  have hT := nm_u hr_1.1 hT
  refine lv_if_eq (tgt := 30) hx hb dX4_isCell_10 (by decide) (fun c_2 => ?_) (fun c_2 => ?_)
  · have hT := it_t c_2 hT
    refine lv_iconst (v := 0) hx hb dX4_isCell_30 (by decide) ?_
    exact hret _ _ _ ⟨hT, (Or.inl rfl)⟩ dX4_isCell_31
  · have hT := it_f c_2 hT
    refine lv_iload_n hx hb dX4_isCell_13 rfl (lv_at hl 2 rfl) ?_
    refine lv_aload_n hx hb dX4_isCell_14 rfl (lv_at hl 0 rfl) ?_
    refine gX4_rows C hK hP hk wd_1_48 dX4_isCell_15 ?_
    refine lv_iconst (v := 1) hx hb dX4_isCell_18 (by decide) ?_
    refine lv_isub hx hb dX4_isCell_19 ?_
    refine vp_callSi (run_nP (As := [.int x2, .int ((V k 1) - (1 : Int32))]) (rest := []) C hN (c_X6_isWithin) ⟨nw_7, wd_1_189, wd_1_1, wd_1_190⟩ ⟨rfl, rfl⟩ hd_X6_isWithin ⟨Nat.le_of_ble_eq_true rfl, Nat.le_of_ble_eq_true rfl⟩ rfl hl.1 rfl (Nat.le_of_ble_eq_true rfl) dX4_isCell_20 ⟨Nat.zero_le _, Nat.zero_le _⟩) (fun r_3 hr_3 => ?_)
    have hT := nm_u hr_3.1 hT
    refine lv_if_eq (tgt := 30) hx hb dX4_isCell_23 (by decide) (fun c_4 => ?_) (fun c_4 => ?_)
    · have hT := it_t c_4 hT
      refine lv_iconst (v := 0) hx hb dX4_isCell_30 (by decide) ?_
      exact hret _ _ _ ⟨hT, (Or.inl rfl)⟩ dX4_isCell_31
    · have hT := it_f c_4 hT
      refine lv_iconst (v := 1) hx hb dX4_isCell_26 (by decide) ?_
      refine lv_goto (tgt := 31) hx hb dX4_isCell_27 (by decide) ?_
      exact hret _ _ _ ⟨hT, (Or.inr rfl)⟩ dX4_isCell_31
theorem hv_X4_heldByAny : yX4_heldByAny.cls = RX4 ∧ yX4_heldByAny.cls ≠ "java/lang/invoke/MethodHandle" ∧ yX4_heldByAny.cls ≠ "java/lang/invoke/VarHandle" ∧ (parseMethodDescriptor yX4_heldByAny.desc).map (fun d => d.parameters.length) = some 0 := by decide +kernel
theorem hd_X4_heldByAny : yX4_heldByAny.cls ≠ "java/lang/invoke/MethodHandle" ∧ yX4_heldByAny.cls ≠ "java/lang/invoke/VarHandle" ∧ (parseMethodDescriptor yX4_heldByAny.desc).map (fun d => d.parameters.length) = some 0 := hv_X4_heldByAny.2
def lp_X4_heldByAny_4 (Hd : Nat → Nat → Int32) (k : Nat) : Nat → Int32 → Int32 → Int32
  | 0, y_1, y_2 => y_1
  | n + 1, y_1, y_2 => if (5 : Int32) ≤ y_2 then y_1 else (lp_X4_heldByAny_4 Hd k n (y_1 ||| (Hd k y_2.toNatClampNeg)) (y_2 + 1))
theorem lp_X4_heldByAny_4_s (Hd : Nat → Nat → Int32) (k : Nat) (n : Nat) (y_1 : Int32) (y_2 : Int32) : (if (5 : Int32) ≤ y_2 then y_1 else (lp_X4_heldByAny_4 Hd k n (y_1 ||| (Hd k y_2.toNatClampNeg)) (y_2 + 1))) = lp_X4_heldByAny_4 Hd k (n + 1) y_1 y_2 := rfl
def sp_X4_heldByAny (Hd : Nat → Nat → Int32) (k : Nat) : Int32 :=
  nm (lp_X4_heldByAny_4 Hd k (((5 : Int32).toInt - (0 : Int32).toInt).toNat + 1) (0 : Int32) (0 : Int32)) (fun e_3 => e_3)
theorem sp_X4_heldByAny_s (Hd : Nat → Nat → Int32) (k : Nat) : (nm (lp_X4_heldByAny_4 Hd k (((5 : Int32).toInt - (0 : Int32).toInt).toNat + 1) (0 : Int32) (0 : Int32)) (fun e_3 => e_3)) = sp_X4_heldByAny Hd k := rfl
set_option maxHeartbeats 4000000 in
set_option maxRecDepth 100000 in
theorem c_X4_heldByAny {l : Launch} {D : va_G} {cI cZ cO : ClassId} {sk : Nat → Nat} {g tb : Nat → Int32} {V Hd : Nat → Nat → Int32} {tr : Int64} {k : Nat} (hk : k < 34) (sz : Nat) : Met l yX4_heldByAny (wm yX4_heldByAny cX4_heldByAny 3 (some .int)) ({ frames := 0, cells := 0, slots := 0, locals := 0 } : Room) (GPre D (ty3 cI cZ cO) (WW cI cO sk g tb V Hd tr) [.ref (sk (20 + 2 * k))] sz) (vp_Si (fun r => r = sp_X4_heldByAny Hd k)) 0 0 (fun _ => False) := by
  refine metP_i (post := (fun r => r = sp_X4_heldByAny Hd k)) (by decide) (Nat.le_of_ble_eq_true rfl) ?_
  intro p e s m args below meth c ls Q C hsz hP hK hD hN hl hret
  have hx := C.1
  have hb := C.2.1
  have hl : lv_has ls 3 [(0, .ref (sk (20 + 2 * k)))] := hl
  have hT := sp_X4_heldByAny_s Hd k
  refine lv_iconst (v := 0) hx hb dX4_heldByAny_0 (by decide) ?_
  refine lv_istore_n (lv' := [(1, .int (0 : Int32)), (0, .ref (sk (20 + 2 * k)))]) hx hb dX4_heldByAny_1 rfl hl (by decide) rfl (fun ls hl => ?_)
  refine lv_iconst (v := 0) hx hb dX4_heldByAny_2 (by decide) ?_
  refine lv_istore_n (lv' := [(2, .int (0 : Int32)), (1, .int (0 : Int32)), (0, .ref (sk (20 + 2 * k)))]) hx hb dX4_heldByAny_3 rfl hl (by decide) rfl (fun ls hl => ?_)
  have L_4 : ∀ (n : Nat) (ls : Array Slot) (y_1 : Int32) (y_2 : Int32) (z2 : 0 ≤ y_2.toInt) (hm : ((5 : Int32).toInt - y_2.toInt).toNat < n) (hl : lv_has ls 3 [(0, .ref (sk (20 + 2 * k))), (1, .int y_1), (2, .int y_2)]) (kont : ∀ (ls : Array Slot) (e_3 : Int32), lv_has ls 3 [(1, .int e_3)] → e_3 = lp_X4_heldByAny_4 Hd k n y_1 y_2 → W p l e ({ frames := 0, cells := 0, slots := 0, locals := 0 } : Room) s m args below meth c s.heap [] 0 0 Q (F0 m 28 ls [])), W p l e ({ frames := 0, cells := 0, slots := 0, locals := 0 } : Room) s m args below meth c s.heap [] 0 0 Q (F0 m 4 ls []) := by
    intro n
    induction n with
    | zero => intro ls y_1 y_2 z2 hm; exact absurd hm (Nat.not_lt_zero _)
    | succ n ih =>
      intro ls y_1 y_2 z2 hm hl kont
      have hT := lp_X4_heldByAny_4_s Hd k n y_1 y_2
      refine lv_iload_n hx hb dX4_heldByAny_4 rfl (lv_at hl 2 rfl) ?_
      refine lv_aload_n hx hb dX4_heldByAny_5 rfl (lv_at hl 0 rfl) ?_
      refine gX4_held C hK hP hk wd_1_60 dX4_heldByAny_6 ?_
      refine lX_held C hK hP hk dX4_heldByAny_9 ?_
      refine lv_icmp_ge (tgt := 28) hx hb dX4_heldByAny_10 (by decide) (fun c_4 => ?_) (fun c_4 => ?_)
      · have hT := it_t c_4 hT
        exact kont ls y_1 (lv_sub hl [1] rfl) hT
      · have hT := it_f c_4 hT
        refine lv_iload_n hx hb dX4_heldByAny_13 rfl (lv_at hl 1 rfl) ?_
        refine lv_aload_n hx hb dX4_heldByAny_14 rfl (lv_at hl 0 rfl) ?_
        refine gX4_held C hK hP hk wd_1_60 dX4_heldByAny_15 ?_
        refine lv_iload_n hx hb dX4_heldByAny_18 rfl (lv_at hl 2 rfl) ?_
        refine aX_held C hK hP hk (ix_inv_nle z2 c_4) dX4_heldByAny_19 ?_
        refine lv_ior hx hb dX4_heldByAny_20 ?_
        refine lv_istore_n (lv' := [(1, .int (y_1 ||| (Hd k y_2.toNatClampNeg))), (0, .ref (sk (20 + 2 * k))), (2, .int y_2)]) hx hb dX4_heldByAny_21 rfl hl (by decide) rfl (fun ls hl => ?_)
        refine lv_iinc (v := y_2 + 1) (lv' := [(2, .int (y_2 + 1)), (1, .int (y_1 ||| (Hd k y_2.toNatClampNeg))), (0, .ref (sk (20 + 2 * k)))]) hx hb dX4_heldByAny_22 hl (k := 2) rfl rfl (by decide) rfl (fun ls hl => ?_)
        refine lv_goto (tgt := 4) hx hb dX4_heldByAny_25 (by decide) ?_
        exact ih ls (y_1 ||| (Hd k y_2.toNatClampNeg)) (y_2 + 1) (up0 c_4 z2) (ms_up c_4 hm) (lv_sub hl [2, 1, 0] rfl) (fun ls z0 hl he => kont ls z0 hl (he.trans hT))
  refine L_4 (((5 : Int32).toInt - (0 : Int32).toInt).toNat + 1) ls (0 : Int32) (0 : Int32) (by decide) (Nat.lt_succ_self _) (lv_sub hl [2, 1, 0] rfl) (fun ls e_3 hl he => ?_)
  have hT := nm_u he hT
  refine lv_iload_n hx hb dX4_heldByAny_28 rfl (lv_at hl 0 rfl) ?_
  exact hret _ _ _ hT dX4_heldByAny_29
theorem hv_X4_holderOf : yX4_holderOf.cls = RX4 ∧ yX4_holderOf.cls ≠ "java/lang/invoke/MethodHandle" ∧ yX4_holderOf.cls ≠ "java/lang/invoke/VarHandle" ∧ (parseMethodDescriptor yX4_holderOf.desc).map (fun d => d.parameters.length) = some 1 := by decide +kernel
theorem hd_X4_holderOf : yX4_holderOf.cls ≠ "java/lang/invoke/MethodHandle" ∧ yX4_holderOf.cls ≠ "java/lang/invoke/VarHandle" ∧ (parseMethodDescriptor yX4_holderOf.desc).map (fun d => d.parameters.length) = some 1 := hv_X4_holderOf.2
def lp_X4_holderOf_2 (Hd : Nat → Nat → Int32) (k : Nat) (x1 : Int32) : Nat → Int32 → Int32
  | 0, y_1 => 0
  | n + 1, y_1 => if (5 : Int32) ≤ y_1 then (-9 : Int32) else (if ((Hd k y_1.toNatClampNeg) &&& x1) = 0 then (lp_X4_holderOf_2 Hd k x1 n (y_1 + 1)) else y_1)
theorem lp_X4_holderOf_2_s (Hd : Nat → Nat → Int32) (k : Nat) (x1 : Int32) (n : Nat) (y_1 : Int32) : (if (5 : Int32) ≤ y_1 then (-9 : Int32) else (if ((Hd k y_1.toNatClampNeg) &&& x1) = 0 then (lp_X4_holderOf_2 Hd k x1 n (y_1 + 1)) else y_1)) = lp_X4_holderOf_2 Hd k x1 (n + 1) y_1 := rfl
def sp_X4_holderOf (Hd : Nat → Nat → Int32) (k : Nat) (x1 : Int32) : Int32 :=
  lp_X4_holderOf_2 Hd k x1 (((5 : Int32).toInt - (0 : Int32).toInt).toNat + 1) (0 : Int32)
theorem sp_X4_holderOf_s (Hd : Nat → Nat → Int32) (k : Nat) (x1 : Int32) : (lp_X4_holderOf_2 Hd k x1 (((5 : Int32).toInt - (0 : Int32).toInt).toNat + 1) (0 : Int32)) = sp_X4_holderOf Hd k x1 := rfl
set_option maxHeartbeats 4000000 in
set_option maxRecDepth 100000 in
theorem c_X4_holderOf {l : Launch} {D : va_G} {cI cZ cO : ClassId} {sk : Nat → Nat} {g tb : Nat → Int32} {V Hd : Nat → Nat → Int32} {tr : Int64} {k : Nat} {x1 : Int32} (hk : k < 34) (sz : Nat) : Met l yX4_holderOf (wm yX4_holderOf cX4_holderOf 3 (some .int)) ({ frames := 0, cells := 0, slots := 0, locals := 0 } : Room) (GPre D (ty3 cI cZ cO) (WW cI cO sk g tb V Hd tr) [.ref (sk (20 + 2 * k)), .int x1] sz) (vp_Si (fun r => r = sp_X4_holderOf Hd k x1)) 0 0 (fun _ => False) := by
  refine metP_i (post := (fun r => r = sp_X4_holderOf Hd k x1)) (by decide) (Nat.le_of_ble_eq_true rfl) ?_
  intro p e s m args below meth c ls Q C hsz hP hK hD hN hl hret
  have hx := C.1
  have hb := C.2.1
  have hl : lv_has ls 3 [(0, .ref (sk (20 + 2 * k))), (1, .int x1)] := hl
  have hT := sp_X4_holderOf_s Hd k x1
  refine lv_iconst (v := 0) hx hb dX4_holderOf_0 (by decide) ?_
  refine lv_istore_n (lv' := [(2, .int (0 : Int32)), (0, .ref (sk (20 + 2 * k))), (1, .int x1)]) hx hb dX4_holderOf_1 rfl hl (by decide) rfl (fun ls hl => ?_)
  have L_2 : ∀ (n : Nat) (ls : Array Slot) (y_1 : Int32) (z2 : 0 ≤ y_1.toInt) (hm : ((5 : Int32).toInt - y_1.toInt).toNat < n) (hl : lv_has ls 3 [(0, .ref (sk (20 + 2 * k))), (1, .int x1), (2, .int y_1)]) (hT0 : lp_X4_holderOf_2 Hd k x1 n y_1 = sp_X4_holderOf Hd k x1), W p l e ({ frames := 0, cells := 0, slots := 0, locals := 0 } : Room) s m args below meth c s.heap [] 0 0 Q (F0 m 2 ls []) := by
    intro n
    induction n with
    | zero => intro ls y_1 z2 hm; exact absurd hm (Nat.not_lt_zero _)
    | succ n ih =>
      intro ls y_1 z2 hm hl hT0
      have hT := (lp_X4_holderOf_2_s Hd k x1 n y_1).trans hT0
      refine lv_iload_n hx hb dX4_holderOf_2 rfl (lv_at hl 2 rfl) ?_
      refine lv_aload_n hx hb dX4_holderOf_3 rfl (lv_at hl 0 rfl) ?_
      refine gX4_held C hK hP hk wd_1_60 dX4_holderOf_4 ?_
      refine lX_held C hK hP hk dX4_holderOf_7 ?_
      refine lv_icmp_ge (tgt := 30) hx hb dX4_holderOf_8 (by decide) (fun c_2 => ?_) (fun c_2 => ?_)
      · have hT := it_t c_2 hT
        refine lv_bipush (v := -9) hx hb dX4_holderOf_30 (by decide) ?_
        exact hret _ _ _ hT dX4_holderOf_32
      · have hT := it_f c_2 hT
        refine lv_aload_n hx hb dX4_holderOf_11 rfl (lv_at hl 0 rfl) ?_
        refine gX4_held C hK hP hk wd_1_60 dX4_holderOf_12 ?_
        refine lv_iload_n hx hb dX4_holderOf_15 rfl (lv_at hl 2 rfl) ?_
        refine aX_held C hK hP hk (ix_inv_nle z2 c_2) dX4_holderOf_16 ?_
        refine lv_iload_n hx hb dX4_holderOf_17 rfl (lv_at hl 1 rfl) ?_
        refine lv_iand hx hb dX4_holderOf_18 ?_
        refine lv_if_eq (tgt := 24) hx hb dX4_holderOf_19 (by decide) (fun c_3 => ?_) (fun c_3 => ?_)
        · have hT := it_t c_3 hT
          refine lv_iinc (v := y_1 + 1) (lv' := [(2, .int (y_1 + 1)), (0, .ref (sk (20 + 2 * k))), (1, .int x1)]) hx hb dX4_holderOf_24 hl (k := 2) rfl rfl (by decide) rfl (fun ls hl => ?_)
          refine lv_goto (tgt := 2) hx hb dX4_holderOf_27 (by decide) ?_
          exact ih ls (y_1 + 1) (up0 c_2 z2) (ms_up c_2 hm) (lv_sub hl [1, 2, 0] rfl) hT
        · have hT := it_f c_3 hT
          refine lv_iload_n hx hb dX4_holderOf_22 rfl (lv_at hl 2 rfl) ?_
          exact hret _ _ _ hT dX4_holderOf_23
  exact L_2 (((5 : Int32).toInt - (0 : Int32).toInt).toNat + 1) ls (0 : Int32) (by decide) (Nat.lt_succ_self _) (lv_sub hl [1, 2, 0] rfl) hT
theorem hv_X4_give : yX4_give.cls = RX4 ∧ yX4_give.cls ≠ "java/lang/invoke/MethodHandle" ∧ yX4_give.cls ≠ "java/lang/invoke/VarHandle" ∧ (parseMethodDescriptor yX4_give.desc).map (fun d => d.parameters.length) = some 2 := by decide +kernel
theorem hd_X4_give : yX4_give.cls ≠ "java/lang/invoke/MethodHandle" ∧ yX4_give.cls ≠ "java/lang/invoke/VarHandle" ∧ (parseMethodDescriptor yX4_give.desc).map (fun d => d.parameters.length) = some 2 := hv_X4_give.2
def sp_X4_give (Hd : Nat → Nat → Int32) (k : Nat) (x1 : Int32) (x2 : Int32) : (Nat → Nat → Int32) :=
  if x1 < 0 then Hd else (if (5 : Int32) ≤ x1 then Hd else (vs Hd k x1.toNatClampNeg ((Hd k x1.toNatClampNeg) ||| x2)))
theorem sp_X4_give_s (Hd : Nat → Nat → Int32) (k : Nat) (x1 : Int32) (x2 : Int32) : (if x1 < 0 then Hd else (if (5 : Int32) ≤ x1 then Hd else (vs Hd k x1.toNatClampNeg ((Hd k x1.toNatClampNeg) ||| x2)))) = sp_X4_give Hd k x1 x2 := rfl
set_option maxHeartbeats 4000000 in
set_option maxRecDepth 100000 in
theorem c_X4_give {l : Launch} {D : va_G} {cI cZ cO : ClassId} {sk : Nat → Nat} {g tb : Nat → Int32} {V Hd : Nat → Nat → Int32} {tr : Int64} {k : Nat} {x1 : Int32} {x2 : Int32} (hk : k < 34) (sz : Nat) : Met l yX4_give (wm yX4_give cX4_give 3 none) ({ frames := 0, cells := 0, slots := 0, locals := 0 } : Room) (GPre D (ty3 cI cZ cO) (WW cI cO sk g tb V Hd tr) [.ref (sk (20 + 2 * k)), .int x1, .int x2] sz) (va_Qv (fun (u : (Nat → Nat → Int32)) => u = sp_X4_give Hd k x1 x2) (fun u t => GAt D (ty3 cI cZ cO) (va_A (WW cI cO sk g tb V Hd tr) sz) (WW cI cO sk g tb V u tr) t) (va_A (WW cI cO sk g tb V Hd tr) sz)) 0 0 (va_A (WW cI cO sk g tb V Hd tr) sz) := by
  refine metQ_v (W1 := (fun (u : (Nat → Nat → Int32)) => WW cI cO sk g tb V u tr)) (post := (fun (u : (Nat → Nat → Int32)) => u = sp_X4_give Hd k x1 x2)) (by decide) (Nat.le_of_ble_eq_true rfl) ?_
  intro p e s m args below meth c ls A Q C hsz hP hK hD hS hA hN hl hret
  have hx := C.1
  have hb := C.2.1
  have hl : lv_has ls 3 [(0, .ref (sk (20 + 2 * k))), (1, .int x1), (2, .int x2)] := hl
  have hT := sp_X4_give_s Hd k x1 x2
  refine lv_iload_n hx hb dX4_give_0 rfl (lv_at hl 1 rfl) ?_
  refine lv_if_lt (tgt := 23) hx hb dX4_give_1 (by decide) (fun c_1 => ?_) (fun c_1 => ?_)
  · have hT := it_t c_1 hT
    exact hret Hd _ _ _ _ hT hP hD hS dX4_give_23
  · have hT := it_f c_1 hT
    refine lv_iload_n hx hb dX4_give_4 rfl (lv_at hl 1 rfl) ?_
    refine lv_aload_n hx hb dX4_give_5 rfl (lv_at hl 0 rfl) ?_
    refine gX4_held C hK hP hk wd_1_60 dX4_give_6 ?_
    refine lX_held C hK hP hk dX4_give_9 ?_
    refine lv_icmp_ge (tgt := 23) hx hb dX4_give_10 (by decide) (fun c_2 => ?_) (fun c_2 => ?_)
    · have hT := it_t c_2 hT
      exact hret Hd _ _ _ _ hT hP hD hS dX4_give_23
    · have hT := it_f c_2 hT
      refine lv_aload_n hx hb dX4_give_13 rfl (lv_at hl 0 rfl) ?_
      refine gX4_held C hK hP hk wd_1_60 dX4_give_14 ?_
      refine lv_iload_n hx hb dX4_give_17 rfl (lv_at hl 1 rfl) ?_
      refine lv_dup2_11 hx hb dX4_give_18 rfl rfl ?_
      refine aX_held C hK hP hk (ix_ng_nle c_1 c_2) dX4_give_19 ?_
      refine lv_iload_n hx hb dX4_give_20 rfl (lv_at hl 2 rfl) ?_
      refine lv_ior hx hb dX4_give_21 ?_
      refine sX_held C hK hP hD hS hk (ix_ng_nle c_1 c_2) dX4_give_22 (fun H locs hP hD hS => ?_)
      exact hret (vs Hd k x1.toNatClampNeg ((Hd k x1.toNatClampNeg) ||| x2)) _ _ _ _ hT hP hD hS dX4_give_23
theorem hv_X4_freeAllBut : yX4_freeAllBut.cls = RX4 ∧ yX4_freeAllBut.cls ≠ "java/lang/invoke/MethodHandle" ∧ yX4_freeAllBut.cls ≠ "java/lang/invoke/VarHandle" ∧ (parseMethodDescriptor yX4_freeAllBut.desc).map (fun d => d.parameters.length) = some 1 := by decide +kernel
theorem hd_X4_freeAllBut : yX4_freeAllBut.cls ≠ "java/lang/invoke/MethodHandle" ∧ yX4_freeAllBut.cls ≠ "java/lang/invoke/VarHandle" ∧ (parseMethodDescriptor yX4_freeAllBut.desc).map (fun d => d.parameters.length) = some 1 := hv_X4_freeAllBut.2
def lp_X4_freeAllBut_2 (k : Nat) (x1 : Int32) : Nat → Int32 → (Nat → Nat → Int32) → (Nat → Nat → Int32)
  | 0, y_1, Hd_2 => Hd_2
  | n + 1, y_1, Hd_2 => if (5 : Int32) ≤ y_1 then Hd_2 else (lp_X4_freeAllBut_2 k x1 n (y_1 + 1) (vs Hd_2 k y_1.toNatClampNeg ((Hd_2 k y_1.toNatClampNeg) &&& x1)))
theorem lp_X4_freeAllBut_2_s (k : Nat) (x1 : Int32) (n : Nat) (y_1 : Int32) (Hd_2 : Nat → Nat → Int32) : (if (5 : Int32) ≤ y_1 then Hd_2 else (lp_X4_freeAllBut_2 k x1 n (y_1 + 1) (vs Hd_2 k y_1.toNatClampNeg ((Hd_2 k y_1.toNatClampNeg) &&& x1)))) = lp_X4_freeAllBut_2 k x1 (n + 1) y_1 Hd_2 := rfl
def sp_X4_freeAllBut (Hd : Nat → Nat → Int32) (k : Nat) (x1 : Int32) : (Nat → Nat → Int32) :=
  nm (lp_X4_freeAllBut_2 k x1 (((5 : Int32).toInt - (0 : Int32).toInt).toNat + 1) (0 : Int32) Hd) (fun e_3 => e_3)
theorem sp_X4_freeAllBut_s (Hd : Nat → Nat → Int32) (k : Nat) (x1 : Int32) : (nm (lp_X4_freeAllBut_2 k x1 (((5 : Int32).toInt - (0 : Int32).toInt).toNat + 1) (0 : Int32) Hd) (fun e_3 => e_3)) = sp_X4_freeAllBut Hd k x1 := rfl
set_option maxHeartbeats 4000000 in
set_option maxRecDepth 100000 in
theorem c_X4_freeAllBut {l : Launch} {D : va_G} {cI cZ cO : ClassId} {sk : Nat → Nat} {g tb : Nat → Int32} {V Hd : Nat → Nat → Int32} {tr : Int64} {k : Nat} {x1 : Int32} (hk : k < 34) (sz : Nat) : Met l yX4_freeAllBut (wm yX4_freeAllBut cX4_freeAllBut 3 none) ({ frames := 0, cells := 0, slots := 0, locals := 0 } : Room) (GPre D (ty3 cI cZ cO) (WW cI cO sk g tb V Hd tr) [.ref (sk (20 + 2 * k)), .int x1] sz) (va_Qv (fun (u : (Nat → Nat → Int32)) => u = sp_X4_freeAllBut Hd k x1) (fun u t => GAt D (ty3 cI cZ cO) (va_A (WW cI cO sk g tb V Hd tr) sz) (WW cI cO sk g tb V u tr) t) (va_A (WW cI cO sk g tb V Hd tr) sz)) 0 0 (va_A (WW cI cO sk g tb V Hd tr) sz) := by
  refine metQ_v (W1 := (fun (u : (Nat → Nat → Int32)) => WW cI cO sk g tb V u tr)) (post := (fun (u : (Nat → Nat → Int32)) => u = sp_X4_freeAllBut Hd k x1)) (by decide) (Nat.le_of_ble_eq_true rfl) ?_
  intro p e s m args below meth c ls A Q C hsz hP hK hD hS hA hN hl hret
  have hx := C.1
  have hb := C.2.1
  have hl : lv_has ls 3 [(0, .ref (sk (20 + 2 * k))), (1, .int x1)] := hl
  have hT := sp_X4_freeAllBut_s Hd k x1
  refine lv_iconst (v := 0) hx hb dX4_freeAllBut_0 (by decide) ?_
  refine lv_istore_n (lv' := [(2, .int (0 : Int32)), (0, .ref (sk (20 + 2 * k))), (1, .int x1)]) hx hb dX4_freeAllBut_1 rfl hl (by decide) rfl (fun ls hl => ?_)
  have L_2 : ∀ (n : Nat) (ls : Array Slot) (y_1 : Int32) (Hd_2 : Nat → Nat → Int32) (z2 : 0 ≤ y_1.toInt) (hm : ((5 : Int32).toInt - y_1.toInt).toNat < n) (H : Heap) (locs : List Loc) (hP : va_P D vwCl (WW cI cO sk g tb V Hd_2 tr) H) (hD : va_D A (WW cI cO sk g tb V Hd_2 tr)) (hS : va_S A s.heap H locs) (hl : lv_has ls 3 [(0, .ref (sk (20 + 2 * k))), (1, .int x1), (2, .int y_1)]) (kont : ∀ (ls : Array Slot) (e_3 : Nat → Nat → Int32) (H : Heap) (locs : List Loc), va_P D vwCl (WW cI cO sk g tb V e_3 tr) H → va_D A (WW cI cO sk g tb V e_3 tr) → va_S A s.heap H locs → lv_has ls 3 [] → e_3 = lp_X4_freeAllBut_2 k x1 n y_1 Hd_2 → W p l e ({ frames := 0, cells := 0, slots := 0, locals := 0 } : Room) s m args below meth c H locs 0 0 Q (F0 m 27 ls [])), W p l e ({ frames := 0, cells := 0, slots := 0, locals := 0 } : Room) s m args below meth c H locs 0 0 Q (F0 m 2 ls []) := by
    intro n
    induction n with
    | zero => intro ls y_1 Hd_2 z2 hm; exact absurd hm (Nat.not_lt_zero _)
    | succ n ih =>
      intro ls y_1 Hd_2 z2 hm H locs hP hD hS hl kont
      have hT := lp_X4_freeAllBut_2_s k x1 n y_1 Hd_2
      refine lv_iload_n hx hb dX4_freeAllBut_2 rfl (lv_at hl 2 rfl) ?_
      refine lv_aload_n hx hb dX4_freeAllBut_3 rfl (lv_at hl 0 rfl) ?_
      refine gX4_held C hK hP hk wd_1_60 dX4_freeAllBut_4 ?_
      refine lX_held C hK hP hk dX4_freeAllBut_7 ?_
      refine lv_icmp_ge (tgt := 27) hx hb dX4_freeAllBut_8 (by decide) (fun c_4 => ?_) (fun c_4 => ?_)
      · have hT := it_t c_4 hT
        exact kont ls Hd_2 H locs hP hD hS (lv_sub hl [] rfl) hT
      · have hT := it_f c_4 hT
        refine lv_aload_n hx hb dX4_freeAllBut_11 rfl (lv_at hl 0 rfl) ?_
        refine gX4_held C hK hP hk wd_1_60 dX4_freeAllBut_12 ?_
        refine lv_iload_n hx hb dX4_freeAllBut_15 rfl (lv_at hl 2 rfl) ?_
        refine lv_dup2_11 hx hb dX4_freeAllBut_16 rfl rfl ?_
        refine aX_held C hK hP hk (ix_inv_nle z2 c_4) dX4_freeAllBut_17 ?_
        refine lv_iload_n hx hb dX4_freeAllBut_18 rfl (lv_at hl 1 rfl) ?_
        refine lv_iand hx hb dX4_freeAllBut_19 ?_
        refine sX_held C hK hP hD hS hk (ix_inv_nle z2 c_4) dX4_freeAllBut_20 (fun H locs hP hD hS => ?_)
        refine lv_iinc (v := y_1 + 1) (lv' := [(2, .int (y_1 + 1)), (0, .ref (sk (20 + 2 * k))), (1, .int x1)]) hx hb dX4_freeAllBut_21 hl (k := 2) rfl rfl (by decide) rfl (fun ls hl => ?_)
        refine lv_goto (tgt := 2) hx hb dX4_freeAllBut_24 (by decide) ?_
        exact ih ls (y_1 + 1) (vs Hd_2 k y_1.toNatClampNeg ((Hd_2 k y_1.toNatClampNeg) &&& x1)) (up0 c_4 z2) (ms_up c_4 hm) H locs hP hD hS (lv_sub hl [1, 2, 0] rfl) (fun ls z0 H locs hP hD hS hl he => kont ls z0 H locs hP hD hS hl (he.trans hT))
  refine L_2 (((5 : Int32).toInt - (0 : Int32).toInt).toNat + 1) ls (0 : Int32) Hd (by decide) (Nat.lt_succ_self _) s.heap [] hP hD hS (lv_sub hl [1, 2, 0] rfl) (fun ls e_3 H locs hP hD hS hl he => ?_)
  have hT := nm_u he hT
  exact hret e_3 _ _ _ _ hT hP hD hS dX4_freeAllBut_27
theorem hv_X4_tideBecomes : yX4_tideBecomes.cls = RX4 ∧ yX4_tideBecomes.cls ≠ "java/lang/invoke/MethodHandle" ∧ yX4_tideBecomes.cls ≠ "java/lang/invoke/VarHandle" ∧ (parseMethodDescriptor yX4_tideBecomes.desc).map (fun d => d.parameters.length) = some 1 := by decide +kernel
theorem hd_X4_tideBecomes : yX4_tideBecomes.cls ≠ "java/lang/invoke/MethodHandle" ∧ yX4_tideBecomes.cls ≠ "java/lang/invoke/VarHandle" ∧ (parseMethodDescriptor yX4_tideBecomes.desc).map (fun d => d.parameters.length) = some 1 := hv_X4_tideBecomes.2
def sp_X4_tideBecomes (V : Nat → Nat → Int32) (Hd : Nat → Nat → Int32) (k : Nat) (x1 : Int32) : (Nat → Nat → Int32) × (Nat → Nat → Int32) :=
  nm (sp_X4_dryCells (vs V k 4 x1) k) (fun r_1 => nm (sp_X4_freeAllBut Hd k r_1) (fun Hd_2 => nm (sp_X4_dryCells (vs V k 4 x1) k) (fun r_4 => (vs (vs V k 4 x1) k 2 (((vs V k 4 x1) k 2) &&& r_4), Hd_2))))
theorem sp_X4_tideBecomes_s (V : Nat → Nat → Int32) (Hd : Nat → Nat → Int32) (k : Nat) (x1 : Int32) : (nm (sp_X4_dryCells (vs V k 4 x1) k) (fun r_1 => nm (sp_X4_freeAllBut Hd k r_1) (fun Hd_2 => nm (sp_X4_dryCells (vs V k 4 x1) k) (fun r_4 => (vs (vs V k 4 x1) k 2 (((vs V k 4 x1) k 2) &&& r_4), Hd_2))))) = sp_X4_tideBecomes V Hd k x1 := rfl
set_option maxHeartbeats 4000000 in
set_option maxRecDepth 100000 in
theorem c_X4_tideBecomes {l : Launch} {D : va_G} {cI cZ cO : ClassId} {sk : Nat → Nat} {g tb : Nat → Int32} {V Hd : Nat → Nat → Int32} {tr : Int64} {k : Nat} {x1 : Int32} (hk : k < 34) (sz : Nat) : Met l yX4_tideBecomes (wm yX4_tideBecomes cX4_tideBecomes 2 none) ({ frames := 3, cells := 0, slots := 0, locals := 64 } : Room) (GPre D (ty3 cI cZ cO) (WW cI cO sk g tb V Hd tr) [.ref (sk (20 + 2 * k)), .int x1] sz) (va_Qv (fun (u : (Nat → Nat → Int32) × (Nat → Nat → Int32)) => u = sp_X4_tideBecomes V Hd k x1) (fun u t => GAt D (ty3 cI cZ cO) (va_A (WW cI cO sk g tb V Hd tr) sz) (WW cI cO sk g tb u.1 u.2 tr) t) (va_A (WW cI cO sk g tb V Hd tr) sz)) 0 0 (va_A (WW cI cO sk g tb V Hd tr) sz) := by
  refine metQ_v (W1 := (fun (u : (Nat → Nat → Int32) × (Nat → Nat → Int32)) => WW cI cO sk g tb u.1 u.2 tr)) (post := (fun (u : (Nat → Nat → Int32) × (Nat → Nat → Int32)) => u = sp_X4_tideBecomes V Hd k x1)) (by decide) (Nat.le_of_ble_eq_true rfl) ?_
  intro p e s m args below meth c ls A Q C hsz hP hK hD hS hA hN hl hret
  have hx := C.1
  have hb := C.2.1
  have hl : lv_has ls 2 [(0, .ref (sk (20 + 2 * k))), (1, .int x1)] := hl
  have hT := sp_X4_tideBecomes_s V Hd k x1
  refine lv_aload_n hx hb dX4_tideBecomes_0 rfl (lv_at hl 0 rfl) ?_
  refine lv_iload_n hx hb dX4_tideBecomes_1 rfl (lv_at hl 1 rfl) ?_
  refine pX4_tide C hK hP hD hS hk wd_1_57 dX4_tideBecomes_2 (fun H locs hP hD hS => ?_)
  refine lv_aload_n hx hb dX4_tideBecomes_5 rfl (lv_at hl 0 rfl) ?_
  refine lv_aload_n hx hb dX4_tideBecomes_6 rfl (lv_at hl 0 rfl) ?_
  refine vp_callSi (run_vP (As := []) (rest := [.ref (sk (20 + 2 * k))]) C hK hP hD hN (c_X4_dryCells hk _) (rX4_r hK hP hk) ⟨wd_2_86, wd_2_59, wd_2_60, wd_1_4, wd_2_61⟩ ⟨rfl, rfl⟩ hv_X4_dryCells ⟨Nat.le_of_ble_eq_true rfl, Nat.le_of_ble_eq_true rfl⟩ rfl hl.1 rfl (Nat.le_of_ble_eq_true rfl) dX4_tideBecomes_7 ⟨Nat.zero_le _, Nat.zero_le _⟩) (fun r_1 hr_1 => ?_)
  have hT := nm_u hr_1 hT
  refine on_v (run_vQ (As := [.int r_1]) (rest := []) C hK hP hD hN (c_X4_freeAllBut hk _) (rX4_r hK hP hk) ⟨wd_1_211, wd_1_212, wd_1_213, wd_1_4, wd_1_214⟩ ⟨rfl, rfl⟩ hv_X4_freeAllBut ⟨Nat.le_of_ble_eq_true rfl, Nat.le_of_ble_eq_true rfl⟩ rfl hl.1 rfl (Nat.le_of_ble_eq_true rfl) dX4_tideBecomes_10 ⟨Nat.zero_le _, Nat.zero_le _⟩) hD hS hA (fun u H locs hp_3 hP hD hS => ?_)
  obtain ⟨Hd_2, rfl⟩ : ∃ z, z = u := ⟨_, rfl⟩
  have hP : va_P D vwCl (WW cI cO sk g tb (vs V k 4 x1) Hd_2 tr) H := hP
  have hD : va_D A (WW cI cO sk g tb (vs V k 4 x1) Hd_2 tr) := hD
  have hT := nm_u hp_3 hT
  refine lv_aload_n hx hb dX4_tideBecomes_13 rfl (lv_at hl 0 rfl) ?_
  refine lv_dup hx hb dX4_tideBecomes_14 rfl ?_
  refine gX4_cloth C hK hP hk wd_1_51 dX4_tideBecomes_15 ?_
  refine lv_aload_n hx hb dX4_tideBecomes_18 rfl (lv_at hl 0 rfl) ?_
  refine vp_callSi (run_vP (As := []) (rest := [.int ((vs V k 4 x1) k 2), .ref (sk (20 + 2 * k))]) C hK hP hD hN (c_X4_dryCells hk _) (rX4_r hK hP hk) ⟨wd_2_86, wd_2_59, wd_2_60, wd_1_4, wd_2_61⟩ ⟨rfl, rfl⟩ hv_X4_dryCells ⟨Nat.le_of_ble_eq_true rfl, Nat.le_of_ble_eq_true rfl⟩ rfl hl.1 rfl (Nat.le_of_ble_eq_true rfl) dX4_tideBecomes_19 ⟨Nat.zero_le _, Nat.zero_le _⟩) (fun r_4 hr_4 => ?_)
  have hT := nm_u hr_4 hT
  refine lv_iand hx hb dX4_tideBecomes_22 ?_
  refine pX4_cloth C hK hP hD hS hk wd_1_51 dX4_tideBecomes_23 (fun H locs hP hD hS => ?_)
  exact hret (vs (vs V k 4 x1) k 2 (((vs V k 4 x1) k 2) &&& r_4), Hd_2) _ _ _ _ hT hP hD hS dX4_tideBecomes_26
theorem hv_X4_stillWith : yX4_stillWith.cls = RX4 ∧ yX4_stillWith.cls ≠ "java/lang/invoke/MethodHandle" ∧ yX4_stillWith.cls ≠ "java/lang/invoke/VarHandle" ∧ (parseMethodDescriptor yX4_stillWith.desc).map (fun d => d.parameters.length) = some 2 := by decide +kernel
theorem hd_X4_stillWith : yX4_stillWith.cls ≠ "java/lang/invoke/MethodHandle" ∧ yX4_stillWith.cls ≠ "java/lang/invoke/VarHandle" ∧ (parseMethodDescriptor yX4_stillWith.desc).map (fun d => d.parameters.length) = some 2 := hv_X4_stillWith.2
def sp_X4_stillWith (V : Nat → Nat → Int32) (k : Nat) (x1 : Int32) (x2 : Int32) : Int32 :=
  if x2 = 0 then (nm (sp_X4_rightOf x1) (fun r_4 => nm (sp_X4_rightOf x1) (fun r_5 => nm (sp_X4_rightOf r_5) (fun r_6 => nm (sp_X4_dryCells V k) (fun r_7 => (r_4 ||| r_6) &&& r_7))))) else (nm (sp_X4_leftOf x1) (fun r_2 => nm (sp_X4_dryCells V k) (fun r_3 => (x1 ||| r_2) &&& r_3)))
theorem sp_X4_stillWith_s (V : Nat → Nat → Int32) (k : Nat) (x1 : Int32) (x2 : Int32) : (if x2 = 0 then (nm (sp_X4_rightOf x1) (fun r_4 => nm (sp_X4_rightOf x1) (fun r_5 => nm (sp_X4_rightOf r_5) (fun r_6 => nm (sp_X4_dryCells V k) (fun r_7 => (r_4 ||| r_6) &&& r_7))))) else (nm (sp_X4_leftOf x1) (fun r_2 => nm (sp_X4_dryCells V k) (fun r_3 => (x1 ||| r_2) &&& r_3)))) = sp_X4_stillWith V k x1 x2 := rfl
set_option maxHeartbeats 4000000 in
set_option maxRecDepth 100000 in
theorem c_X4_stillWith {l : Launch} {D : va_G} {cI cZ cO : ClassId} {sk : Nat → Nat} {g tb : Nat → Int32} {V Hd : Nat → Nat → Int32} {tr : Int64} {k : Nat} {x1 : Int32} {x2 : Int32} (hk : k < 34) (sz : Nat) : Met l yX4_stillWith (wm yX4_stillWith cX4_stillWith 4 (some .int)) ({ frames := 3, cells := 0, slots := 0, locals := 64 } : Room) (GPre D (ty3 cI cZ cO) (WW cI cO sk g tb V Hd tr) [.ref (sk (20 + 2 * k)), .int x1, .int x2] sz) (vp_Si (fun r => r = sp_X4_stillWith V k x1 x2)) 0 0 (fun _ => False) := by
  refine metP_i (post := (fun r => r = sp_X4_stillWith V k x1 x2)) (by decide) (Nat.le_of_ble_eq_true rfl) ?_
  intro p e s m args below meth c ls Q C hsz hP hK hD hN hl hret
  have hx := C.1
  have hb := C.2.1
  have hl : lv_has ls 4 [(0, .ref (sk (20 + 2 * k))), (1, .int x1), (2, .int x2)] := hl
  have hT := sp_X4_stillWith_s V k x1 x2
  refine lv_iload_n hx hb dX4_stillWith_0 rfl (lv_at hl 2 rfl) ?_
  refine lv_if_ne (tgt := 19) hx hb dX4_stillWith_1 (by decide) (fun c_1 => ?_) (fun c_1 => ?_)
  · have hT := it_f c_1 hT
    refine lv_iload_n hx hb dX4_stillWith_19 rfl (lv_at hl 1 rfl) ?_
    refine lv_iload_n hx hb dX4_stillWith_20 rfl (lv_at hl 1 rfl) ?_
    refine vp_callSi (run_sP (As := [.int x1]) (rest := [.int x1]) C hN (c_X4_leftOf) ⟨wd_2_82, wd_2_83, wd_1_4, wd_2_84⟩ ⟨rfl, rfl⟩ hd_X4_leftOf ⟨Nat.le_of_ble_eq_true rfl, Nat.le_of_ble_eq_true rfl⟩ rfl hl.1 rfl (Nat.le_of_ble_eq_true rfl) dX4_stillWith_21 ⟨Nat.zero_le _, Nat.zero_le _⟩) (fun r_2 hr_2 => ?_)
    have hT := nm_u hr_2 hT
    refine lv_ior hx hb dX4_stillWith_24 ?_
    refine lv_istore_n (lv' := [(3, .int (x1 ||| r_2)), (0, .ref (sk (20 + 2 * k))), (1, .int x1), (2, .int x2)]) hx hb dX4_stillWith_25 rfl hl (by decide) rfl (fun ls hl => ?_)
    refine lv_iload_n hx hb dX4_stillWith_26 rfl (lv_at hl 0 rfl) ?_
    refine lv_aload_n hx hb dX4_stillWith_27 rfl (lv_at hl 1 rfl) ?_
    refine vp_callSi (run_vP (As := []) (rest := [.int (x1 ||| r_2)]) C hK hP hD hN (c_X4_dryCells hk _) (rX4_r hK hP hk) ⟨wd_2_86, wd_2_59, wd_2_60, wd_1_4, wd_2_61⟩ ⟨rfl, rfl⟩ hv_X4_dryCells ⟨Nat.le_of_ble_eq_true rfl, Nat.le_of_ble_eq_true rfl⟩ rfl hl.1 rfl (Nat.le_of_ble_eq_true rfl) dX4_stillWith_28 ⟨Nat.zero_le _, Nat.zero_le _⟩) (fun r_3 hr_3 => ?_)
    have hT := nm_u hr_3 hT
    refine lv_iand hx hb dX4_stillWith_31 ?_
    exact hret _ _ _ hT dX4_stillWith_32
  · have hT := it_t c_1 hT
    refine lv_iload_n hx hb dX4_stillWith_4 rfl (lv_at hl 1 rfl) ?_
    refine vp_callSi (run_sP (As := [.int x1]) (rest := []) C hN (c_X4_rightOf) ⟨wd_2_78, wd_2_79, wd_1_4, wd_2_80⟩ ⟨rfl, rfl⟩ hd_X4_rightOf ⟨Nat.le_of_ble_eq_true rfl, Nat.le_of_ble_eq_true rfl⟩ rfl hl.1 rfl (Nat.le_of_ble_eq_true rfl) dX4_stillWith_5 ⟨Nat.zero_le _, Nat.zero_le _⟩) (fun r_4 hr_4 => ?_)
    have hT := nm_u hr_4 hT
    refine lv_iload_n hx hb dX4_stillWith_8 rfl (lv_at hl 1 rfl) ?_
    refine vp_callSi (run_sP (As := [.int x1]) (rest := [.int r_4]) C hN (c_X4_rightOf) ⟨wd_2_78, wd_2_79, wd_1_4, wd_2_80⟩ ⟨rfl, rfl⟩ hd_X4_rightOf ⟨Nat.le_of_ble_eq_true rfl, Nat.le_of_ble_eq_true rfl⟩ rfl hl.1 rfl (Nat.le_of_ble_eq_true rfl) dX4_stillWith_9 ⟨Nat.zero_le _, Nat.zero_le _⟩) (fun r_5 hr_5 => ?_)
    have hT := nm_u hr_5 hT
    refine vp_callSi (run_sP (As := [.int r_5]) (rest := [.int r_4]) C hN (c_X4_rightOf) ⟨wd_2_78, wd_2_79, wd_1_4, wd_2_80⟩ ⟨rfl, rfl⟩ hd_X4_rightOf ⟨Nat.le_of_ble_eq_true rfl, Nat.le_of_ble_eq_true rfl⟩ rfl hl.1 rfl (Nat.le_of_ble_eq_true rfl) dX4_stillWith_12 ⟨Nat.zero_le _, Nat.zero_le _⟩) (fun r_6 hr_6 => ?_)
    have hT := nm_u hr_6 hT
    refine lv_ior hx hb dX4_stillWith_15 ?_
    refine lv_goto (tgt := 25) hx hb dX4_stillWith_16 (by decide) ?_
    refine lv_istore_n (lv' := [(3, .int (r_4 ||| r_6)), (0, .ref (sk (20 + 2 * k))), (1, .int x1), (2, .int x2)]) hx hb dX4_stillWith_25 rfl hl (by decide) rfl (fun ls hl => ?_)
    refine lv_iload_n hx hb dX4_stillWith_26 rfl (lv_at hl 0 rfl) ?_
    refine lv_aload_n hx hb dX4_stillWith_27 rfl (lv_at hl 1 rfl) ?_
    refine vp_callSi (run_vP (As := []) (rest := [.int (r_4 ||| r_6)]) C hK hP hD hN (c_X4_dryCells hk _) (rX4_r hK hP hk) ⟨wd_2_86, wd_2_59, wd_2_60, wd_1_4, wd_2_61⟩ ⟨rfl, rfl⟩ hv_X4_dryCells ⟨Nat.le_of_ble_eq_true rfl, Nat.le_of_ble_eq_true rfl⟩ rfl hl.1 rfl (Nat.le_of_ble_eq_true rfl) dX4_stillWith_28 ⟨Nat.zero_le _, Nat.zero_le _⟩) (fun r_7 hr_7 => ?_)
    have hT := nm_u hr_7 hT
    refine lv_iand hx hb dX4_stillWith_31 ?_
    exact hret _ _ _ hT dX4_stillWith_32
theorem hv_X4_stillBy : yX4_stillBy.cls = RX4 ∧ yX4_stillBy.cls ≠ "java/lang/invoke/MethodHandle" ∧ yX4_stillBy.cls ≠ "java/lang/invoke/VarHandle" ∧ (parseMethodDescriptor yX4_stillBy.desc).map (fun d => d.parameters.length) = some 1 := by decide +kernel
theorem hd_X4_stillBy : yX4_stillBy.cls ≠ "java/lang/invoke/MethodHandle" ∧ yX4_stillBy.cls ≠ "java/lang/invoke/VarHandle" ∧ (parseMethodDescriptor yX4_stillBy.desc).map (fun d => d.parameters.length) = some 1 := hv_X4_stillBy.2
def sp_X4_stillBy (V : Nat → Nat → Int32) (k : Nat) (x1 : Int32) : Int32 :=
  nm (sp_X4_stillWith V k (V k 2) x1) (fun r_1 => r_1)
theorem sp_X4_stillBy_s (V : Nat → Nat → Int32) (k : Nat) (x1 : Int32) : (nm (sp_X4_stillWith V k (V k 2) x1) (fun r_1 => r_1)) = sp_X4_stillBy V k x1 := rfl
set_option maxHeartbeats 4000000 in
set_option maxRecDepth 100000 in
theorem c_X4_stillBy {l : Launch} {D : va_G} {cI cZ cO : ClassId} {sk : Nat → Nat} {g tb : Nat → Int32} {V Hd : Nat → Nat → Int32} {tr : Int64} {k : Nat} {x1 : Int32} (hk : k < 34) (sz : Nat) : Met l yX4_stillBy (wm yX4_stillBy cX4_stillBy 2 (some .int)) ({ frames := 4, cells := 0, slots := 0, locals := 87 } : Room) (GPre D (ty3 cI cZ cO) (WW cI cO sk g tb V Hd tr) [.ref (sk (20 + 2 * k)), .int x1] sz) (vp_Si (fun r => r = sp_X4_stillBy V k x1)) 0 0 (fun _ => False) := by
  refine metP_i (post := (fun r => r = sp_X4_stillBy V k x1)) (by decide) (Nat.le_of_ble_eq_true rfl) ?_
  intro p e s m args below meth c ls Q C hsz hP hK hD hN hl hret
  have hx := C.1
  have hb := C.2.1
  have hl : lv_has ls 2 [(0, .ref (sk (20 + 2 * k))), (1, .int x1)] := hl
  have hT := sp_X4_stillBy_s V k x1
  refine lv_aload_n hx hb dX4_stillBy_0 rfl (lv_at hl 0 rfl) ?_
  refine lv_aload_n hx hb dX4_stillBy_1 rfl (lv_at hl 0 rfl) ?_
  refine gX4_cloth C hK hP hk wd_1_51 dX4_stillBy_2 ?_
  refine lv_iload_n hx hb dX4_stillBy_5 rfl (lv_at hl 1 rfl) ?_
  refine vp_callSi (run_vP (As := [.int (V k 2), .int x1]) (rest := []) C hK hP hD hN (c_X4_stillWith hk _) (rX4_r hK hP hk) ⟨wd_2_74, wd_2_75, wd_2_76, wd_1_4, wd_2_77⟩ ⟨rfl, rfl⟩ hv_X4_stillWith ⟨Nat.le_of_ble_eq_true rfl, Nat.le_of_ble_eq_true rfl⟩ rfl hl.1 rfl (Nat.le_of_ble_eq_true rfl) dX4_stillBy_6 ⟨Nat.zero_le _, Nat.zero_le _⟩) (fun r_1 hr_1 => ?_)
  have hT := nm_u hr_1 hT
  exact hret _ _ _ hT dX4_stillBy_9
theorem hv_X4_shelterWith : yX4_shelterWith.cls = RX4 ∧ yX4_shelterWith.cls ≠ "java/lang/invoke/MethodHandle" ∧ yX4_shelterWith.cls ≠ "java/lang/invoke/VarHandle" ∧ (parseMethodDescriptor yX4_shelterWith.desc).map (fun d => d.parameters.length) = some 2 := by decide +kernel
theorem hd_X4_shelterWith : yX4_shelterWith.cls ≠ "java/lang/invoke/MethodHandle" ∧ yX4_shelterWith.cls ≠ "java/lang/invoke/VarHandle" ∧ (parseMethodDescriptor yX4_shelterWith.desc).map (fun d => d.parameters.length) = some 2 := hv_X4_shelterWith.2
def sp_X4_shelterWith (V : Nat → Nat → Int32) (Hd : Nat → Nat → Int32) (k : Nat) (x1 : Int32) (x2 : Int32) : Int32 :=
  nm (sp_X4_heldBy Hd k x1) (fun r_1 => nm (sp_X4_stillWith V k x2 (V k 3)) (fun r_2 => nm (sp_J6_bitCount_0f7a4 (r_1 &&& r_2)) (fun r_3 => r_3)))
theorem sp_X4_shelterWith_s (V : Nat → Nat → Int32) (Hd : Nat → Nat → Int32) (k : Nat) (x1 : Int32) (x2 : Int32) : (nm (sp_X4_heldBy Hd k x1) (fun r_1 => nm (sp_X4_stillWith V k x2 (V k 3)) (fun r_2 => nm (sp_J6_bitCount_0f7a4 (r_1 &&& r_2)) (fun r_3 => r_3)))) = sp_X4_shelterWith V Hd k x1 x2 := rfl
set_option maxHeartbeats 4000000 in
set_option maxRecDepth 100000 in
theorem c_X4_shelterWith {l : Launch} {D : va_G} {cI cZ cO : ClassId} {sk : Nat → Nat} {g tb : Nat → Int32} {V Hd : Nat → Nat → Int32} {tr : Int64} {k : Nat} {x1 : Int32} {x2 : Int32} (hk : k < 34) (sz : Nat) : Met l yX4_shelterWith (wm yX4_shelterWith cX4_shelterWith 3 (some .int)) ({ frames := 4, cells := 0, slots := 0, locals := 87 } : Room) (GPre D (ty3 cI cZ cO) (WW cI cO sk g tb V Hd tr) [.ref (sk (20 + 2 * k)), .int x1, .int x2] sz) (vp_Si (fun r => r = sp_X4_shelterWith V Hd k x1 x2)) 0 0 (fun _ => False) := by
  refine metP_i (post := (fun r => r = sp_X4_shelterWith V Hd k x1 x2)) (by decide) (Nat.le_of_ble_eq_true rfl) ?_
  intro p e s m args below meth c ls Q C hsz hP hK hD hN hl hret
  have hx := C.1
  have hb := C.2.1
  have hl : lv_has ls 3 [(0, .ref (sk (20 + 2 * k))), (1, .int x1), (2, .int x2)] := hl
  have hT := sp_X4_shelterWith_s V Hd k x1 x2
  refine lv_aload_n hx hb dX4_shelterWith_0 rfl (lv_at hl 0 rfl) ?_
  refine lv_iload_n hx hb dX4_shelterWith_1 rfl (lv_at hl 1 rfl) ?_
  refine vp_callSi (run_vP (As := [.int x1]) (rest := []) C hK hP hD hN (c_X4_heldBy hk _) (rX4_r hK hP hk) ⟨wd_2_33, wd_2_34, wd_2_35, wd_1_4, wd_2_36⟩ ⟨rfl, rfl⟩ hv_X4_heldBy ⟨Nat.le_of_ble_eq_true rfl, Nat.le_of_ble_eq_true rfl⟩ rfl hl.1 rfl (Nat.le_of_ble_eq_true rfl) dX4_shelterWith_2 ⟨Nat.zero_le _, Nat.zero_le _⟩) (fun r_1 hr_1 => ?_)
  have hT := nm_u hr_1 hT
  refine lv_aload_n hx hb dX4_shelterWith_5 rfl (lv_at hl 0 rfl) ?_
  refine lv_iload_n hx hb dX4_shelterWith_6 rfl (lv_at hl 2 rfl) ?_
  refine lv_aload_n hx hb dX4_shelterWith_7 rfl (lv_at hl 0 rfl) ?_
  refine gX4_wind C hK hP hk wd_1_54 dX4_shelterWith_8 ?_
  refine vp_callSi (run_vP (As := [.int x2, .int (V k 3)]) (rest := [.int r_1]) C hK hP hD hN (c_X4_stillWith hk _) (rX4_r hK hP hk) ⟨wd_2_74, wd_2_75, wd_2_76, wd_1_4, wd_2_77⟩ ⟨rfl, rfl⟩ hv_X4_stillWith ⟨Nat.le_of_ble_eq_true rfl, Nat.le_of_ble_eq_true rfl⟩ rfl hl.1 rfl (Nat.le_of_ble_eq_true rfl) dX4_shelterWith_11 ⟨Nat.zero_le _, Nat.zero_le _⟩) (fun r_2 hr_2 => ?_)
  have hT := nm_u hr_2 hT
  refine lv_iand hx hb dX4_shelterWith_14 ?_
  refine vp_callSi (run_sP (As := [.int (r_1 &&& r_2)]) (rest := []) C hN (c_J6_bitCount_0f7a4) ⟨wd_2_103, wd_2_104, wd_1_9, wd_2_105⟩ ⟨rfl, rfl⟩ hd_J6_bitCount_0f7a4 ⟨Nat.le_of_ble_eq_true rfl, Nat.le_of_ble_eq_true rfl⟩ rfl hl.1 rfl (Nat.le_of_ble_eq_true rfl) dX4_shelterWith_15 ⟨Nat.zero_le _, Nat.zero_le _⟩) (fun r_3 hr_3 => ?_)
  have hT := nm_u hr_3 hT
  exact hret _ _ _ hT dX4_shelterWith_18
theorem hv_X4_shelterOf : yX4_shelterOf.cls = RX4 ∧ yX4_shelterOf.cls ≠ "java/lang/invoke/MethodHandle" ∧ yX4_shelterOf.cls ≠ "java/lang/invoke/VarHandle" ∧ (parseMethodDescriptor yX4_shelterOf.desc).map (fun d => d.parameters.length) = some 1 := by decide +kernel
theorem hd_X4_shelterOf : yX4_shelterOf.cls ≠ "java/lang/invoke/MethodHandle" ∧ yX4_shelterOf.cls ≠ "java/lang/invoke/VarHandle" ∧ (parseMethodDescriptor yX4_shelterOf.desc).map (fun d => d.parameters.length) = some 1 := hv_X4_shelterOf.2
def sp_X4_shelterOf (V : Nat → Nat → Int32) (Hd : Nat → Nat → Int32) (k : Nat) (x1 : Int32) : Int32 :=
  nm (sp_X4_shelterWith V Hd k x1 (V k 2)) (fun r_1 => r_1)
theorem sp_X4_shelterOf_s (V : Nat → Nat → Int32) (Hd : Nat → Nat → Int32) (k : Nat) (x1 : Int32) : (nm (sp_X4_shelterWith V Hd k x1 (V k 2)) (fun r_1 => r_1)) = sp_X4_shelterOf V Hd k x1 := rfl
set_option maxHeartbeats 4000000 in
set_option maxRecDepth 100000 in
theorem c_X4_shelterOf {l : Launch} {D : va_G} {cI cZ cO : ClassId} {sk : Nat → Nat} {g tb : Nat → Int32} {V Hd : Nat → Nat → Int32} {tr : Int64} {k : Nat} {x1 : Int32} (hk : k < 34) (sz : Nat) : Met l yX4_shelterOf (wm yX4_shelterOf cX4_shelterOf 2 (some .int)) ({ frames := 5, cells := 0, slots := 0, locals := 109 } : Room) (GPre D (ty3 cI cZ cO) (WW cI cO sk g tb V Hd tr) [.ref (sk (20 + 2 * k)), .int x1] sz) (vp_Si (fun r => r = sp_X4_shelterOf V Hd k x1)) 0 0 (fun _ => False) := by
  refine metP_i (post := (fun r => r = sp_X4_shelterOf V Hd k x1)) (by decide) (Nat.le_of_ble_eq_true rfl) ?_
  intro p e s m args below meth c ls Q C hsz hP hK hD hN hl hret
  have hx := C.1
  have hb := C.2.1
  have hl : lv_has ls 2 [(0, .ref (sk (20 + 2 * k))), (1, .int x1)] := hl
  have hT := sp_X4_shelterOf_s V Hd k x1
  refine lv_aload_n hx hb dX4_shelterOf_0 rfl (lv_at hl 0 rfl) ?_
  refine lv_iload_n hx hb dX4_shelterOf_1 rfl (lv_at hl 1 rfl) ?_
  refine lv_aload_n hx hb dX4_shelterOf_2 rfl (lv_at hl 0 rfl) ?_
  refine gX4_cloth C hK hP hk wd_1_51 dX4_shelterOf_3 ?_
  refine vp_callSi (run_vP (As := [.int x1, .int (V k 2)]) (rest := []) C hK hP hD hN (c_X4_shelterWith hk _) (rX4_r hK hP hk) ⟨wd_2_99, wd_2_100, wd_2_101, wd_1_4, wd_2_102⟩ ⟨rfl, rfl⟩ hv_X4_shelterWith ⟨Nat.le_of_ble_eq_true rfl, Nat.le_of_ble_eq_true rfl⟩ rfl hl.1 rfl (Nat.le_of_ble_eq_true rfl) dX4_shelterOf_6 ⟨Nat.zero_le _, Nat.zero_le _⟩) (fun r_1 hr_1 => ?_)
  have hT := nm_u hr_1 hT
  exact hret _ _ _ hT dX4_shelterOf_9
theorem hv_X4_borderLength : yX4_borderLength.cls = RX4 ∧ yX4_borderLength.cls ≠ "java/lang/invoke/MethodHandle" ∧ yX4_borderLength.cls ≠ "java/lang/invoke/VarHandle" ∧ (parseMethodDescriptor yX4_borderLength.desc).map (fun d => d.parameters.length) = some 0 := by decide +kernel
theorem hd_X4_borderLength : yX4_borderLength.cls ≠ "java/lang/invoke/MethodHandle" ∧ yX4_borderLength.cls ≠ "java/lang/invoke/VarHandle" ∧ (parseMethodDescriptor yX4_borderLength.desc).map (fun d => d.parameters.length) = some 0 := hv_X4_borderLength.2
def lp_X4_borderLength_17 (Hd : Nat → Nat → Int32) (k : Nat) : Nat → Int32 → Int32 → Int32
  | 0, y_4, y_5 => y_4
  | n + 1, y_4, y_5 => if (5 : Int32) ≤ y_5 then y_4 else (nm (sp_X4_heldBy Hd k y_5) (fun r_8 => nm (sp_X4_twosIn r_8) (fun r_9 => lp_X4_borderLength_17 Hd k n (y_4 + r_9) (y_5 + 1))))
theorem lp_X4_borderLength_17_s (Hd : Nat → Nat → Int32) (k : Nat) (n : Nat) (y_4 : Int32) (y_5 : Int32) : (if (5 : Int32) ≤ y_5 then y_4 else (nm (sp_X4_heldBy Hd k y_5) (fun r_8 => nm (sp_X4_twosIn r_8) (fun r_9 => lp_X4_borderLength_17 Hd k n (y_4 + r_9) (y_5 + 1))))) = lp_X4_borderLength_17 Hd k (n + 1) y_4 y_5 := rfl
def sp_X4_borderLength (V : Nat → Nat → Int32) (Hd : Nat → Nat → Int32) (k : Nat) : Int32 :=
  nm (sp_X4_dryCells V k) (fun r_1 => nm (sp_X4_heldByAny Hd k) (fun r_2 => nm (sp_X4_twosIn (r_1 &&& (r_2 ^^^ (-1 : Int32)))) (fun r_3 => nm (lp_X4_borderLength_17 Hd k (((5 : Int32).toInt - (0 : Int32).toInt).toNat + 1) r_3 (0 : Int32)) (fun e_6 => nm (sp_X4_dryCells V k) (fun r_10 => nm (sp_X4_twosIn r_10) (fun r_11 => r_11 - e_6))))))
theorem sp_X4_borderLength_s (V : Nat → Nat → Int32) (Hd : Nat → Nat → Int32) (k : Nat) : (nm (sp_X4_dryCells V k) (fun r_1 => nm (sp_X4_heldByAny Hd k) (fun r_2 => nm (sp_X4_twosIn (r_1 &&& (r_2 ^^^ (-1 : Int32)))) (fun r_3 => nm (lp_X4_borderLength_17 Hd k (((5 : Int32).toInt - (0 : Int32).toInt).toNat + 1) r_3 (0 : Int32)) (fun e_6 => nm (sp_X4_dryCells V k) (fun r_10 => nm (sp_X4_twosIn r_10) (fun r_11 => r_11 - e_6))))))) = sp_X4_borderLength V Hd k := rfl
set_option maxHeartbeats 4000000 in
set_option maxRecDepth 100000 in
theorem c_X4_borderLength {l : Launch} {D : va_G} {cI cZ cO : ClassId} {sk : Nat → Nat} {g tb : Nat → Int32} {V Hd : Nat → Nat → Int32} {tr : Int64} {k : Nat} (hk : k < 34) (sz : Nat) : Met l yX4_borderLength (wm yX4_borderLength cX4_borderLength 3 (some .int)) ({ frames := 3, cells := 0, slots := 0, locals := 64 } : Room) (GPre D (ty3 cI cZ cO) (WW cI cO sk g tb V Hd tr) [.ref (sk (20 + 2 * k))] sz) (vp_Si (fun r => r = sp_X4_borderLength V Hd k)) 0 0 (fun _ => False) := by
  refine metP_i (post := (fun r => r = sp_X4_borderLength V Hd k)) (by decide) (Nat.le_of_ble_eq_true rfl) ?_
  intro p e s m args below meth c ls Q C hsz hP hK hD hN hl hret
  have hx := C.1
  have hb := C.2.1
  have hl : lv_has ls 3 [(0, .ref (sk (20 + 2 * k)))] := hl
  have hT := sp_X4_borderLength_s V Hd k
  refine lv_aload_n hx hb dX4_borderLength_0 rfl (lv_at hl 0 rfl) ?_
  refine vp_callSi (run_vP (As := []) (rest := []) C hK hP hD hN (c_X4_dryCells hk _) (rX4_r hK hP hk) ⟨wd_2_86, wd_2_59, wd_2_60, wd_1_4, wd_2_61⟩ ⟨rfl, rfl⟩ hv_X4_dryCells ⟨Nat.le_of_ble_eq_true rfl, Nat.le_of_ble_eq_true rfl⟩ rfl hl.1 rfl (Nat.le_of_ble_eq_true rfl) dX4_borderLength_1 ⟨Nat.zero_le _, Nat.zero_le _⟩) (fun r_1 hr_1 => ?_)
  have hT := nm_u hr_1 hT
  refine lv_aload_n hx hb dX4_borderLength_4 rfl (lv_at hl 0 rfl) ?_
  refine vp_callSi (run_vP (As := []) (rest := [.int r_1]) C hK hP hD hN (c_X4_heldByAny hk _) (rX4_r hK hP hk) ⟨wd_2_173, wd_2_7, wd_2_8, wd_1_4, wd_2_9⟩ ⟨rfl, rfl⟩ hv_X4_heldByAny ⟨Nat.le_of_ble_eq_true rfl, Nat.le_of_ble_eq_true rfl⟩ rfl hl.1 rfl (Nat.le_of_ble_eq_true rfl) dX4_borderLength_5 ⟨Nat.zero_le _, Nat.zero_le _⟩) (fun r_2 hr_2 => ?_)
  have hT := nm_u hr_2 hT
  refine lv_iconst (v := -1) hx hb dX4_borderLength_8 (by decide) ?_
  refine lv_ixor hx hb dX4_borderLength_9 ?_
  refine lv_iand hx hb dX4_borderLength_10 ?_
  refine vp_callSi (run_sP (As := [.int (r_1 &&& (r_2 ^^^ (-1 : Int32)))]) (rest := []) C hN (c_X4_twosIn) ⟨wd_2_174, wd_2_175, wd_1_4, wd_2_176⟩ ⟨rfl, rfl⟩ hd_X4_twosIn ⟨Nat.le_of_ble_eq_true rfl, Nat.le_of_ble_eq_true rfl⟩ rfl hl.1 rfl (Nat.le_of_ble_eq_true rfl) dX4_borderLength_11 ⟨Nat.zero_le _, Nat.zero_le _⟩) (fun r_3 hr_3 => ?_)
  have hT := nm_u hr_3 hT
  refine lv_istore_n (lv' := [(1, .int r_3), (0, .ref (sk (20 + 2 * k)))]) hx hb dX4_borderLength_14 rfl hl (by decide) rfl (fun ls hl => ?_)
  refine lv_iconst (v := 0) hx hb dX4_borderLength_15 (by decide) ?_
  refine lv_istore_n (lv' := [(2, .int (0 : Int32)), (1, .int r_3), (0, .ref (sk (20 + 2 * k)))]) hx hb dX4_borderLength_16 rfl hl (by decide) rfl (fun ls hl => ?_)
  have L_17 : ∀ (n : Nat) (ls : Array Slot) (y_4 : Int32) (y_5 : Int32) (hm : ((5 : Int32).toInt - y_5.toInt).toNat < n) (hl : lv_has ls 3 [(0, .ref (sk (20 + 2 * k))), (1, .int y_4), (2, .int y_5)]) (kont : ∀ (ls : Array Slot) (e_6 : Int32), lv_has ls 3 [(0, .ref (sk (20 + 2 * k))), (1, .int e_6)] → e_6 = lp_X4_borderLength_17 Hd k n y_4 y_5 → W p l e ({ frames := 3, cells := 0, slots := 0, locals := 64 } : Room) s m args below meth c s.heap [] 0 0 Q (F0 m 39 ls [])), W p l e ({ frames := 3, cells := 0, slots := 0, locals := 64 } : Room) s m args below meth c s.heap [] 0 0 Q (F0 m 17 ls []) := by
    intro n
    induction n with
    | zero => intro ls y_4 y_5 hm; exact absurd hm (Nat.not_lt_zero _)
    | succ n ih =>
      intro ls y_4 y_5 hm hl kont
      have hT := lp_X4_borderLength_17_s Hd k n y_4 y_5
      refine lv_iload_n hx hb dX4_borderLength_17 rfl (lv_at hl 2 rfl) ?_
      refine lv_iconst (v := 5) hx hb dX4_borderLength_18 (by decide) ?_
      refine lv_icmp_ge (tgt := 39) hx hb dX4_borderLength_19 (by decide) (fun c_7 => ?_) (fun c_7 => ?_)
      · have hT := it_t c_7 hT
        exact kont ls y_4 (lv_sub hl [0, 1] rfl) hT
      · have hT := it_f c_7 hT
        refine lv_iload_n hx hb dX4_borderLength_22 rfl (lv_at hl 1 rfl) ?_
        refine lv_aload_n hx hb dX4_borderLength_23 rfl (lv_at hl 0 rfl) ?_
        refine lv_iload_n hx hb dX4_borderLength_24 rfl (lv_at hl 2 rfl) ?_
        refine vp_callSi (run_vP (As := [.int y_5]) (rest := [.int y_4]) C hK hP hD hN (c_X4_heldBy hk _) (rX4_r hK hP hk) ⟨wd_2_33, wd_2_34, wd_2_35, wd_1_4, wd_2_36⟩ ⟨rfl, rfl⟩ hv_X4_heldBy ⟨Nat.le_of_ble_eq_true rfl, Nat.le_of_ble_eq_true rfl⟩ rfl hl.1 rfl (Nat.le_of_ble_eq_true rfl) dX4_borderLength_25 ⟨Nat.zero_le _, Nat.zero_le _⟩) (fun r_8 hr_8 => ?_)
        have hT := nm_u hr_8 hT
        refine vp_callSi (run_sP (As := [.int r_8]) (rest := [.int y_4]) C hN (c_X4_twosIn) ⟨wd_2_174, wd_2_175, wd_1_4, wd_2_176⟩ ⟨rfl, rfl⟩ hd_X4_twosIn ⟨Nat.le_of_ble_eq_true rfl, Nat.le_of_ble_eq_true rfl⟩ rfl hl.1 rfl (Nat.le_of_ble_eq_true rfl) dX4_borderLength_28 ⟨Nat.zero_le _, Nat.zero_le _⟩) (fun r_9 hr_9 => ?_)
        have hT := nm_u hr_9 hT
        refine lv_iadd hx hb dX4_borderLength_31 ?_
        refine lv_istore_n (lv' := [(1, .int (y_4 + r_9)), (0, .ref (sk (20 + 2 * k))), (2, .int y_5)]) hx hb dX4_borderLength_32 rfl hl (by decide) rfl (fun ls hl => ?_)
        refine lv_iinc (v := y_5 + 1) (lv' := [(2, .int (y_5 + 1)), (1, .int (y_4 + r_9)), (0, .ref (sk (20 + 2 * k)))]) hx hb dX4_borderLength_33 hl (k := 2) rfl rfl (by decide) rfl (fun ls hl => ?_)
        refine lv_goto (tgt := 17) hx hb dX4_borderLength_36 (by decide) ?_
        exact ih ls (y_4 + r_9) (y_5 + 1) (ms_up c_7 hm) (lv_sub hl [2, 1, 0] rfl) (fun ls z0 hl he => kont ls z0 hl (he.trans hT))
  refine L_17 (((5 : Int32).toInt - (0 : Int32).toInt).toNat + 1) ls r_3 (0 : Int32) (Nat.lt_succ_self _) (lv_sub hl [2, 1, 0] rfl) (fun ls e_6 hl he => ?_)
  have hT := nm_u he hT
  refine lv_aload_n hx hb dX4_borderLength_39 rfl (lv_at hl 0 rfl) ?_
  refine vp_callSi (run_vP (As := []) (rest := []) C hK hP hD hN (c_X4_dryCells hk _) (rX4_r hK hP hk) ⟨wd_2_86, wd_2_59, wd_2_60, wd_1_4, wd_2_61⟩ ⟨rfl, rfl⟩ hv_X4_dryCells ⟨Nat.le_of_ble_eq_true rfl, Nat.le_of_ble_eq_true rfl⟩ rfl hl.1 rfl (Nat.le_of_ble_eq_true rfl) dX4_borderLength_40 ⟨Nat.zero_le _, Nat.zero_le _⟩) (fun r_10 hr_10 => ?_)
  have hT := nm_u hr_10 hT
  refine vp_callSi (run_sP (As := [.int r_10]) (rest := []) C hN (c_X4_twosIn) ⟨wd_2_174, wd_2_175, wd_1_4, wd_2_176⟩ ⟨rfl, rfl⟩ hd_X4_twosIn ⟨Nat.le_of_ble_eq_true rfl, Nat.le_of_ble_eq_true rfl⟩ rfl hl.1 rfl (Nat.le_of_ble_eq_true rfl) dX4_borderLength_43 ⟨Nat.zero_le _, Nat.zero_le _⟩) (fun r_11 hr_11 => ?_)
  have hT := nm_u hr_11 hT
  refine lv_iload_n hx hb dX4_borderLength_46 rfl (lv_at hl 1 rfl) ?_
  refine lv_isub hx hb dX4_borderLength_47 ?_
  exact hret _ _ _ hT dX4_borderLength_48
theorem hv_X4_losesAfter : yX4_losesAfter.cls = RX4 ∧ yX4_losesAfter.cls ≠ "java/lang/invoke/MethodHandle" ∧ yX4_losesAfter.cls ≠ "java/lang/invoke/VarHandle" ∧ (parseMethodDescriptor yX4_losesAfter.desc).map (fun d => d.parameters.length) = some 1 := by decide +kernel
theorem hd_X4_losesAfter : yX4_losesAfter.cls ≠ "java/lang/invoke/MethodHandle" ∧ yX4_losesAfter.cls ≠ "java/lang/invoke/VarHandle" ∧ (parseMethodDescriptor yX4_losesAfter.desc).map (fun d => d.parameters.length) = some 1 := hv_X4_losesAfter.2
def lp_X4_losesAfter_5 (V : Nat → Nat → Int32) (Hd : Nat → Nat → Int32) (k : Nat) (x1 : Int32) : Nat → Int32 → Int32
  | 0, y_1 => 0
  | n + 1, y_1 => if (V k 1) ≤ y_1 then (-9 : Int32) else (nm (sp_X4_heldBy Hd k x1) (fun r_3 => nm (sp_X4_rowOf V k y_1) (fun r_4 => if (r_3 &&& r_4) = 0 then (lp_X4_losesAfter_5 V Hd k x1 n (y_1 + 1)) else ((y_1 + (1 : Int32)) - (V k 4)))))
theorem lp_X4_losesAfter_5_s (V : Nat → Nat → Int32) (Hd : Nat → Nat → Int32) (k : Nat) (x1 : Int32) (n : Nat) (y_1 : Int32) : (if (V k 1) ≤ y_1 then (-9 : Int32) else (nm (sp_X4_heldBy Hd k x1) (fun r_3 => nm (sp_X4_rowOf V k y_1) (fun r_4 => if (r_3 &&& r_4) = 0 then (lp_X4_losesAfter_5 V Hd k x1 n (y_1 + 1)) else ((y_1 + (1 : Int32)) - (V k 4)))))) = lp_X4_losesAfter_5 V Hd k x1 (n + 1) y_1 := rfl
def sp_X4_losesAfter (V : Nat → Nat → Int32) (Hd : Nat → Nat → Int32) (k : Nat) (x1 : Int32) : Int32 :=
  lp_X4_losesAfter_5 V Hd k x1 (((V k 1).toInt - (V k 4).toInt).toNat + 1) (V k 4)
theorem sp_X4_losesAfter_s (V : Nat → Nat → Int32) (Hd : Nat → Nat → Int32) (k : Nat) (x1 : Int32) : (lp_X4_losesAfter_5 V Hd k x1 (((V k 1).toInt - (V k 4).toInt).toNat + 1) (V k 4)) = sp_X4_losesAfter V Hd k x1 := rfl
set_option maxHeartbeats 4000000 in
set_option maxRecDepth 100000 in
theorem c_X4_losesAfter {l : Launch} {D : va_G} {cI cZ cO : ClassId} {sk : Nat → Nat} {g tb : Nat → Int32} {V Hd : Nat → Nat → Int32} {tr : Int64} {k : Nat} {x1 : Int32} (hk : k < 34) (sz : Nat) : Met l yX4_losesAfter (wm yX4_losesAfter cX4_losesAfter 3 (some .int)) ({ frames := 1, cells := 0, slots := 0, locals := 21 } : Room) (GPre D (ty3 cI cZ cO) (WW cI cO sk g tb V Hd tr) [.ref (sk (20 + 2 * k)), .int x1] sz) (vp_Si (fun r => r = sp_X4_losesAfter V Hd k x1)) 0 0 (fun _ => False) := by
  refine metP_i (post := (fun r => r = sp_X4_losesAfter V Hd k x1)) (by decide) (Nat.le_of_ble_eq_true rfl) ?_
  intro p e s m args below meth c ls Q C hsz hP hK hD hN hl hret
  have hx := C.1
  have hb := C.2.1
  have hl : lv_has ls 3 [(0, .ref (sk (20 + 2 * k))), (1, .int x1)] := hl
  have hT := sp_X4_losesAfter_s V Hd k x1
  refine lv_aload_n hx hb dX4_losesAfter_0 rfl (lv_at hl 0 rfl) ?_
  refine gX4_tide C hK hP hk wd_1_57 dX4_losesAfter_1 ?_
  refine lv_istore_n (lv' := [(2, .int (V k 4)), (0, .ref (sk (20 + 2 * k))), (1, .int x1)]) hx hb dX4_losesAfter_4 rfl hl (by decide) rfl (fun ls hl => ?_)
  have L_5 : ∀ (n : Nat) (ls : Array Slot) (y_1 : Int32) (hm : ((V k 1).toInt - y_1.toInt).toNat < n) (hl : lv_has ls 3 [(0, .ref (sk (20 + 2 * k))), (1, .int x1), (2, .int y_1)]) (hT0 : lp_X4_losesAfter_5 V Hd k x1 n y_1 = sp_X4_losesAfter V Hd k x1), W p l e ({ frames := 1, cells := 0, slots := 0, locals := 21 } : Room) s m args below meth c s.heap [] 0 0 Q (F0 m 5 ls []) := by
    intro n
    induction n with
    | zero => intro ls y_1 hm; exact absurd hm (Nat.not_lt_zero _)
    | succ n ih =>
      intro ls y_1 hm hl hT0
      have hT := (lp_X4_losesAfter_5_s V Hd k x1 n y_1).trans hT0
      refine lv_iload_n hx hb dX4_losesAfter_5 rfl (lv_at hl 2 rfl) ?_
      refine lv_aload_n hx hb dX4_losesAfter_6 rfl (lv_at hl 0 rfl) ?_
      refine gX4_rows C hK hP hk wd_1_48 dX4_losesAfter_7 ?_
      refine lv_icmp_ge (tgt := 42) hx hb dX4_losesAfter_10 (by decide) (fun c_2 => ?_) (fun c_2 => ?_)
      · have hT := it_t c_2 hT
        refine lv_bipush (v := -9) hx hb dX4_losesAfter_42 (by decide) ?_
        exact hret _ _ _ hT dX4_losesAfter_44
      · have hT := it_f c_2 hT
        refine lv_aload_n hx hb dX4_losesAfter_13 rfl (lv_at hl 0 rfl) ?_
        refine lv_iload_n hx hb dX4_losesAfter_14 rfl (lv_at hl 1 rfl) ?_
        refine vp_callSi (run_vP (As := [.int x1]) (rest := []) C hK hP hD hN (c_X4_heldBy hk _) (rX4_r hK hP hk) ⟨wd_2_33, wd_2_34, wd_2_35, wd_1_4, wd_2_36⟩ ⟨rfl, rfl⟩ hv_X4_heldBy ⟨Nat.le_of_ble_eq_true rfl, Nat.le_of_ble_eq_true rfl⟩ rfl hl.1 rfl (Nat.le_of_ble_eq_true rfl) dX4_losesAfter_15 ⟨Nat.zero_le _, Nat.zero_le _⟩) (fun r_3 hr_3 => ?_)
        have hT := nm_u hr_3 hT
        refine lv_aload_n hx hb dX4_losesAfter_18 rfl (lv_at hl 0 rfl) ?_
        refine lv_iload_n hx hb dX4_losesAfter_19 rfl (lv_at hl 2 rfl) ?_
        refine vp_callSi (run_vP (As := [.int y_1]) (rest := [.int r_3]) C hK hP hD hN (c_X4_rowOf hk _) (rX4_r hK hP hk) ⟨wd_2_66, wd_2_68, ws_10, wd_1_4, wd_2_69⟩ ⟨rfl, rfl⟩ hv_X4_rowOf ⟨Nat.le_of_ble_eq_true rfl, Nat.le_of_ble_eq_true rfl⟩ rfl hl.1 rfl (Nat.le_of_ble_eq_true rfl) dX4_losesAfter_20 ⟨Nat.zero_le _, Nat.zero_le _⟩) (fun r_4 hr_4 => ?_)
        have hT := nm_u hr_4 hT
        refine lv_iand hx hb dX4_losesAfter_23 ?_
        refine lv_if_eq (tgt := 36) hx hb dX4_losesAfter_24 (by decide) (fun c_5 => ?_) (fun c_5 => ?_)
        · have hT := it_t c_5 hT
          refine lv_iinc (v := y_1 + 1) (lv' := [(2, .int (y_1 + 1)), (0, .ref (sk (20 + 2 * k))), (1, .int x1)]) hx hb dX4_losesAfter_36 hl (k := 2) rfl rfl (by decide) rfl (fun ls hl => ?_)
          refine lv_goto (tgt := 5) hx hb dX4_losesAfter_39 (by decide) ?_
          exact ih ls (y_1 + 1) (ms_up c_2 hm) (lv_sub hl [1, 2, 0] rfl) hT
        · have hT := it_f c_5 hT
          refine lv_iload_n hx hb dX4_losesAfter_27 rfl (lv_at hl 2 rfl) ?_
          refine lv_iconst (v := 1) hx hb dX4_losesAfter_28 (by decide) ?_
          refine lv_iadd hx hb dX4_losesAfter_29 ?_
          refine lv_aload_n hx hb dX4_losesAfter_30 rfl (lv_at hl 0 rfl) ?_
          refine gX4_tide C hK hP hk wd_1_57 dX4_losesAfter_31 ?_
          refine lv_isub hx hb dX4_losesAfter_34 ?_
          exact hret _ _ _ hT dX4_losesAfter_35
  exact L_5 (((V k 1).toInt - (V k 4).toInt).toNat + 1) ls (V k 4) (Nat.lt_succ_self _) (lv_sub hl [1, 2, 0] rfl) hT
theorem hv_X4_fewestOthers : yX4_fewestOthers.cls = RX4 ∧ yX4_fewestOthers.cls ≠ "java/lang/invoke/MethodHandle" ∧ yX4_fewestOthers.cls ≠ "java/lang/invoke/VarHandle" ∧ (parseMethodDescriptor yX4_fewestOthers.desc).map (fun d => d.parameters.length) = some 2 := by decide +kernel
theorem hd_X4_fewestOthers : yX4_fewestOthers.cls ≠ "java/lang/invoke/MethodHandle" ∧ yX4_fewestOthers.cls ≠ "java/lang/invoke/VarHandle" ∧ (parseMethodDescriptor yX4_fewestOthers.desc).map (fun d => d.parameters.length) = some 2 := hv_X4_fewestOthers.2
def lp_X4_fewestOthers_42 (V : Nat → Nat → Int32) (k : Nat) (r_1 : Int32) (r_2 : Int32) (r_3 : Int32) : Nat → Int32 → Int32 → Int32 → Int32
  | 0, y_6, y_7, y_8 => 0
  | n + 1, y_6, y_7, y_8 => if (20 : Int32) ≤ y_8 then y_7 else (nm (sp_X4_floodedOver (r_1 &&& ((r_2 &&& (r_3 ^^^ (-1 : Int32))) ^^^ (-1 : Int32))) y_6) (fun r_10 => nm (sp_X4_rowOf V k (V k 4)) (fun r_11 => if (r_10 &&& r_11) = 0 then (nm (sp_X4_besideAny r_10) (fun r_13 => lp_X4_fewestOthers_42 V k r_1 r_2 r_3 n (r_10 ||| (r_13 &&& r_1)) (y_7 + 1) (y_8 + 1))) else y_7)))
theorem lp_X4_fewestOthers_42_s (V : Nat → Nat → Int32) (k : Nat) (r_1 : Int32) (r_2 : Int32) (r_3 : Int32) (n : Nat) (y_6 : Int32) (y_7 : Int32) (y_8 : Int32) : (if (20 : Int32) ≤ y_8 then y_7 else (nm (sp_X4_floodedOver (r_1 &&& ((r_2 &&& (r_3 ^^^ (-1 : Int32))) ^^^ (-1 : Int32))) y_6) (fun r_10 => nm (sp_X4_rowOf V k (V k 4)) (fun r_11 => if (r_10 &&& r_11) = 0 then (nm (sp_X4_besideAny r_10) (fun r_13 => lp_X4_fewestOthers_42 V k r_1 r_2 r_3 n (r_10 ||| (r_13 &&& r_1)) (y_7 + 1) (y_8 + 1))) else y_7)))) = lp_X4_fewestOthers_42 V k r_1 r_2 r_3 (n + 1) y_6 y_7 y_8 := rfl
def jn_X4_fewestOthers_34 (V : Nat → Nat → Int32) (k : Nat) (x2 : Int32) (r_1 : Int32) (r_2 : Int32) (r_3 : Int32) (v_4 : Int32) : Int32 :=
  nm (sp_X6_oneIf v_4) (fun r_5 => lp_X4_fewestOthers_42 V k r_1 r_2 r_3 (((20 : Int32).toInt - (0 : Int32).toInt).toNat + 1) x2 r_5 (0 : Int32))
theorem jn_X4_fewestOthers_34_s (V : Nat → Nat → Int32) (k : Nat) (x2 : Int32) (r_1 : Int32) (r_2 : Int32) (r_3 : Int32) (v_4 : Int32) : (nm (sp_X6_oneIf v_4) (fun r_5 => lp_X4_fewestOthers_42 V k r_1 r_2 r_3 (((20 : Int32).toInt - (0 : Int32).toInt).toNat + 1) x2 r_5 (0 : Int32))) = jn_X4_fewestOthers_34 V k x2 r_1 r_2 r_3 v_4 := rfl
def sp_X4_fewestOthers (V : Nat → Nat → Int32) (Hd : Nat → Nat → Int32) (k : Nat) (x1 : Int32) (x2 : Int32) : Int32 :=
  nm (sp_X4_dryCells V k) (fun r_1 => nm (sp_X4_heldByAny Hd k) (fun r_2 => nm (sp_X4_heldBy Hd k x1) (fun r_3 => if (x2 &&& (r_2 &&& (r_3 ^^^ (-1 : Int32)))) = 0 then (jn_X4_fewestOthers_34 V k x2 r_1 r_2 r_3 (0 : Int32)) else (jn_X4_fewestOthers_34 V k x2 r_1 r_2 r_3 (1 : Int32)))))
theorem sp_X4_fewestOthers_s (V : Nat → Nat → Int32) (Hd : Nat → Nat → Int32) (k : Nat) (x1 : Int32) (x2 : Int32) : (nm (sp_X4_dryCells V k) (fun r_1 => nm (sp_X4_heldByAny Hd k) (fun r_2 => nm (sp_X4_heldBy Hd k x1) (fun r_3 => if (x2 &&& (r_2 &&& (r_3 ^^^ (-1 : Int32)))) = 0 then (jn_X4_fewestOthers_34 V k x2 r_1 r_2 r_3 (0 : Int32)) else (jn_X4_fewestOthers_34 V k x2 r_1 r_2 r_3 (1 : Int32)))))) = sp_X4_fewestOthers V Hd k x1 x2 := rfl
set_option maxHeartbeats 4000000 in
set_option maxRecDepth 100000 in
theorem c_X4_fewestOthers {l : Launch} {D : va_G} {cI cZ cO : ClassId} {sk : Nat → Nat} {g tb : Nat → Int32} {V Hd : Nat → Nat → Int32} {tr : Int64} {k : Nat} {x1 : Int32} {x2 : Int32} (hk : k < 34) (sz : Nat) : Met l yX4_fewestOthers (wm yX4_fewestOthers cX4_fewestOthers 8 (some .int)) ({ frames := 3, cells := 0, slots := 0, locals := 64 } : Room) (GPre D (ty3 cI cZ cO) (WW cI cO sk g tb V Hd tr) [.ref (sk (20 + 2 * k)), .int x1, .int x2] sz) (vp_Si (fun r => r = sp_X4_fewestOthers V Hd k x1 x2)) 0 0 (fun _ => False) := by
  refine metP_i (post := (fun r => r = sp_X4_fewestOthers V Hd k x1 x2)) (by decide) (Nat.le_of_ble_eq_true rfl) ?_
  intro p e s m args below meth c ls Q C hsz hP hK hD hN hl hret
  have hx := C.1
  have hb := C.2.1
  have hl : lv_has ls 8 [(0, .ref (sk (20 + 2 * k))), (1, .int x1), (2, .int x2)] := hl
  have hT := sp_X4_fewestOthers_s V Hd k x1 x2
  refine lv_aload_n hx hb dX4_fewestOthers_0 rfl (lv_at hl 0 rfl) ?_
  refine vp_callSi (run_vP (As := []) (rest := []) C hK hP hD hN (c_X4_dryCells hk _) (rX4_r hK hP hk) ⟨wd_2_86, wd_2_59, wd_2_60, wd_1_4, wd_2_61⟩ ⟨rfl, rfl⟩ hv_X4_dryCells ⟨Nat.le_of_ble_eq_true rfl, Nat.le_of_ble_eq_true rfl⟩ rfl hl.1 rfl (Nat.le_of_ble_eq_true rfl) dX4_fewestOthers_1 ⟨Nat.zero_le _, Nat.zero_le _⟩) (fun r_1 hr_1 => ?_)
  have hT := nm_u hr_1 hT
  refine lv_istore_n (lv' := [(3, .int r_1), (0, .ref (sk (20 + 2 * k))), (1, .int x1), (2, .int x2)]) hx hb dX4_fewestOthers_4 rfl hl (by decide) rfl (fun ls hl => ?_)
  refine lv_aload_n hx hb dX4_fewestOthers_5 rfl (lv_at hl 1 rfl) ?_
  refine vp_callSi (run_vP (As := []) (rest := []) C hK hP hD hN (c_X4_heldByAny hk _) (rX4_r hK hP hk) ⟨wd_2_173, wd_2_7, wd_2_8, wd_1_4, wd_2_9⟩ ⟨rfl, rfl⟩ hv_X4_heldByAny ⟨Nat.le_of_ble_eq_true rfl, Nat.le_of_ble_eq_true rfl⟩ rfl hl.1 rfl (Nat.le_of_ble_eq_true rfl) dX4_fewestOthers_6 ⟨Nat.zero_le _, Nat.zero_le _⟩) (fun r_2 hr_2 => ?_)
  have hT := nm_u hr_2 hT
  refine lv_aload_n hx hb dX4_fewestOthers_9 rfl (lv_at hl 1 rfl) ?_
  refine lv_iload_n hx hb dX4_fewestOthers_10 rfl (lv_at hl 2 rfl) ?_
  refine vp_callSi (run_vP (As := [.int x1]) (rest := [.int r_2]) C hK hP hD hN (c_X4_heldBy hk _) (rX4_r hK hP hk) ⟨wd_2_33, wd_2_34, wd_2_35, wd_1_4, wd_2_36⟩ ⟨rfl, rfl⟩ hv_X4_heldBy ⟨Nat.le_of_ble_eq_true rfl, Nat.le_of_ble_eq_true rfl⟩ rfl hl.1 rfl (Nat.le_of_ble_eq_true rfl) dX4_fewestOthers_11 ⟨Nat.zero_le _, Nat.zero_le _⟩) (fun r_3 hr_3 => ?_)
  have hT := nm_u hr_3 hT
  refine lv_iconst (v := -1) hx hb dX4_fewestOthers_14 (by decide) ?_
  refine lv_ixor hx hb dX4_fewestOthers_15 ?_
  refine lv_iand hx hb dX4_fewestOthers_16 ?_
  refine lv_istore (lv' := [(4, .int (r_2 &&& (r_3 ^^^ (-1 : Int32)))), (3, .int r_1), (0, .ref (sk (20 + 2 * k))), (1, .int x1), (2, .int x2)]) hx hb dX4_fewestOthers_17 hl (by decide) rfl (fun ls hl => ?_)
  refine lv_iload_n hx hb dX4_fewestOthers_19 rfl (lv_at hl 4 rfl) ?_
  refine lv_istore (lv' := [(5, .int x2), (4, .int (r_2 &&& (r_3 ^^^ (-1 : Int32)))), (3, .int r_1), (0, .ref (sk (20 + 2 * k))), (1, .int x1), (2, .int x2)]) hx hb dX4_fewestOthers_20 hl (by decide) rfl (fun ls hl => ?_)
  refine lv_iload_n hx hb dX4_fewestOthers_22 rfl (lv_at hl 5 rfl) ?_
  refine lv_iload hx hb dX4_fewestOthers_23 (lv_at hl 1 rfl) ?_
  refine lv_iand hx hb dX4_fewestOthers_25 ?_
  have K_34 : ∀ (ls : Array Slot) (v_4 : Int32) (bo_v_4 : v_4 = 0 ∨ v_4 = 1) (hl : lv_has ls 8 [(0, .ref (sk (20 + 2 * k))), (3, .int r_1), (4, .int (r_2 &&& (r_3 ^^^ (-1 : Int32)))), (5, .int x2)]) (hT0 : jn_X4_fewestOthers_34 V k x2 r_1 r_2 r_3 v_4 = sp_X4_fewestOthers V Hd k x1 x2), W p l e ({ frames := 3, cells := 0, slots := 0, locals := 64 } : Room) s m args below meth c s.heap [] 0 0 Q (F0 m 34 ls [.int v_4]) := by
    intro ls v_4 bo_v_4 hl hT0
    have hT := (jn_X4_fewestOthers_34_s V k x2 r_1 r_2 r_3 v_4).trans hT0
    refine vp_callSi (run_nP (As := [.int v_4]) (rest := []) C hN (c_X6_oneIf) ⟨nw_8, wd_2_56, wd_1_1, wd_2_57⟩ ⟨rfl, rfl⟩ hd_X6_oneIf ⟨Nat.le_of_ble_eq_true rfl, Nat.le_of_ble_eq_true rfl⟩ rfl hl.1 rfl (Nat.le_of_ble_eq_true rfl) dX4_fewestOthers_34 ⟨Nat.zero_le _, Nat.zero_le _⟩) (fun r_5 hr_5 => ?_)
    have hT := nm_u hr_5 hT
    refine lv_istore (lv' := [(6, .int r_5), (0, .ref (sk (20 + 2 * k))), (3, .int r_1), (4, .int (r_2 &&& (r_3 ^^^ (-1 : Int32)))), (5, .int x2)]) hx hb dX4_fewestOthers_37 hl (by decide) rfl (fun ls hl => ?_)
    refine lv_iconst (v := 0) hx hb dX4_fewestOthers_39 (by decide) ?_
    refine lv_istore (lv' := [(7, .int (0 : Int32)), (6, .int r_5), (0, .ref (sk (20 + 2 * k))), (3, .int r_1), (4, .int (r_2 &&& (r_3 ^^^ (-1 : Int32)))), (5, .int x2)]) hx hb dX4_fewestOthers_40 hl (by decide) rfl (fun ls hl => ?_)
    have L_42 : ∀ (n : Nat) (ls : Array Slot) (y_6 : Int32) (y_7 : Int32) (y_8 : Int32) (hm : ((20 : Int32).toInt - y_8.toInt).toNat < n) (hl : lv_has ls 8 [(0, .ref (sk (20 + 2 * k))), (3, .int r_1), (4, .int (r_2 &&& (r_3 ^^^ (-1 : Int32)))), (5, .int y_6), (6, .int y_7), (7, .int y_8)]) (hT0 : lp_X4_fewestOthers_42 V k r_1 r_2 r_3 n y_6 y_7 y_8 = sp_X4_fewestOthers V Hd k x1 x2), W p l e ({ frames := 3, cells := 0, slots := 0, locals := 64 } : Room) s m args below meth c s.heap [] 0 0 Q (F0 m 42 ls []) := by
      intro n
      induction n with
      | zero => intro ls y_6 y_7 y_8 hm; exact absurd hm (Nat.not_lt_zero _)
      | succ n ih =>
        intro ls y_6 y_7 y_8 hm hl hT0
        have hT := (lp_X4_fewestOthers_42_s V k r_1 r_2 r_3 n y_6 y_7 y_8).trans hT0
        refine lv_iload hx hb dX4_fewestOthers_42 (lv_at hl 5 rfl) ?_
        refine lv_bipush (v := 20) hx hb dX4_fewestOthers_44 (by decide) ?_
        refine lv_icmp_ge (tgt := 100) hx hb dX4_fewestOthers_46 (by decide) (fun c_9 => ?_) (fun c_9 => ?_)
        · have hT := it_t c_9 hT
          refine lv_iload hx hb dX4_fewestOthers_100 (lv_at hl 4 rfl) ?_
          exact hret _ _ _ hT dX4_fewestOthers_102
        · have hT := it_f c_9 hT
          refine lv_iload_n hx hb dX4_fewestOthers_49 rfl (lv_at hl 1 rfl) ?_
          refine lv_iload hx hb dX4_fewestOthers_50 (lv_at hl 2 rfl) ?_
          refine lv_iconst (v := -1) hx hb dX4_fewestOthers_52 (by decide) ?_
          refine lv_ixor hx hb dX4_fewestOthers_53 ?_
          refine lv_iand hx hb dX4_fewestOthers_54 ?_
          refine lv_iload hx hb dX4_fewestOthers_55 (lv_at hl 3 rfl) ?_
          refine vp_callSi (run_sP (As := [.int (r_1 &&& ((r_2 &&& (r_3 ^^^ (-1 : Int32))) ^^^ (-1 : Int32))), .int y_6]) (rest := []) C hN (c_X4_floodedOver) ⟨wd_2_186, wd_2_187, wd_1_4, wd_2_188⟩ ⟨rfl, rfl⟩ hd_X4_floodedOver ⟨Nat.le_of_ble_eq_true rfl, Nat.le_of_ble_eq_true rfl⟩ rfl hl.1 rfl (Nat.le_of_ble_eq_true rfl) dX4_fewestOthers_57 ⟨Nat.zero_le _, Nat.zero_le _⟩) (fun r_10 hr_10 => ?_)
          have hT := nm_u hr_10 hT
          refine lv_istore (lv' := [(5, .int r_10), (0, .ref (sk (20 + 2 * k))), (3, .int r_1), (4, .int (r_2 &&& (r_3 ^^^ (-1 : Int32)))), (6, .int y_7), (7, .int y_8)]) hx hb dX4_fewestOthers_60 hl (by decide) rfl (fun ls hl => ?_)
          refine lv_iload hx hb dX4_fewestOthers_62 (lv_at hl 0 rfl) ?_
          refine lv_aload_n hx hb dX4_fewestOthers_64 rfl (lv_at hl 1 rfl) ?_
          refine lv_aload_n hx hb dX4_fewestOthers_65 rfl (lv_at hl 1 rfl) ?_
          refine gX4_tide C hK hP hk wd_1_57 dX4_fewestOthers_66 ?_
          refine vp_callSi (run_vP (As := [.int (V k 4)]) (rest := [.int r_10]) C hK hP hD hN (c_X4_rowOf hk _) (rX4_r hK hP hk) ⟨wd_2_66, wd_2_68, ws_10, wd_1_4, wd_2_69⟩ ⟨rfl, rfl⟩ hv_X4_rowOf ⟨Nat.le_of_ble_eq_true rfl, Nat.le_of_ble_eq_true rfl⟩ rfl hl.1 rfl (Nat.le_of_ble_eq_true rfl) dX4_fewestOthers_69 ⟨Nat.zero_le _, Nat.zero_le _⟩) (fun r_11 hr_11 => ?_)
          have hT := nm_u hr_11 hT
          refine lv_iand hx hb dX4_fewestOthers_72 ?_
          refine lv_if_eq (tgt := 79) hx hb dX4_fewestOthers_73 (by decide) (fun c_12 => ?_) (fun c_12 => ?_)
          · have hT := it_t c_12 hT
            refine lv_iload hx hb dX4_fewestOthers_79 (lv_at hl 0 rfl) ?_
            refine lv_iload hx hb dX4_fewestOthers_81 (lv_at hl 0 rfl) ?_
            refine vp_callSi (run_sP (As := [.int r_10]) (rest := [.int r_10]) C hN (c_X4_besideAny) ⟨wd_2_189, wd_2_190, wd_1_4, wd_2_191⟩ ⟨rfl, rfl⟩ hd_X4_besideAny ⟨Nat.le_of_ble_eq_true rfl, Nat.le_of_ble_eq_true rfl⟩ rfl hl.1 rfl (Nat.le_of_ble_eq_true rfl) dX4_fewestOthers_83 ⟨Nat.zero_le _, Nat.zero_le _⟩) (fun r_13 hr_13 => ?_)
            have hT := nm_u hr_13 hT
            refine lv_iload_n hx hb dX4_fewestOthers_86 rfl (lv_at hl 2 rfl) ?_
            refine lv_iand hx hb dX4_fewestOthers_87 ?_
            refine lv_ior hx hb dX4_fewestOthers_88 ?_
            refine lv_istore (lv' := [(5, .int (r_10 ||| (r_13 &&& r_1))), (0, .ref (sk (20 + 2 * k))), (3, .int r_1), (4, .int (r_2 &&& (r_3 ^^^ (-1 : Int32)))), (6, .int y_7), (7, .int y_8)]) hx hb dX4_fewestOthers_89 hl (by decide) rfl (fun ls hl => ?_)
            refine lv_iinc (v := y_7 + 1) (lv' := [(6, .int (y_7 + 1)), (5, .int (r_10 ||| (r_13 &&& r_1))), (0, .ref (sk (20 + 2 * k))), (3, .int r_1), (4, .int (r_2 &&& (r_3 ^^^ (-1 : Int32)))), (7, .int y_8)]) hx hb dX4_fewestOthers_91 hl (k := 4) rfl rfl (by decide) rfl (fun ls hl => ?_)
            refine lv_iinc (v := y_8 + 1) (lv' := [(7, .int (y_8 + 1)), (6, .int (y_7 + 1)), (5, .int (r_10 ||| (r_13 &&& r_1))), (0, .ref (sk (20 + 2 * k))), (3, .int r_1), (4, .int (r_2 &&& (r_3 ^^^ (-1 : Int32))))]) hx hb dX4_fewestOthers_94 hl (k := 5) rfl rfl (by decide) rfl (fun ls hl => ?_)
            refine lv_goto (tgt := 42) hx hb dX4_fewestOthers_97 (by decide) ?_
            exact ih ls (r_10 ||| (r_13 &&& r_1)) (y_7 + 1) (y_8 + 1) (ms_up c_9 hm) (lv_sub hl [3, 4, 5, 2, 1, 0] rfl) hT
          · have hT := it_f c_12 hT
            refine lv_iload hx hb dX4_fewestOthers_76 (lv_at hl 4 rfl) ?_
            exact hret _ _ _ hT dX4_fewestOthers_78
    exact L_42 (((20 : Int32).toInt - (0 : Int32).toInt).toNat + 1) ls x2 r_5 (0 : Int32) (Nat.lt_succ_self _) (lv_sub hl [2, 3, 4, 5, 1, 0] rfl) hT
  refine lv_if_eq (tgt := 33) hx hb dX4_fewestOthers_26 (by decide) (fun c_14 => ?_) (fun c_14 => ?_)
  · have hT := it_t c_14 hT
    refine lv_iconst (v := 0) hx hb dX4_fewestOthers_33 (by decide) ?_
    exact K_34 ls (0 : Int32) (Or.inl rfl) (lv_sub hl [3, 2, 1, 0] rfl) hT
  · have hT := it_f c_14 hT
    refine lv_iconst (v := 1) hx hb dX4_fewestOthers_29 (by decide) ?_
    refine lv_goto (tgt := 34) hx hb dX4_fewestOthers_30 (by decide) ?_
    exact K_34 ls (1 : Int32) (Or.inr rfl) (lv_sub hl [3, 2, 1, 0] rfl) hT
theorem hv_X4_bestCloth : yX4_bestCloth.cls = RX4 ∧ yX4_bestCloth.cls ≠ "java/lang/invoke/MethodHandle" ∧ yX4_bestCloth.cls ≠ "java/lang/invoke/VarHandle" ∧ (parseMethodDescriptor yX4_bestCloth.desc).map (fun d => d.parameters.length) = some 1 := by decide +kernel
theorem hd_X4_bestCloth : yX4_bestCloth.cls ≠ "java/lang/invoke/MethodHandle" ∧ yX4_bestCloth.cls ≠ "java/lang/invoke/VarHandle" ∧ (parseMethodDescriptor yX4_bestCloth.desc).map (fun d => d.parameters.length) = some 1 := hv_X4_bestCloth.2
def lp_X4_bestCloth_8 (V : Nat → Nat → Int32) (Hd : Nat → Nat → Int32) (k : Nat) (x1 : Int32) : Nat → Int32 → Int32 → Int32 → Int32
  | 0, y_1, y_2, y_3 => y_1
  | n + 1, y_1, y_2, y_3 => if (20 : Int32) ≤ y_3 then y_1 else (nm (sp_X4_shelterWith V Hd k x1 ((V k 2) ||| ((1 : Int32) <<< (y_3 &&& 31)))) (fun r_6 => nm (sp_X4_bareCells V k) (fun r_7 => if (r_7 &&& ((1 : Int32) <<< (y_3 &&& 31))) = 0 then (lp_X4_bestCloth_8 V Hd k x1 n y_1 y_2 (y_3 + 1)) else (if r_6 ≤ y_2 then (lp_X4_bestCloth_8 V Hd k x1 n y_1 y_2 (y_3 + 1)) else (lp_X4_bestCloth_8 V Hd k x1 n y_3 r_6 (y_3 + 1))))))
theorem lp_X4_bestCloth_8_s (V : Nat → Nat → Int32) (Hd : Nat → Nat → Int32) (k : Nat) (x1 : Int32) (n : Nat) (y_1 : Int32) (y_2 : Int32) (y_3 : Int32) : (if (20 : Int32) ≤ y_3 then y_1 else (nm (sp_X4_shelterWith V Hd k x1 ((V k 2) ||| ((1 : Int32) <<< (y_3 &&& 31)))) (fun r_6 => nm (sp_X4_bareCells V k) (fun r_7 => if (r_7 &&& ((1 : Int32) <<< (y_3 &&& 31))) = 0 then (lp_X4_bestCloth_8 V Hd k x1 n y_1 y_2 (y_3 + 1)) else (if r_6 ≤ y_2 then (lp_X4_bestCloth_8 V Hd k x1 n y_1 y_2 (y_3 + 1)) else (lp_X4_bestCloth_8 V Hd k x1 n y_3 r_6 (y_3 + 1))))))) = lp_X4_bestCloth_8 V Hd k x1 (n + 1) y_1 y_2 y_3 := rfl
def sp_X4_bestCloth (V : Nat → Nat → Int32) (Hd : Nat → Nat → Int32) (k : Nat) (x1 : Int32) : Int32 :=
  nm (lp_X4_bestCloth_8 V Hd k x1 (((20 : Int32).toInt - (0 : Int32).toInt).toNat + 1) (-9 : Int32) (-1 : Int32) (0 : Int32)) (fun e_4 => e_4)
theorem sp_X4_bestCloth_s (V : Nat → Nat → Int32) (Hd : Nat → Nat → Int32) (k : Nat) (x1 : Int32) : (nm (lp_X4_bestCloth_8 V Hd k x1 (((20 : Int32).toInt - (0 : Int32).toInt).toNat + 1) (-9 : Int32) (-1 : Int32) (0 : Int32)) (fun e_4 => e_4)) = sp_X4_bestCloth V Hd k x1 := rfl
set_option maxHeartbeats 4000000 in
set_option maxRecDepth 100000 in
theorem c_X4_bestCloth {l : Launch} {D : va_G} {cI cZ cO : ClassId} {sk : Nat → Nat} {g tb : Nat → Int32} {V Hd : Nat → Nat → Int32} {tr : Int64} {k : Nat} {x1 : Int32} (hk : k < 34) (sz : Nat) : Met l yX4_bestCloth (wm yX4_bestCloth cX4_bestCloth 7 (some .int)) ({ frames := 5, cells := 0, slots := 0, locals := 109 } : Room) (GPre D (ty3 cI cZ cO) (WW cI cO sk g tb V Hd tr) [.ref (sk (20 + 2 * k)), .int x1] sz) (vp_Si (fun r => r = sp_X4_bestCloth V Hd k x1)) 0 0 (fun _ => False) := by
  refine metP_i (post := (fun r => r = sp_X4_bestCloth V Hd k x1)) (by decide) (Nat.le_of_ble_eq_true rfl) ?_
  intro p e s m args below meth c ls Q C hsz hP hK hD hN hl hret
  have hx := C.1
  have hb := C.2.1
  have hl : lv_has ls 7 [(0, .ref (sk (20 + 2 * k))), (1, .int x1)] := hl
  have hT := sp_X4_bestCloth_s V Hd k x1
  refine lv_bipush (v := -9) hx hb dX4_bestCloth_0 (by decide) ?_
  refine lv_istore_n (lv' := [(2, .int (-9 : Int32)), (0, .ref (sk (20 + 2 * k))), (1, .int x1)]) hx hb dX4_bestCloth_2 rfl hl (by decide) rfl (fun ls hl => ?_)
  refine lv_iconst (v := -1) hx hb dX4_bestCloth_3 (by decide) ?_
  refine lv_istore_n (lv' := [(3, .int (-1 : Int32)), (2, .int (-9 : Int32)), (0, .ref (sk (20 + 2 * k))), (1, .int x1)]) hx hb dX4_bestCloth_4 rfl hl (by decide) rfl (fun ls hl => ?_)
  refine lv_iconst (v := 0) hx hb dX4_bestCloth_5 (by decide) ?_
  refine lv_istore (lv' := [(4, .int (0 : Int32)), (3, .int (-1 : Int32)), (2, .int (-9 : Int32)), (0, .ref (sk (20 + 2 * k))), (1, .int x1)]) hx hb dX4_bestCloth_6 hl (by decide) rfl (fun ls hl => ?_)
  have L_8 : ∀ (n : Nat) (ls : Array Slot) (y_1 : Int32) (y_2 : Int32) (y_3 : Int32) (hm : ((20 : Int32).toInt - y_3.toInt).toNat < n) (hl : lv_has ls 7 [(0, .ref (sk (20 + 2 * k))), (1, .int x1), (2, .int y_1), (3, .int y_2), (4, .int y_3)]) (kont : ∀ (ls : Array Slot) (e_4 : Int32), lv_has ls 7 [(2, .int e_4)] → e_4 = lp_X4_bestCloth_8 V Hd k x1 n y_1 y_2 y_3 → W p l e ({ frames := 5, cells := 0, slots := 0, locals := 109 } : Room) s m args below meth c s.heap [] 0 0 Q (F0 m 63 ls [])), W p l e ({ frames := 5, cells := 0, slots := 0, locals := 109 } : Room) s m args below meth c s.heap [] 0 0 Q (F0 m 8 ls []) := by
    intro n
    induction n with
    | zero => intro ls y_1 y_2 y_3 hm; exact absurd hm (Nat.not_lt_zero _)
    | succ n ih =>
      intro ls y_1 y_2 y_3 hm hl kont
      have hT := lp_X4_bestCloth_8_s V Hd k x1 n y_1 y_2 y_3
      refine lv_iload hx hb dX4_bestCloth_8 (lv_at hl 4 rfl) ?_
      refine lv_bipush (v := 20) hx hb dX4_bestCloth_10 (by decide) ?_
      refine lv_icmp_ge (tgt := 63) hx hb dX4_bestCloth_12 (by decide) (fun c_5 => ?_) (fun c_5 => ?_)
      · have hT := it_t c_5 hT
        exact kont ls y_1 (lv_sub hl [2] rfl) hT
      · have hT := it_f c_5 hT
        refine lv_iconst (v := 1) hx hb dX4_bestCloth_15 (by decide) ?_
        refine lv_iload hx hb dX4_bestCloth_16 (lv_at hl 4 rfl) ?_
        refine lv_ishl hx hb dX4_bestCloth_18 ?_
        refine lv_istore (lv' := [(5, .int ((1 : Int32) <<< (y_3 &&& 31))), (0, .ref (sk (20 + 2 * k))), (1, .int x1), (2, .int y_1), (3, .int y_2), (4, .int y_3)]) hx hb dX4_bestCloth_19 hl (by decide) rfl (fun ls hl => ?_)
        refine lv_aload_n hx hb dX4_bestCloth_21 rfl (lv_at hl 1 rfl) ?_
        refine lv_iload_n hx hb dX4_bestCloth_22 rfl (lv_at hl 2 rfl) ?_
        refine lv_aload_n hx hb dX4_bestCloth_23 rfl (lv_at hl 1 rfl) ?_
        refine gX4_cloth C hK hP hk wd_1_51 dX4_bestCloth_24 ?_
        refine lv_iload hx hb dX4_bestCloth_27 (lv_at hl 0 rfl) ?_
        refine lv_ior hx hb dX4_bestCloth_29 ?_
        refine vp_callSi (run_vP (As := [.int x1, .int ((V k 2) ||| ((1 : Int32) <<< (y_3 &&& 31)))]) (rest := []) C hK hP hD hN (c_X4_shelterWith hk _) (rX4_r hK hP hk) ⟨wd_2_99, wd_2_100, wd_2_101, wd_1_4, wd_2_102⟩ ⟨rfl, rfl⟩ hv_X4_shelterWith ⟨Nat.le_of_ble_eq_true rfl, Nat.le_of_ble_eq_true rfl⟩ rfl hl.1 rfl (Nat.le_of_ble_eq_true rfl) dX4_bestCloth_30 ⟨Nat.zero_le _, Nat.zero_le _⟩) (fun r_6 hr_6 => ?_)
        have hT := nm_u hr_6 hT
        refine lv_istore (lv' := [(6, .int r_6), (5, .int ((1 : Int32) <<< (y_3 &&& 31))), (0, .ref (sk (20 + 2 * k))), (1, .int x1), (2, .int y_1), (3, .int y_2), (4, .int y_3)]) hx hb dX4_bestCloth_33 hl (by decide) rfl (fun ls hl => ?_)
        refine lv_aload_n hx hb dX4_bestCloth_35 rfl (lv_at hl 2 rfl) ?_
        refine vp_callSi (run_vP (As := []) (rest := []) C hK hP hD hN (c_X4_bareCells hk _) (rX4_r hK hP hk) ⟨wd_2_200, wd_2_201, wd_2_202, wd_1_4, wd_2_203⟩ ⟨rfl, rfl⟩ hv_X4_bareCells ⟨Nat.le_of_ble_eq_true rfl, Nat.le_of_ble_eq_true rfl⟩ rfl hl.1 rfl (Nat.le_of_ble_eq_true rfl) dX4_bestCloth_36 ⟨Nat.zero_le _, Nat.zero_le _⟩) (fun r_7 hr_7 => ?_)
        have hT := nm_u hr_7 hT
        refine lv_iload hx hb dX4_bestCloth_39 (lv_at hl 1 rfl) ?_
        refine lv_iand hx hb dX4_bestCloth_41 ?_
        refine lv_if_eq (tgt := 57) hx hb dX4_bestCloth_42 (by decide) (fun c_8 => ?_) (fun c_8 => ?_)
        · have hT := it_t c_8 hT
          refine lv_iinc (v := y_3 + 1) (lv' := [(4, .int (y_3 + 1)), (6, .int r_6), (5, .int ((1 : Int32) <<< (y_3 &&& 31))), (0, .ref (sk (20 + 2 * k))), (1, .int x1), (2, .int y_1), (3, .int y_2)]) hx hb dX4_bestCloth_57 hl (k := 6) rfl rfl (by decide) rfl (fun ls hl => ?_)
          refine lv_goto (tgt := 8) hx hb dX4_bestCloth_60 (by decide) ?_
          exact ih ls y_1 y_2 (y_3 + 1) (ms_up c_5 hm) (lv_sub hl [3, 4, 5, 6, 0] rfl) (fun ls z0 hl he => kont ls z0 hl (he.trans hT))
        · have hT := it_f c_8 hT
          refine lv_iload hx hb dX4_bestCloth_45 (lv_at hl 0 rfl) ?_
          refine lv_iload_n hx hb dX4_bestCloth_47 rfl (lv_at hl 5 rfl) ?_
          refine lv_icmp_le (tgt := 57) hx hb dX4_bestCloth_48 (by decide) (fun c_9 => ?_) (fun c_9 => ?_)
          · have hT := it_t c_9 hT
            refine lv_iinc (v := y_3 + 1) (lv' := [(4, .int (y_3 + 1)), (6, .int r_6), (5, .int ((1 : Int32) <<< (y_3 &&& 31))), (0, .ref (sk (20 + 2 * k))), (1, .int x1), (2, .int y_1), (3, .int y_2)]) hx hb dX4_bestCloth_57 hl (k := 6) rfl rfl (by decide) rfl (fun ls hl => ?_)
            refine lv_goto (tgt := 8) hx hb dX4_bestCloth_60 (by decide) ?_
            exact ih ls y_1 y_2 (y_3 + 1) (ms_up c_5 hm) (lv_sub hl [3, 4, 5, 6, 0] rfl) (fun ls z0 hl he => kont ls z0 hl (he.trans hT))
          · have hT := it_f c_9 hT
            refine lv_iload hx hb dX4_bestCloth_51 (lv_at hl 6 rfl) ?_
            refine lv_istore_n (lv' := [(2, .int y_3), (6, .int r_6), (5, .int ((1 : Int32) <<< (y_3 &&& 31))), (0, .ref (sk (20 + 2 * k))), (1, .int x1), (3, .int y_2), (4, .int y_3)]) hx hb dX4_bestCloth_53 rfl hl (by decide) rfl (fun ls hl => ?_)
            refine lv_iload hx hb dX4_bestCloth_54 (lv_at hl 1 rfl) ?_
            refine lv_istore_n (lv' := [(3, .int r_6), (2, .int y_3), (6, .int r_6), (5, .int ((1 : Int32) <<< (y_3 &&& 31))), (0, .ref (sk (20 + 2 * k))), (1, .int x1), (4, .int y_3)]) hx hb dX4_bestCloth_56 rfl hl (by decide) rfl (fun ls hl => ?_)
            refine lv_iinc (v := y_3 + 1) (lv' := [(4, .int (y_3 + 1)), (3, .int r_6), (2, .int y_3), (6, .int r_6), (5, .int ((1 : Int32) <<< (y_3 &&& 31))), (0, .ref (sk (20 + 2 * k))), (1, .int x1)]) hx hb dX4_bestCloth_57 hl (k := 6) rfl rfl (by decide) rfl (fun ls hl => ?_)
            refine lv_goto (tgt := 8) hx hb dX4_bestCloth_60 (by decide) ?_
            exact ih ls y_3 r_6 (y_3 + 1) (ms_up c_5 hm) (lv_sub hl [5, 6, 2, 1, 0] rfl) (fun ls z0 hl he => kont ls z0 hl (he.trans hT))
  refine L_8 (((20 : Int32).toInt - (0 : Int32).toInt).toNat + 1) ls (-9 : Int32) (-1 : Int32) (0 : Int32) (Nat.lt_succ_self _) (lv_sub hl [3, 4, 2, 1, 0] rfl) (fun ls e_4 hl he => ?_)
  have hT := nm_u he hT
  refine lv_iload_n hx hb dX4_bestCloth_63 rfl (lv_at hl 0 rfl) ?_
  exact hret _ _ _ hT dX4_bestCloth_64
theorem hv_X4_cellsBeside : yX4_cellsBeside.cls = RX4 ∧ yX4_cellsBeside.cls ≠ "java/lang/invoke/MethodHandle" ∧ yX4_cellsBeside.cls ≠ "java/lang/invoke/VarHandle" ∧ (parseMethodDescriptor yX4_cellsBeside.desc).map (fun d => d.parameters.length) = some 1 := by decide +kernel
theorem hd_X4_cellsBeside : yX4_cellsBeside.cls ≠ "java/lang/invoke/MethodHandle" ∧ yX4_cellsBeside.cls ≠ "java/lang/invoke/VarHandle" ∧ (parseMethodDescriptor yX4_cellsBeside.desc).map (fun d => d.parameters.length) = some 1 := hv_X4_cellsBeside.2
def sp_X4_cellsBeside (V : Nat → Nat → Int32) (k : Nat) (x1 : Int32) : Int32 :=
  nm (sp_X4_besideAny x1) (fun r_1 => nm (sp_X4_cellsFrom V k (0 : Int32)) (fun r_2 => nm (sp_J6_bitCount_0f7a4 (r_1 &&& r_2)) (fun r_3 => r_3)))
theorem sp_X4_cellsBeside_s (V : Nat → Nat → Int32) (k : Nat) (x1 : Int32) : (nm (sp_X4_besideAny x1) (fun r_1 => nm (sp_X4_cellsFrom V k (0 : Int32)) (fun r_2 => nm (sp_J6_bitCount_0f7a4 (r_1 &&& r_2)) (fun r_3 => r_3)))) = sp_X4_cellsBeside V k x1 := rfl
set_option maxHeartbeats 4000000 in
set_option maxRecDepth 100000 in
theorem c_X4_cellsBeside {l : Launch} {D : va_G} {cI cZ cO : ClassId} {sk : Nat → Nat} {g tb : Nat → Int32} {V Hd : Nat → Nat → Int32} {tr : Int64} {k : Nat} {x1 : Int32} (hk : k < 34) (sz : Nat) : Met l yX4_cellsBeside (wm yX4_cellsBeside cX4_cellsBeside 2 (some .int)) ({ frames := 2, cells := 0, slots := 0, locals := 44 } : Room) (GPre D (ty3 cI cZ cO) (WW cI cO sk g tb V Hd tr) [.ref (sk (20 + 2 * k)), .int x1] sz) (vp_Si (fun r => r = sp_X4_cellsBeside V k x1)) 0 0 (fun _ => False) := by
  refine metP_i (post := (fun r => r = sp_X4_cellsBeside V k x1)) (by decide) (Nat.le_of_ble_eq_true rfl) ?_
  intro p e s m args below meth c ls Q C hsz hP hK hD hN hl hret
  have hx := C.1
  have hb := C.2.1
  have hl : lv_has ls 2 [(0, .ref (sk (20 + 2 * k))), (1, .int x1)] := hl
  have hT := sp_X4_cellsBeside_s V k x1
  refine lv_iload_n hx hb dX4_cellsBeside_0 rfl (lv_at hl 1 rfl) ?_
  refine vp_callSi (run_sP (As := [.int x1]) (rest := []) C hN (c_X4_besideAny) ⟨wd_2_189, wd_2_190, wd_1_4, wd_2_191⟩ ⟨rfl, rfl⟩ hd_X4_besideAny ⟨Nat.le_of_ble_eq_true rfl, Nat.le_of_ble_eq_true rfl⟩ rfl hl.1 rfl (Nat.le_of_ble_eq_true rfl) dX4_cellsBeside_1 ⟨Nat.zero_le _, Nat.zero_le _⟩) (fun r_1 hr_1 => ?_)
  have hT := nm_u hr_1 hT
  refine lv_aload_n hx hb dX4_cellsBeside_4 rfl (lv_at hl 0 rfl) ?_
  refine lv_iconst (v := 0) hx hb dX4_cellsBeside_5 (by decide) ?_
  refine vp_callSi (run_vP (As := [.int (0 : Int32)]) (rest := [.int r_1]) C hK hP hD hN (c_X4_cellsFrom hk _) (rX4_r hK hP hk) ⟨wd_2_62, wd_2_64, ws_9, wd_1_4, wd_2_65⟩ ⟨rfl, rfl⟩ hv_X4_cellsFrom ⟨Nat.le_of_ble_eq_true rfl, Nat.le_of_ble_eq_true rfl⟩ rfl hl.1 rfl (Nat.le_of_ble_eq_true rfl) dX4_cellsBeside_6 ⟨Nat.zero_le _, Nat.zero_le _⟩) (fun r_2 hr_2 => ?_)
  have hT := nm_u hr_2 hT
  refine lv_iand hx hb dX4_cellsBeside_9 ?_
  refine vp_callSi (run_sP (As := [.int (r_1 &&& r_2)]) (rest := []) C hN (c_J6_bitCount_0f7a4) ⟨wd_2_103, wd_2_104, wd_1_9, wd_2_105⟩ ⟨rfl, rfl⟩ hd_J6_bitCount_0f7a4 ⟨Nat.le_of_ble_eq_true rfl, Nat.le_of_ble_eq_true rfl⟩ rfl hl.1 rfl (Nat.le_of_ble_eq_true rfl) dX4_cellsBeside_10 ⟨Nat.zero_le _, Nat.zero_le _⟩) (fun r_3 hr_3 => ?_)
  have hT := nm_u hr_3 hT
  exact hret _ _ _ hT dX4_cellsBeside_13
theorem hv_X4_becomes : yX4_becomes.cls = RX4 ∧ yX4_becomes.cls ≠ "java/lang/invoke/MethodHandle" ∧ yX4_becomes.cls ≠ "java/lang/invoke/VarHandle" ∧ (parseMethodDescriptor yX4_becomes.desc).map (fun d => d.parameters.length) = some 1 := by decide +kernel
theorem hd_X4_becomes : yX4_becomes.cls ≠ "java/lang/invoke/MethodHandle" ∧ yX4_becomes.cls ≠ "java/lang/invoke/VarHandle" ∧ (parseMethodDescriptor yX4_becomes.desc).map (fun d => d.parameters.length) = some 1 := hv_X4_becomes.2
def lp_X4_becomes_42 (k : Nat) (k0 : Nat) : Nat → Int32 → (Nat → Nat → Int32) → (Nat → Nat → Int32)
  | 0, y_1, Hd_2 => Hd_2
  | n + 1, y_1, Hd_2 => if (5 : Int32) ≤ y_1 then Hd_2 else (nm (sp_X4_heldBy Hd_2 k0 y_1) (fun r_5 => lp_X4_becomes_42 k k0 n (y_1 + 1) (vs Hd_2 k y_1.toNatClampNeg r_5)))
theorem lp_X4_becomes_42_s (k : Nat) (k0 : Nat) (n : Nat) (y_1 : Int32) (Hd_2 : Nat → Nat → Int32) : (if (5 : Int32) ≤ y_1 then Hd_2 else (nm (sp_X4_heldBy Hd_2 k0 y_1) (fun r_5 => lp_X4_becomes_42 k k0 n (y_1 + 1) (vs Hd_2 k y_1.toNatClampNeg r_5)))) = lp_X4_becomes_42 k k0 (n + 1) y_1 Hd_2 := rfl
def sp_X4_becomes (V : Nat → Nat → Int32) (Hd : Nat → Nat → Int32) (k : Nat) (k0 : Nat) : (Nat → Nat → Int32) × (Nat → Nat → Int32) :=
  nm (lp_X4_becomes_42 k k0 (((5 : Int32).toInt - (0 : Int32).toInt).toNat + 1) (0 : Int32) Hd) (fun e_3 => (vs (vs (vs (vs (vs V k 0 (V k0 0)) k 1 ((vs V k 0 (V k0 0)) k0 1)) k 2 ((vs (vs V k 0 (V k0 0)) k 1 ((vs V k 0 (V k0 0)) k0 1)) k0 2)) k 3 ((vs (vs (vs V k 0 (V k0 0)) k 1 ((vs V k 0 (V k0 0)) k0 1)) k 2 ((vs (vs V k 0 (V k0 0)) k 1 ((vs V k 0 (V k0 0)) k0 1)) k0 2)) k0 3)) k 4 ((vs (vs (vs (vs V k 0 (V k0 0)) k 1 ((vs V k 0 (V k0 0)) k0 1)) k 2 ((vs (vs V k 0 (V k0 0)) k 1 ((vs V k 0 (V k0 0)) k0 1)) k0 2)) k 3 ((vs (vs (vs V k 0 (V k0 0)) k 1 ((vs V k 0 (V k0 0)) k0 1)) k 2 ((vs (vs V k 0 (V k0 0)) k 1 ((vs V k 0 (V k0 0)) k0 1)) k0 2)) k0 3)) k0 4), e_3))
theorem sp_X4_becomes_s (V : Nat → Nat → Int32) (Hd : Nat → Nat → Int32) (k : Nat) (k0 : Nat) : (nm (lp_X4_becomes_42 k k0 (((5 : Int32).toInt - (0 : Int32).toInt).toNat + 1) (0 : Int32) Hd) (fun e_3 => (vs (vs (vs (vs (vs V k 0 (V k0 0)) k 1 ((vs V k 0 (V k0 0)) k0 1)) k 2 ((vs (vs V k 0 (V k0 0)) k 1 ((vs V k 0 (V k0 0)) k0 1)) k0 2)) k 3 ((vs (vs (vs V k 0 (V k0 0)) k 1 ((vs V k 0 (V k0 0)) k0 1)) k 2 ((vs (vs V k 0 (V k0 0)) k 1 ((vs V k 0 (V k0 0)) k0 1)) k0 2)) k0 3)) k 4 ((vs (vs (vs (vs V k 0 (V k0 0)) k 1 ((vs V k 0 (V k0 0)) k0 1)) k 2 ((vs (vs V k 0 (V k0 0)) k 1 ((vs V k 0 (V k0 0)) k0 1)) k0 2)) k 3 ((vs (vs (vs V k 0 (V k0 0)) k 1 ((vs V k 0 (V k0 0)) k0 1)) k 2 ((vs (vs V k 0 (V k0 0)) k 1 ((vs V k 0 (V k0 0)) k0 1)) k0 2)) k0 3)) k0 4), e_3))) = sp_X4_becomes V Hd k k0 := rfl
set_option maxHeartbeats 4000000 in
set_option maxRecDepth 100000 in
theorem c_X4_becomes {l : Launch} {D : va_G} {cI cZ cO : ClassId} {sk : Nat → Nat} {g tb : Nat → Int32} {V Hd : Nat → Nat → Int32} {tr : Int64} {k : Nat} {k0 : Nat} (hk : k < 34) (hk0 : k0 < 34) (sz : Nat) : Met l yX4_becomes (wm yX4_becomes cX4_becomes 3 none) ({ frames := 1, cells := 0, slots := 0, locals := 21 } : Room) (GPre D (ty3 cI cZ cO) (WW cI cO sk g tb V Hd tr) [.ref (sk (20 + 2 * k)), .ref (sk (20 + 2 * k0))] sz) (va_Qv (fun (u : (Nat → Nat → Int32) × (Nat → Nat → Int32)) => u = sp_X4_becomes V Hd k k0) (fun u t => GAt D (ty3 cI cZ cO) (va_A (WW cI cO sk g tb V Hd tr) sz) (WW cI cO sk g tb u.1 u.2 tr) t) (va_A (WW cI cO sk g tb V Hd tr) sz)) 0 0 (va_A (WW cI cO sk g tb V Hd tr) sz) := by
  refine metQ_v (W1 := (fun (u : (Nat → Nat → Int32) × (Nat → Nat → Int32)) => WW cI cO sk g tb u.1 u.2 tr)) (post := (fun (u : (Nat → Nat → Int32) × (Nat → Nat → Int32)) => u = sp_X4_becomes V Hd k k0)) (by decide) (Nat.le_of_ble_eq_true rfl) ?_
  intro p e s m args below meth c ls A Q C hsz hP hK hD hS hA hN hl hret
  have hx := C.1
  have hb := C.2.1
  have hl : lv_has ls 3 [(0, .ref (sk (20 + 2 * k))), (1, .ref (sk (20 + 2 * k0)))] := hl
  have hT := sp_X4_becomes_s V Hd k k0
  refine lv_aload_n hx hb dX4_becomes_0 rfl (lv_at hl 0 rfl) ?_
  refine lv_aload_n hx hb dX4_becomes_1 rfl (lv_at hl 1 rfl) ?_
  refine gX4_wide C hK hP hk0 wd_1_45 dX4_becomes_2 ?_
  refine pX4_wide C hK hP hD hS hk wd_1_45 dX4_becomes_5 (fun H locs hP hD hS => ?_)
  refine lv_aload_n hx hb dX4_becomes_8 rfl (lv_at hl 0 rfl) ?_
  refine lv_aload_n hx hb dX4_becomes_9 rfl (lv_at hl 1 rfl) ?_
  refine gX4_rows C hK hP hk0 wd_1_48 dX4_becomes_10 ?_
  refine pX4_rows C hK hP hD hS hk wd_1_48 dX4_becomes_13 (fun H locs hP hD hS => ?_)
  refine lv_aload_n hx hb dX4_becomes_16 rfl (lv_at hl 0 rfl) ?_
  refine lv_aload_n hx hb dX4_becomes_17 rfl (lv_at hl 1 rfl) ?_
  refine gX4_cloth C hK hP hk0 wd_1_51 dX4_becomes_18 ?_
  refine pX4_cloth C hK hP hD hS hk wd_1_51 dX4_becomes_21 (fun H locs hP hD hS => ?_)
  refine lv_aload_n hx hb dX4_becomes_24 rfl (lv_at hl 0 rfl) ?_
  refine lv_aload_n hx hb dX4_becomes_25 rfl (lv_at hl 1 rfl) ?_
  refine gX4_wind C hK hP hk0 wd_1_54 dX4_becomes_26 ?_
  refine pX4_wind C hK hP hD hS hk wd_1_54 dX4_becomes_29 (fun H locs hP hD hS => ?_)
  refine lv_aload_n hx hb dX4_becomes_32 rfl (lv_at hl 0 rfl) ?_
  refine lv_aload_n hx hb dX4_becomes_33 rfl (lv_at hl 1 rfl) ?_
  refine gX4_tide C hK hP hk0 wd_1_57 dX4_becomes_34 ?_
  refine pX4_tide C hK hP hD hS hk wd_1_57 dX4_becomes_37 (fun H locs hP hD hS => ?_)
  refine lv_iconst (v := 0) hx hb dX4_becomes_40 (by decide) ?_
  refine lv_istore_n (lv' := [(2, .int (0 : Int32)), (0, .ref (sk (20 + 2 * k))), (1, .ref (sk (20 + 2 * k0)))]) hx hb dX4_becomes_41 rfl hl (by decide) rfl (fun ls hl => ?_)
  have L_42 : ∀ (n : Nat) (ls : Array Slot) (y_1 : Int32) (Hd_2 : Nat → Nat → Int32) (z2 : 0 ≤ y_1.toInt) (hm : ((5 : Int32).toInt - y_1.toInt).toNat < n) (H : Heap) (locs : List Loc) (hP : va_P D vwCl (WW cI cO sk g tb (vs (vs (vs (vs (vs V k 0 (V k0 0)) k 1 ((vs V k 0 (V k0 0)) k0 1)) k 2 ((vs (vs V k 0 (V k0 0)) k 1 ((vs V k 0 (V k0 0)) k0 1)) k0 2)) k 3 ((vs (vs (vs V k 0 (V k0 0)) k 1 ((vs V k 0 (V k0 0)) k0 1)) k 2 ((vs (vs V k 0 (V k0 0)) k 1 ((vs V k 0 (V k0 0)) k0 1)) k0 2)) k0 3)) k 4 ((vs (vs (vs (vs V k 0 (V k0 0)) k 1 ((vs V k 0 (V k0 0)) k0 1)) k 2 ((vs (vs V k 0 (V k0 0)) k 1 ((vs V k 0 (V k0 0)) k0 1)) k0 2)) k 3 ((vs (vs (vs V k 0 (V k0 0)) k 1 ((vs V k 0 (V k0 0)) k0 1)) k 2 ((vs (vs V k 0 (V k0 0)) k 1 ((vs V k 0 (V k0 0)) k0 1)) k0 2)) k0 3)) k0 4)) Hd_2 tr) H) (hD : va_D A (WW cI cO sk g tb (vs (vs (vs (vs (vs V k 0 (V k0 0)) k 1 ((vs V k 0 (V k0 0)) k0 1)) k 2 ((vs (vs V k 0 (V k0 0)) k 1 ((vs V k 0 (V k0 0)) k0 1)) k0 2)) k 3 ((vs (vs (vs V k 0 (V k0 0)) k 1 ((vs V k 0 (V k0 0)) k0 1)) k 2 ((vs (vs V k 0 (V k0 0)) k 1 ((vs V k 0 (V k0 0)) k0 1)) k0 2)) k0 3)) k 4 ((vs (vs (vs (vs V k 0 (V k0 0)) k 1 ((vs V k 0 (V k0 0)) k0 1)) k 2 ((vs (vs V k 0 (V k0 0)) k 1 ((vs V k 0 (V k0 0)) k0 1)) k0 2)) k 3 ((vs (vs (vs V k 0 (V k0 0)) k 1 ((vs V k 0 (V k0 0)) k0 1)) k 2 ((vs (vs V k 0 (V k0 0)) k 1 ((vs V k 0 (V k0 0)) k0 1)) k0 2)) k0 3)) k0 4)) Hd_2 tr)) (hS : va_S A s.heap H locs) (hl : lv_has ls 3 [(0, .ref (sk (20 + 2 * k))), (1, .ref (sk (20 + 2 * k0))), (2, .int y_1)]) (kont : ∀ (ls : Array Slot) (e_3 : Nat → Nat → Int32) (H : Heap) (locs : List Loc), va_P D vwCl (WW cI cO sk g tb (vs (vs (vs (vs (vs V k 0 (V k0 0)) k 1 ((vs V k 0 (V k0 0)) k0 1)) k 2 ((vs (vs V k 0 (V k0 0)) k 1 ((vs V k 0 (V k0 0)) k0 1)) k0 2)) k 3 ((vs (vs (vs V k 0 (V k0 0)) k 1 ((vs V k 0 (V k0 0)) k0 1)) k 2 ((vs (vs V k 0 (V k0 0)) k 1 ((vs V k 0 (V k0 0)) k0 1)) k0 2)) k0 3)) k 4 ((vs (vs (vs (vs V k 0 (V k0 0)) k 1 ((vs V k 0 (V k0 0)) k0 1)) k 2 ((vs (vs V k 0 (V k0 0)) k 1 ((vs V k 0 (V k0 0)) k0 1)) k0 2)) k 3 ((vs (vs (vs V k 0 (V k0 0)) k 1 ((vs V k 0 (V k0 0)) k0 1)) k 2 ((vs (vs V k 0 (V k0 0)) k 1 ((vs V k 0 (V k0 0)) k0 1)) k0 2)) k0 3)) k0 4)) e_3 tr) H → va_D A (WW cI cO sk g tb (vs (vs (vs (vs (vs V k 0 (V k0 0)) k 1 ((vs V k 0 (V k0 0)) k0 1)) k 2 ((vs (vs V k 0 (V k0 0)) k 1 ((vs V k 0 (V k0 0)) k0 1)) k0 2)) k 3 ((vs (vs (vs V k 0 (V k0 0)) k 1 ((vs V k 0 (V k0 0)) k0 1)) k 2 ((vs (vs V k 0 (V k0 0)) k 1 ((vs V k 0 (V k0 0)) k0 1)) k0 2)) k0 3)) k 4 ((vs (vs (vs (vs V k 0 (V k0 0)) k 1 ((vs V k 0 (V k0 0)) k0 1)) k 2 ((vs (vs V k 0 (V k0 0)) k 1 ((vs V k 0 (V k0 0)) k0 1)) k0 2)) k 3 ((vs (vs (vs V k 0 (V k0 0)) k 1 ((vs V k 0 (V k0 0)) k0 1)) k 2 ((vs (vs V k 0 (V k0 0)) k 1 ((vs V k 0 (V k0 0)) k0 1)) k0 2)) k0 3)) k0 4)) e_3 tr) → va_S A s.heap H locs → lv_has ls 3 [] → e_3 = lp_X4_becomes_42 k k0 n y_1 Hd_2 → W p l e ({ frames := 1, cells := 0, slots := 0, locals := 21 } : Room) s m args below meth c H locs 0 0 Q (F0 m 68 ls [])), W p l e ({ frames := 1, cells := 0, slots := 0, locals := 21 } : Room) s m args below meth c H locs 0 0 Q (F0 m 42 ls []) := by
    intro n
    induction n with
    | zero => intro ls y_1 Hd_2 z2 hm; exact absurd hm (Nat.not_lt_zero _)
    | succ n ih =>
      intro ls y_1 Hd_2 z2 hm H locs hP hD hS hl kont
      have hT := lp_X4_becomes_42_s k k0 n y_1 Hd_2
      refine lv_iload_n hx hb dX4_becomes_42 rfl (lv_at hl 2 rfl) ?_
      refine lv_aload_n hx hb dX4_becomes_43 rfl (lv_at hl 0 rfl) ?_
      refine gX4_held C hK hP hk wd_1_60 dX4_becomes_44 ?_
      refine lX_held C hK hP hk dX4_becomes_47 ?_
      refine lv_icmp_ge (tgt := 68) hx hb dX4_becomes_48 (by decide) (fun c_4 => ?_) (fun c_4 => ?_)
      · have hT := it_t c_4 hT
        exact kont ls Hd_2 H locs hP hD hS (lv_sub hl [] rfl) hT
      · have hT := it_f c_4 hT
        refine lv_aload_n hx hb dX4_becomes_51 rfl (lv_at hl 0 rfl) ?_
        refine gX4_held C hK hP hk wd_1_60 dX4_becomes_52 ?_
        refine lv_iload_n hx hb dX4_becomes_55 rfl (lv_at hl 2 rfl) ?_
        refine lv_aload_n hx hb dX4_becomes_56 rfl (lv_at hl 1 rfl) ?_
        refine lv_iload_n hx hb dX4_becomes_57 rfl (lv_at hl 2 rfl) ?_
        refine vp_callSi (run_vP (As := [.int y_1]) (rest := [.int y_1, .ref (sk (21 + 2 * k))]) C hK hP hD hN (c_X4_heldBy hk0 _) (rX4_r hK hP hk0) ⟨wd_2_33, wd_2_34, wd_2_35, wd_1_4, wd_2_36⟩ ⟨rfl, rfl⟩ hv_X4_heldBy ⟨Nat.le_of_ble_eq_true rfl, Nat.le_of_ble_eq_true rfl⟩ rfl hl.1 rfl (Nat.le_of_ble_eq_true rfl) dX4_becomes_58 ⟨Nat.zero_le _, Nat.zero_le _⟩) (fun r_5 hr_5 => ?_)
        have hT := nm_u hr_5 hT
        refine sX_held C hK hP hD hS hk (ix_inv_nle z2 c_4) dX4_becomes_61 (fun H locs hP hD hS => ?_)
        refine lv_iinc (v := y_1 + 1) (lv' := [(2, .int (y_1 + 1)), (0, .ref (sk (20 + 2 * k))), (1, .ref (sk (20 + 2 * k0)))]) hx hb dX4_becomes_62 hl (k := 2) rfl rfl (by decide) rfl (fun ls hl => ?_)
        refine lv_goto (tgt := 42) hx hb dX4_becomes_65 (by decide) ?_
        exact ih ls (y_1 + 1) (vs Hd_2 k y_1.toNatClampNeg r_5) (up0 c_4 z2) (ms_up c_4 hm) H locs hP hD hS (lv_sub hl [1, 2, 0] rfl) (fun ls z0 H locs hP hD hS hl he => kont ls z0 H locs hP hD hS hl (he.trans hT))
  refine L_42 (((5 : Int32).toInt - (0 : Int32).toInt).toNat + 1) ls (0 : Int32) Hd (by decide) (Nat.lt_succ_self _) H locs hP hD hS (lv_sub hl [1, 2, 0] rfl) (fun ls e_3 H locs hP hD hS hl he => ?_)
  have hT := nm_u he hT
  exact hret (vs (vs (vs (vs (vs V k 0 (V k0 0)) k 1 ((vs V k 0 (V k0 0)) k0 1)) k 2 ((vs (vs V k 0 (V k0 0)) k 1 ((vs V k 0 (V k0 0)) k0 1)) k0 2)) k 3 ((vs (vs (vs V k 0 (V k0 0)) k 1 ((vs V k 0 (V k0 0)) k0 1)) k 2 ((vs (vs V k 0 (V k0 0)) k 1 ((vs V k 0 (V k0 0)) k0 1)) k0 2)) k0 3)) k 4 ((vs (vs (vs (vs V k 0 (V k0 0)) k 1 ((vs V k 0 (V k0 0)) k0 1)) k 2 ((vs (vs V k 0 (V k0 0)) k 1 ((vs V k 0 (V k0 0)) k0 1)) k0 2)) k 3 ((vs (vs (vs V k 0 (V k0 0)) k 1 ((vs V k 0 (V k0 0)) k0 1)) k 2 ((vs (vs V k 0 (V k0 0)) k 1 ((vs V k 0 (V k0 0)) k0 1)) k0 2)) k0 3)) k0 4), e_3) _ _ _ _ hT hP hD hS dX4_becomes_68
theorem hv_X4_startAnew : yX4_startAnew.cls = RX4 ∧ yX4_startAnew.cls ≠ "java/lang/invoke/MethodHandle" ∧ yX4_startAnew.cls ≠ "java/lang/invoke/VarHandle" ∧ (parseMethodDescriptor yX4_startAnew.desc).map (fun d => d.parameters.length) = some 0 := by decide +kernel
theorem hd_X4_startAnew : yX4_startAnew.cls ≠ "java/lang/invoke/MethodHandle" ∧ yX4_startAnew.cls ≠ "java/lang/invoke/VarHandle" ∧ (parseMethodDescriptor yX4_startAnew.desc).map (fun d => d.parameters.length) = some 0 := hv_X4_startAnew.2
def sp_X4_startAnew (V : Nat → Nat → Int32) (Hd : Nat → Nat → Int32) (k : Nat) : (Nat → Nat → Int32) × (Nat → Nat → Int32) :=
  nm (sp_X4_freeAllBut Hd k (0 : Int32)) (fun Hd_1 => (vs (vs (vs (vs (vs V k 0 (3 : Int32)) k 1 (3 : Int32)) k 2 (0 : Int32)) k 3 (0 : Int32)) k 4 (0 : Int32), Hd_1))
theorem sp_X4_startAnew_s (V : Nat → Nat → Int32) (Hd : Nat → Nat → Int32) (k : Nat) : (nm (sp_X4_freeAllBut Hd k (0 : Int32)) (fun Hd_1 => (vs (vs (vs (vs (vs V k 0 (3 : Int32)) k 1 (3 : Int32)) k 2 (0 : Int32)) k 3 (0 : Int32)) k 4 (0 : Int32), Hd_1))) = sp_X4_startAnew V Hd k := rfl
set_option maxHeartbeats 4000000 in
set_option maxRecDepth 100000 in
theorem c_X4_startAnew {l : Launch} {D : va_G} {cI cZ cO : ClassId} {sk : Nat → Nat} {g tb : Nat → Int32} {V Hd : Nat → Nat → Int32} {tr : Int64} {k : Nat} (hk : k < 34) (sz : Nat) : Met l yX4_startAnew (wm yX4_startAnew cX4_startAnew 1 none) ({ frames := 1, cells := 0, slots := 0, locals := 22 } : Room) (GPre D (ty3 cI cZ cO) (WW cI cO sk g tb V Hd tr) [.ref (sk (20 + 2 * k))] sz) (va_Qv (fun (u : (Nat → Nat → Int32) × (Nat → Nat → Int32)) => u = sp_X4_startAnew V Hd k) (fun u t => GAt D (ty3 cI cZ cO) (va_A (WW cI cO sk g tb V Hd tr) sz) (WW cI cO sk g tb u.1 u.2 tr) t) (va_A (WW cI cO sk g tb V Hd tr) sz)) 0 0 (va_A (WW cI cO sk g tb V Hd tr) sz) := by
  refine metQ_v (W1 := (fun (u : (Nat → Nat → Int32) × (Nat → Nat → Int32)) => WW cI cO sk g tb u.1 u.2 tr)) (post := (fun (u : (Nat → Nat → Int32) × (Nat → Nat → Int32)) => u = sp_X4_startAnew V Hd k)) (by decide) (Nat.le_of_ble_eq_true rfl) ?_
  intro p e s m args below meth c ls A Q C hsz hP hK hD hS hA hN hl hret
  have hx := C.1
  have hb := C.2.1
  have hl : lv_has ls 1 [(0, .ref (sk (20 + 2 * k)))] := hl
  have hT := sp_X4_startAnew_s V Hd k
  refine lv_aload_n hx hb dX4_startAnew_0 rfl (lv_at hl 0 rfl) ?_
  refine lv_iconst (v := 3) hx hb dX4_startAnew_1 (by decide) ?_
  refine pX4_wide C hK hP hD hS hk wd_1_45 dX4_startAnew_2 (fun H locs hP hD hS => ?_)
  refine lv_aload_n hx hb dX4_startAnew_5 rfl (lv_at hl 0 rfl) ?_
  refine lv_iconst (v := 3) hx hb dX4_startAnew_6 (by decide) ?_
  refine pX4_rows C hK hP hD hS hk wd_1_48 dX4_startAnew_7 (fun H locs hP hD hS => ?_)
  refine lv_aload_n hx hb dX4_startAnew_10 rfl (lv_at hl 0 rfl) ?_
  refine lv_iconst (v := 0) hx hb dX4_startAnew_11 (by decide) ?_
  refine pX4_cloth C hK hP hD hS hk wd_1_51 dX4_startAnew_12 (fun H locs hP hD hS => ?_)
  refine lv_aload_n hx hb dX4_startAnew_15 rfl (lv_at hl 0 rfl) ?_
  refine lv_iconst (v := 0) hx hb dX4_startAnew_16 (by decide) ?_
  refine pX4_wind C hK hP hD hS hk wd_1_54 dX4_startAnew_17 (fun H locs hP hD hS => ?_)
  refine lv_aload_n hx hb dX4_startAnew_20 rfl (lv_at hl 0 rfl) ?_
  refine lv_iconst (v := 0) hx hb dX4_startAnew_21 (by decide) ?_
  refine pX4_tide C hK hP hD hS hk wd_1_57 dX4_startAnew_22 (fun H locs hP hD hS => ?_)
  refine lv_aload_n hx hb dX4_startAnew_25 rfl (lv_at hl 0 rfl) ?_
  refine lv_iconst (v := 0) hx hb dX4_startAnew_26 (by decide) ?_
  refine on_v (run_vQ (As := [.int (0 : Int32)]) (rest := []) C hK hP hD hN (c_X4_freeAllBut hk _) (rX4_r hK hP hk) ⟨wd_1_211, wd_1_212, wd_1_213, wd_1_4, wd_1_214⟩ ⟨rfl, rfl⟩ hv_X4_freeAllBut ⟨Nat.le_of_ble_eq_true rfl, Nat.le_of_ble_eq_true rfl⟩ rfl hl.1 rfl (Nat.le_of_ble_eq_true rfl) dX4_startAnew_27 ⟨Nat.zero_le _, Nat.zero_le _⟩) hD hS hA (fun u H locs hp_2 hP hD hS => ?_)
  obtain ⟨Hd_1, rfl⟩ : ∃ z, z = u := ⟨_, rfl⟩
  have hP : va_P D vwCl (WW cI cO sk g tb (vs (vs (vs (vs (vs V k 0 (3 : Int32)) k 1 (3 : Int32)) k 2 (0 : Int32)) k 3 (0 : Int32)) k 4 (0 : Int32)) Hd_1 tr) H := hP
  have hD : va_D A (WW cI cO sk g tb (vs (vs (vs (vs (vs V k 0 (3 : Int32)) k 1 (3 : Int32)) k 2 (0 : Int32)) k 3 (0 : Int32)) k 4 (0 : Int32)) Hd_1 tr) := hD
  have hT := nm_u hp_2 hT
  exact hret (vs (vs (vs (vs (vs V k 0 (3 : Int32)) k 1 (3 : Int32)) k 2 (0 : Int32)) k 3 (0 : Int32)) k 4 (0 : Int32), Hd_1) _ _ _ _ hT hP hD hS dX4_startAnew_30
