theorem hv_J6_bitCount_0f7a4 : yJ6_bitCount_0f7a4.cls = RJ6 ∧ yJ6_bitCount_0f7a4.cls ≠ "java/lang/invoke/MethodHandle" ∧ yJ6_bitCount_0f7a4.cls ≠ "java/lang/invoke/VarHandle" ∧ (parseMethodDescriptor yJ6_bitCount_0f7a4.desc).map (fun d => d.parameters.length) = some 1 := by decide +kernel
theorem hd_J6_bitCount_0f7a4 : yJ6_bitCount_0f7a4.cls ≠ "java/lang/invoke/MethodHandle" ∧ yJ6_bitCount_0f7a4.cls ≠ "java/lang/invoke/VarHandle" ∧ (parseMethodDescriptor yJ6_bitCount_0f7a4.desc).map (fun d => d.parameters.length) = some 1 := hv_J6_bitCount_0f7a4.2
def sp_J6_bitCount_0f7a4 (x1 : Int32) : Int32 :=
  nm (x1 - ((ush x1 (1 : Int32)) &&& (1431655765 : Int32))) (fun y_1 => nm ((y_1 &&& (858993459 : Int32)) + ((ush y_1 (2 : Int32)) &&& (858993459 : Int32))) (fun y_2 => nm ((y_2 + (ush y_2 (4 : Int32))) &&& (252645135 : Int32)) (fun y_3 => nm ((y_3 + (ush y_3 (8 : Int32))) + (ush (y_3 + (ush y_3 (8 : Int32))) (16 : Int32))) (fun y_4 => y_4 &&& (63 : Int32)))))
theorem sp_J6_bitCount_0f7a4_s (x1 : Int32) : (nm (x1 - ((ush x1 (1 : Int32)) &&& (1431655765 : Int32))) (fun y_1 => nm ((y_1 &&& (858993459 : Int32)) + ((ush y_1 (2 : Int32)) &&& (858993459 : Int32))) (fun y_2 => nm ((y_2 + (ush y_2 (4 : Int32))) &&& (252645135 : Int32)) (fun y_3 => nm ((y_3 + (ush y_3 (8 : Int32))) + (ush (y_3 + (ush y_3 (8 : Int32))) (16 : Int32))) (fun y_4 => y_4 &&& (63 : Int32)))))) = sp_J6_bitCount_0f7a4 x1 := rfl
set_option maxHeartbeats 4000000 in
set_option maxRecDepth 100000 in
theorem c_J6_bitCount_0f7a4 {l : Launch} {x1 : Int32}  : Met l yJ6_bitCount_0f7a4 (wm yJ6_bitCount_0f7a4 cJ6_bitCount_0f7a4 1 (some .int)) ({ frames := 0, cells := 0, slots := 0, locals := 0 } : Room) (SPre [.int x1]) (vp_Si (fun r => r = sp_J6_bitCount_0f7a4 x1)) 0 0 (fun _ => False) := by
  refine metS_i (post := (fun r => r = sp_J6_bitCount_0f7a4 x1)) (by decide) (Nat.le_of_ble_eq_true rfl) ?_
  intro p e s m args below meth c ls Q C hN hl hret
  have hx := C.1
  have hb := C.2.1
  have hl : lv_has ls 1 [(0, .int x1)] := hl
  have hT := sp_J6_bitCount_0f7a4_s x1
  refine lv_iload_n hx hb dJ6_bitCount_0f7a4_0 rfl (lv_at hl 0 rfl) ?_
  refine lv_iload_n hx hb dJ6_bitCount_0f7a4_1 rfl (lv_at hl 0 rfl) ?_
  refine lv_iconst (v := 1) hx hb dJ6_bitCount_0f7a4_2 (by decide) ?_
  refine lv_iushr (v := ush x1 (1 : Int32)) hx hb dJ6_bitCount_0f7a4_3 rfl ?_
  refine lv_ldcw hx hb C.2.2.2.1 (C.2.2.2.2 _ wd_2_106) dJ6_bitCount_0f7a4_4 ?_
  refine lv_iand hx hb dJ6_bitCount_0f7a4_7 ?_
  refine lv_isub hx hb dJ6_bitCount_0f7a4_8 ?_
  refine lv_topi (fun y_1 ey_1 => ?_)
  have hT := nm_u ey_1 hT
  refine lv_istore_n (lv' := [(0, .int y_1)]) hx hb dJ6_bitCount_0f7a4_9 rfl hl (by decide) rfl (fun ls hl => ?_)
  refine lv_iload_n hx hb dJ6_bitCount_0f7a4_10 rfl (lv_at hl 0 rfl) ?_
  refine lv_ldcw hx hb C.2.2.2.1 (C.2.2.2.2 _ wd_2_107) dJ6_bitCount_0f7a4_11 ?_
  refine lv_iand hx hb dJ6_bitCount_0f7a4_14 ?_
  refine lv_iload_n hx hb dJ6_bitCount_0f7a4_15 rfl (lv_at hl 0 rfl) ?_
  refine lv_iconst (v := 2) hx hb dJ6_bitCount_0f7a4_16 (by decide) ?_
  refine lv_iushr (v := ush y_1 (2 : Int32)) hx hb dJ6_bitCount_0f7a4_17 rfl ?_
  refine lv_ldcw hx hb C.2.2.2.1 (C.2.2.2.2 _ wd_2_107) dJ6_bitCount_0f7a4_18 ?_
  refine lv_iand hx hb dJ6_bitCount_0f7a4_21 ?_
  refine lv_iadd hx hb dJ6_bitCount_0f7a4_22 ?_
  refine lv_topi (fun y_2 ey_2 => ?_)
  have hT := nm_u ey_2 hT
  refine lv_istore_n (lv' := [(0, .int y_2)]) hx hb dJ6_bitCount_0f7a4_23 rfl hl (by decide) rfl (fun ls hl => ?_)
  refine lv_iload_n hx hb dJ6_bitCount_0f7a4_24 rfl (lv_at hl 0 rfl) ?_
  refine lv_iload_n hx hb dJ6_bitCount_0f7a4_25 rfl (lv_at hl 0 rfl) ?_
  refine lv_iconst (v := 4) hx hb dJ6_bitCount_0f7a4_26 (by decide) ?_
  refine lv_iushr (v := ush y_2 (4 : Int32)) hx hb dJ6_bitCount_0f7a4_27 rfl ?_
  refine lv_iadd hx hb dJ6_bitCount_0f7a4_28 ?_
  refine lv_ldcw hx hb C.2.2.2.1 (C.2.2.2.2 _ wd_2_108) dJ6_bitCount_0f7a4_29 ?_
  refine lv_iand hx hb dJ6_bitCount_0f7a4_32 ?_
  refine lv_topi (fun y_3 ey_3 => ?_)
  have hT := nm_u ey_3 hT
  refine lv_istore_n (lv' := [(0, .int y_3)]) hx hb dJ6_bitCount_0f7a4_33 rfl hl (by decide) rfl (fun ls hl => ?_)
  refine lv_iload_n hx hb dJ6_bitCount_0f7a4_34 rfl (lv_at hl 0 rfl) ?_
  refine lv_iload_n hx hb dJ6_bitCount_0f7a4_35 rfl (lv_at hl 0 rfl) ?_
  refine lv_bipush (v := 8) hx hb dJ6_bitCount_0f7a4_36 (by decide) ?_
  refine lv_iushr (v := ush y_3 (8 : Int32)) hx hb dJ6_bitCount_0f7a4_38 rfl ?_
  refine lv_iadd hx hb dJ6_bitCount_0f7a4_39 ?_
  refine lv_istore_n (lv' := [(0, .int (y_3 + (ush y_3 (8 : Int32))))]) hx hb dJ6_bitCount_0f7a4_40 rfl hl (by decide) rfl (fun ls hl => ?_)
  refine lv_iload_n hx hb dJ6_bitCount_0f7a4_41 rfl (lv_at hl 0 rfl) ?_
  refine lv_iload_n hx hb dJ6_bitCount_0f7a4_42 rfl (lv_at hl 0 rfl) ?_
  refine lv_bipush (v := 16) hx hb dJ6_bitCount_0f7a4_43 (by decide) ?_
  refine lv_iushr (v := ush (y_3 + (ush y_3 (8 : Int32))) (16 : Int32)) hx hb dJ6_bitCount_0f7a4_45 rfl ?_
  refine lv_iadd hx hb dJ6_bitCount_0f7a4_46 ?_
  refine lv_topi (fun y_4 ey_4 => ?_)
  have hT := nm_u ey_4 hT
  refine lv_istore_n (lv' := [(0, .int y_4)]) hx hb dJ6_bitCount_0f7a4_47 rfl hl (by decide) rfl (fun ls hl => ?_)
  refine lv_iload_n hx hb dJ6_bitCount_0f7a4_48 rfl (lv_at hl 0 rfl) ?_
  refine lv_bipush (v := 63) hx hb dJ6_bitCount_0f7a4_49 (by decide) ?_
  refine lv_iand hx hb dJ6_bitCount_0f7a4_51 ?_
  exact hret _ _ _ hT dJ6_bitCount_0f7a4_52
theorem hv_X6_isWithin : yX6_isWithin.cls = RX6 ∧ yX6_isWithin.cls ≠ "java/lang/invoke/MethodHandle" ∧ yX6_isWithin.cls ≠ "java/lang/invoke/VarHandle" ∧ (parseMethodDescriptor yX6_isWithin.desc).map (fun d => d.parameters.length) = some 2 := by decide +kernel
theorem hd_X6_isWithin : yX6_isWithin.cls ≠ "java/lang/invoke/MethodHandle" ∧ yX6_isWithin.cls ≠ "java/lang/invoke/VarHandle" ∧ (parseMethodDescriptor yX6_isWithin.desc).map (fun d => d.parameters.length) = some 2 := hv_X6_isWithin.2
def sp_X6_isWithin (x1 : Int32) (x2 : Int32) : Int32 :=
  if x1 < 0 then (0 : Int32) else (if x2 < x1 then (0 : Int32) else (1 : Int32))
theorem sp_X6_isWithin_s (x1 : Int32) (x2 : Int32) : (if x1 < 0 then (0 : Int32) else (if x2 < x1 then (0 : Int32) else (1 : Int32))) = sp_X6_isWithin x1 x2 := rfl
set_option maxHeartbeats 4000000 in
set_option maxRecDepth 100000 in
theorem c_X6_isWithin {l : Launch} {x1 : Int32} {x2 : Int32}  : Met l yX6_isWithin (wm yX6_isWithin cX6_isWithin 2 (some .boolean)) ({ frames := 0, cells := 0, slots := 0, locals := 0 } : Room) (SPre [.int x1, .int x2]) (vp_Si (fun r => r = sp_X6_isWithin x1 x2 ∧ (r = 0 ∨ r = 1))) 0 0 (fun _ => False) := by
  refine metS_z (post := (fun r => r = sp_X6_isWithin x1 x2)) (by decide) (Nat.le_of_ble_eq_true rfl) ?_
  intro p e s m args below meth c ls Q C hN hl hret
  have hx := C.1
  have hb := C.2.1
  have hl : lv_has ls 2 [(0, .int x1), (1, .int x2)] := hl
  have hT := sp_X6_isWithin_s x1 x2
  refine lv_iload_n hx hb dX6_isWithin_0 rfl (lv_at hl 0 rfl) ?_
  refine lv_if_lt (tgt := 13) hx hb dX6_isWithin_1 (by decide) (fun c_1 => ?_) (fun c_1 => ?_)
  · have hT := it_t c_1 hT
    refine lv_iconst (v := 0) hx hb dX6_isWithin_13 (by decide) ?_
    exact hret _ _ _ ⟨hT, (Or.inl rfl)⟩ dX6_isWithin_14
  · have hT := it_f c_1 hT
    refine lv_iload_n hx hb dX6_isWithin_4 rfl (lv_at hl 0 rfl) ?_
    refine lv_iload_n hx hb dX6_isWithin_5 rfl (lv_at hl 1 rfl) ?_
    refine lv_icmp_gt (tgt := 13) hx hb dX6_isWithin_6 (by decide) (fun c_2 => ?_) (fun c_2 => ?_)
    · have hT := it_t c_2 hT
      refine lv_iconst (v := 0) hx hb dX6_isWithin_13 (by decide) ?_
      exact hret _ _ _ ⟨hT, (Or.inl rfl)⟩ dX6_isWithin_14
    · have hT := it_f c_2 hT
      refine lv_iconst (v := 1) hx hb dX6_isWithin_9 (by decide) ?_
      refine lv_goto (tgt := 14) hx hb dX6_isWithin_10 (by decide) ?_
      exact hret _ _ _ ⟨hT, (Or.inr rfl)⟩ dX6_isWithin_14
theorem hv_X6_isFamily : yX6_isFamily.cls = RX6 ∧ yX6_isFamily.cls ≠ "java/lang/invoke/MethodHandle" ∧ yX6_isFamily.cls ≠ "java/lang/invoke/VarHandle" ∧ (parseMethodDescriptor yX6_isFamily.desc).map (fun d => d.parameters.length) = some 1 := by decide +kernel
theorem hd_X6_isFamily : yX6_isFamily.cls ≠ "java/lang/invoke/MethodHandle" ∧ yX6_isFamily.cls ≠ "java/lang/invoke/VarHandle" ∧ (parseMethodDescriptor yX6_isFamily.desc).map (fun d => d.parameters.length) = some 1 := hv_X6_isFamily.2
def sp_X6_isFamily (x1 : Int32) : Int32 :=
  nm (sp_X6_isWithin x1 (4 : Int32)) (fun r_1 => r_1)
theorem sp_X6_isFamily_s (x1 : Int32) : (nm (sp_X6_isWithin x1 (4 : Int32)) (fun r_1 => r_1)) = sp_X6_isFamily x1 := rfl
set_option maxHeartbeats 4000000 in
set_option maxRecDepth 100000 in
theorem c_X6_isFamily {l : Launch} {x1 : Int32}  : Met l yX6_isFamily (wm yX6_isFamily cX6_isFamily 1 (some .boolean)) ({ frames := 1, cells := 0, slots := 0, locals := 21 } : Room) (SPre [.int x1]) (vp_Si (fun r => r = sp_X6_isFamily x1 ∧ (r = 0 ∨ r = 1))) 0 0 (fun _ => False) := by
  refine metS_z (post := (fun r => r = sp_X6_isFamily x1)) (by decide) (Nat.le_of_ble_eq_true rfl) ?_
  intro p e s m args below meth c ls Q C hN hl hret
  have hx := C.1
  have hb := C.2.1
  have hl : lv_has ls 1 [(0, .int x1)] := hl
  have hT := sp_X6_isFamily_s x1
  refine lv_iload_n hx hb dX6_isFamily_0 rfl (lv_at hl 0 rfl) ?_
  refine lv_iconst (v := 4) hx hb dX6_isFamily_1 (by decide) ?_
  refine vp_callSi (run_sP (As := [.int x1, .int (4 : Int32)]) (rest := []) C hN (c_X6_isWithin) ⟨wd_1_188, wd_1_189, wd_1_1, wd_1_190⟩ ⟨rfl, rfl⟩ hd_X6_isWithin ⟨Nat.le_of_ble_eq_true rfl, Nat.le_of_ble_eq_true rfl⟩ rfl hl.1 rfl (Nat.le_of_ble_eq_true rfl) dX6_isFamily_2 ⟨Nat.zero_le _, Nat.zero_le _⟩) (fun r_1 hr_1 => ?_)
  have hT := nm_u hr_1.1 hT
  exact hret _ _ _ ⟨hT, hr_1.2⟩ dX6_isFamily_5
theorem hv_X6_oneIf : yX6_oneIf.cls = RX6 ∧ yX6_oneIf.cls ≠ "java/lang/invoke/MethodHandle" ∧ yX6_oneIf.cls ≠ "java/lang/invoke/VarHandle" ∧ (parseMethodDescriptor yX6_oneIf.desc).map (fun d => d.parameters.length) = some 1 := by decide +kernel
theorem hd_X6_oneIf : yX6_oneIf.cls ≠ "java/lang/invoke/MethodHandle" ∧ yX6_oneIf.cls ≠ "java/lang/invoke/VarHandle" ∧ (parseMethodDescriptor yX6_oneIf.desc).map (fun d => d.parameters.length) = some 1 := hv_X6_oneIf.2
def sp_X6_oneIf (x1 : Int32) : Int32 :=
  if x1 = 0 then (0 : Int32) else (1 : Int32)
theorem sp_X6_oneIf_s (x1 : Int32) : (if x1 = 0 then (0 : Int32) else (1 : Int32)) = sp_X6_oneIf x1 := rfl
set_option maxHeartbeats 4000000 in
set_option maxRecDepth 100000 in
theorem c_X6_oneIf {l : Launch} {x1 : Int32}  : Met l yX6_oneIf (wm yX6_oneIf cX6_oneIf 1 (some .int)) ({ frames := 0, cells := 0, slots := 0, locals := 0 } : Room) (SPre [.int x1]) (vp_Si (fun r => r = sp_X6_oneIf x1)) 0 0 (fun _ => False) := by
  refine metS_i (post := (fun r => r = sp_X6_oneIf x1)) (by decide) (Nat.le_of_ble_eq_true rfl) ?_
  intro p e s m args below meth c ls Q C hN hl hret
  have hx := C.1
  have hb := C.2.1
  have hl : lv_has ls 1 [(0, .int x1)] := hl
  have hT := sp_X6_oneIf_s x1
  refine lv_iload_n hx hb dX6_oneIf_0 rfl (lv_at hl 0 rfl) ?_
  refine lv_if_eq (tgt := 8) hx hb dX6_oneIf_1 (by decide) (fun c_1 => ?_) (fun c_1 => ?_)
  · have hT := it_t c_1 hT
    refine lv_iconst (v := 0) hx hb dX6_oneIf_8 (by decide) ?_
    exact hret _ _ _ hT dX6_oneIf_9
  · have hT := it_f c_1 hT
    refine lv_iconst (v := 1) hx hb dX6_oneIf_4 (by decide) ?_
    refine lv_goto (tgt := 9) hx hb dX6_oneIf_5 (by decide) ?_
    exact hret _ _ _ hT dX6_oneIf_9
theorem hv_X6_bitOf : yX6_bitOf.cls = RX6 ∧ yX6_bitOf.cls ≠ "java/lang/invoke/MethodHandle" ∧ yX6_bitOf.cls ≠ "java/lang/invoke/VarHandle" ∧ (parseMethodDescriptor yX6_bitOf.desc).map (fun d => d.parameters.length) = some 2 := by decide +kernel
theorem hd_X6_bitOf : yX6_bitOf.cls ≠ "java/lang/invoke/MethodHandle" ∧ yX6_bitOf.cls ≠ "java/lang/invoke/VarHandle" ∧ (parseMethodDescriptor yX6_bitOf.desc).map (fun d => d.parameters.length) = some 2 := hv_X6_bitOf.2
def sp_X6_bitOf (x1 : Int32) (x2 : Int32) : Int32 :=
  (1 : Int32) <<< ((((5 : Int32) * x2) + x1) &&& 31)
theorem sp_X6_bitOf_s (x1 : Int32) (x2 : Int32) : ((1 : Int32) <<< ((((5 : Int32) * x2) + x1) &&& 31)) = sp_X6_bitOf x1 x2 := rfl
set_option maxHeartbeats 4000000 in
set_option maxRecDepth 100000 in
theorem c_X6_bitOf {l : Launch} {x1 : Int32} {x2 : Int32}  : Met l yX6_bitOf (wm yX6_bitOf cX6_bitOf 2 (some .int)) ({ frames := 0, cells := 0, slots := 0, locals := 0 } : Room) (SPre [.int x1, .int x2]) (vp_Si (fun r => r = sp_X6_bitOf x1 x2)) 0 0 (fun _ => False) := by
  refine metS_i (post := (fun r => r = sp_X6_bitOf x1 x2)) (by decide) (Nat.le_of_ble_eq_true rfl) ?_
  intro p e s m args below meth c ls Q C hN hl hret
  have hx := C.1
  have hb := C.2.1
  have hl : lv_has ls 2 [(0, .int x1), (1, .int x2)] := hl
  have hT := sp_X6_bitOf_s x1 x2
  refine lv_iconst (v := 1) hx hb dX6_bitOf_0 (by decide) ?_
  refine lv_iconst (v := 5) hx hb dX6_bitOf_1 (by decide) ?_
  refine lv_iload_n hx hb dX6_bitOf_2 rfl (lv_at hl 1 rfl) ?_
  refine lv_imul hx hb dX6_bitOf_3 ?_
  refine lv_iload_n hx hb dX6_bitOf_4 rfl (lv_at hl 0 rfl) ?_
  refine lv_iadd hx hb dX6_bitOf_5 ?_
  refine lv_ishl hx hb dX6_bitOf_6 ?_
  exact hret _ _ _ hT dX6_bitOf_7
theorem hv_X6_inLeastTerms : yX6_inLeastTerms.cls = RX6 ∧ yX6_inLeastTerms.cls ≠ "java/lang/invoke/MethodHandle" ∧ yX6_inLeastTerms.cls ≠ "java/lang/invoke/VarHandle" ∧ (parseMethodDescriptor yX6_inLeastTerms.desc).map (fun d => d.parameters.length) = some 3 := by decide +kernel
theorem hd_X6_inLeastTerms : yX6_inLeastTerms.cls ≠ "java/lang/invoke/MethodHandle" ∧ yX6_inLeastTerms.cls ≠ "java/lang/invoke/VarHandle" ∧ (parseMethodDescriptor yX6_inLeastTerms.desc).map (fun d => d.parameters.length) = some 3 := hv_X6_inLeastTerms.2
def jn_X6_inLeastTerms_38 (rec_8 : Int32 → Int32 → Int32 → Int32 × Int32) (y_3 : Int32) (w_7 : Int32) (w_8 : Int32) : Int32 × Int32 :=
  if (rem w_7 (5 : Int32)) = 0 then (if (rem w_8 (5 : Int32)) = 0 then (rec_8 (w_7 / (5 : Int32)) (w_8 / (5 : Int32)) (y_3 + 1)) else (rec_8 w_7 w_8 (y_3 + 1))) else (rec_8 w_7 w_8 (y_3 + 1))
theorem jn_X6_inLeastTerms_38_s (rec_8 : Int32 → Int32 → Int32 → Int32 × Int32) (y_3 : Int32) (w_7 : Int32) (w_8 : Int32) : (if (rem w_7 (5 : Int32)) = 0 then (if (rem w_8 (5 : Int32)) = 0 then (rec_8 (w_7 / (5 : Int32)) (w_8 / (5 : Int32)) (y_3 + 1)) else (rec_8 w_7 w_8 (y_3 + 1))) else (rec_8 w_7 w_8 (y_3 + 1))) = jn_X6_inLeastTerms_38 rec_8 y_3 w_7 w_8 := rfl
def lp_X6_inLeastTerms_8 : Nat → Int32 → Int32 → Int32 → Int32 × Int32
  | 0, y_1, y_2, y_3 => (y_1, y_2)
  | n + 1, y_1, y_2, y_3 => if (6 : Int32) ≤ y_3 then (y_1, y_2) else (if (rem y_1 (2 : Int32)) = 0 then (if (rem y_2 (2 : Int32)) = 0 then (jn_X6_inLeastTerms_38 (lp_X6_inLeastTerms_8 n) y_3 (y_1 / (2 : Int32)) (y_2 / (2 : Int32))) else (jn_X6_inLeastTerms_38 (lp_X6_inLeastTerms_8 n) y_3 y_1 y_2)) else (jn_X6_inLeastTerms_38 (lp_X6_inLeastTerms_8 n) y_3 y_1 y_2))
theorem lp_X6_inLeastTerms_8_s (n : Nat) (y_1 : Int32) (y_2 : Int32) (y_3 : Int32) : (if (6 : Int32) ≤ y_3 then (y_1, y_2) else (if (rem y_1 (2 : Int32)) = 0 then (if (rem y_2 (2 : Int32)) = 0 then (jn_X6_inLeastTerms_38 (lp_X6_inLeastTerms_8 n) y_3 (y_1 / (2 : Int32)) (y_2 / (2 : Int32))) else (jn_X6_inLeastTerms_38 (lp_X6_inLeastTerms_8 n) y_3 y_1 y_2)) else (jn_X6_inLeastTerms_38 (lp_X6_inLeastTerms_8 n) y_3 y_1 y_2))) = lp_X6_inLeastTerms_8 (n + 1) y_1 y_2 y_3 := rfl
def sp_X6_inLeastTerms (x1 : Int32) (x2 : Int32) (x3 : Int32) : Int32 :=
  nm2 (lp_X6_inLeastTerms_8 (((6 : Int32).toInt - (0 : Int32).toInt).toNat + 1) x1 x2 (0 : Int32)) (fun e_4 e_5 => if x3 = 0 then e_4 else e_5)
theorem sp_X6_inLeastTerms_s (x1 : Int32) (x2 : Int32) (x3 : Int32) : (nm2 (lp_X6_inLeastTerms_8 (((6 : Int32).toInt - (0 : Int32).toInt).toNat + 1) x1 x2 (0 : Int32)) (fun e_4 e_5 => if x3 = 0 then e_4 else e_5)) = sp_X6_inLeastTerms x1 x2 x3 := rfl
set_option maxHeartbeats 4000000 in
set_option maxRecDepth 100000 in
theorem c_X6_inLeastTerms {l : Launch} {x1 : Int32} {x2 : Int32} {x3 : Int32}  : Met l yX6_inLeastTerms (wm yX6_inLeastTerms cX6_inLeastTerms 6 (some .int)) ({ frames := 0, cells := 0, slots := 0, locals := 0 } : Room) (SPre [.int x1, .int x2, .int x3]) (vp_Si (fun r => r = sp_X6_inLeastTerms x1 x2 x3)) 0 0 (fun _ => False) := by
  refine metS_i (post := (fun r => r = sp_X6_inLeastTerms x1 x2 x3)) (by decide) (Nat.le_of_ble_eq_true rfl) ?_
  intro p e s m args below meth c ls Q C hN hl hret
  have hx := C.1
  have hb := C.2.1
  have hl : lv_has ls 6 [(0, .int x1), (1, .int x2), (2, .int x3)] := hl
  have hT := sp_X6_inLeastTerms_s x1 x2 x3
  refine lv_iload_n hx hb dX6_inLeastTerms_0 rfl (lv_at hl 0 rfl) ?_
  refine lv_istore_n (lv' := [(3, .int x1), (0, .int x1), (1, .int x2), (2, .int x3)]) hx hb dX6_inLeastTerms_1 rfl hl (by decide) rfl (fun ls hl => ?_)
  refine lv_iload_n hx hb dX6_inLeastTerms_2 rfl (lv_at hl 2 rfl) ?_
  refine lv_istore (lv' := [(4, .int x2), (3, .int x1), (0, .int x1), (1, .int x2), (2, .int x3)]) hx hb dX6_inLeastTerms_3 hl (by decide) rfl (fun ls hl => ?_)
  refine lv_iconst (v := 0) hx hb dX6_inLeastTerms_5 (by decide) ?_
  refine lv_istore (lv' := [(5, .int (0 : Int32)), (4, .int x2), (3, .int x1), (0, .int x1), (1, .int x2), (2, .int x3)]) hx hb dX6_inLeastTerms_6 hl (by decide) rfl (fun ls hl => ?_)
  have L_8 : ∀ (n : Nat) (ls : Array Slot) (y_1 : Int32) (y_2 : Int32) (y_3 : Int32) (hm : ((6 : Int32).toInt - y_3.toInt).toNat < n) (hl : lv_has ls 6 [(2, .int x3), (3, .int y_1), (4, .int y_2), (5, .int y_3)]) (kont : ∀ (ls : Array Slot) (e_4 : Int32) (e_5 : Int32), lv_has ls 6 [(2, .int x3), (3, .int e_4), (4, .int e_5)] → (e_4, e_5) = lp_X6_inLeastTerms_8 n y_1 y_2 y_3 → W p l e ({ frames := 0, cells := 0, slots := 0, locals := 0 } : Room) s m args below meth c s.heap [] 0 0 Q (F0 m 67 ls [])), W p l e ({ frames := 0, cells := 0, slots := 0, locals := 0 } : Room) s m args below meth c s.heap [] 0 0 Q (F0 m 8 ls []) := by
    intro n
    induction n with
    | zero => intro ls y_1 y_2 y_3 hm; exact absurd hm (Nat.not_lt_zero _)
    | succ n ih =>
      intro ls y_1 y_2 y_3 hm hl kont
      have hT := lp_X6_inLeastTerms_8_s n y_1 y_2 y_3
      refine lv_iload hx hb dX6_inLeastTerms_8 (lv_at hl 3 rfl) ?_
      refine lv_bipush (v := 6) hx hb dX6_inLeastTerms_10 (by decide) ?_
      refine lv_icmp_ge (tgt := 67) hx hb dX6_inLeastTerms_12 (by decide) (fun c_6 => ?_) (fun c_6 => ?_)
      · have hT := it_t c_6 hT
        exact kont ls y_1 y_2 (lv_sub hl [0, 1, 2] rfl) hT
      · have hT := it_f c_6 hT
        refine lv_iload_n hx hb dX6_inLeastTerms_15 rfl (lv_at hl 1 rfl) ?_
        refine lv_iconst (v := 2) hx hb dX6_inLeastTerms_16 (by decide) ?_
        refine lv_rem hx hb dX6_inLeastTerms_17 (by decide) ?_
        have K_38 : ∀ (ls : Array Slot) (w_7 : Int32) (w_8 : Int32) (hl : lv_has ls 6 [(2, .int x3), (3, .int w_7), (4, .int w_8), (5, .int y_3)]) (hT0 : jn_X6_inLeastTerms_38 (lp_X6_inLeastTerms_8 n) y_3 w_7 w_8 = (lp_X6_inLeastTerms_8 (n + 1) y_1 y_2 y_3)), W p l e ({ frames := 0, cells := 0, slots := 0, locals := 0 } : Room) s m args below meth c s.heap [] 0 0 Q (F0 m 38 ls []) := by
          intro ls w_7 w_8 hl hT0
          have hT := (jn_X6_inLeastTerms_38_s (lp_X6_inLeastTerms_8 n) y_3 w_7 w_8).trans hT0
          refine lv_iload_n hx hb dX6_inLeastTerms_38 rfl (lv_at hl 1 rfl) ?_
          refine lv_iconst (v := 5) hx hb dX6_inLeastTerms_39 (by decide) ?_
          refine lv_rem hx hb dX6_inLeastTerms_40 (by decide) ?_
          refine lv_if_ne (tgt := 61) hx hb dX6_inLeastTerms_41 (by decide) (fun c_9 => ?_) (fun c_9 => ?_)
          · have hT := it_f c_9 hT
            refine lv_iinc (v := y_3 + 1) (lv' := [(5, .int (y_3 + 1)), (2, .int x3), (3, .int w_7), (4, .int w_8)]) hx hb dX6_inLeastTerms_61 hl (k := 3) rfl rfl (by decide) rfl (fun ls hl => ?_)
            refine lv_goto (tgt := 8) hx hb dX6_inLeastTerms_64 (by decide) ?_
            exact ih ls w_7 w_8 (y_3 + 1) (ms_up c_6 hm) (lv_sub hl [1, 2, 3, 0] rfl) (fun ls z0 z1 hl he => kont ls z0 z1 hl (he.trans hT))
          · have hT := it_t c_9 hT
            refine lv_iload hx hb dX6_inLeastTerms_44 (lv_at hl 2 rfl) ?_
            refine lv_iconst (v := 5) hx hb dX6_inLeastTerms_46 (by decide) ?_
            refine lv_rem hx hb dX6_inLeastTerms_47 (by decide) ?_
            refine lv_if_ne (tgt := 61) hx hb dX6_inLeastTerms_48 (by decide) (fun c_10 => ?_) (fun c_10 => ?_)
            · have hT := it_f c_10 hT
              refine lv_iinc (v := y_3 + 1) (lv' := [(5, .int (y_3 + 1)), (2, .int x3), (3, .int w_7), (4, .int w_8)]) hx hb dX6_inLeastTerms_61 hl (k := 3) rfl rfl (by decide) rfl (fun ls hl => ?_)
              refine lv_goto (tgt := 8) hx hb dX6_inLeastTerms_64 (by decide) ?_
              exact ih ls w_7 w_8 (y_3 + 1) (ms_up c_6 hm) (lv_sub hl [1, 2, 3, 0] rfl) (fun ls z0 z1 hl he => kont ls z0 z1 hl (he.trans hT))
            · have hT := it_t c_10 hT
              refine lv_iload_n hx hb dX6_inLeastTerms_51 rfl (lv_at hl 1 rfl) ?_
              refine lv_iconst (v := 5) hx hb dX6_inLeastTerms_52 (by decide) ?_
              refine lv_idiv hx hb dX6_inLeastTerms_53 (by decide) ?_
              refine lv_istore_n (lv' := [(3, .int (w_7 / (5 : Int32))), (2, .int x3), (4, .int w_8), (5, .int y_3)]) hx hb dX6_inLeastTerms_54 rfl hl (by decide) rfl (fun ls hl => ?_)
              refine lv_iload hx hb dX6_inLeastTerms_55 (lv_at hl 2 rfl) ?_
              refine lv_iconst (v := 5) hx hb dX6_inLeastTerms_57 (by decide) ?_
              refine lv_idiv hx hb dX6_inLeastTerms_58 (by decide) ?_
              refine lv_istore (lv' := [(4, .int (w_8 / (5 : Int32))), (3, .int (w_7 / (5 : Int32))), (2, .int x3), (5, .int y_3)]) hx hb dX6_inLeastTerms_59 hl (by decide) rfl (fun ls hl => ?_)
              refine lv_iinc (v := y_3 + 1) (lv' := [(5, .int (y_3 + 1)), (4, .int (w_8 / (5 : Int32))), (3, .int (w_7 / (5 : Int32))), (2, .int x3)]) hx hb dX6_inLeastTerms_61 hl (k := 3) rfl rfl (by decide) rfl (fun ls hl => ?_)
              refine lv_goto (tgt := 8) hx hb dX6_inLeastTerms_64 (by decide) ?_
              exact ih ls (w_7 / (5 : Int32)) (w_8 / (5 : Int32)) (y_3 + 1) (ms_up c_6 hm) (lv_sub hl [3, 2, 1, 0] rfl) (fun ls z0 z1 hl he => kont ls z0 z1 hl (he.trans hT))
        refine lv_if_ne (tgt := 38) hx hb dX6_inLeastTerms_18 (by decide) (fun c_11 => ?_) (fun c_11 => ?_)
        · have hT := it_f c_11 hT
          exact K_38 ls y_1 y_2 (lv_sub hl [0, 1, 2, 3] rfl) hT
        · have hT := it_t c_11 hT
          refine lv_iload hx hb dX6_inLeastTerms_21 (lv_at hl 2 rfl) ?_
          refine lv_iconst (v := 2) hx hb dX6_inLeastTerms_23 (by decide) ?_
          refine lv_rem hx hb dX6_inLeastTerms_24 (by decide) ?_
          refine lv_if_ne (tgt := 38) hx hb dX6_inLeastTerms_25 (by decide) (fun c_12 => ?_) (fun c_12 => ?_)
          · have hT := it_f c_12 hT
            exact K_38 ls y_1 y_2 (lv_sub hl [0, 1, 2, 3] rfl) hT
          · have hT := it_t c_12 hT
            refine lv_iload_n hx hb dX6_inLeastTerms_28 rfl (lv_at hl 1 rfl) ?_
            refine lv_iconst (v := 2) hx hb dX6_inLeastTerms_29 (by decide) ?_
            refine lv_idiv hx hb dX6_inLeastTerms_30 (by decide) ?_
            refine lv_istore_n (lv' := [(3, .int (y_1 / (2 : Int32))), (2, .int x3), (4, .int y_2), (5, .int y_3)]) hx hb dX6_inLeastTerms_31 rfl hl (by decide) rfl (fun ls hl => ?_)
            refine lv_iload hx hb dX6_inLeastTerms_32 (lv_at hl 2 rfl) ?_
            refine lv_iconst (v := 2) hx hb dX6_inLeastTerms_34 (by decide) ?_
            refine lv_idiv hx hb dX6_inLeastTerms_35 (by decide) ?_
            refine lv_istore (lv' := [(4, .int (y_2 / (2 : Int32))), (3, .int (y_1 / (2 : Int32))), (2, .int x3), (5, .int y_3)]) hx hb dX6_inLeastTerms_36 hl (by decide) rfl (fun ls hl => ?_)
            exact K_38 ls (y_1 / (2 : Int32)) (y_2 / (2 : Int32)) (lv_sub hl [2, 1, 0, 3] rfl) hT
  refine L_8 (((6 : Int32).toInt - (0 : Int32).toInt).toNat + 1) ls x1 x2 (0 : Int32) (Nat.lt_succ_self _) (lv_sub hl [5, 2, 1, 0] rfl) (fun ls e_4 e_5 hl he => ?_)
  have hT := nm2_u he hT
  refine lv_iload_n hx hb dX6_inLeastTerms_67 rfl (lv_at hl 0 rfl) ?_
  refine lv_if_ne (tgt := 75) hx hb dX6_inLeastTerms_68 (by decide) (fun c_13 => ?_) (fun c_13 => ?_)
  · have hT := it_f c_13 hT
    refine lv_iload hx hb dX6_inLeastTerms_75 (lv_at hl 2 rfl) ?_
    exact hret _ _ _ hT dX6_inLeastTerms_77
  · have hT := it_t c_13 hT
    refine lv_iload_n hx hb dX6_inLeastTerms_71 rfl (lv_at hl 1 rfl) ?_
    refine lv_goto (tgt := 77) hx hb dX6_inLeastTerms_72 (by decide) ?_
    exact hret _ _ _ hT dX6_inLeastTerms_77
theorem hv_X4_rightOf : yX4_rightOf.cls = RX4 ∧ yX4_rightOf.cls ≠ "java/lang/invoke/MethodHandle" ∧ yX4_rightOf.cls ≠ "java/lang/invoke/VarHandle" ∧ (parseMethodDescriptor yX4_rightOf.desc).map (fun d => d.parameters.length) = some 1 := by decide +kernel
theorem hd_X4_rightOf : yX4_rightOf.cls ≠ "java/lang/invoke/MethodHandle" ∧ yX4_rightOf.cls ≠ "java/lang/invoke/VarHandle" ∧ (parseMethodDescriptor yX4_rightOf.desc).map (fun d => d.parameters.length) = some 1 := hv_X4_rightOf.2
def sp_X4_rightOf (x1 : Int32) : Int32 :=
  (x1 &&& (-541201 : Int32)) <<< ((1 : Int32) &&& 31)
theorem sp_X4_rightOf_s (x1 : Int32) : ((x1 &&& (-541201 : Int32)) <<< ((1 : Int32) &&& 31)) = sp_X4_rightOf x1 := rfl
set_option maxHeartbeats 4000000 in
set_option maxRecDepth 100000 in
theorem c_X4_rightOf {l : Launch} {x1 : Int32}  : Met l yX4_rightOf (wm yX4_rightOf cX4_rightOf 1 (some .int)) ({ frames := 0, cells := 0, slots := 0, locals := 0 } : Room) (SPre [.int x1]) (vp_Si (fun r => r = sp_X4_rightOf x1)) 0 0 (fun _ => False) := by
  refine metS_i (post := (fun r => r = sp_X4_rightOf x1)) (by decide) (Nat.le_of_ble_eq_true rfl) ?_
  intro p e s m args below meth c ls Q C hN hl hret
  have hx := C.1
  have hb := C.2.1
  have hl : lv_has ls 1 [(0, .int x1)] := hl
  have hT := sp_X4_rightOf_s x1
  refine lv_iload_n hx hb dX4_rightOf_0 rfl (lv_at hl 0 rfl) ?_
  refine lv_ldc hx hb C.2.2.2.1 (C.2.2.2.2 _ wd_2_81) dX4_rightOf_1 ?_
  refine lv_iand hx hb dX4_rightOf_3 ?_
  refine lv_iconst (v := 1) hx hb dX4_rightOf_4 (by decide) ?_
  refine lv_ishl hx hb dX4_rightOf_5 ?_
  exact hret _ _ _ hT dX4_rightOf_6
theorem hv_X4_leftOf : yX4_leftOf.cls = RX4 ∧ yX4_leftOf.cls ≠ "java/lang/invoke/MethodHandle" ∧ yX4_leftOf.cls ≠ "java/lang/invoke/VarHandle" ∧ (parseMethodDescriptor yX4_leftOf.desc).map (fun d => d.parameters.length) = some 1 := by decide +kernel
theorem hd_X4_leftOf : yX4_leftOf.cls ≠ "java/lang/invoke/MethodHandle" ∧ yX4_leftOf.cls ≠ "java/lang/invoke/VarHandle" ∧ (parseMethodDescriptor yX4_leftOf.desc).map (fun d => d.parameters.length) = some 1 := hv_X4_leftOf.2
def sp_X4_leftOf (x1 : Int32) : Int32 :=
  ush (x1 &&& (-33826 : Int32)) (1 : Int32)
theorem sp_X4_leftOf_s (x1 : Int32) : (ush (x1 &&& (-33826 : Int32)) (1 : Int32)) = sp_X4_leftOf x1 := rfl
set_option maxHeartbeats 4000000 in
set_option maxRecDepth 100000 in
theorem c_X4_leftOf {l : Launch} {x1 : Int32}  : Met l yX4_leftOf (wm yX4_leftOf cX4_leftOf 1 (some .int)) ({ frames := 0, cells := 0, slots := 0, locals := 0 } : Room) (SPre [.int x1]) (vp_Si (fun r => r = sp_X4_leftOf x1)) 0 0 (fun _ => False) := by
  refine metS_i (post := (fun r => r = sp_X4_leftOf x1)) (by decide) (Nat.le_of_ble_eq_true rfl) ?_
  intro p e s m args below meth c ls Q C hN hl hret
  have hx := C.1
  have hb := C.2.1
  have hl : lv_has ls 1 [(0, .int x1)] := hl
  have hT := sp_X4_leftOf_s x1
  refine lv_iload_n hx hb dX4_leftOf_0 rfl (lv_at hl 0 rfl) ?_
  refine lv_ldc hx hb C.2.2.2.1 (C.2.2.2.2 _ wd_2_85) dX4_leftOf_1 ?_
  refine lv_iand hx hb dX4_leftOf_3 ?_
  refine lv_iconst (v := 1) hx hb dX4_leftOf_4 (by decide) ?_
  refine lv_iushr (v := ush (x1 &&& (-33826 : Int32)) (1 : Int32)) hx hb dX4_leftOf_5 rfl ?_
  exact hret _ _ _ hT dX4_leftOf_6
theorem hv_X4_besideAny : yX4_besideAny.cls = RX4 ∧ yX4_besideAny.cls ≠ "java/lang/invoke/MethodHandle" ∧ yX4_besideAny.cls ≠ "java/lang/invoke/VarHandle" ∧ (parseMethodDescriptor yX4_besideAny.desc).map (fun d => d.parameters.length) = some 1 := by decide +kernel
theorem hd_X4_besideAny : yX4_besideAny.cls ≠ "java/lang/invoke/MethodHandle" ∧ yX4_besideAny.cls ≠ "java/lang/invoke/VarHandle" ∧ (parseMethodDescriptor yX4_besideAny.desc).map (fun d => d.parameters.length) = some 1 := hv_X4_besideAny.2
def sp_X4_besideAny (x1 : Int32) : Int32 :=
  nm (sp_X4_rightOf x1) (fun r_1 => nm (sp_X4_leftOf x1) (fun r_2 => ((r_1 ||| r_2) ||| (x1 <<< ((5 : Int32) &&& 31))) ||| (ush x1 (5 : Int32))))
theorem sp_X4_besideAny_s (x1 : Int32) : (nm (sp_X4_rightOf x1) (fun r_1 => nm (sp_X4_leftOf x1) (fun r_2 => ((r_1 ||| r_2) ||| (x1 <<< ((5 : Int32) &&& 31))) ||| (ush x1 (5 : Int32))))) = sp_X4_besideAny x1 := rfl
set_option maxHeartbeats 4000000 in
set_option maxRecDepth 100000 in
theorem c_X4_besideAny {l : Launch} {x1 : Int32}  : Met l yX4_besideAny (wm yX4_besideAny cX4_besideAny 1 (some .int)) ({ frames := 1, cells := 0, slots := 0, locals := 20 } : Room) (SPre [.int x1]) (vp_Si (fun r => r = sp_X4_besideAny x1)) 0 0 (fun _ => False) := by
  refine metS_i (post := (fun r => r = sp_X4_besideAny x1)) (by decide) (Nat.le_of_ble_eq_true rfl) ?_
  intro p e s m args below meth c ls Q C hN hl hret
  have hx := C.1
  have hb := C.2.1
  have hl : lv_has ls 1 [(0, .int x1)] := hl
  have hT := sp_X4_besideAny_s x1
  refine lv_iload_n hx hb dX4_besideAny_0 rfl (lv_at hl 0 rfl) ?_
  refine vp_callSi (run_sP (As := [.int x1]) (rest := []) C hN (c_X4_rightOf) ⟨wd_2_78, wd_2_79, wd_1_4, wd_2_80⟩ ⟨rfl, rfl⟩ hd_X4_rightOf ⟨Nat.le_of_ble_eq_true rfl, Nat.le_of_ble_eq_true rfl⟩ rfl hl.1 rfl (Nat.le_of_ble_eq_true rfl) dX4_besideAny_1 ⟨Nat.zero_le _, Nat.zero_le _⟩) (fun r_1 hr_1 => ?_)
  have hT := nm_u hr_1 hT
  refine lv_iload_n hx hb dX4_besideAny_4 rfl (lv_at hl 0 rfl) ?_
  refine vp_callSi (run_sP (As := [.int x1]) (rest := [.int r_1]) C hN (c_X4_leftOf) ⟨wd_2_82, wd_2_83, wd_1_4, wd_2_84⟩ ⟨rfl, rfl⟩ hd_X4_leftOf ⟨Nat.le_of_ble_eq_true rfl, Nat.le_of_ble_eq_true rfl⟩ rfl hl.1 rfl (Nat.le_of_ble_eq_true rfl) dX4_besideAny_5 ⟨Nat.zero_le _, Nat.zero_le _⟩) (fun r_2 hr_2 => ?_)
  have hT := nm_u hr_2 hT
  refine lv_ior hx hb dX4_besideAny_8 ?_
  refine lv_iload_n hx hb dX4_besideAny_9 rfl (lv_at hl 0 rfl) ?_
  refine lv_iconst (v := 5) hx hb dX4_besideAny_10 (by decide) ?_
  refine lv_ishl hx hb dX4_besideAny_11 ?_
  refine lv_ior hx hb dX4_besideAny_12 ?_
  refine lv_iload_n hx hb dX4_besideAny_13 rfl (lv_at hl 0 rfl) ?_
  refine lv_iconst (v := 5) hx hb dX4_besideAny_14 (by decide) ?_
  refine lv_iushr (v := ush x1 (5 : Int32)) hx hb dX4_besideAny_15 rfl ?_
  refine lv_ior hx hb dX4_besideAny_16 ?_
  exact hret _ _ _ hT dX4_besideAny_17
theorem hv_X4_twosIn : yX4_twosIn.cls = RX4 ∧ yX4_twosIn.cls ≠ "java/lang/invoke/MethodHandle" ∧ yX4_twosIn.cls ≠ "java/lang/invoke/VarHandle" ∧ (parseMethodDescriptor yX4_twosIn.desc).map (fun d => d.parameters.length) = some 1 := by decide +kernel
theorem hd_X4_twosIn : yX4_twosIn.cls ≠ "java/lang/invoke/MethodHandle" ∧ yX4_twosIn.cls ≠ "java/lang/invoke/VarHandle" ∧ (parseMethodDescriptor yX4_twosIn.desc).map (fun d => d.parameters.length) = some 1 := hv_X4_twosIn.2
def sp_X4_twosIn (x1 : Int32) : Int32 :=
  nm (sp_X4_leftOf x1) (fun r_1 => nm (sp_J6_bitCount_0f7a4 (x1 &&& r_1)) (fun r_2 => nm (sp_J6_bitCount_0f7a4 (x1 &&& (ush x1 (5 : Int32)))) (fun r_3 => r_2 + r_3)))
theorem sp_X4_twosIn_s (x1 : Int32) : (nm (sp_X4_leftOf x1) (fun r_1 => nm (sp_J6_bitCount_0f7a4 (x1 &&& r_1)) (fun r_2 => nm (sp_J6_bitCount_0f7a4 (x1 &&& (ush x1 (5 : Int32)))) (fun r_3 => r_2 + r_3)))) = sp_X4_twosIn x1 := rfl
set_option maxHeartbeats 4000000 in
set_option maxRecDepth 100000 in
theorem c_X4_twosIn {l : Launch} {x1 : Int32}  : Met l yX4_twosIn (wm yX4_twosIn cX4_twosIn 1 (some .int)) ({ frames := 1, cells := 0, slots := 0, locals := 20 } : Room) (SPre [.int x1]) (vp_Si (fun r => r = sp_X4_twosIn x1)) 0 0 (fun _ => False) := by
  refine metS_i (post := (fun r => r = sp_X4_twosIn x1)) (by decide) (Nat.le_of_ble_eq_true rfl) ?_
  intro p e s m args below meth c ls Q C hN hl hret
  have hx := C.1
  have hb := C.2.1
  have hl : lv_has ls 1 [(0, .int x1)] := hl
  have hT := sp_X4_twosIn_s x1
  refine lv_iload_n hx hb dX4_twosIn_0 rfl (lv_at hl 0 rfl) ?_
  refine lv_iload_n hx hb dX4_twosIn_1 rfl (lv_at hl 0 rfl) ?_
  refine vp_callSi (run_sP (As := [.int x1]) (rest := [.int x1]) C hN (c_X4_leftOf) ⟨wd_2_82, wd_2_83, wd_1_4, wd_2_84⟩ ⟨rfl, rfl⟩ hd_X4_leftOf ⟨Nat.le_of_ble_eq_true rfl, Nat.le_of_ble_eq_true rfl⟩ rfl hl.1 rfl (Nat.le_of_ble_eq_true rfl) dX4_twosIn_2 ⟨Nat.zero_le _, Nat.zero_le _⟩) (fun r_1 hr_1 => ?_)
  have hT := nm_u hr_1 hT
  refine lv_iand hx hb dX4_twosIn_5 ?_
  refine vp_callSi (run_sP (As := [.int (x1 &&& r_1)]) (rest := []) C hN (c_J6_bitCount_0f7a4) ⟨wd_2_103, wd_2_104, wd_1_9, wd_2_105⟩ ⟨rfl, rfl⟩ hd_J6_bitCount_0f7a4 ⟨Nat.le_of_ble_eq_true rfl, Nat.le_of_ble_eq_true rfl⟩ rfl hl.1 rfl (Nat.le_of_ble_eq_true rfl) dX4_twosIn_6 ⟨Nat.zero_le _, Nat.zero_le _⟩) (fun r_2 hr_2 => ?_)
  have hT := nm_u hr_2 hT
  refine lv_iload_n hx hb dX4_twosIn_9 rfl (lv_at hl 0 rfl) ?_
  refine lv_iload_n hx hb dX4_twosIn_10 rfl (lv_at hl 0 rfl) ?_
  refine lv_iconst (v := 5) hx hb dX4_twosIn_11 (by decide) ?_
  refine lv_iushr (v := ush x1 (5 : Int32)) hx hb dX4_twosIn_12 rfl ?_
  refine lv_iand hx hb dX4_twosIn_13 ?_
  refine vp_callSi (run_sP (As := [.int (x1 &&& (ush x1 (5 : Int32)))]) (rest := [.int r_2]) C hN (c_J6_bitCount_0f7a4) ⟨wd_2_103, wd_2_104, wd_1_9, wd_2_105⟩ ⟨rfl, rfl⟩ hd_J6_bitCount_0f7a4 ⟨Nat.le_of_ble_eq_true rfl, Nat.le_of_ble_eq_true rfl⟩ rfl hl.1 rfl (Nat.le_of_ble_eq_true rfl) dX4_twosIn_14 ⟨Nat.zero_le _, Nat.zero_le _⟩) (fun r_3 hr_3 => ?_)
  have hT := nm_u hr_3 hT
  refine lv_iadd hx hb dX4_twosIn_17 ?_
  exact hret _ _ _ hT dX4_twosIn_18
theorem hv_X4_floodedOver : yX4_floodedOver.cls = RX4 ∧ yX4_floodedOver.cls ≠ "java/lang/invoke/MethodHandle" ∧ yX4_floodedOver.cls ≠ "java/lang/invoke/VarHandle" ∧ (parseMethodDescriptor yX4_floodedOver.desc).map (fun d => d.parameters.length) = some 2 := by decide +kernel
theorem hd_X4_floodedOver : yX4_floodedOver.cls ≠ "java/lang/invoke/MethodHandle" ∧ yX4_floodedOver.cls ≠ "java/lang/invoke/VarHandle" ∧ (parseMethodDescriptor yX4_floodedOver.desc).map (fun d => d.parameters.length) = some 2 := hv_X4_floodedOver.2
def lp_X4_floodedOver_4 (x1 : Int32) : Nat → Int32 → Int32 → Int32
  | 0, y_1, y_2 => y_1
  | n + 1, y_1, y_2 => if (20 : Int32) ≤ y_2 then y_1 else (nm (sp_X4_besideAny y_1) (fun r_5 => lp_X4_floodedOver_4 x1 n (y_1 ||| (r_5 &&& x1)) (y_2 + 1)))
theorem lp_X4_floodedOver_4_s (x1 : Int32) (n : Nat) (y_1 : Int32) (y_2 : Int32) : (if (20 : Int32) ≤ y_2 then y_1 else (nm (sp_X4_besideAny y_1) (fun r_5 => lp_X4_floodedOver_4 x1 n (y_1 ||| (r_5 &&& x1)) (y_2 + 1)))) = lp_X4_floodedOver_4 x1 (n + 1) y_1 y_2 := rfl
def sp_X4_floodedOver (x1 : Int32) (x2 : Int32) : Int32 :=
  nm (lp_X4_floodedOver_4 x1 (((20 : Int32).toInt - (0 : Int32).toInt).toNat + 1) x2 (0 : Int32)) (fun e_3 => e_3)
theorem sp_X4_floodedOver_s (x1 : Int32) (x2 : Int32) : (nm (lp_X4_floodedOver_4 x1 (((20 : Int32).toInt - (0 : Int32).toInt).toNat + 1) x2 (0 : Int32)) (fun e_3 => e_3)) = sp_X4_floodedOver x1 x2 := rfl
set_option maxHeartbeats 4000000 in
set_option maxRecDepth 100000 in
theorem c_X4_floodedOver {l : Launch} {x1 : Int32} {x2 : Int32}  : Met l yX4_floodedOver (wm yX4_floodedOver cX4_floodedOver 4 (some .int)) ({ frames := 2, cells := 0, slots := 0, locals := 40 } : Room) (SPre [.int x1, .int x2]) (vp_Si (fun r => r = sp_X4_floodedOver x1 x2)) 0 0 (fun _ => False) := by
  refine metS_i (post := (fun r => r = sp_X4_floodedOver x1 x2)) (by decide) (Nat.le_of_ble_eq_true rfl) ?_
  intro p e s m args below meth c ls Q C hN hl hret
  have hx := C.1
  have hb := C.2.1
  have hl : lv_has ls 4 [(0, .int x1), (1, .int x2)] := hl
  have hT := sp_X4_floodedOver_s x1 x2
  refine lv_iload_n hx hb dX4_floodedOver_0 rfl (lv_at hl 1 rfl) ?_
  refine lv_istore_n (lv' := [(2, .int x2), (0, .int x1), (1, .int x2)]) hx hb dX4_floodedOver_1 rfl hl (by decide) rfl (fun ls hl => ?_)
  refine lv_iconst (v := 0) hx hb dX4_floodedOver_2 (by decide) ?_
  refine lv_istore_n (lv' := [(3, .int (0 : Int32)), (2, .int x2), (0, .int x1), (1, .int x2)]) hx hb dX4_floodedOver_3 rfl hl (by decide) rfl (fun ls hl => ?_)
  have L_4 : ∀ (n : Nat) (ls : Array Slot) (y_1 : Int32) (y_2 : Int32) (hm : ((20 : Int32).toInt - y_2.toInt).toNat < n) (hl : lv_has ls 4 [(0, .int x1), (2, .int y_1), (3, .int y_2)]) (kont : ∀ (ls : Array Slot) (e_3 : Int32), lv_has ls 4 [(2, .int e_3)] → e_3 = lp_X4_floodedOver_4 x1 n y_1 y_2 → W p l e ({ frames := 2, cells := 0, slots := 0, locals := 40 } : Room) s m args below meth c s.heap [] 0 0 Q (F0 m 25 ls [])), W p l e ({ frames := 2, cells := 0, slots := 0, locals := 40 } : Room) s m args below meth c s.heap [] 0 0 Q (F0 m 4 ls []) := by
    intro n
    induction n with
    | zero => intro ls y_1 y_2 hm; exact absurd hm (Nat.not_lt_zero _)
    | succ n ih =>
      intro ls y_1 y_2 hm hl kont
      have hT := lp_X4_floodedOver_4_s x1 n y_1 y_2
      refine lv_iload_n hx hb dX4_floodedOver_4 rfl (lv_at hl 2 rfl) ?_
      refine lv_bipush (v := 20) hx hb dX4_floodedOver_5 (by decide) ?_
      refine lv_icmp_ge (tgt := 25) hx hb dX4_floodedOver_7 (by decide) (fun c_4 => ?_) (fun c_4 => ?_)
      · have hT := it_t c_4 hT
        exact kont ls y_1 (lv_sub hl [1] rfl) hT
      · have hT := it_f c_4 hT
        refine lv_iload_n hx hb dX4_floodedOver_10 rfl (lv_at hl 1 rfl) ?_
        refine lv_iload_n hx hb dX4_floodedOver_11 rfl (lv_at hl 1 rfl) ?_
        refine vp_callSi (run_sP (As := [.int y_1]) (rest := [.int y_1]) C hN (c_X4_besideAny) ⟨wd_2_189, wd_2_190, wd_1_4, wd_2_191⟩ ⟨rfl, rfl⟩ hd_X4_besideAny ⟨Nat.le_of_ble_eq_true rfl, Nat.le_of_ble_eq_true rfl⟩ rfl hl.1 rfl (Nat.le_of_ble_eq_true rfl) dX4_floodedOver_12 ⟨Nat.zero_le _, Nat.zero_le _⟩) (fun r_5 hr_5 => ?_)
        have hT := nm_u hr_5 hT
        refine lv_iload_n hx hb dX4_floodedOver_15 rfl (lv_at hl 0 rfl) ?_
        refine lv_iand hx hb dX4_floodedOver_16 ?_
        refine lv_ior hx hb dX4_floodedOver_17 ?_
        refine lv_istore_n (lv' := [(2, .int (y_1 ||| (r_5 &&& x1))), (0, .int x1), (3, .int y_2)]) hx hb dX4_floodedOver_18 rfl hl (by decide) rfl (fun ls hl => ?_)
        refine lv_iinc (v := y_2 + 1) (lv' := [(3, .int (y_2 + 1)), (2, .int (y_1 ||| (r_5 &&& x1))), (0, .int x1)]) hx hb dX4_floodedOver_19 hl (k := 2) rfl rfl (by decide) rfl (fun ls hl => ?_)
        refine lv_goto (tgt := 4) hx hb dX4_floodedOver_22 (by decide) ?_
        exact ih ls (y_1 ||| (r_5 &&& x1)) (y_2 + 1) (ms_up c_4 hm) (lv_sub hl [2, 1, 0] rfl) (fun ls z0 hl he => kont ls z0 hl (he.trans hT))
  refine L_4 (((20 : Int32).toInt - (0 : Int32).toInt).toNat + 1) ls x2 (0 : Int32) (Nat.lt_succ_self _) (lv_sub hl [2, 1, 0] rfl) (fun ls e_3 hl he => ?_)
  have hT := nm_u he hT
  refine lv_iload_n hx hb dX4_floodedOver_25 rfl (lv_at hl 0 rfl) ?_
  exact hret _ _ _ hT dX4_floodedOver_26
theorem hv_X1_tokenOf : yX1_tokenOf.cls = RX1 ∧ yX1_tokenOf.cls ≠ "java/lang/invoke/MethodHandle" ∧ yX1_tokenOf.cls ≠ "java/lang/invoke/VarHandle" ∧ (parseMethodDescriptor yX1_tokenOf.desc).map (fun d => d.parameters.length) = some 1 := by decide +kernel
theorem hd_X1_tokenOf : yX1_tokenOf.cls ≠ "java/lang/invoke/MethodHandle" ∧ yX1_tokenOf.cls ≠ "java/lang/invoke/VarHandle" ∧ (parseMethodDescriptor yX1_tokenOf.desc).map (fun d => d.parameters.length) = some 1 := hv_X1_tokenOf.2
def jn_X1_tokenOf_28 (x1 : Int32) : Int32 :=
  if x1 = (59 : Int32) then (3 : Int32) else (if 0 ≤ x1 then (4 : Int32) else (0 : Int32))
theorem jn_X1_tokenOf_28_s (x1 : Int32) : (if x1 = (59 : Int32) then (3 : Int32) else (if 0 ≤ x1 then (4 : Int32) else (0 : Int32))) = jn_X1_tokenOf_28 x1 := rfl
def jn_X1_tokenOf_14 (x1 : Int32) : Int32 :=
  if x1 < (48 : Int32) then (jn_X1_tokenOf_28 x1) else (if (57 : Int32) < x1 then (jn_X1_tokenOf_28 x1) else (2 : Int32))
theorem jn_X1_tokenOf_14_s (x1 : Int32) : (if x1 < (48 : Int32) then (jn_X1_tokenOf_28 x1) else (if (57 : Int32) < x1 then (jn_X1_tokenOf_28 x1) else (2 : Int32))) = jn_X1_tokenOf_14 x1 := rfl
def sp_X1_tokenOf (x1 : Int32) : Int32 :=
  if x1 < (97 : Int32) then (jn_X1_tokenOf_14 x1) else (if (122 : Int32) < x1 then (jn_X1_tokenOf_14 x1) else (1 : Int32))
theorem sp_X1_tokenOf_s (x1 : Int32) : (if x1 < (97 : Int32) then (jn_X1_tokenOf_14 x1) else (if (122 : Int32) < x1 then (jn_X1_tokenOf_14 x1) else (1 : Int32))) = sp_X1_tokenOf x1 := rfl
set_option maxHeartbeats 4000000 in
set_option maxRecDepth 100000 in
theorem c_X1_tokenOf {l : Launch} {x1 : Int32}  : Met l yX1_tokenOf (wm yX1_tokenOf cX1_tokenOf 1 (some .int)) ({ frames := 0, cells := 0, slots := 0, locals := 0 } : Room) (SPre [.int x1]) (vp_Si (fun r => r = sp_X1_tokenOf x1)) 0 0 (fun _ => False) := by
  refine metS_i (post := (fun r => r = sp_X1_tokenOf x1)) (by decide) (Nat.le_of_ble_eq_true rfl) ?_
  intro p e s m args below meth c ls Q C hN hl hret
  have hx := C.1
  have hb := C.2.1
  have hl : lv_has ls 1 [(0, .int x1)] := hl
  have hT := sp_X1_tokenOf_s x1
  refine lv_iload_n hx hb dX1_tokenOf_0 rfl (lv_at hl 0 rfl) ?_
  refine lv_bipush (v := 97) hx hb dX1_tokenOf_1 (by decide) ?_
  have K_14 : ∀ (ls : Array Slot) (hl : lv_has ls 1 [(0, .int x1)]) (hT0 : jn_X1_tokenOf_14 x1 = sp_X1_tokenOf x1), W p l e ({ frames := 0, cells := 0, slots := 0, locals := 0 } : Room) s m args below meth c s.heap [] 0 0 Q (F0 m 14 ls []) := by
    intro ls hl hT0
    have hT := (jn_X1_tokenOf_14_s x1).trans hT0
    refine lv_iload_n hx hb dX1_tokenOf_14 rfl (lv_at hl 0 rfl) ?_
    refine lv_bipush (v := 48) hx hb dX1_tokenOf_15 (by decide) ?_
    have K_28 : ∀ (ls : Array Slot) (hl : lv_has ls 1 [(0, .int x1)]) (hT0 : jn_X1_tokenOf_28 x1 = sp_X1_tokenOf x1), W p l e ({ frames := 0, cells := 0, slots := 0, locals := 0 } : Room) s m args below meth c s.heap [] 0 0 Q (F0 m 28 ls []) := by
      intro ls hl hT0
      have hT := (jn_X1_tokenOf_28_s x1).trans hT0
      refine lv_iload_n hx hb dX1_tokenOf_28 rfl (lv_at hl 0 rfl) ?_
      refine lv_bipush (v := 59) hx hb dX1_tokenOf_29 (by decide) ?_
      refine lv_icmp_ne (tgt := 36) hx hb dX1_tokenOf_31 (by decide) (fun c_1 => ?_) (fun c_1 => ?_)
      · have hT := it_f c_1 hT
        refine lv_iload_n hx hb dX1_tokenOf_36 rfl (lv_at hl 0 rfl) ?_
        refine lv_if_ge (tgt := 44) hx hb dX1_tokenOf_37 (by decide) (fun c_2 => ?_) (fun c_2 => ?_)
        · have hT := it_t c_2 hT
          refine lv_iconst (v := 4) hx hb dX1_tokenOf_44 (by decide) ?_
          exact hret _ _ _ hT dX1_tokenOf_45
        · have hT := it_f c_2 hT
          refine lv_iconst (v := 0) hx hb dX1_tokenOf_40 (by decide) ?_
          refine lv_goto (tgt := 45) hx hb dX1_tokenOf_41 (by decide) ?_
          exact hret _ _ _ hT dX1_tokenOf_45
      · have hT := it_t c_1 hT
        refine lv_iconst (v := 3) hx hb dX1_tokenOf_34 (by decide) ?_
        exact hret _ _ _ hT dX1_tokenOf_35
    refine lv_icmp_lt (tgt := 28) hx hb dX1_tokenOf_17 (by decide) (fun c_3 => ?_) (fun c_3 => ?_)
    · have hT := it_t c_3 hT
      exact K_28 ls (lv_sub hl [0] rfl) hT
    · have hT := it_f c_3 hT
      refine lv_iload_n hx hb dX1_tokenOf_20 rfl (lv_at hl 0 rfl) ?_
      refine lv_bipush (v := 57) hx hb dX1_tokenOf_21 (by decide) ?_
      refine lv_icmp_gt (tgt := 28) hx hb dX1_tokenOf_23 (by decide) (fun c_4 => ?_) (fun c_4 => ?_)
      · have hT := it_t c_4 hT
        exact K_28 ls (lv_sub hl [0] rfl) hT
      · have hT := it_f c_4 hT
        refine lv_iconst (v := 2) hx hb dX1_tokenOf_26 (by decide) ?_
        exact hret _ _ _ hT dX1_tokenOf_27
  refine lv_icmp_lt (tgt := 14) hx hb dX1_tokenOf_3 (by decide) (fun c_5 => ?_) (fun c_5 => ?_)
  · have hT := it_t c_5 hT
    exact K_14 ls (lv_sub hl [0] rfl) hT
  · have hT := it_f c_5 hT
    refine lv_iload_n hx hb dX1_tokenOf_6 rfl (lv_at hl 0 rfl) ?_
    refine lv_bipush (v := 122) hx hb dX1_tokenOf_7 (by decide) ?_
    refine lv_icmp_gt (tgt := 14) hx hb dX1_tokenOf_9 (by decide) (fun c_6 => ?_) (fun c_6 => ?_)
    · have hT := it_t c_6 hT
      exact K_14 ls (lv_sub hl [0] rfl) hT
    · have hT := it_f c_6 hT
      refine lv_iconst (v := 1) hx hb dX1_tokenOf_12 (by decide) ?_
      exact hret _ _ _ hT dX1_tokenOf_13
theorem hv_X7_in : yX7_in.cls = RX7 ∧ yX7_in.cls ≠ "java/lang/invoke/MethodHandle" ∧ yX7_in.cls ≠ "java/lang/invoke/VarHandle" ∧ (parseMethodDescriptor yX7_in.desc).map (fun d => d.parameters.length) = some 3 := by decide +kernel
theorem hd_X7_in : yX7_in.cls ≠ "java/lang/invoke/MethodHandle" ∧ yX7_in.cls ≠ "java/lang/invoke/VarHandle" ∧ (parseMethodDescriptor yX7_in.desc).map (fun d => d.parameters.length) = some 3 := hv_X7_in.2
def sp_X7_in (x1 : Int32) (x2 : Int32) (x3 : Int32) : Int32 :=
  if x1 < x2 then (0 : Int32) else (if x3 < x1 then (0 : Int32) else (1 : Int32))
theorem sp_X7_in_s (x1 : Int32) (x2 : Int32) (x3 : Int32) : (if x1 < x2 then (0 : Int32) else (if x3 < x1 then (0 : Int32) else (1 : Int32))) = sp_X7_in x1 x2 x3 := rfl
set_option maxHeartbeats 4000000 in
set_option maxRecDepth 100000 in
theorem c_X7_in {l : Launch} {x1 : Int32} {x2 : Int32} {x3 : Int32}  : Met l yX7_in (wm yX7_in cX7_in 3 (some .boolean)) ({ frames := 0, cells := 0, slots := 0, locals := 0 } : Room) (SPre [.int x1, .int x2, .int x3]) (vp_Si (fun r => r = sp_X7_in x1 x2 x3 ∧ (r = 0 ∨ r = 1))) 0 0 (fun _ => False) := by
  refine metS_z (post := (fun r => r = sp_X7_in x1 x2 x3)) (by decide) (Nat.le_of_ble_eq_true rfl) ?_
  intro p e s m args below meth c ls Q C hN hl hret
  have hx := C.1
  have hb := C.2.1
  have hl : lv_has ls 3 [(0, .int x1), (1, .int x2), (2, .int x3)] := hl
  have hT := sp_X7_in_s x1 x2 x3
  refine lv_iload_n hx hb dX7_in_0 rfl (lv_at hl 0 rfl) ?_
  refine lv_iload_n hx hb dX7_in_1 rfl (lv_at hl 1 rfl) ?_
  refine lv_icmp_lt (tgt := 14) hx hb dX7_in_2 (by decide) (fun c_1 => ?_) (fun c_1 => ?_)
  · have hT := it_t c_1 hT
    refine lv_iconst (v := 0) hx hb dX7_in_14 (by decide) ?_
    exact hret _ _ _ ⟨hT, (Or.inl rfl)⟩ dX7_in_15
  · have hT := it_f c_1 hT
    refine lv_iload_n hx hb dX7_in_5 rfl (lv_at hl 0 rfl) ?_
    refine lv_iload_n hx hb dX7_in_6 rfl (lv_at hl 2 rfl) ?_
    refine lv_icmp_gt (tgt := 14) hx hb dX7_in_7 (by decide) (fun c_2 => ?_) (fun c_2 => ?_)
    · have hT := it_t c_2 hT
      refine lv_iconst (v := 0) hx hb dX7_in_14 (by decide) ?_
      exact hret _ _ _ ⟨hT, (Or.inl rfl)⟩ dX7_in_15
    · have hT := it_f c_2 hT
      refine lv_iconst (v := 1) hx hb dX7_in_10 (by decide) ?_
      refine lv_goto (tgt := 15) hx hb dX7_in_11 (by decide) ?_
      exact hret _ _ _ ⟨hT, (Or.inr rfl)⟩ dX7_in_15
theorem hv_X7_has : yX7_has.cls = RX7 ∧ yX7_has.cls ≠ "java/lang/invoke/MethodHandle" ∧ yX7_has.cls ≠ "java/lang/invoke/VarHandle" ∧ (parseMethodDescriptor yX7_has.desc).map (fun d => d.parameters.length) = some 2 := by decide +kernel
theorem hd_X7_has : yX7_has.cls ≠ "java/lang/invoke/MethodHandle" ∧ yX7_has.cls ≠ "java/lang/invoke/VarHandle" ∧ (parseMethodDescriptor yX7_has.desc).map (fun d => d.parameters.length) = some 2 := hv_X7_has.2
def sp_X7_has (x1 : Int32) (x2 : Int32) : Int32 :=
  if ((x1 >>> (x2 &&& 31)) &&& (1 : Int32)) = (1 : Int32) then (1 : Int32) else (0 : Int32)
theorem sp_X7_has_s (x1 : Int32) (x2 : Int32) : (if ((x1 >>> (x2 &&& 31)) &&& (1 : Int32)) = (1 : Int32) then (1 : Int32) else (0 : Int32)) = sp_X7_has x1 x2 := rfl
set_option maxHeartbeats 4000000 in
set_option maxRecDepth 100000 in
theorem c_X7_has {l : Launch} {x1 : Int32} {x2 : Int32}  : Met l yX7_has (wm yX7_has cX7_has 2 (some .boolean)) ({ frames := 0, cells := 0, slots := 0, locals := 0 } : Room) (SPre [.int x1, .int x2]) (vp_Si (fun r => r = sp_X7_has x1 x2 ∧ (r = 0 ∨ r = 1))) 0 0 (fun _ => False) := by
  refine metS_z (post := (fun r => r = sp_X7_has x1 x2)) (by decide) (Nat.le_of_ble_eq_true rfl) ?_
  intro p e s m args below meth c ls Q C hN hl hret
  have hx := C.1
  have hb := C.2.1
  have hl : lv_has ls 2 [(0, .int x1), (1, .int x2)] := hl
  have hT := sp_X7_has_s x1 x2
  refine lv_iload_n hx hb dX7_has_0 rfl (lv_at hl 0 rfl) ?_
  refine lv_iload_n hx hb dX7_has_1 rfl (lv_at hl 1 rfl) ?_
  refine lv_ishr hx hb dX7_has_2 ?_
  refine lv_iconst (v := 1) hx hb dX7_has_3 (by decide) ?_
  refine lv_iand hx hb dX7_has_4 ?_
  refine lv_iconst (v := 1) hx hb dX7_has_5 (by decide) ?_
  refine lv_icmp_ne (tgt := 13) hx hb dX7_has_6 (by decide) (fun c_1 => ?_) (fun c_1 => ?_)
  · have hT := it_f c_1 hT
    refine lv_iconst (v := 0) hx hb dX7_has_13 (by decide) ?_
    exact hret _ _ _ ⟨hT, (Or.inl rfl)⟩ dX7_has_14
  · have hT := it_t c_1 hT
    refine lv_iconst (v := 1) hx hb dX7_has_9 (by decide) ?_
    refine lv_goto (tgt := 14) hx hb dX7_has_10 (by decide) ?_
    exact hret _ _ _ ⟨hT, (Or.inr rfl)⟩ dX7_has_14
theorem hv_X7_bits : yX7_bits.cls = RX7 ∧ yX7_bits.cls ≠ "java/lang/invoke/MethodHandle" ∧ yX7_bits.cls ≠ "java/lang/invoke/VarHandle" ∧ (parseMethodDescriptor yX7_bits.desc).map (fun d => d.parameters.length) = some 1 := by decide +kernel
theorem hd_X7_bits : yX7_bits.cls ≠ "java/lang/invoke/MethodHandle" ∧ yX7_bits.cls ≠ "java/lang/invoke/VarHandle" ∧ (parseMethodDescriptor yX7_bits.desc).map (fun d => d.parameters.length) = some 1 := hv_X7_bits.2
def lp_X7_bits_4 (x1 : Int32) : Nat → Int32 → Int32 → Int32
  | 0, y_1, y_2 => y_1
  | n + 1, y_1, y_2 => if (20 : Int32) ≤ y_2 then y_1 else (lp_X7_bits_4 x1 n (y_1 + ((x1 >>> (y_2 &&& 31)) &&& (1 : Int32))) (y_2 + 1))
theorem lp_X7_bits_4_s (x1 : Int32) (n : Nat) (y_1 : Int32) (y_2 : Int32) : (if (20 : Int32) ≤ y_2 then y_1 else (lp_X7_bits_4 x1 n (y_1 + ((x1 >>> (y_2 &&& 31)) &&& (1 : Int32))) (y_2 + 1))) = lp_X7_bits_4 x1 (n + 1) y_1 y_2 := rfl
def sp_X7_bits (x1 : Int32) : Int32 :=
  nm (lp_X7_bits_4 x1 (((20 : Int32).toInt - (0 : Int32).toInt).toNat + 1) (0 : Int32) (0 : Int32)) (fun e_3 => e_3)
theorem sp_X7_bits_s (x1 : Int32) : (nm (lp_X7_bits_4 x1 (((20 : Int32).toInt - (0 : Int32).toInt).toNat + 1) (0 : Int32) (0 : Int32)) (fun e_3 => e_3)) = sp_X7_bits x1 := rfl
set_option maxHeartbeats 4000000 in
set_option maxRecDepth 100000 in
theorem c_X7_bits {l : Launch} {x1 : Int32}  : Met l yX7_bits (wm yX7_bits cX7_bits 3 (some .int)) ({ frames := 0, cells := 0, slots := 0, locals := 0 } : Room) (SPre [.int x1]) (vp_Si (fun r => r = sp_X7_bits x1)) 0 0 (fun _ => False) := by
  refine metS_i (post := (fun r => r = sp_X7_bits x1)) (by decide) (Nat.le_of_ble_eq_true rfl) ?_
  intro p e s m args below meth c ls Q C hN hl hret
  have hx := C.1
  have hb := C.2.1
  have hl : lv_has ls 3 [(0, .int x1)] := hl
  have hT := sp_X7_bits_s x1
  refine lv_iconst (v := 0) hx hb dX7_bits_0 (by decide) ?_
  refine lv_istore_n (lv' := [(1, .int (0 : Int32)), (0, .int x1)]) hx hb dX7_bits_1 rfl hl (by decide) rfl (fun ls hl => ?_)
  refine lv_iconst (v := 0) hx hb dX7_bits_2 (by decide) ?_
  refine lv_istore_n (lv' := [(2, .int (0 : Int32)), (1, .int (0 : Int32)), (0, .int x1)]) hx hb dX7_bits_3 rfl hl (by decide) rfl (fun ls hl => ?_)
  have L_4 : ∀ (n : Nat) (ls : Array Slot) (y_1 : Int32) (y_2 : Int32) (hm : ((20 : Int32).toInt - y_2.toInt).toNat < n) (hl : lv_has ls 3 [(0, .int x1), (1, .int y_1), (2, .int y_2)]) (kont : ∀ (ls : Array Slot) (e_3 : Int32), lv_has ls 3 [(1, .int e_3)] → e_3 = lp_X7_bits_4 x1 n y_1 y_2 → W p l e ({ frames := 0, cells := 0, slots := 0, locals := 0 } : Room) s m args below meth c s.heap [] 0 0 Q (F0 m 24 ls [])), W p l e ({ frames := 0, cells := 0, slots := 0, locals := 0 } : Room) s m args below meth c s.heap [] 0 0 Q (F0 m 4 ls []) := by
    intro n
    induction n with
    | zero => intro ls y_1 y_2 hm; exact absurd hm (Nat.not_lt_zero _)
    | succ n ih =>
      intro ls y_1 y_2 hm hl kont
      have hT := lp_X7_bits_4_s x1 n y_1 y_2
      refine lv_iload_n hx hb dX7_bits_4 rfl (lv_at hl 2 rfl) ?_
      refine lv_bipush (v := 20) hx hb dX7_bits_5 (by decide) ?_
      refine lv_icmp_ge (tgt := 24) hx hb dX7_bits_7 (by decide) (fun c_4 => ?_) (fun c_4 => ?_)
      · have hT := it_t c_4 hT
        exact kont ls y_1 (lv_sub hl [1] rfl) hT
      · have hT := it_f c_4 hT
        refine lv_iload_n hx hb dX7_bits_10 rfl (lv_at hl 1 rfl) ?_
        refine lv_iload_n hx hb dX7_bits_11 rfl (lv_at hl 0 rfl) ?_
        refine lv_iload_n hx hb dX7_bits_12 rfl (lv_at hl 2 rfl) ?_
        refine lv_ishr hx hb dX7_bits_13 ?_
        refine lv_iconst (v := 1) hx hb dX7_bits_14 (by decide) ?_
        refine lv_iand hx hb dX7_bits_15 ?_
        refine lv_iadd hx hb dX7_bits_16 ?_
        refine lv_istore_n (lv' := [(1, .int (y_1 + ((x1 >>> (y_2 &&& 31)) &&& (1 : Int32)))), (0, .int x1), (2, .int y_2)]) hx hb dX7_bits_17 rfl hl (by decide) rfl (fun ls hl => ?_)
        refine lv_iinc (v := y_2 + 1) (lv' := [(2, .int (y_2 + 1)), (1, .int (y_1 + ((x1 >>> (y_2 &&& 31)) &&& (1 : Int32)))), (0, .int x1)]) hx hb dX7_bits_18 hl (k := 2) rfl rfl (by decide) rfl (fun ls hl => ?_)
        refine lv_goto (tgt := 4) hx hb dX7_bits_21 (by decide) ?_
        exact ih ls (y_1 + ((x1 >>> (y_2 &&& 31)) &&& (1 : Int32))) (y_2 + 1) (ms_up c_4 hm) (lv_sub hl [2, 1, 0] rfl) (fun ls z0 hl he => kont ls z0 hl (he.trans hT))
  refine L_4 (((20 : Int32).toInt - (0 : Int32).toInt).toNat + 1) ls (0 : Int32) (0 : Int32) (Nat.lt_succ_self _) (lv_sub hl [2, 1, 0] rfl) (fun ls e_3 hl he => ?_)
  have hT := nm_u he hT
  refine lv_iload_n hx hb dX7_bits_24 rfl (lv_at hl 0 rfl) ?_
  exact hret _ _ _ hT dX7_bits_25
theorem hv_X7_isFamily : yX7_isFamily.cls = RX7 ∧ yX7_isFamily.cls ≠ "java/lang/invoke/MethodHandle" ∧ yX7_isFamily.cls ≠ "java/lang/invoke/VarHandle" ∧ (parseMethodDescriptor yX7_isFamily.desc).map (fun d => d.parameters.length) = some 1 := by decide +kernel
theorem hd_X7_isFamily : yX7_isFamily.cls ≠ "java/lang/invoke/MethodHandle" ∧ yX7_isFamily.cls ≠ "java/lang/invoke/VarHandle" ∧ (parseMethodDescriptor yX7_isFamily.desc).map (fun d => d.parameters.length) = some 1 := hv_X7_isFamily.2
def sp_X7_isFamily (x1 : Int32) : Int32 :=
  nm (sp_X7_in x1 (0 : Int32) (4 : Int32)) (fun r_1 => r_1)
theorem sp_X7_isFamily_s (x1 : Int32) : (nm (sp_X7_in x1 (0 : Int32) (4 : Int32)) (fun r_1 => r_1)) = sp_X7_isFamily x1 := rfl
set_option maxHeartbeats 4000000 in
set_option maxRecDepth 100000 in
theorem c_X7_isFamily {l : Launch} {x1 : Int32}  : Met l yX7_isFamily (wm yX7_isFamily cX7_isFamily 1 (some .boolean)) ({ frames := 1, cells := 0, slots := 0, locals := 22 } : Room) (SPre [.int x1]) (vp_Si (fun r => r = sp_X7_isFamily x1 ∧ (r = 0 ∨ r = 1))) 0 0 (fun _ => False) := by
  refine metS_z (post := (fun r => r = sp_X7_isFamily x1)) (by decide) (Nat.le_of_ble_eq_true rfl) ?_
  intro p e s m args below meth c ls Q C hN hl hret
  have hx := C.1
  have hb := C.2.1
  have hl : lv_has ls 1 [(0, .int x1)] := hl
  have hT := sp_X7_isFamily_s x1
  refine lv_iload_n hx hb dX7_isFamily_0 rfl (lv_at hl 0 rfl) ?_
  refine lv_iconst (v := 0) hx hb dX7_isFamily_1 (by decide) ?_
  refine lv_iconst (v := 4) hx hb dX7_isFamily_2 (by decide) ?_
  refine vp_callSi (run_sP (As := [.int x1, .int (0 : Int32), .int (4 : Int32)]) (rest := []) C hN (c_X7_in) ⟨wd_3_147, wd_3_148, wd_1_8, wd_3_149⟩ ⟨rfl, rfl⟩ hd_X7_in ⟨Nat.le_of_ble_eq_true rfl, Nat.le_of_ble_eq_true rfl⟩ rfl hl.1 rfl (Nat.le_of_ble_eq_true rfl) dX7_isFamily_3 ⟨Nat.zero_le _, Nat.zero_le _⟩) (fun r_1 hr_1 => ?_)
  have hT := nm_u hr_1.1 hT
  exact hret _ _ _ ⟨hT, hr_1.2⟩ dX7_isFamily_6
theorem hv_X7_isFigure : yX7_isFigure.cls = RX7 ∧ yX7_isFigure.cls ≠ "java/lang/invoke/MethodHandle" ∧ yX7_isFigure.cls ≠ "java/lang/invoke/VarHandle" ∧ (parseMethodDescriptor yX7_isFigure.desc).map (fun d => d.parameters.length) = some 1 := by decide +kernel
theorem hd_X7_isFigure : yX7_isFigure.cls ≠ "java/lang/invoke/MethodHandle" ∧ yX7_isFigure.cls ≠ "java/lang/invoke/VarHandle" ∧ (parseMethodDescriptor yX7_isFigure.desc).map (fun d => d.parameters.length) = some 1 := hv_X7_isFigure.2
def sp_X7_isFigure (x1 : Int32) : Int32 :=
  nm (sp_X7_in x1 (48 : Int32) (57 : Int32)) (fun r_1 => r_1)
theorem sp_X7_isFigure_s (x1 : Int32) : (nm (sp_X7_in x1 (48 : Int32) (57 : Int32)) (fun r_1 => r_1)) = sp_X7_isFigure x1 := rfl
set_option maxHeartbeats 4000000 in
set_option maxRecDepth 100000 in
theorem c_X7_isFigure {l : Launch} {x1 : Int32}  : Met l yX7_isFigure (wm yX7_isFigure cX7_isFigure 1 (some .boolean)) ({ frames := 1, cells := 0, slots := 0, locals := 22 } : Room) (SPre [.int x1]) (vp_Si (fun r => r = sp_X7_isFigure x1 ∧ (r = 0 ∨ r = 1))) 0 0 (fun _ => False) := by
  refine metS_z (post := (fun r => r = sp_X7_isFigure x1)) (by decide) (Nat.le_of_ble_eq_true rfl) ?_
  intro p e s m args below meth c ls Q C hN hl hret
  have hx := C.1
  have hb := C.2.1
  have hl : lv_has ls 1 [(0, .int x1)] := hl
  have hT := sp_X7_isFigure_s x1
  refine lv_iload_n hx hb dX7_isFigure_0 rfl (lv_at hl 0 rfl) ?_
  refine lv_bipush (v := 48) hx hb dX7_isFigure_1 (by decide) ?_
  refine lv_bipush (v := 57) hx hb dX7_isFigure_3 (by decide) ?_
  refine vp_callSi (run_sP (As := [.int x1, .int (48 : Int32), .int (57 : Int32)]) (rest := []) C hN (c_X7_in) ⟨wd_3_147, wd_3_148, wd_1_8, wd_3_149⟩ ⟨rfl, rfl⟩ hd_X7_in ⟨Nat.le_of_ble_eq_true rfl, Nat.le_of_ble_eq_true rfl⟩ rfl hl.1 rfl (Nat.le_of_ble_eq_true rfl) dX7_isFigure_5 ⟨Nat.zero_le _, Nat.zero_le _⟩) (fun r_1 hr_1 => ?_)
  have hT := nm_u hr_1.1 hT
  exact hret _ _ _ ⟨hT, hr_1.2⟩ dX7_isFigure_8
theorem hv_X7_isLetter : yX7_isLetter.cls = RX7 ∧ yX7_isLetter.cls ≠ "java/lang/invoke/MethodHandle" ∧ yX7_isLetter.cls ≠ "java/lang/invoke/VarHandle" ∧ (parseMethodDescriptor yX7_isLetter.desc).map (fun d => d.parameters.length) = some 1 := by decide +kernel
theorem hd_X7_isLetter : yX7_isLetter.cls ≠ "java/lang/invoke/MethodHandle" ∧ yX7_isLetter.cls ≠ "java/lang/invoke/VarHandle" ∧ (parseMethodDescriptor yX7_isLetter.desc).map (fun d => d.parameters.length) = some 1 := hv_X7_isLetter.2
def sp_X7_isLetter (x1 : Int32) : Int32 :=
  nm (sp_X7_in x1 (97 : Int32) (122 : Int32)) (fun r_1 => r_1)
theorem sp_X7_isLetter_s (x1 : Int32) : (nm (sp_X7_in x1 (97 : Int32) (122 : Int32)) (fun r_1 => r_1)) = sp_X7_isLetter x1 := rfl
set_option maxHeartbeats 4000000 in
set_option maxRecDepth 100000 in
theorem c_X7_isLetter {l : Launch} {x1 : Int32}  : Met l yX7_isLetter (wm yX7_isLetter cX7_isLetter 1 (some .boolean)) ({ frames := 1, cells := 0, slots := 0, locals := 22 } : Room) (SPre [.int x1]) (vp_Si (fun r => r = sp_X7_isLetter x1 ∧ (r = 0 ∨ r = 1))) 0 0 (fun _ => False) := by
  refine metS_z (post := (fun r => r = sp_X7_isLetter x1)) (by decide) (Nat.le_of_ble_eq_true rfl) ?_
  intro p e s m args below meth c ls Q C hN hl hret
  have hx := C.1
  have hb := C.2.1
  have hl : lv_has ls 1 [(0, .int x1)] := hl
  have hT := sp_X7_isLetter_s x1
  refine lv_iload_n hx hb dX7_isLetter_0 rfl (lv_at hl 0 rfl) ?_
  refine lv_bipush (v := 97) hx hb dX7_isLetter_1 (by decide) ?_
  refine lv_bipush (v := 122) hx hb dX7_isLetter_3 (by decide) ?_
  refine vp_callSi (run_sP (As := [.int x1, .int (97 : Int32), .int (122 : Int32)]) (rest := []) C hN (c_X7_in) ⟨wd_3_147, wd_3_148, wd_1_8, wd_3_149⟩ ⟨rfl, rfl⟩ hd_X7_in ⟨Nat.le_of_ble_eq_true rfl, Nat.le_of_ble_eq_true rfl⟩ rfl hl.1 rfl (Nat.le_of_ble_eq_true rfl) dX7_isLetter_5 ⟨Nat.zero_le _, Nat.zero_le _⟩) (fun r_1 hr_1 => ?_)
  have hT := nm_u hr_1.1 hT
  exact hret _ _ _ ⟨hT, hr_1.2⟩ dX7_isLetter_8
