theorem hv_X7_isCell : yX7_isCell.cls = RX7 ∧ yX7_isCell.cls ≠ "java/lang/invoke/MethodHandle" ∧ yX7_isCell.cls ≠ "java/lang/invoke/VarHandle" ∧ (parseMethodDescriptor yX7_isCell.desc).map (fun d => d.parameters.length) = some 2 := by decide +kernel
theorem hd_X7_isCell : yX7_isCell.cls ≠ "java/lang/invoke/MethodHandle" ∧ yX7_isCell.cls ≠ "java/lang/invoke/VarHandle" ∧ (parseMethodDescriptor yX7_isCell.desc).map (fun d => d.parameters.length) = some 2 := hv_X7_isCell.2
def sp_X7_isCell (mg : Nat → Int32) (x1 : Int32) (x2 : Int32) : Int32 :=
  nm (sp_X7_in x1 (0 : Int32) ((mg 0) - (1 : Int32))) (fun r_1 => if r_1 = 0 then (0 : Int32) else (nm (sp_X7_in x2 (0 : Int32) ((mg 1) - (1 : Int32))) (fun r_3 => if r_3 = 0 then (0 : Int32) else (1 : Int32))))
theorem sp_X7_isCell_s (mg : Nat → Int32) (x1 : Int32) (x2 : Int32) : (nm (sp_X7_in x1 (0 : Int32) ((mg 0) - (1 : Int32))) (fun r_1 => if r_1 = 0 then (0 : Int32) else (nm (sp_X7_in x2 (0 : Int32) ((mg 1) - (1 : Int32))) (fun r_3 => if r_3 = 0 then (0 : Int32) else (1 : Int32))))) = sp_X7_isCell mg x1 x2 := rfl
set_option maxHeartbeats 4000000 in
set_option maxRecDepth 100000 in
theorem c_X7_isCell {l : Launch} {D : va_G} {cI cZ cO : ClassId} {mk : Nat → Nat} {mg st im ke se tx sh fa : Nat → Int32} {mt : Int64} {x1 : Int32} {x2 : Int32}  (sz : Nat) : Met l yX7_isCell (wm yX7_isCell cX7_isCell 3 (some .boolean)) ({ frames := 1, cells := 0, slots := 0, locals := 22 } : Room) (GPre D (ty3 cI cZ cO) (MW cI cZ mk mg st im ke se tx sh fa mt) [.ref (mk 0), .int x1, .int x2] sz) (vp_Si (fun r => r = sp_X7_isCell mg x1 x2 ∧ (r = 0 ∨ r = 1))) 0 0 (fun _ => False) := by
  refine metP_z (post := (fun r => r = sp_X7_isCell mg x1 x2)) (by decide) (Nat.le_of_ble_eq_true rfl) ?_
  intro p e s m args below meth c ls Q C hsz hP hK hD hN hl hret
  have hx := C.1
  have hb := C.2.1
  have hl : lv_has ls 3 [(0, .ref (mk 0)), (1, .int x1), (2, .int x2)] := hl
  have hT := sp_X7_isCell_s mg x1 x2
  refine lv_iload_n hx hb dX7_isCell_0 rfl (lv_at hl 1 rfl) ?_
  refine lv_iconst (v := 0) hx hb dX7_isCell_1 (by decide) ?_
  refine lv_aload_n hx hb dX7_isCell_2 rfl (lv_at hl 0 rfl) ?_
  refine gX7_wide C hK hP wd_3_75 dX7_isCell_3 ?_
  refine lv_iconst (v := 1) hx hb dX7_isCell_6 (by decide) ?_
  refine lv_isub hx hb dX7_isCell_7 ?_
  refine vp_callSi (run_sP (As := [.int x1, .int (0 : Int32), .int ((mg 0) - (1 : Int32))]) (rest := []) C hN (c_X7_in) ⟨wd_3_147, wd_3_148, wd_1_8, wd_3_149⟩ ⟨rfl, rfl⟩ hd_X7_in ⟨Nat.le_of_ble_eq_true rfl, Nat.le_of_ble_eq_true rfl⟩ rfl hl.1 rfl (Nat.le_of_ble_eq_true rfl) dX7_isCell_8 ⟨Nat.zero_le _, Nat.zero_le _⟩) (fun r_1 hr_1 => ?_)
  have hT := nm_u hr_1.1 hT
  refine lv_if_eq (tgt := 32) hx hb dX7_isCell_11 (by decide) (fun c_2 => ?_) (fun c_2 => ?_)
  · have hT := it_t c_2 hT
    refine lv_iconst (v := 0) hx hb dX7_isCell_32 (by decide) ?_
    exact hret _ _ _ ⟨hT, (Or.inl rfl)⟩ dX7_isCell_33
  · have hT := it_f c_2 hT
    refine lv_iload_n hx hb dX7_isCell_14 rfl (lv_at hl 2 rfl) ?_
    refine lv_iconst (v := 0) hx hb dX7_isCell_15 (by decide) ?_
    refine lv_aload_n hx hb dX7_isCell_16 rfl (lv_at hl 0 rfl) ?_
    refine gX7_rows C hK hP wd_3_76 dX7_isCell_17 ?_
    refine lv_iconst (v := 1) hx hb dX7_isCell_20 (by decide) ?_
    refine lv_isub hx hb dX7_isCell_21 ?_
    refine vp_callSi (run_sP (As := [.int x2, .int (0 : Int32), .int ((mg 1) - (1 : Int32))]) (rest := []) C hN (c_X7_in) ⟨wd_3_147, wd_3_148, wd_1_8, wd_3_149⟩ ⟨rfl, rfl⟩ hd_X7_in ⟨Nat.le_of_ble_eq_true rfl, Nat.le_of_ble_eq_true rfl⟩ rfl hl.1 rfl (Nat.le_of_ble_eq_true rfl) dX7_isCell_22 ⟨Nat.zero_le _, Nat.zero_le _⟩) (fun r_3 hr_3 => ?_)
    have hT := nm_u hr_3.1 hT
    refine lv_if_eq (tgt := 32) hx hb dX7_isCell_25 (by decide) (fun c_4 => ?_) (fun c_4 => ?_)
    · have hT := it_t c_4 hT
      refine lv_iconst (v := 0) hx hb dX7_isCell_32 (by decide) ?_
      exact hret _ _ _ ⟨hT, (Or.inl rfl)⟩ dX7_isCell_33
    · have hT := it_f c_4 hT
      refine lv_iconst (v := 1) hx hb dX7_isCell_28 (by decide) ?_
      refine lv_goto (tgt := 33) hx hb dX7_isCell_29 (by decide) ?_
      exact hret _ _ _ ⟨hT, (Or.inr rfl)⟩ dX7_isCell_33
theorem hv_X7_isDry : yX7_isDry.cls = RX7 ∧ yX7_isDry.cls ≠ "java/lang/invoke/MethodHandle" ∧ yX7_isDry.cls ≠ "java/lang/invoke/VarHandle" ∧ (parseMethodDescriptor yX7_isDry.desc).map (fun d => d.parameters.length) = some 1 := by decide +kernel
theorem hd_X7_isDry : yX7_isDry.cls ≠ "java/lang/invoke/MethodHandle" ∧ yX7_isDry.cls ≠ "java/lang/invoke/VarHandle" ∧ (parseMethodDescriptor yX7_isDry.desc).map (fun d => d.parameters.length) = some 1 := hv_X7_isDry.2
def sp_X7_isDry (st : Nat → Int32) (x1 : Int32) : Int32 :=
  if (x1 / (5 : Int32)) < (st (22 : Int32).toNatClampNeg) then (0 : Int32) else (1 : Int32)
theorem sp_X7_isDry_s (st : Nat → Int32) (x1 : Int32) : (if (x1 / (5 : Int32)) < (st (22 : Int32).toNatClampNeg) then (0 : Int32) else (1 : Int32)) = sp_X7_isDry st x1 := rfl
set_option maxHeartbeats 4000000 in
set_option maxRecDepth 100000 in
theorem c_X7_isDry {l : Launch} {D : va_G} {cI cZ cO : ClassId} {mk : Nat → Nat} {mg st im ke se tx sh fa : Nat → Int32} {mt : Int64} {x1 : Int32}  (sz : Nat) : Met l yX7_isDry (wm yX7_isDry cX7_isDry 2 (some .boolean)) ({ frames := 0, cells := 0, slots := 0, locals := 0 } : Room) (GPre D (ty3 cI cZ cO) (MW cI cZ mk mg st im ke se tx sh fa mt) [.ref (mk 0), .int x1] sz) (vp_Si (fun r => r = sp_X7_isDry st x1 ∧ (r = 0 ∨ r = 1))) 0 0 (fun _ => False) := by
  refine metP_z (post := (fun r => r = sp_X7_isDry st x1)) (by decide) (Nat.le_of_ble_eq_true rfl) ?_
  intro p e s m args below meth c ls Q C hsz hP hK hD hN hl hret
  have hx := C.1
  have hb := C.2.1
  have hl : lv_has ls 2 [(0, .ref (mk 0)), (1, .int x1)] := hl
  have hT := sp_X7_isDry_s st x1
  refine lv_iload_n hx hb dX7_isDry_0 rfl (lv_at hl 1 rfl) ?_
  refine lv_iconst (v := 5) hx hb dX7_isDry_1 (by decide) ?_
  refine lv_idiv hx hb dX7_isDry_2 (by decide) ?_
  refine lv_aload_n hx hb dX7_isDry_3 rfl (lv_at hl 0 rfl) ?_
  refine gX7_st C hK hP wd_3_77 dX7_isDry_4 ?_
  refine lv_bipush (v := 22) hx hb dX7_isDry_7 (by decide) ?_
  refine aM_st C hK hP (ix_of (by decide) (by decide)) dX7_isDry_9 ?_
  refine lv_icmp_lt (tgt := 17) hx hb dX7_isDry_10 (by decide) (fun c_1 => ?_) (fun c_1 => ?_)
  · have hT := it_t c_1 hT
    refine lv_iconst (v := 0) hx hb dX7_isDry_17 (by decide) ?_
    exact hret _ _ _ ⟨hT, (Or.inl rfl)⟩ dX7_isDry_18
  · have hT := it_f c_1 hT
    refine lv_iconst (v := 1) hx hb dX7_isDry_13 (by decide) ?_
    refine lv_goto (tgt := 18) hx hb dX7_isDry_14 (by decide) ?_
    exact hret _ _ _ ⟨hT, (Or.inr rfl)⟩ dX7_isDry_18
