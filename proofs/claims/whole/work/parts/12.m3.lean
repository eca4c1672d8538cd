theorem hv_X7_letterAt : yX7_letterAt.cls = RX7 ∧ yX7_letterAt.cls ≠ "java/lang/invoke/MethodHandle" ∧ yX7_letterAt.cls ≠ "java/lang/invoke/VarHandle" ∧ (parseMethodDescriptor yX7_letterAt.desc).map (fun d => d.parameters.length) = some 1 := by decide +kernel
theorem hd_X7_letterAt : yX7_letterAt.cls ≠ "java/lang/invoke/MethodHandle" ∧ yX7_letterAt.cls ≠ "java/lang/invoke/VarHandle" ∧ (parseMethodDescriptor yX7_letterAt.desc).map (fun d => d.parameters.length) = some 1 := hv_X7_letterAt.2
def sp_X7_letterAt (mg : Nat → Int32) (tx : Nat → Int32) (x1 : Int32) : Int32 :=
  if (mg 3) ≤ x1 then (-1 : Int32) else (tx x1.toNatClampNeg)
theorem sp_X7_letterAt_s (mg : Nat → Int32) (tx : Nat → Int32) (x1 : Int32) : (if (mg 3) ≤ x1 then (-1 : Int32) else (tx x1.toNatClampNeg)) = sp_X7_letterAt mg tx x1 := rfl
set_option maxHeartbeats 4000000 in
set_option maxRecDepth 100000 in
theorem c_X7_letterAt {l : Launch} {D : va_G} {cI cZ cO : ClassId} {mk : Nat → Nat} {mg st im ke se tx sh fa : Nat → Int32} {mt : Int64} {x1 : Int32} (h0 : 0 ≤ x1.toInt) (htx : 0 ≤ (mg 3).toInt ∧ (mg 3).toInt ≤ 150) (sz : Nat) : Met l yX7_letterAt (wm yX7_letterAt cX7_letterAt 2 (some .int)) ({ frames := 0, cells := 0, slots := 0, locals := 0 } : Room) (GPre D (ty3 cI cZ cO) (MW cI cZ mk mg st im ke se tx sh fa mt) [.ref (mk 0), .int x1] sz) (vp_Si (fun r => r = sp_X7_letterAt mg tx x1)) 0 0 (fun _ => False) := by
  refine metP_i (post := (fun r => r = sp_X7_letterAt mg tx x1)) (by decide) (Nat.le_of_ble_eq_true rfl) ?_
  intro p e s m args below meth c ls Q C hsz hP hK hD hN hl hret
  have hx := C.1
  have hb := C.2.1
  have hl : lv_has ls 2 [(0, .ref (mk 0)), (1, .int x1)] := hl
  have hT := sp_X7_letterAt_s mg tx x1
  refine lv_iload_n hx hb dX7_letterAt_0 rfl (lv_at hl 1 rfl) ?_
  refine lv_aload_n hx hb dX7_letterAt_1 rfl (lv_at hl 0 rfl) ?_
  refine gX7_texted C hK hP wd_3_84 dX7_letterAt_2 ?_
  refine lv_icmp_ge (tgt := 17) hx hb dX7_letterAt_5 (by decide) (fun c_1 => ?_) (fun c_1 => ?_)
  · have hT := it_t c_1 hT
    refine lv_iconst (v := -1) hx hb dX7_letterAt_17 (by decide) ?_
    exact hret _ _ _ hT dX7_letterAt_18
  · have hT := it_f c_1 hT
    refine lv_aload_n hx hb dX7_letterAt_8 rfl (lv_at hl 0 rfl) ?_
    refine gX7_text C hK hP wd_3_83 dX7_letterAt_9 ?_
    refine lv_iload_n hx hb dX7_letterAt_12 rfl (lv_at hl 1 rfl) ?_
    refine aM_text C hK hP (ix_dyn h0 (nle_lt c_1) htx.2) dX7_letterAt_13 ?_
    refine lv_goto (tgt := 18) hx hb dX7_letterAt_14 (by decide) ?_
    exact hret _ _ _ hT dX7_letterAt_18
