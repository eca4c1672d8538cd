theorem hv_X5_append : yX5_append.cls = RX5 ∧ yX5_append.cls ≠ "java/lang/invoke/MethodHandle" ∧ yX5_append.cls ≠ "java/lang/invoke/VarHandle" ∧ (parseMethodDescriptor yX5_append.desc).map (fun d => d.parameters.length) = some 1 := by decide +kernel
theorem hd_X5_append : yX5_append.cls ≠ "java/lang/invoke/MethodHandle" ∧ yX5_append.cls ≠ "java/lang/invoke/VarHandle" ∧ (parseMethodDescriptor yX5_append.desc).map (fun d => d.parameters.length) = some 1 := hv_X5_append.2
def sp_X5_append (g : Nat → Int32) (tb : Nat → Int32) (x1 : Int32) : Int32 × (Nat → Int32) × (Nat → Int32) :=
  if (g 6) < 0 then ((0 : Int32), g, tb) else (if (g 6) < (150 : Int32) then ((1 : Int32), upd g 6 ((g 6) + (1 : Int32)), upd tb (g 6).toNatClampNeg x1) else ((0 : Int32), g, tb))
theorem sp_X5_append_s (g : Nat → Int32) (tb : Nat → Int32) (x1 : Int32) : (if (g 6) < 0 then ((0 : Int32), g, tb) else (if (g 6) < (150 : Int32) then ((1 : Int32), upd g 6 ((g 6) + (1 : Int32)), upd tb (g 6).toNatClampNeg x1) else ((0 : Int32), g, tb))) = sp_X5_append g tb x1 := rfl
set_option maxHeartbeats 4000000 in
set_option maxRecDepth 100000 in
theorem c_X5_append {l : Launch} {D : va_G} {cI cZ cO : ClassId} {sk : Nat → Nat} {g tb : Nat → Int32} {V Hd : Nat → Nat → Int32} {tr : Int64} {x1 : Int32}  (sz : Nat) : Met l yX5_append (wm yX5_append cX5_append 2 (some .boolean)) ({ frames := 0, cells := 0, slots := 0, locals := 0 } : Room) (GPre D (ty3 cI cZ cO) (WW cI cO sk g tb V Hd tr) [.ref (sk 2), .int x1] sz) (va_Qi (fun r (u : (Nat → Int32) × (Nat → Int32)) => (r, u) = sp_X5_append g tb x1 ∧ (r = 0 ∨ r = 1)) (fun u t => GAt D (ty3 cI cZ cO) (va_A (WW cI cO sk g tb V Hd tr) sz) (WW cI cO sk u.1 u.2 V Hd tr) t) (va_A (WW cI cO sk g tb V Hd tr) sz)) 0 0 (va_A (WW cI cO sk g tb V Hd tr) sz) := by
  refine metQ_z (W1 := (fun (u : (Nat → Int32) × (Nat → Int32)) => WW cI cO sk u.1 u.2 V Hd tr)) (post := (fun r (u : (Nat → Int32) × (Nat → Int32)) => (r, u) = sp_X5_append g tb x1)) (by decide) (Nat.le_of_ble_eq_true rfl) ?_
  intro p e s m args below meth c ls A Q C hsz hP hK hD hS hA hN hl hret
  have hx := C.1
  have hb := C.2.1
  have hl : lv_has ls 2 [(0, .ref (sk 2)), (1, .int x1)] := hl
  have hT := sp_X5_append_s g tb x1
  refine lv_aload_n hx hb dX5_append_0 rfl (lv_at hl 0 rfl) ?_
  refine gX5_length C hK hP wd_1_31 dX5_append_1 ?_
  refine lv_if_lt (tgt := 19) hx hb dX5_append_4 (by decide) (fun c_1 => ?_) (fun c_1 => ?_)
  · have hT := it_t c_1 hT
    refine lv_iconst (v := 0) hx hb dX5_append_19 (by decide) ?_
    exact hret _ (g, tb) _ _ _ _ ⟨hT, (Or.inl rfl)⟩ hP hD hS dX5_append_20
  · have hT := it_f c_1 hT
    refine lv_aload_n hx hb dX5_append_7 rfl (lv_at hl 0 rfl) ?_
    refine gX5_length C hK hP wd_1_31 dX5_append_8 ?_
    refine lv_aload_n hx hb dX5_append_11 rfl (lv_at hl 0 rfl) ?_
    refine gX5_bytes C hK hP wd_1_30 dX5_append_12 ?_
    refine lX_bytes C hK hP dX5_append_15 ?_
    refine lv_icmp_lt (tgt := 21) hx hb dX5_append_16 (by decide) (fun c_2 => ?_) (fun c_2 => ?_)
    · have hT := it_t c_2 hT
      refine lv_aload_n hx hb dX5_append_21 rfl (lv_at hl 0 rfl) ?_
      refine gX5_bytes C hK hP wd_1_30 dX5_append_22 ?_
      refine lv_aload_n hx hb dX5_append_25 rfl (lv_at hl 0 rfl) ?_
      refine gX5_length C hK hP wd_1_31 dX5_append_26 ?_
      refine lv_iload_n hx hb dX5_append_29 rfl (lv_at hl 1 rfl) ?_
      refine sX_bytes C hK hP hD hS (ix_ng_lt c_1 c_2) dX5_append_30 (fun H locs hP hD hS => ?_)
      refine lv_aload_n hx hb dX5_append_31 rfl (lv_at hl 0 rfl) ?_
      refine lv_dup hx hb dX5_append_32 rfl ?_
      refine gX5_length C hK hP wd_1_31 dX5_append_33 ?_
      refine lv_iconst (v := 1) hx hb dX5_append_36 (by decide) ?_
      refine lv_iadd hx hb dX5_append_37 ?_
      refine pX5_length C hK hP hD hS wd_1_31 dX5_append_38 (fun H locs hP hD hS => ?_)
      refine lv_iconst (v := 1) hx hb dX5_append_41 (by decide) ?_
      exact hret _ (upd g 6 ((g 6) + (1 : Int32)), upd tb (g 6).toNatClampNeg x1) _ _ _ _ ⟨hT, (Or.inr rfl)⟩ hP hD hS dX5_append_42
    · have hT := it_f c_2 hT
      refine lv_iconst (v := 0) hx hb dX5_append_19 (by decide) ?_
      exact hret _ (g, tb) _ _ _ _ ⟨hT, (Or.inl rfl)⟩ hP hD hS dX5_append_20
theorem hv_X5_byteAt : yX5_byteAt.cls = RX5 ∧ yX5_byteAt.cls ≠ "java/lang/invoke/MethodHandle" ∧ yX5_byteAt.cls ≠ "java/lang/invoke/VarHandle" ∧ (parseMethodDescriptor yX5_byteAt.desc).map (fun d => d.parameters.length) = some 1 := by decide +kernel
theorem hd_X5_byteAt : yX5_byteAt.cls ≠ "java/lang/invoke/MethodHandle" ∧ yX5_byteAt.cls ≠ "java/lang/invoke/VarHandle" ∧ (parseMethodDescriptor yX5_byteAt.desc).map (fun d => d.parameters.length) = some 1 := hv_X5_byteAt.2
def sp_X5_byteAt (g : Nat → Int32) (tb : Nat → Int32) (x1 : Int32) : Int32 :=
  if x1 < 0 then (-1 : Int32) else (if (g 6) ≤ x1 then (-1 : Int32) else (if (150 : Int32) ≤ x1 then (-1 : Int32) else (tb x1.toNatClampNeg)))
theorem sp_X5_byteAt_s (g : Nat → Int32) (tb : Nat → Int32) (x1 : Int32) : (if x1 < 0 then (-1 : Int32) else (if (g 6) ≤ x1 then (-1 : Int32) else (if (150 : Int32) ≤ x1 then (-1 : Int32) else (tb x1.toNatClampNeg)))) = sp_X5_byteAt g tb x1 := rfl
set_option maxHeartbeats 4000000 in
set_option maxRecDepth 100000 in
theorem c_X5_byteAt {l : Launch} {D : va_G} {cI cZ cO : ClassId} {sk : Nat → Nat} {g tb : Nat → Int32} {V Hd : Nat → Nat → Int32} {tr : Int64} {x1 : Int32}  (sz : Nat) : Met l yX5_byteAt (wm yX5_byteAt cX5_byteAt 2 (some .int)) ({ frames := 0, cells := 0, slots := 0, locals := 0 } : Room) (GPre D (ty3 cI cZ cO) (WW cI cO sk g tb V Hd tr) [.ref (sk 2), .int x1] sz) (vp_Si (fun r => r = sp_X5_byteAt g tb x1)) 0 0 (fun _ => False) := by
  refine metP_i (post := (fun r => r = sp_X5_byteAt g tb x1)) (by decide) (Nat.le_of_ble_eq_true rfl) ?_
  intro p e s m args below meth c ls Q C hsz hP hK hD hN hl hret
  have hx := C.1
  have hb := C.2.1
  have hl : lv_has ls 2 [(0, .ref (sk 2)), (1, .int x1)] := hl
  have hT := sp_X5_byteAt_s g tb x1
  refine lv_iload_n hx hb dX5_byteAt_0 rfl (lv_at hl 1 rfl) ?_
  refine lv_if_lt (tgt := 30) hx hb dX5_byteAt_1 (by decide) (fun c_1 => ?_) (fun c_1 => ?_)
  · have hT := it_t c_1 hT
    refine lv_iconst (v := -1) hx hb dX5_byteAt_30 (by decide) ?_
    exact hret _ _ _ hT dX5_byteAt_31
  · have hT := it_f c_1 hT
    refine lv_iload_n hx hb dX5_byteAt_4 rfl (lv_at hl 1 rfl) ?_
    refine lv_aload_n hx hb dX5_byteAt_5 rfl (lv_at hl 0 rfl) ?_
    refine gX5_length C hK hP wd_1_31 dX5_byteAt_6 ?_
    refine lv_icmp_ge (tgt := 30) hx hb dX5_byteAt_9 (by decide) (fun c_2 => ?_) (fun c_2 => ?_)
    · have hT := it_t c_2 hT
      refine lv_iconst (v := -1) hx hb dX5_byteAt_30 (by decide) ?_
      exact hret _ _ _ hT dX5_byteAt_31
    · have hT := it_f c_2 hT
      refine lv_iload_n hx hb dX5_byteAt_12 rfl (lv_at hl 1 rfl) ?_
      refine lv_aload_n hx hb dX5_byteAt_13 rfl (lv_at hl 0 rfl) ?_
      refine gX5_bytes C hK hP wd_1_30 dX5_byteAt_14 ?_
      refine lX_bytes C hK hP dX5_byteAt_17 ?_
      refine lv_icmp_ge (tgt := 30) hx hb dX5_byteAt_18 (by decide) (fun c_3 => ?_) (fun c_3 => ?_)
      · have hT := it_t c_3 hT
        refine lv_iconst (v := -1) hx hb dX5_byteAt_30 (by decide) ?_
        exact hret _ _ _ hT dX5_byteAt_31
      · have hT := it_f c_3 hT
        refine lv_aload_n hx hb dX5_byteAt_21 rfl (lv_at hl 0 rfl) ?_
        refine gX5_bytes C hK hP wd_1_30 dX5_byteAt_22 ?_
        refine lv_iload_n hx hb dX5_byteAt_25 rfl (lv_at hl 1 rfl) ?_
        refine aX_bytes C hK hP (ix_ng_nle c_1 c_3) dX5_byteAt_26 ?_
        refine lv_goto (tgt := 31) hx hb dX5_byteAt_27 (by decide) ?_
        exact hret _ _ _ hT dX5_byteAt_31
theorem hv_X2_dropAll : yX2_dropAll.cls = RX2 ∧ yX2_dropAll.cls ≠ "java/lang/invoke/MethodHandle" ∧ yX2_dropAll.cls ≠ "java/lang/invoke/VarHandle" ∧ (parseMethodDescriptor yX2_dropAll.desc).map (fun d => d.parameters.length) = some 0 := by decide +kernel
theorem hd_X2_dropAll : yX2_dropAll.cls ≠ "java/lang/invoke/MethodHandle" ∧ yX2_dropAll.cls ≠ "java/lang/invoke/VarHandle" ∧ (parseMethodDescriptor yX2_dropAll.desc).map (fun d => d.parameters.length) = some 0 := hv_X2_dropAll.2
def sp_X2_dropAll (g : Nat → Int32) : (Nat → Int32) :=
  (upd (upd (upd (upd (upd g 13 (0 : Int32)) 14 (0 : Int32)) 15 (0 : Int32)) 16 (0 : Int32)) 17 (0 : Int32))
theorem sp_X2_dropAll_s (g : Nat → Int32) : ((upd (upd (upd (upd (upd g 13 (0 : Int32)) 14 (0 : Int32)) 15 (0 : Int32)) 16 (0 : Int32)) 17 (0 : Int32))) = sp_X2_dropAll g := rfl
set_option maxHeartbeats 4000000 in
set_option maxRecDepth 100000 in
theorem c_X2_dropAll {l : Launch} {D : va_G} {cI cZ cO : ClassId} {sk : Nat → Nat} {g tb : Nat → Int32} {V Hd : Nat → Nat → Int32} {tr : Int64}   (sz : Nat) : Met l yX2_dropAll (wm yX2_dropAll cX2_dropAll 1 none) ({ frames := 0, cells := 0, slots := 0, locals := 0 } : Room) (GPre D (ty3 cI cZ cO) (WW cI cO sk g tb V Hd tr) [.ref (sk 10)] sz) (va_Qv (fun (u : (Nat → Int32)) => u = sp_X2_dropAll g) (fun u t => GAt D (ty3 cI cZ cO) (va_A (WW cI cO sk g tb V Hd tr) sz) (WW cI cO sk u tb V Hd tr) t) (va_A (WW cI cO sk g tb V Hd tr) sz)) 0 0 (va_A (WW cI cO sk g tb V Hd tr) sz) := by
  refine metQ_v (W1 := (fun (u : (Nat → Int32)) => WW cI cO sk u tb V Hd tr)) (post := (fun (u : (Nat → Int32)) => u = sp_X2_dropAll g)) (by decide) (Nat.le_of_ble_eq_true rfl) ?_
  intro p e s m args below meth c ls A Q C hsz hP hK hD hS hA hN hl hret
  have hx := C.1
  have hb := C.2.1
  have hl : lv_has ls 1 [(0, .ref (sk 10))] := hl
  have hT := sp_X2_dropAll_s g
  refine lv_aload_n hx hb dX2_dropAll_0 rfl (lv_at hl 0 rfl) ?_
  refine lv_iconst (v := 0) hx hb dX2_dropAll_1 (by decide) ?_
  refine pX2_much C hK hP hD hS wd_1_131 dX2_dropAll_2 (fun H locs hP hD hS => ?_)
  refine lv_aload_n hx hb dX2_dropAll_5 rfl (lv_at hl 0 rfl) ?_
  refine lv_iconst (v := 0) hx hb dX2_dropAll_6 (by decide) ?_
  refine pX2_stillByLeft C hK hP hD hS wd_1_133 dX2_dropAll_7 (fun H locs hP hD hS => ?_)
  refine lv_aload_n hx hb dX2_dropAll_10 rfl (lv_at hl 0 rfl) ?_
  refine lv_iconst (v := 0) hx hb dX2_dropAll_11 (by decide) ?_
  refine pX2_stillByRight C hK hP hD hS wd_1_134 dX2_dropAll_12 (fun H locs hP hD hS => ?_)
  refine lv_aload_n hx hb dX2_dropAll_15 rfl (lv_at hl 0 rfl) ?_
  refine lv_iconst (v := 0) hx hb dX2_dropAll_16 (by decide) ?_
  refine pX2_openByLeft C hK hP hD hS wd_1_135 dX2_dropAll_17 (fun H locs hP hD hS => ?_)
  refine lv_aload_n hx hb dX2_dropAll_20 rfl (lv_at hl 0 rfl) ?_
  refine lv_iconst (v := 0) hx hb dX2_dropAll_21 (by decide) ?_
  refine pX2_openByRight C hK hP hD hS wd_1_136 dX2_dropAll_22 (fun H locs hP hD hS => ?_)
  exact hret (upd (upd (upd (upd (upd g 13 (0 : Int32)) 14 (0 : Int32)) 15 (0 : Int32)) 16 (0 : Int32)) 17 (0 : Int32)) _ _ _ _ hT hP hD hS dX2_dropAll_25
theorem hv_X2_add : yX2_add.cls = RX2 ∧ yX2_add.cls ≠ "java/lang/invoke/MethodHandle" ∧ yX2_add.cls ≠ "java/lang/invoke/VarHandle" ∧ (parseMethodDescriptor yX2_add.desc).map (fun d => d.parameters.length) = some 3 := by decide +kernel
theorem hd_X2_add : yX2_add.cls ≠ "java/lang/invoke/MethodHandle" ∧ yX2_add.cls ≠ "java/lang/invoke/VarHandle" ∧ (parseMethodDescriptor yX2_add.desc).map (fun d => d.parameters.length) = some 3 := hv_X2_add.2
def jn_X2_add_99 (g : Nat → Int32) (v_2 : Int32) (v_3 : Int32) (v_4 : Int32) (v_5 : Int32) : Int32 × (Nat → Int32) :=
  ((1 : Int32), upd (upd (upd (upd (upd g 14 ((g 14) ||| v_2)) 15 (((upd g 14 ((g 14) ||| v_2)) 15) ||| v_3)) 16 (((upd (upd g 14 ((g 14) ||| v_2)) 15 (((upd g 14 ((g 14) ||| v_2)) 15) ||| v_3)) 16) ||| v_4)) 17 (((upd (upd (upd g 14 ((g 14) ||| v_2)) 15 (((upd g 14 ((g 14) ||| v_2)) 15) ||| v_3)) 16 (((upd (upd g 14 ((g 14) ||| v_2)) 15 (((upd g 14 ((g 14) ||| v_2)) 15) ||| v_3)) 16) ||| v_4)) 17) ||| v_5)) 13 (((upd (upd (upd (upd g 14 ((g 14) ||| v_2)) 15 (((upd g 14 ((g 14) ||| v_2)) 15) ||| v_3)) 16 (((upd (upd g 14 ((g 14) ||| v_2)) 15 (((upd g 14 ((g 14) ||| v_2)) 15) ||| v_3)) 16) ||| v_4)) 17 (((upd (upd (upd g 14 ((g 14) ||| v_2)) 15 (((upd g 14 ((g 14) ||| v_2)) 15) ||| v_3)) 16 (((upd (upd g 14 ((g 14) ||| v_2)) 15 (((upd g 14 ((g 14) ||| v_2)) 15) ||| v_3)) 16) ||| v_4)) 17) ||| v_5)) 13) + (1 : Int32)))
theorem jn_X2_add_99_s (g : Nat → Int32) (v_2 : Int32) (v_3 : Int32) (v_4 : Int32) (v_5 : Int32) : (((1 : Int32), upd (upd (upd (upd (upd g 14 ((g 14) ||| v_2)) 15 (((upd g 14 ((g 14) ||| v_2)) 15) ||| v_3)) 16 (((upd (upd g 14 ((g 14) ||| v_2)) 15 (((upd g 14 ((g 14) ||| v_2)) 15) ||| v_3)) 16) ||| v_4)) 17 (((upd (upd (upd g 14 ((g 14) ||| v_2)) 15 (((upd g 14 ((g 14) ||| v_2)) 15) ||| v_3)) 16 (((upd (upd g 14 ((g 14) ||| v_2)) 15 (((upd g 14 ((g 14) ||| v_2)) 15) ||| v_3)) 16) ||| v_4)) 17) ||| v_5)) 13 (((upd (upd (upd (upd g 14 ((g 14) ||| v_2)) 15 (((upd g 14 ((g 14) ||| v_2)) 15) ||| v_3)) 16 (((upd (upd g 14 ((g 14) ||| v_2)) 15 (((upd g 14 ((g 14) ||| v_2)) 15) ||| v_3)) 16) ||| v_4)) 17 (((upd (upd (upd g 14 ((g 14) ||| v_2)) 15 (((upd g 14 ((g 14) ||| v_2)) 15) ||| v_3)) 16 (((upd (upd g 14 ((g 14) ||| v_2)) 15 (((upd g 14 ((g 14) ||| v_2)) 15) ||| v_3)) 16) ||| v_4)) 17) ||| v_5)) 13) + (1 : Int32)))) = jn_X2_add_99 g v_2 v_3 v_4 v_5 := rfl
def jn_X2_add_76 (g : Nat → Int32) (x1 : Int32) (x2 : Int32) (x3 : Int32) (v_2 : Int32) (v_3 : Int32) (v_4 : Int32) : Int32 × (Nat → Int32) :=
  if x2 = (1 : Int32) then (if x3 = 0 then (jn_X2_add_99 g v_2 v_3 v_4 x1) else (jn_X2_add_99 g v_2 v_3 v_4 (0 : Int32))) else (jn_X2_add_99 g v_2 v_3 v_4 (0 : Int32))
theorem jn_X2_add_76_s (g : Nat → Int32) (x1 : Int32) (x2 : Int32) (x3 : Int32) (v_2 : Int32) (v_3 : Int32) (v_4 : Int32) : (if x2 = (1 : Int32) then (if x3 = 0 then (jn_X2_add_99 g v_2 v_3 v_4 x1) else (jn_X2_add_99 g v_2 v_3 v_4 (0 : Int32))) else (jn_X2_add_99 g v_2 v_3 v_4 (0 : Int32))) = jn_X2_add_76 g x1 x2 x3 v_2 v_3 v_4 := rfl
def jn_X2_add_54 (g : Nat → Int32) (x1 : Int32) (x2 : Int32) (x3 : Int32) (v_2 : Int32) (v_3 : Int32) : Int32 × (Nat → Int32) :=
  if x2 = 0 then (if x3 = 0 then (jn_X2_add_76 g x1 x2 x3 v_2 v_3 x1) else (jn_X2_add_76 g x1 x2 x3 v_2 v_3 (0 : Int32))) else (jn_X2_add_76 g x1 x2 x3 v_2 v_3 (0 : Int32))
theorem jn_X2_add_54_s (g : Nat → Int32) (x1 : Int32) (x2 : Int32) (x3 : Int32) (v_2 : Int32) (v_3 : Int32) : (if x2 = 0 then (if x3 = 0 then (jn_X2_add_76 g x1 x2 x3 v_2 v_3 x1) else (jn_X2_add_76 g x1 x2 x3 v_2 v_3 (0 : Int32))) else (jn_X2_add_76 g x1 x2 x3 v_2 v_3 (0 : Int32))) = jn_X2_add_54 g x1 x2 x3 v_2 v_3 := rfl
def jn_X2_add_30 (g : Nat → Int32) (x1 : Int32) (x2 : Int32) (x3 : Int32) (v_2 : Int32) : Int32 × (Nat → Int32) :=
  if x2 = (1 : Int32) then (if x3 = (1 : Int32) then (jn_X2_add_54 g x1 x2 x3 v_2 x1) else (jn_X2_add_54 g x1 x2 x3 v_2 (0 : Int32))) else (jn_X2_add_54 g x1 x2 x3 v_2 (0 : Int32))
theorem jn_X2_add_30_s (g : Nat → Int32) (x1 : Int32) (x2 : Int32) (x3 : Int32) (v_2 : Int32) : (if x2 = (1 : Int32) then (if x3 = (1 : Int32) then (jn_X2_add_54 g x1 x2 x3 v_2 x1) else (jn_X2_add_54 g x1 x2 x3 v_2 (0 : Int32))) else (jn_X2_add_54 g x1 x2 x3 v_2 (0 : Int32))) = jn_X2_add_30 g x1 x2 x3 v_2 := rfl
def sp_X2_add (g : Nat → Int32) (x1 : Int32) (x2 : Int32) (x3 : Int32) : Int32 × (Nat → Int32) :=
  if (g 13) < (6 : Int32) then (if x2 = 0 then (if x3 = (1 : Int32) then (jn_X2_add_30 g x1 x2 x3 x1) else (jn_X2_add_30 g x1 x2 x3 (0 : Int32))) else (jn_X2_add_30 g x1 x2 x3 (0 : Int32))) else ((0 : Int32), g)
theorem sp_X2_add_s (g : Nat → Int32) (x1 : Int32) (x2 : Int32) (x3 : Int32) : (if (g 13) < (6 : Int32) then (if x2 = 0 then (if x3 = (1 : Int32) then (jn_X2_add_30 g x1 x2 x3 x1) else (jn_X2_add_30 g x1 x2 x3 (0 : Int32))) else (jn_X2_add_30 g x1 x2 x3 (0 : Int32))) else ((0 : Int32), g)) = sp_X2_add g x1 x2 x3 := rfl
set_option maxHeartbeats 4000000 in
set_option maxRecDepth 100000 in
theorem c_X2_add {l : Launch} {D : va_G} {cI cZ cO : ClassId} {sk : Nat → Nat} {g tb : Nat → Int32} {V Hd : Nat → Nat → Int32} {tr : Int64} {x1 : Int32} {x2 : Int32} {x3 : Int32}  (sz : Nat) : Met l yX2_add (wm yX2_add cX2_add 4 (some .boolean)) ({ frames := 0, cells := 0, slots := 0, locals := 0 } : Room) (GPre D (ty3 cI cZ cO) (WW cI cO sk g tb V Hd tr) [.ref (sk 10), .int x1, .int x2, .int x3] sz) (va_Qi (fun r (u : (Nat → Int32)) => (r, u) = sp_X2_add g x1 x2 x3 ∧ (r = 0 ∨ r = 1)) (fun u t => GAt D (ty3 cI cZ cO) (va_A (WW cI cO sk g tb V Hd tr) sz) (WW cI cO sk u tb V Hd tr) t) (va_A (WW cI cO sk g tb V Hd tr) sz)) 0 0 (va_A (WW cI cO sk g tb V Hd tr) sz) := by
  refine metQ_z (W1 := (fun (u : (Nat → Int32)) => WW cI cO sk u tb V Hd tr)) (post := (fun r (u : (Nat → Int32)) => (r, u) = sp_X2_add g x1 x2 x3)) (by decide) (Nat.le_of_ble_eq_true rfl) ?_
  intro p e s m args below meth c ls A Q C hsz hP hK hD hS hA hN hl hret
  have hx := C.1
  have hb := C.2.1
  have hl : lv_has ls 4 [(0, .ref (sk 10)), (1, .int x1), (2, .int x2), (3, .int x3)] := hl
  have hT := sp_X2_add_s g x1 x2 x3
  refine lv_aload_n hx hb dX2_add_0 rfl (lv_at hl 0 rfl) ?_
  refine gX2_much C hK hP wd_1_131 dX2_add_1 ?_
  refine lv_bipush (v := 6) hx hb dX2_add_4 (by decide) ?_
  refine lv_icmp_lt (tgt := 11) hx hb dX2_add_6 (by decide) (fun c_1 => ?_) (fun c_1 => ?_)
  · have hT := it_t c_1 hT
    refine lv_aload_n hx hb dX2_add_11 rfl (lv_at hl 0 rfl) ?_
    refine lv_dup hx hb dX2_add_12 rfl ?_
    refine gX2_stillByLeft C hK hP wd_1_133 dX2_add_13 ?_
    refine lv_iload_n hx hb dX2_add_16 rfl (lv_at hl 2 rfl) ?_
    have K_30 : ∀ (ls : Array Slot) (v_2 : Int32) (hl : lv_has ls 4 [(0, .ref (sk 10)), (1, .int x1), (2, .int x2), (3, .int x3)]) (hT0 : jn_X2_add_30 g x1 x2 x3 v_2 = sp_X2_add g x1 x2 x3), W p l e ({ frames := 0, cells := 0, slots := 0, locals := 0 } : Room) s m args below meth c s.heap [] 0 0 Q (F0 m 30 ls [.int v_2, .int (g 14), .ref (sk 10)]) := by
      intro ls v_2 hl hT0
      have hT := (jn_X2_add_30_s g x1 x2 x3 v_2).trans hT0
      refine lv_ior hx hb dX2_add_30 ?_
      refine pX2_stillByLeft C hK hP hD hS wd_1_133 dX2_add_31 (fun H locs hP hD hS => ?_)
      refine lv_aload_n hx hb dX2_add_34 rfl (lv_at hl 0 rfl) ?_
      refine lv_dup hx hb dX2_add_35 rfl ?_
      refine gX2_stillByRight C hK hP wd_1_134 dX2_add_36 ?_
      refine lv_iload_n hx hb dX2_add_39 rfl (lv_at hl 2 rfl) ?_
      refine lv_iconst (v := 1) hx hb dX2_add_40 (by decide) ?_
      have K_54 : ∀ (ls : Array Slot) (v_3 : Int32) (hl : lv_has ls 4 [(0, .ref (sk 10)), (1, .int x1), (2, .int x2), (3, .int x3)]) (hT0 : jn_X2_add_54 g x1 x2 x3 v_2 v_3 = sp_X2_add g x1 x2 x3), W p l e ({ frames := 0, cells := 0, slots := 0, locals := 0 } : Room) s m args below meth c H locs 0 0 Q (F0 m 54 ls [.int v_3, .int ((upd g 14 ((g 14) ||| v_2)) 15), .ref (sk 10)]) := by
        intro ls v_3 hl hT0
        have hT := (jn_X2_add_54_s g x1 x2 x3 v_2 v_3).trans hT0
        refine lv_ior hx hb dX2_add_54 ?_
        refine pX2_stillByRight C hK hP hD hS wd_1_134 dX2_add_55 (fun H locs hP hD hS => ?_)
        refine lv_aload_n hx hb dX2_add_58 rfl (lv_at hl 0 rfl) ?_
        refine lv_dup hx hb dX2_add_59 rfl ?_
        refine gX2_openByLeft C hK hP wd_1_135 dX2_add_60 ?_
        refine lv_iload_n hx hb dX2_add_63 rfl (lv_at hl 2 rfl) ?_
        have K_76 : ∀ (ls : Array Slot) (v_4 : Int32) (hl : lv_has ls 4 [(0, .ref (sk 10)), (1, .int x1), (2, .int x2), (3, .int x3)]) (hT0 : jn_X2_add_76 g x1 x2 x3 v_2 v_3 v_4 = sp_X2_add g x1 x2 x3), W p l e ({ frames := 0, cells := 0, slots := 0, locals := 0 } : Room) s m args below meth c H locs 0 0 Q (F0 m 76 ls [.int v_4, .int ((upd (upd g 14 ((g 14) ||| v_2)) 15 (((upd g 14 ((g 14) ||| v_2)) 15) ||| v_3)) 16), .ref (sk 10)]) := by
          intro ls v_4 hl hT0
          have hT := (jn_X2_add_76_s g x1 x2 x3 v_2 v_3 v_4).trans hT0
          refine lv_ior hx hb dX2_add_76 ?_
          refine pX2_openByLeft C hK hP hD hS wd_1_135 dX2_add_77 (fun H locs hP hD hS => ?_)
          refine lv_aload_n hx hb dX2_add_80 rfl (lv_at hl 0 rfl) ?_
          refine lv_dup hx hb dX2_add_81 rfl ?_
          refine gX2_openByRight C hK hP wd_1_136 dX2_add_82 ?_
          refine lv_iload_n hx hb dX2_add_85 rfl (lv_at hl 2 rfl) ?_
          refine lv_iconst (v := 1) hx hb dX2_add_86 (by decide) ?_
          have K_99 : ∀ (ls : Array Slot) (v_5 : Int32) (hl : lv_has ls 4 [(0, .ref (sk 10))]) (hT0 : jn_X2_add_99 g v_2 v_3 v_4 v_5 = sp_X2_add g x1 x2 x3), W p l e ({ frames := 0, cells := 0, slots := 0, locals := 0 } : Room) s m args below meth c H locs 0 0 Q (F0 m 99 ls [.int v_5, .int ((upd (upd (upd g 14 ((g 14) ||| v_2)) 15 (((upd g 14 ((g 14) ||| v_2)) 15) ||| v_3)) 16 (((upd (upd g 14 ((g 14) ||| v_2)) 15 (((upd g 14 ((g 14) ||| v_2)) 15) ||| v_3)) 16) ||| v_4)) 17), .ref (sk 10)]) := by
            intro ls v_5 hl hT0
            have hT := (jn_X2_add_99_s g v_2 v_3 v_4 v_5).trans hT0
            refine lv_ior hx hb dX2_add_99 ?_
            refine pX2_openByRight C hK hP hD hS wd_1_136 dX2_add_100 (fun H locs hP hD hS => ?_)
            refine lv_aload_n hx hb dX2_add_103 rfl (lv_at hl 0 rfl) ?_
            refine lv_dup hx hb dX2_add_104 rfl ?_
            refine gX2_much C hK hP wd_1_131 dX2_add_105 ?_
            refine lv_iconst (v := 1) hx hb dX2_add_108 (by decide) ?_
            refine lv_iadd hx hb dX2_add_109 ?_
            refine pX2_much C hK hP hD hS wd_1_131 dX2_add_110 (fun H locs hP hD hS => ?_)
            refine lv_iconst (v := 1) hx hb dX2_add_113 (by decide) ?_
            exact hret _ (upd (upd (upd (upd (upd g 14 ((g 14) ||| v_2)) 15 (((upd g 14 ((g 14) ||| v_2)) 15) ||| v_3)) 16 (((upd (upd g 14 ((g 14) ||| v_2)) 15 (((upd g 14 ((g 14) ||| v_2)) 15) ||| v_3)) 16) ||| v_4)) 17 (((upd (upd (upd g 14 ((g 14) ||| v_2)) 15 (((upd g 14 ((g 14) ||| v_2)) 15) ||| v_3)) 16 (((upd (upd g 14 ((g 14) ||| v_2)) 15 (((upd g 14 ((g 14) ||| v_2)) 15) ||| v_3)) 16) ||| v_4)) 17) ||| v_5)) 13 (((upd (upd (upd (upd g 14 ((g 14) ||| v_2)) 15 (((upd g 14 ((g 14) ||| v_2)) 15) ||| v_3)) 16 (((upd (upd g 14 ((g 14) ||| v_2)) 15 (((upd g 14 ((g 14) ||| v_2)) 15) ||| v_3)) 16) ||| v_4)) 17 (((upd (upd (upd g 14 ((g 14) ||| v_2)) 15 (((upd g 14 ((g 14) ||| v_2)) 15) ||| v_3)) 16 (((upd (upd g 14 ((g 14) ||| v_2)) 15 (((upd g 14 ((g 14) ||| v_2)) 15) ||| v_3)) 16) ||| v_4)) 17) ||| v_5)) 13) + (1 : Int32))) _ _ _ _ ⟨hT, (Or.inr rfl)⟩ hP hD hS dX2_add_114
          refine lv_icmp_ne (tgt := 98) hx hb dX2_add_87 (by decide) (fun c_6 => ?_) (fun c_6 => ?_)
          · have hT := it_f c_6 hT
            refine lv_iconst (v := 0) hx hb dX2_add_98 (by decide) ?_
            exact K_99 ls (0 : Int32) (lv_sub hl [0] rfl) hT
          · have hT := it_t c_6 hT
            refine lv_iload_n hx hb dX2_add_90 rfl (lv_at hl 3 rfl) ?_
            refine lv_if_ne (tgt := 98) hx hb dX2_add_91 (by decide) (fun c_7 => ?_) (fun c_7 => ?_)
            · have hT := it_f c_7 hT
              refine lv_iconst (v := 0) hx hb dX2_add_98 (by decide) ?_
              exact K_99 ls (0 : Int32) (lv_sub hl [0] rfl) hT
            · have hT := it_t c_7 hT
              refine lv_iload_n hx hb dX2_add_94 rfl (lv_at hl 1 rfl) ?_
              refine lv_goto (tgt := 99) hx hb dX2_add_95 (by decide) ?_
              exact K_99 ls x1 (lv_sub hl [0] rfl) hT
        refine lv_if_ne (tgt := 75) hx hb dX2_add_64 (by decide) (fun c_8 => ?_) (fun c_8 => ?_)
        · have hT := it_f c_8 hT
          refine lv_iconst (v := 0) hx hb dX2_add_75 (by decide) ?_
          exact K_76 ls (0 : Int32) (lv_sub hl [0, 1, 2, 3] rfl) hT
        · have hT := it_t c_8 hT
          refine lv_iload_n hx hb dX2_add_67 rfl (lv_at hl 3 rfl) ?_
          refine lv_if_ne (tgt := 75) hx hb dX2_add_68 (by decide) (fun c_9 => ?_) (fun c_9 => ?_)
          · have hT := it_f c_9 hT
            refine lv_iconst (v := 0) hx hb dX2_add_75 (by decide) ?_
            exact K_76 ls (0 : Int32) (lv_sub hl [0, 1, 2, 3] rfl) hT
          · have hT := it_t c_9 hT
            refine lv_iload_n hx hb dX2_add_71 rfl (lv_at hl 1 rfl) ?_
            refine lv_goto (tgt := 76) hx hb dX2_add_72 (by decide) ?_
            exact K_76 ls x1 (lv_sub hl [0, 1, 2, 3] rfl) hT
      refine lv_icmp_ne (tgt := 53) hx hb dX2_add_41 (by decide) (fun c_10 => ?_) (fun c_10 => ?_)
      · have hT := it_f c_10 hT
        refine lv_iconst (v := 0) hx hb dX2_add_53 (by decide) ?_
        exact K_54 ls (0 : Int32) (lv_sub hl [0, 1, 2, 3] rfl) hT
      · have hT := it_t c_10 hT
        refine lv_iload_n hx hb dX2_add_44 rfl (lv_at hl 3 rfl) ?_
        refine lv_iconst (v := 1) hx hb dX2_add_45 (by decide) ?_
        refine lv_icmp_ne (tgt := 53) hx hb dX2_add_46 (by decide) (fun c_11 => ?_) (fun c_11 => ?_)
        · have hT := it_f c_11 hT
          refine lv_iconst (v := 0) hx hb dX2_add_53 (by decide) ?_
          exact K_54 ls (0 : Int32) (lv_sub hl [0, 1, 2, 3] rfl) hT
        · have hT := it_t c_11 hT
          refine lv_iload_n hx hb dX2_add_49 rfl (lv_at hl 1 rfl) ?_
          refine lv_goto (tgt := 54) hx hb dX2_add_50 (by decide) ?_
          exact K_54 ls x1 (lv_sub hl [0, 1, 2, 3] rfl) hT
    refine lv_if_ne (tgt := 29) hx hb dX2_add_17 (by decide) (fun c_12 => ?_) (fun c_12 => ?_)
    · have hT := it_f c_12 hT
      refine lv_iconst (v := 0) hx hb dX2_add_29 (by decide) ?_
      exact K_30 ls (0 : Int32) (lv_sub hl [0, 1, 2, 3] rfl) hT
    · have hT := it_t c_12 hT
      refine lv_iload_n hx hb dX2_add_20 rfl (lv_at hl 3 rfl) ?_
      refine lv_iconst (v := 1) hx hb dX2_add_21 (by decide) ?_
      refine lv_icmp_ne (tgt := 29) hx hb dX2_add_22 (by decide) (fun c_13 => ?_) (fun c_13 => ?_)
      · have hT := it_f c_13 hT
        refine lv_iconst (v := 0) hx hb dX2_add_29 (by decide) ?_
        exact K_30 ls (0 : Int32) (lv_sub hl [0, 1, 2, 3] rfl) hT
      · have hT := it_t c_13 hT
        refine lv_iload_n hx hb dX2_add_25 rfl (lv_at hl 1 rfl) ?_
        refine lv_goto (tgt := 30) hx hb dX2_add_26 (by decide) ?_
        exact K_30 ls x1 (lv_sub hl [0, 1, 2, 3] rfl) hT
  · have hT := it_f c_1 hT
    refine lv_iconst (v := 0) hx hb dX2_add_9 (by decide) ?_
    exact hret _ g _ _ _ _ ⟨hT, (Or.inl rfl)⟩ hP hD hS dX2_add_10
theorem hv_X2_agrees : yX2_agrees.cls = RX2 ∧ yX2_agrees.cls ≠ "java/lang/invoke/MethodHandle" ∧ yX2_agrees.cls ≠ "java/lang/invoke/VarHandle" ∧ (parseMethodDescriptor yX2_agrees.desc).map (fun d => d.parameters.length) = some 2 := by decide +kernel
theorem hd_X2_agrees : yX2_agrees.cls ≠ "java/lang/invoke/MethodHandle" ∧ yX2_agrees.cls ≠ "java/lang/invoke/VarHandle" ∧ (parseMethodDescriptor yX2_agrees.desc).map (fun d => d.parameters.length) = some 2 := hv_X2_agrees.2
def sp_X2_agrees (g : Nat → Int32) (x1 : Int32) (x2 : Int32) : Int32 :=
  if ((g 14) &&& (x1 ^^^ (-1 : Int32))) = 0 then (if ((g 16) &&& x1) = 0 then (if ((g 15) &&& (x2 ^^^ (-1 : Int32))) = 0 then (if ((g 17) &&& x2) = 0 then (1 : Int32) else (0 : Int32)) else (0 : Int32)) else (0 : Int32)) else (0 : Int32)
theorem sp_X2_agrees_s (g : Nat → Int32) (x1 : Int32) (x2 : Int32) : (if ((g 14) &&& (x1 ^^^ (-1 : Int32))) = 0 then (if ((g 16) &&& x1) = 0 then (if ((g 15) &&& (x2 ^^^ (-1 : Int32))) = 0 then (if ((g 17) &&& x2) = 0 then (1 : Int32) else (0 : Int32)) else (0 : Int32)) else (0 : Int32)) else (0 : Int32)) = sp_X2_agrees g x1 x2 := rfl
set_option maxHeartbeats 4000000 in
set_option maxRecDepth 100000 in
theorem c_X2_agrees {l : Launch} {D : va_G} {cI cZ cO : ClassId} {sk : Nat → Nat} {g tb : Nat → Int32} {V Hd : Nat → Nat → Int32} {tr : Int64} {x1 : Int32} {x2 : Int32}  (sz : Nat) : Met l yX2_agrees (wm yX2_agrees cX2_agrees 3 (some .boolean)) ({ frames := 0, cells := 0, slots := 0, locals := 0 } : Room) (GPre D (ty3 cI cZ cO) (WW cI cO sk g tb V Hd tr) [.ref (sk 10), .int x1, .int x2] sz) (vp_Si (fun r => r = sp_X2_agrees g x1 x2 ∧ (r = 0 ∨ r = 1))) 0 0 (fun _ => False) := by
  refine metP_z (post := (fun r => r = sp_X2_agrees g x1 x2)) (by decide) (Nat.le_of_ble_eq_true rfl) ?_
  intro p e s m args below meth c ls Q C hsz hP hK hD hN hl hret
  have hx := C.1
  have hb := C.2.1
  have hl : lv_has ls 3 [(0, .ref (sk 10)), (1, .int x1), (2, .int x2)] := hl
  have hT := sp_X2_agrees_s g x1 x2
  refine lv_aload_n hx hb dX2_agrees_0 rfl (lv_at hl 0 rfl) ?_
  refine gX2_stillByLeft C hK hP wd_1_133 dX2_agrees_1 ?_
  refine lv_iload_n hx hb dX2_agrees_4 rfl (lv_at hl 1 rfl) ?_
  refine lv_iconst (v := -1) hx hb dX2_agrees_5 (by decide) ?_
  refine lv_ixor hx hb dX2_agrees_6 ?_
  refine lv_iand hx hb dX2_agrees_7 ?_
  refine lv_if_ne (tgt := 44) hx hb dX2_agrees_8 (by decide) (fun c_1 => ?_) (fun c_1 => ?_)
  · have hT := it_f c_1 hT
    refine lv_iconst (v := 0) hx hb dX2_agrees_44 (by decide) ?_
    exact hret _ _ _ ⟨hT, (Or.inl rfl)⟩ dX2_agrees_45
  · have hT := it_t c_1 hT
    refine lv_aload_n hx hb dX2_agrees_11 rfl (lv_at hl 0 rfl) ?_
    refine gX2_openByLeft C hK hP wd_1_135 dX2_agrees_12 ?_
    refine lv_iload_n hx hb dX2_agrees_15 rfl (lv_at hl 1 rfl) ?_
    refine lv_iand hx hb dX2_agrees_16 ?_
    refine lv_if_ne (tgt := 44) hx hb dX2_agrees_17 (by decide) (fun c_2 => ?_) (fun c_2 => ?_)
    · have hT := it_f c_2 hT
      refine lv_iconst (v := 0) hx hb dX2_agrees_44 (by decide) ?_
      exact hret _ _ _ ⟨hT, (Or.inl rfl)⟩ dX2_agrees_45
    · have hT := it_t c_2 hT
      refine lv_aload_n hx hb dX2_agrees_20 rfl (lv_at hl 0 rfl) ?_
      refine gX2_stillByRight C hK hP wd_1_134 dX2_agrees_21 ?_
      refine lv_iload_n hx hb dX2_agrees_24 rfl (lv_at hl 2 rfl) ?_
      refine lv_iconst (v := -1) hx hb dX2_agrees_25 (by decide) ?_
      refine lv_ixor hx hb dX2_agrees_26 ?_
      refine lv_iand hx hb dX2_agrees_27 ?_
      refine lv_if_ne (tgt := 44) hx hb dX2_agrees_28 (by decide) (fun c_3 => ?_) (fun c_3 => ?_)
      · have hT := it_f c_3 hT
        refine lv_iconst (v := 0) hx hb dX2_agrees_44 (by decide) ?_
        exact hret _ _ _ ⟨hT, (Or.inl rfl)⟩ dX2_agrees_45
      · have hT := it_t c_3 hT
        refine lv_aload_n hx hb dX2_agrees_31 rfl (lv_at hl 0 rfl) ?_
        refine gX2_openByRight C hK hP wd_1_136 dX2_agrees_32 ?_
        refine lv_iload_n hx hb dX2_agrees_35 rfl (lv_at hl 2 rfl) ?_
        refine lv_iand hx hb dX2_agrees_36 ?_
        refine lv_if_ne (tgt := 44) hx hb dX2_agrees_37 (by decide) (fun c_4 => ?_) (fun c_4 => ?_)
        · have hT := it_f c_4 hT
          refine lv_iconst (v := 0) hx hb dX2_agrees_44 (by decide) ?_
          exact hret _ _ _ ⟨hT, (Or.inl rfl)⟩ dX2_agrees_45
        · have hT := it_t c_4 hT
          refine lv_iconst (v := 1) hx hb dX2_agrees_40 (by decide) ?_
          refine lv_goto (tgt := 45) hx hb dX2_agrees_41 (by decide) ?_
          exact hret _ _ _ ⟨hT, (Or.inr rfl)⟩ dX2_agrees_45
theorem hv_X0_asCell : yX0_asCell.cls = RX0 ∧ yX0_asCell.cls ≠ "java/lang/invoke/MethodHandle" ∧ yX0_asCell.cls ≠ "java/lang/invoke/VarHandle" ∧ (parseMethodDescriptor yX0_asCell.desc).map (fun d => d.parameters.length) = some 1 := by decide +kernel
theorem hd_X0_asCell : yX0_asCell.cls ≠ "java/lang/invoke/MethodHandle" ∧ yX0_asCell.cls ≠ "java/lang/invoke/VarHandle" ∧ (parseMethodDescriptor yX0_asCell.desc).map (fun d => d.parameters.length) = some 1 := hv_X0_asCell.2
def sp_X0_asCell (tr : Int64) (x1 : Int32) : Int32 × Int64 :=
  (x1, tr + (1 : Int64))
theorem sp_X0_asCell_s (tr : Int64) (x1 : Int32) : ((x1, tr + (1 : Int64))) = sp_X0_asCell tr x1 := rfl
set_option maxHeartbeats 4000000 in
set_option maxRecDepth 100000 in
theorem c_X0_asCell {l : Launch} {D : va_G} {cI cZ cO : ClassId} {sk : Nat → Nat} {g tb : Nat → Int32} {V Hd : Nat → Nat → Int32} {tr : Int64} {x1 : Int32}  (sz : Nat) : Met l yX0_asCell (wm yX0_asCell cX0_asCell 2 (some .int)) ({ frames := 0, cells := 0, slots := 0, locals := 0 } : Room) (GPre D (ty3 cI cZ cO) (WW cI cO sk g tb V Hd tr) [.ref (sk 11), .int x1] sz) (va_Qi (fun r (u : Int64) => (r, u) = sp_X0_asCell tr x1) (fun u t => GAt D (ty3 cI cZ cO) (va_A (WW cI cO sk g tb V Hd tr) sz) (WW cI cO sk g tb V Hd u) t) (va_A (WW cI cO sk g tb V Hd tr) sz)) 0 0 (va_A (WW cI cO sk g tb V Hd tr) sz) := by
  refine metQ_i (W1 := (fun (u : Int64) => WW cI cO sk g tb V Hd u)) (post := (fun r (u : Int64) => (r, u) = sp_X0_asCell tr x1)) (by decide) (Nat.le_of_ble_eq_true rfl) ?_
  intro p e s m args below meth c ls A Q C hsz hP hK hD hS hA hN hl hret
  have hx := C.1
  have hb := C.2.1
  have hl : lv_has ls 2 [(0, .ref (sk 11)), (1, .int x1)] := hl
  have hT := sp_X0_asCell_s tr x1
  refine lv_aload_n hx hb dX0_asCell_0 rfl (lv_at hl 0 rfl) ?_
  refine lv_dup hx hb dX0_asCell_1 rfl ?_
  refine gX0_sum C hK hP wd_1_154 dX0_asCell_2 ?_
  refine lv_lconst (v := 1) hx hb dX0_asCell_5 (by decide) ?_
  refine lv_ladd hx hb dX0_asCell_6 ?_
  refine pX0_sum C hK hP hD hS wd_1_154 dX0_asCell_7 (fun H locs hP hD hS => ?_)
  refine lv_iload_n hx hb dX0_asCell_10 rfl (lv_at hl 1 rfl) ?_
  exact hret _ (tr + (1 : Int64)) _ _ _ _ hT hP hD hS dX0_asCell_11
theorem hv_X0_asCastle : yX0_asCastle.cls = RX0 ∧ yX0_asCastle.cls ≠ "java/lang/invoke/MethodHandle" ∧ yX0_asCastle.cls ≠ "java/lang/invoke/VarHandle" ∧ (parseMethodDescriptor yX0_asCastle.desc).map (fun d => d.parameters.length) = some 3 := by decide +kernel
theorem hd_X0_asCastle : yX0_asCastle.cls ≠ "java/lang/invoke/MethodHandle" ∧ yX0_asCastle.cls ≠ "java/lang/invoke/VarHandle" ∧ (parseMethodDescriptor yX0_asCastle.desc).map (fun d => d.parameters.length) = some 3 := hv_X0_asCastle.2
def sp_X0_asCastle (V : Nat → Nat → Int32) (tr : Int64) (k : Nat) (x2 : Int32) (x3 : Int32) : Int32 × Int64 :=
  nm2 (sp_X0_asCell (tr + (10 : Int64)) x3) (fun r_3 tr_1 => nm (sp_X6_bitOf x2 x3) (fun r_4 => nm (sp_X4_cellsBeside V k r_4) (fun r_5 => (r_3 + r_5, tr_1))))
theorem sp_X0_asCastle_s (V : Nat → Nat → Int32) (tr : Int64) (k : Nat) (x2 : Int32) (x3 : Int32) : (nm2 (sp_X0_asCell (tr + (10 : Int64)) x3) (fun r_3 tr_1 => nm (sp_X6_bitOf x2 x3) (fun r_4 => nm (sp_X4_cellsBeside V k r_4) (fun r_5 => (r_3 + r_5, tr_1))))) = sp_X0_asCastle V tr k x2 x3 := rfl
set_option maxHeartbeats 4000000 in
set_option maxRecDepth 100000 in
theorem c_X0_asCastle {l : Launch} {D : va_G} {cI cZ cO : ClassId} {sk : Nat → Nat} {g tb : Nat → Int32} {V Hd : Nat → Nat → Int32} {tr : Int64} {k : Nat} {x2 : Int32} {x3 : Int32} (hk : k < 34) (sz : Nat) : Met l yX0_asCastle (wm yX0_asCastle cX0_asCastle 4 (some .int)) ({ frames := 3, cells := 0, slots := 0, locals := 65 } : Room) (GPre D (ty3 cI cZ cO) (WW cI cO sk g tb V Hd tr) [.ref (sk 11), .ref (sk (20 + 2 * k)), .int x2, .int x3] sz) (va_Qi (fun r (u : Int64) => (r, u) = sp_X0_asCastle V tr k x2 x3) (fun u t => GAt D (ty3 cI cZ cO) (va_A (WW cI cO sk g tb V Hd tr) sz) (WW cI cO sk g tb V Hd u) t) (va_A (WW cI cO sk g tb V Hd tr) sz)) 0 0 (va_A (WW cI cO sk g tb V Hd tr) sz) := by
  refine metQ_i (W1 := (fun (u : Int64) => WW cI cO sk g tb V Hd u)) (post := (fun r (u : Int64) => (r, u) = sp_X0_asCastle V tr k x2 x3)) (by decide) (Nat.le_of_ble_eq_true rfl) ?_
  intro p e s m args below meth c ls A Q C hsz hP hK hD hS hA hN hl hret
  have hx := C.1
  have hb := C.2.1
  have hl : lv_has ls 4 [(0, .ref (sk 11)), (1, .ref (sk (20 + 2 * k))), (2, .int x2), (3, .int x3)] := hl
  have hT := sp_X0_asCastle_s V tr k x2 x3
  refine lv_aload_n hx hb dX0_asCastle_0 rfl (lv_at hl 0 rfl) ?_
  refine lv_dup hx hb dX0_asCastle_1 rfl ?_
  refine gX0_sum C hK hP wd_1_154 dX0_asCastle_2 ?_
  refine lv_ldc2 hx hb C.2.2.2.1 (C.2.2.2.2 _ wd_3_14) dX0_asCastle_5 ?_
  refine lv_ladd hx hb dX0_asCastle_8 ?_
  refine pX0_sum C hK hP hD hS wd_1_154 dX0_asCastle_9 (fun H locs hP hD hS => ?_)
  refine lv_aload_n hx hb dX0_asCastle_12 rfl (lv_at hl 0 rfl) ?_
  refine lv_iload_n hx hb dX0_asCastle_13 rfl (lv_at hl 3 rfl) ?_
  refine on_i (run_vQ (As := [.int x3]) (rest := []) C hK hP hD hN (c_X0_asCell _) (rX0_r hK hP) ⟨wd_3_6, wd_3_8, ws_14, wd_1_7, wd_3_9⟩ ⟨rfl, rfl⟩ hv_X0_asCell ⟨Nat.le_of_ble_eq_true rfl, Nat.le_of_ble_eq_true rfl⟩ rfl hl.1 rfl (Nat.le_of_ble_eq_true rfl) dX0_asCastle_14 ⟨Nat.zero_le _, Nat.zero_le _⟩) hD hS hA (fun r_3 u H locs hp_2 hP hD hS => ?_)
  obtain ⟨tr_1, rfl⟩ : ∃ z, z = u := ⟨_, rfl⟩
  have hP : va_P D vwCl (WW cI cO sk g tb V Hd tr_1) H := hP
  have hD : va_D A (WW cI cO sk g tb V Hd tr_1) := hD
  have hT := nm2_u hp_2 hT
  refine lv_aload_n hx hb dX0_asCastle_17 rfl (lv_at hl 1 rfl) ?_
  refine lv_iload_n hx hb dX0_asCastle_18 rfl (lv_at hl 2 rfl) ?_
  refine lv_iload_n hx hb dX0_asCastle_19 rfl (lv_at hl 3 rfl) ?_
  refine vp_callSi (run_nP (As := [.int x2, .int x3]) (rest := [.ref (sk (20 + 2 * k)), .int r_3]) C hN (c_X6_bitOf) ⟨nw_9, wd_2_15, wd_1_1, wd_2_16⟩ ⟨rfl, rfl⟩ hd_X6_bitOf ⟨Nat.le_of_ble_eq_true rfl, Nat.le_of_ble_eq_true rfl⟩ rfl hl.1 rfl (Nat.le_of_ble_eq_true rfl) dX0_asCastle_20 ⟨Nat.zero_le _, Nat.zero_le _⟩) (fun r_4 hr_4 => ?_)
  have hT := nm_u hr_4 hT
  refine vp_callSi (run_vP (As := [.int r_4]) (rest := [.int r_3]) C hK hP hD hN (c_X4_cellsBeside hk _) (rX4_r hK hP hk) ⟨wd_3_16, wd_3_17, wd_3_18, wd_1_4, wd_3_19⟩ ⟨rfl, rfl⟩ hv_X4_cellsBeside ⟨Nat.le_of_ble_eq_true rfl, Nat.le_of_ble_eq_true rfl⟩ rfl hl.1 rfl (Nat.le_of_ble_eq_true rfl) dX0_asCastle_23 ⟨Nat.zero_le _, Nat.zero_le _⟩) (fun r_5 hr_5 => ?_)
  have hT := nm_u hr_5 hT
  refine lv_iadd hx hb dX0_asCastle_26 ?_
  exact hret _ tr_1 _ _ _ _ hT hP hD hS dX0_asCastle_27
theorem hv_X0_asCorridor : yX0_asCorridor.cls = RX0 ∧ yX0_asCorridor.cls ≠ "java/lang/invoke/MethodHandle" ∧ yX0_asCorridor.cls ≠ "java/lang/invoke/VarHandle" ∧ (parseMethodDescriptor yX0_asCorridor.desc).map (fun d => d.parameters.length) = some 2 := by decide +kernel
theorem hd_X0_asCorridor : yX0_asCorridor.cls ≠ "java/lang/invoke/MethodHandle" ∧ yX0_asCorridor.cls ≠ "java/lang/invoke/VarHandle" ∧ (parseMethodDescriptor yX0_asCorridor.desc).map (fun d => d.parameters.length) = some 2 := hv_X0_asCorridor.2
def sp_X0_asCorridor (tr : Int64) (x1 : Int32) (x2 : Int32) : Int32 × Int64 :=
  nm2 (sp_X0_asCell (tr + (100 : Int64)) x2) (fun r_3 tr_1 => (r_3 - x1, tr_1))
theorem sp_X0_asCorridor_s (tr : Int64) (x1 : Int32) (x2 : Int32) : (nm2 (sp_X0_asCell (tr + (100 : Int64)) x2) (fun r_3 tr_1 => (r_3 - x1, tr_1))) = sp_X0_asCorridor tr x1 x2 := rfl
set_option maxHeartbeats 4000000 in
set_option maxRecDepth 100000 in
theorem c_X0_asCorridor {l : Launch} {D : va_G} {cI cZ cO : ClassId} {sk : Nat → Nat} {g tb : Nat → Int32} {V Hd : Nat → Nat → Int32} {tr : Int64} {x1 : Int32} {x2 : Int32}  (sz : Nat) : Met l yX0_asCorridor (wm yX0_asCorridor cX0_asCorridor 3 (some .int)) ({ frames := 1, cells := 0, slots := 0, locals := 21 } : Room) (GPre D (ty3 cI cZ cO) (WW cI cO sk g tb V Hd tr) [.ref (sk 11), .int x1, .int x2] sz) (va_Qi (fun r (u : Int64) => (r, u) = sp_X0_asCorridor tr x1 x2) (fun u t => GAt D (ty3 cI cZ cO) (va_A (WW cI cO sk g tb V Hd tr) sz) (WW cI cO sk g tb V Hd u) t) (va_A (WW cI cO sk g tb V Hd tr) sz)) 0 0 (va_A (WW cI cO sk g tb V Hd tr) sz) := by
  refine metQ_i (W1 := (fun (u : Int64) => WW cI cO sk g tb V Hd u)) (post := (fun r (u : Int64) => (r, u) = sp_X0_asCorridor tr x1 x2)) (by decide) (Nat.le_of_ble_eq_true rfl) ?_
  intro p e s m args below meth c ls A Q C hsz hP hK hD hS hA hN hl hret
  have hx := C.1
  have hb := C.2.1
  have hl : lv_has ls 3 [(0, .ref (sk 11)), (1, .int x1), (2, .int x2)] := hl
  have hT := sp_X0_asCorridor_s tr x1 x2
  refine lv_aload_n hx hb dX0_asCorridor_0 rfl (lv_at hl 0 rfl) ?_
  refine lv_dup hx hb dX0_asCorridor_1 rfl ?_
  refine gX0_sum C hK hP wd_1_154 dX0_asCorridor_2 ?_
  refine lv_ldc2 hx hb C.2.2.2.1 (C.2.2.2.2 _ wd_3_24) dX0_asCorridor_5 ?_
  refine lv_ladd hx hb dX0_asCorridor_8 ?_
  refine pX0_sum C hK hP hD hS wd_1_154 dX0_asCorridor_9 (fun H locs hP hD hS => ?_)
  refine lv_aload_n hx hb dX0_asCorridor_12 rfl (lv_at hl 0 rfl) ?_
  refine lv_iload_n hx hb dX0_asCorridor_13 rfl (lv_at hl 2 rfl) ?_
  refine on_i (run_vQ (As := [.int x2]) (rest := []) C hK hP hD hN (c_X0_asCell _) (rX0_r hK hP) ⟨wd_3_6, wd_3_8, ws_14, wd_1_7, wd_3_9⟩ ⟨rfl, rfl⟩ hv_X0_asCell ⟨Nat.le_of_ble_eq_true rfl, Nat.le_of_ble_eq_true rfl⟩ rfl hl.1 rfl (Nat.le_of_ble_eq_true rfl) dX0_asCorridor_14 ⟨Nat.zero_le _, Nat.zero_le _⟩) hD hS hA (fun r_3 u H locs hp_2 hP hD hS => ?_)
  obtain ⟨tr_1, rfl⟩ : ∃ z, z = u := ⟨_, rfl⟩
  have hP : va_P D vwCl (WW cI cO sk g tb V Hd tr_1) H := hP
  have hD : va_D A (WW cI cO sk g tb V Hd tr_1) := hD
  have hT := nm2_u hp_2 hT
  refine lv_iload_n hx hb dX0_asCorridor_17 rfl (lv_at hl 1 rfl) ?_
  refine lv_isub hx hb dX0_asCorridor_18 ?_
  exact hret _ tr_1 _ _ _ _ hT hP hD hS dX0_asCorridor_19
theorem hv_X0_asEmpire : yX0_asEmpire.cls = RX0 ∧ yX0_asEmpire.cls ≠ "java/lang/invoke/MethodHandle" ∧ yX0_asEmpire.cls ≠ "java/lang/invoke/VarHandle" ∧ (parseMethodDescriptor yX0_asEmpire.desc).map (fun d => d.parameters.length) = some 3 := by decide +kernel
theorem hd_X0_asEmpire : yX0_asEmpire.cls ≠ "java/lang/invoke/MethodHandle" ∧ yX0_asEmpire.cls ≠ "java/lang/invoke/VarHandle" ∧ (parseMethodDescriptor yX0_asEmpire.desc).map (fun d => d.parameters.length) = some 3 := hv_X0_asEmpire.2
def sp_X0_asEmpire (V : Nat → Nat → Int32) (tr : Int64) (k : Nat) (x2 : Int32) (x3 : Int32) : Int32 × Int64 :=
  nm2 (sp_X0_asCastle V (tr + (1000 : Int64)) k x2 x3) (fun r_3 tr_1 => (r_3 * (2 : Int32), tr_1))
theorem sp_X0_asEmpire_s (V : Nat → Nat → Int32) (tr : Int64) (k : Nat) (x2 : Int32) (x3 : Int32) : (nm2 (sp_X0_asCastle V (tr + (1000 : Int64)) k x2 x3) (fun r_3 tr_1 => (r_3 * (2 : Int32), tr_1))) = sp_X0_asEmpire V tr k x2 x3 := rfl
set_option maxHeartbeats 4000000 in
set_option maxRecDepth 100000 in
theorem c_X0_asEmpire {l : Launch} {D : va_G} {cI cZ cO : ClassId} {sk : Nat → Nat} {g tb : Nat → Int32} {V Hd : Nat → Nat → Int32} {tr : Int64} {k : Nat} {x2 : Int32} {x3 : Int32} (hk : k < 34) (sz : Nat) : Met l yX0_asEmpire (wm yX0_asEmpire cX0_asEmpire 4 (some .int)) ({ frames := 4, cells := 0, slots := 0, locals := 88 } : Room) (GPre D (ty3 cI cZ cO) (WW cI cO sk g tb V Hd tr) [.ref (sk 11), .ref (sk (20 + 2 * k)), .int x2, .int x3] sz) (va_Qi (fun r (u : Int64) => (r, u) = sp_X0_asEmpire V tr k x2 x3) (fun u t => GAt D (ty3 cI cZ cO) (va_A (WW cI cO sk g tb V Hd tr) sz) (WW cI cO sk g tb V Hd u) t) (va_A (WW cI cO sk g tb V Hd tr) sz)) 0 0 (va_A (WW cI cO sk g tb V Hd tr) sz) := by
  refine metQ_i (W1 := (fun (u : Int64) => WW cI cO sk g tb V Hd u)) (post := (fun r (u : Int64) => (r, u) = sp_X0_asEmpire V tr k x2 x3)) (by decide) (Nat.le_of_ble_eq_true rfl) ?_
  intro p e s m args below meth c ls A Q C hsz hP hK hD hS hA hN hl hret
  have hx := C.1
  have hb := C.2.1
  have hl : lv_has ls 4 [(0, .ref (sk 11)), (1, .ref (sk (20 + 2 * k))), (2, .int x2), (3, .int x3)] := hl
  have hT := sp_X0_asEmpire_s V tr k x2 x3
  refine lv_aload_n hx hb dX0_asEmpire_0 rfl (lv_at hl 0 rfl) ?_
  refine lv_dup hx hb dX0_asEmpire_1 rfl ?_
  refine gX0_sum C hK hP wd_1_154 dX0_asEmpire_2 ?_
  refine lv_ldc2 hx hb C.2.2.2.1 (C.2.2.2.2 _ wd_3_29) dX0_asEmpire_5 ?_
  refine lv_ladd hx hb dX0_asEmpire_8 ?_
  refine pX0_sum C hK hP hD hS wd_1_154 dX0_asEmpire_9 (fun H locs hP hD hS => ?_)
  refine lv_aload_n hx hb dX0_asEmpire_12 rfl (lv_at hl 0 rfl) ?_
  refine lv_aload_n hx hb dX0_asEmpire_13 rfl (lv_at hl 1 rfl) ?_
  refine lv_iload_n hx hb dX0_asEmpire_14 rfl (lv_at hl 2 rfl) ?_
  refine lv_iload_n hx hb dX0_asEmpire_15 rfl (lv_at hl 3 rfl) ?_
  refine on_i (run_vQ (As := [.ref (sk (20 + 2 * k)), .int x2, .int x3]) (rest := []) C hK hP hD hN (c_X0_asCastle hk _) (rX0_r hK hP) ⟨wd_3_10, wd_3_12, ws_15, wd_1_7, wd_3_13⟩ ⟨rfl, rfl⟩ hv_X0_asCastle ⟨Nat.le_of_ble_eq_true rfl, Nat.le_of_ble_eq_true rfl⟩ rfl hl.1 rfl (Nat.le_of_ble_eq_true rfl) dX0_asEmpire_16 ⟨Nat.zero_le _, Nat.zero_le _⟩) hD hS hA (fun r_3 u H locs hp_2 hP hD hS => ?_)
  obtain ⟨tr_1, rfl⟩ : ∃ z, z = u := ⟨_, rfl⟩
  have hP : va_P D vwCl (WW cI cO sk g tb V Hd tr_1) H := hP
  have hD : va_D A (WW cI cO sk g tb V Hd tr_1) := hD
  have hT := nm2_u hp_2 hT
  refine lv_iconst (v := 2) hx hb dX0_asEmpire_19 (by decide) ?_
  refine lv_imul hx hb dX0_asEmpire_20 ?_
  exact hret _ tr_1 _ _ _ _ hT hP hD hS dX0_asEmpire_21
theorem hv_X0_asPoland : yX0_asPoland.cls = RX0 ∧ yX0_asPoland.cls ≠ "java/lang/invoke/MethodHandle" ∧ yX0_asPoland.cls ≠ "java/lang/invoke/VarHandle" ∧ (parseMethodDescriptor yX0_asPoland.desc).map (fun d => d.parameters.length) = some 3 := by decide +kernel
theorem hd_X0_asPoland : yX0_asPoland.cls ≠ "java/lang/invoke/MethodHandle" ∧ yX0_asPoland.cls ≠ "java/lang/invoke/VarHandle" ∧ (parseMethodDescriptor yX0_asPoland.desc).map (fun d => d.parameters.length) = some 3 := hv_X0_asPoland.2
def sp_X0_asPoland (Hd : Nat → Nat → Int32) (tr : Int64) (k : Nat) (x2 : Int32) (x3 : Int32) : Int32 × Int64 :=
  nm (sp_X6_bitOf x2 x3) (fun r_1 => nm (sp_X4_holderOf Hd k r_1) (fun r_2 => nm2 (sp_X0_asCorridor (tr + (10000 : Int64)) x2 x3) (fun r_5 tr_3 => nm (sp_X4_heldBy Hd k r_2) (fun r_6 => nm (sp_J6_bitCount_0f7a4 r_6) (fun r_7 => (r_5 + r_7, tr_3))))))
theorem sp_X0_asPoland_s (Hd : Nat → Nat → Int32) (tr : Int64) (k : Nat) (x2 : Int32) (x3 : Int32) : (nm (sp_X6_bitOf x2 x3) (fun r_1 => nm (sp_X4_holderOf Hd k r_1) (fun r_2 => nm2 (sp_X0_asCorridor (tr + (10000 : Int64)) x2 x3) (fun r_5 tr_3 => nm (sp_X4_heldBy Hd k r_2) (fun r_6 => nm (sp_J6_bitCount_0f7a4 r_6) (fun r_7 => (r_5 + r_7, tr_3))))))) = sp_X0_asPoland Hd tr k x2 x3 := rfl
set_option maxHeartbeats 4000000 in
set_option maxRecDepth 100000 in
theorem c_X0_asPoland {l : Launch} {D : va_G} {cI cZ cO : ClassId} {sk : Nat → Nat} {g tb : Nat → Int32} {V Hd : Nat → Nat → Int32} {tr : Int64} {k : Nat} {x2 : Int32} {x3 : Int32} (hk : k < 34) (sz : Nat) : Met l yX0_asPoland (wm yX0_asPoland cX0_asPoland 5 (some .int)) ({ frames := 2, cells := 0, slots := 0, locals := 43 } : Room) (GPre D (ty3 cI cZ cO) (WW cI cO sk g tb V Hd tr) [.ref (sk 11), .ref (sk (20 + 2 * k)), .int x2, .int x3] sz) (va_Qi (fun r (u : Int64) => (r, u) = sp_X0_asPoland Hd tr k x2 x3) (fun u t => GAt D (ty3 cI cZ cO) (va_A (WW cI cO sk g tb V Hd tr) sz) (WW cI cO sk g tb V Hd u) t) (va_A (WW cI cO sk g tb V Hd tr) sz)) 0 0 (va_A (WW cI cO sk g tb V Hd tr) sz) := by
  refine metQ_i (W1 := (fun (u : Int64) => WW cI cO sk g tb V Hd u)) (post := (fun r (u : Int64) => (r, u) = sp_X0_asPoland Hd tr k x2 x3)) (by decide) (Nat.le_of_ble_eq_true rfl) ?_
  intro p e s m args below meth c ls A Q C hsz hP hK hD hS hA hN hl hret
  have hx := C.1
  have hb := C.2.1
  have hl : lv_has ls 5 [(0, .ref (sk 11)), (1, .ref (sk (20 + 2 * k))), (2, .int x2), (3, .int x3)] := hl
  have hT := sp_X0_asPoland_s Hd tr k x2 x3
  refine lv_aload_n hx hb dX0_asPoland_0 rfl (lv_at hl 0 rfl) ?_
  refine lv_dup hx hb dX0_asPoland_1 rfl ?_
  refine gX0_sum C hK hP wd_1_154 dX0_asPoland_2 ?_
  refine lv_ldc2 hx hb C.2.2.2.1 (C.2.2.2.2 _ wd_3_34) dX0_asPoland_5 ?_
  refine lv_ladd hx hb dX0_asPoland_8 ?_
  refine pX0_sum C hK hP hD hS wd_1_154 dX0_asPoland_9 (fun H locs hP hD hS => ?_)
  refine lv_aload_n hx hb dX0_asPoland_12 rfl (lv_at hl 1 rfl) ?_
  refine lv_iload_n hx hb dX0_asPoland_13 rfl (lv_at hl 2 rfl) ?_
  refine lv_iload_n hx hb dX0_asPoland_14 rfl (lv_at hl 3 rfl) ?_
  refine vp_callSi (run_nP (As := [.int x2, .int x3]) (rest := [.ref (sk (20 + 2 * k))]) C hN (c_X6_bitOf) ⟨nw_9, wd_2_15, wd_1_1, wd_2_16⟩ ⟨rfl, rfl⟩ hd_X6_bitOf ⟨Nat.le_of_ble_eq_true rfl, Nat.le_of_ble_eq_true rfl⟩ rfl hl.1 rfl (Nat.le_of_ble_eq_true rfl) dX0_asPoland_15 ⟨Nat.zero_le _, Nat.zero_le _⟩) (fun r_1 hr_1 => ?_)
  have hT := nm_u hr_1 hT
  refine vp_callSi (run_vP (As := [.int r_1]) (rest := []) C hK hP hD hN (c_X4_holderOf hk _) (rX4_r hK hP hk) ⟨wd_3_35, wd_2_52, wd_2_53, wd_1_4, wd_2_54⟩ ⟨rfl, rfl⟩ hv_X4_holderOf ⟨Nat.le_of_ble_eq_true rfl, Nat.le_of_ble_eq_true rfl⟩ rfl hl.1 rfl (Nat.le_of_ble_eq_true rfl) dX0_asPoland_18 ⟨Nat.zero_le _, Nat.zero_le _⟩) (fun r_2 hr_2 => ?_)
  have hT := nm_u hr_2 hT
  refine lv_istore (lv' := [(4, .int r_2), (0, .ref (sk 11)), (1, .ref (sk (20 + 2 * k))), (2, .int x2), (3, .int x3)]) hx hb dX0_asPoland_21 hl (by decide) rfl (fun ls hl => ?_)
  refine lv_aload_n hx hb dX0_asPoland_23 rfl (lv_at hl 1 rfl) ?_
  refine lv_iload_n hx hb dX0_asPoland_24 rfl (lv_at hl 3 rfl) ?_
  refine lv_iload_n hx hb dX0_asPoland_25 rfl (lv_at hl 4 rfl) ?_
  refine on_i (run_vQ (As := [.int x2, .int x3]) (rest := []) C hK hP hD hN (c_X0_asCorridor _) (rX0_r hK hP) ⟨wd_3_20, wd_3_22, ws_16, wd_1_7, wd_3_23⟩ ⟨rfl, rfl⟩ hv_X0_asCorridor ⟨Nat.le_of_ble_eq_true rfl, Nat.le_of_ble_eq_true rfl⟩ rfl hl.1 rfl (Nat.le_of_ble_eq_true rfl) dX0_asPoland_26 ⟨Nat.zero_le _, Nat.zero_le _⟩) hD hS hA (fun r_5 u H locs hp_4 hP hD hS => ?_)
  obtain ⟨tr_3, rfl⟩ : ∃ z, z = u := ⟨_, rfl⟩
  have hP : va_P D vwCl (WW cI cO sk g tb V Hd tr_3) H := hP
  have hD : va_D A (WW cI cO sk g tb V Hd tr_3) := hD
  have hT := nm2_u hp_4 hT
  refine lv_aload_n hx hb dX0_asPoland_29 rfl (lv_at hl 2 rfl) ?_
  refine lv_iload hx hb dX0_asPoland_30 (lv_at hl 0 rfl) ?_
  refine vp_callSi (run_vP (As := [.int r_2]) (rest := [.int r_5]) C hK hP hD hN (c_X4_heldBy hk _) (rX4_r hK hP hk) ⟨wd_3_36, wd_2_34, wd_2_35, wd_1_4, wd_2_36⟩ ⟨rfl, rfl⟩ hv_X4_heldBy ⟨Nat.le_of_ble_eq_true rfl, Nat.le_of_ble_eq_true rfl⟩ rfl hl.1 rfl (Nat.le_of_ble_eq_true rfl) dX0_asPoland_32 ⟨Nat.zero_le _, Nat.zero_le _⟩) (fun r_6 hr_6 => ?_)
  have hT := nm_u hr_6 hT
  refine vp_callSi (run_sP (As := [.int r_6]) (rest := [.int r_5]) C hN (c_J6_bitCount_0f7a4) ⟨wd_3_37, wd_2_104, wd_1_9, wd_2_105⟩ ⟨rfl, rfl⟩ hd_J6_bitCount_0f7a4 ⟨Nat.le_of_ble_eq_true rfl, Nat.le_of_ble_eq_true rfl⟩ rfl hl.1 rfl (Nat.le_of_ble_eq_true rfl) dX0_asPoland_35 ⟨Nat.zero_le _, Nat.zero_le _⟩) (fun r_7 hr_7 => ?_)
  have hT := nm_u hr_7 hT
  refine lv_iadd hx hb dX0_asPoland_38 ?_
  exact hret _ tr_3 _ _ _ _ hT hP hD hS dX0_asPoland_39
theorem hv_X0_asSalient : yX0_asSalient.cls = RX0 ∧ yX0_asSalient.cls ≠ "java/lang/invoke/MethodHandle" ∧ yX0_asSalient.cls ≠ "java/lang/invoke/VarHandle" ∧ (parseMethodDescriptor yX0_asSalient.desc).map (fun d => d.parameters.length) = some 2 := by decide +kernel
theorem hd_X0_asSalient : yX0_asSalient.cls ≠ "java/lang/invoke/MethodHandle" ∧ yX0_asSalient.cls ≠ "java/lang/invoke/VarHandle" ∧ (parseMethodDescriptor yX0_asSalient.desc).map (fun d => d.parameters.length) = some 2 := hv_X0_asSalient.2
def sp_X0_asSalient (V : Nat → Nat → Int32) (tr : Int64) (k : Nat) (x2 : Int32) : Int32 × Int64 :=
  nm2 (sp_X0_asCell (tr + (100000 : Int64)) x2) (fun r_3 tr_1 => (r_3 + (V k 4), tr_1))
theorem sp_X0_asSalient_s (V : Nat → Nat → Int32) (tr : Int64) (k : Nat) (x2 : Int32) : (nm2 (sp_X0_asCell (tr + (100000 : Int64)) x2) (fun r_3 tr_1 => (r_3 + (V k 4), tr_1))) = sp_X0_asSalient V tr k x2 := rfl
set_option maxHeartbeats 4000000 in
set_option maxRecDepth 100000 in
theorem c_X0_asSalient {l : Launch} {D : va_G} {cI cZ cO : ClassId} {sk : Nat → Nat} {g tb : Nat → Int32} {V Hd : Nat → Nat → Int32} {tr : Int64} {k : Nat} {x2 : Int32} (hk : k < 34) (sz : Nat) : Met l yX0_asSalient (wm yX0_asSalient cX0_asSalient 3 (some .int)) ({ frames := 1, cells := 0, slots := 0, locals := 21 } : Room) (GPre D (ty3 cI cZ cO) (WW cI cO sk g tb V Hd tr) [.ref (sk 11), .ref (sk (20 + 2 * k)), .int x2] sz) (va_Qi (fun r (u : Int64) => (r, u) = sp_X0_asSalient V tr k x2) (fun u t => GAt D (ty3 cI cZ cO) (va_A (WW cI cO sk g tb V Hd tr) sz) (WW cI cO sk g tb V Hd u) t) (va_A (WW cI cO sk g tb V Hd tr) sz)) 0 0 (va_A (WW cI cO sk g tb V Hd tr) sz) := by
  refine metQ_i (W1 := (fun (u : Int64) => WW cI cO sk g tb V Hd u)) (post := (fun r (u : Int64) => (r, u) = sp_X0_asSalient V tr k x2)) (by decide) (Nat.le_of_ble_eq_true rfl) ?_
  intro p e s m args below meth c ls A Q C hsz hP hK hD hS hA hN hl hret
  have hx := C.1
  have hb := C.2.1
  have hl : lv_has ls 3 [(0, .ref (sk 11)), (1, .ref (sk (20 + 2 * k))), (2, .int x2)] := hl
  have hT := sp_X0_asSalient_s V tr k x2
  refine lv_aload_n hx hb dX0_asSalient_0 rfl (lv_at hl 0 rfl) ?_
  refine lv_dup hx hb dX0_asSalient_1 rfl ?_
  refine gX0_sum C hK hP wd_1_154 dX0_asSalient_2 ?_
  refine lv_ldc2 hx hb C.2.2.2.1 (C.2.2.2.2 _ wd_3_42) dX0_asSalient_5 ?_
  refine lv_ladd hx hb dX0_asSalient_8 ?_
  refine pX0_sum C hK hP hD hS wd_1_154 dX0_asSalient_9 (fun H locs hP hD hS => ?_)
  refine lv_aload_n hx hb dX0_asSalient_12 rfl (lv_at hl 0 rfl) ?_
  refine lv_iload_n hx hb dX0_asSalient_13 rfl (lv_at hl 2 rfl) ?_
  refine on_i (run_vQ (As := [.int x2]) (rest := []) C hK hP hD hN (c_X0_asCell _) (rX0_r hK hP) ⟨wd_3_6, wd_3_8, ws_14, wd_1_7, wd_3_9⟩ ⟨rfl, rfl⟩ hv_X0_asCell ⟨Nat.le_of_ble_eq_true rfl, Nat.le_of_ble_eq_true rfl⟩ rfl hl.1 rfl (Nat.le_of_ble_eq_true rfl) dX0_asSalient_14 ⟨Nat.zero_le _, Nat.zero_le _⟩) hD hS hA (fun r_3 u H locs hp_2 hP hD hS => ?_)
  obtain ⟨tr_1, rfl⟩ : ∃ z, z = u := ⟨_, rfl⟩
  have hP : va_P D vwCl (WW cI cO sk g tb V Hd tr_1) H := hP
  have hD : va_D A (WW cI cO sk g tb V Hd tr_1) := hD
  have hT := nm2_u hp_2 hT
  refine lv_aload_n hx hb dX0_asSalient_17 rfl (lv_at hl 1 rfl) ?_
  refine gX4_tide C hK hP hk wd_1_58 dX0_asSalient_18 ?_
  refine lv_iadd hx hb dX0_asSalient_21 ?_
  exact hret _ tr_1 _ _ _ _ hT hP hD hS dX0_asSalient_22
theorem hv_X0_markAs : yX0_markAs.cls = RX0 ∧ yX0_markAs.cls ≠ "java/lang/invoke/MethodHandle" ∧ yX0_markAs.cls ≠ "java/lang/invoke/VarHandle" ∧ (parseMethodDescriptor yX0_markAs.desc).map (fun d => d.parameters.length) = some 4 := by decide +kernel
theorem hd_X0_markAs : yX0_markAs.cls ≠ "java/lang/invoke/MethodHandle" ∧ yX0_markAs.cls ≠ "java/lang/invoke/VarHandle" ∧ (parseMethodDescriptor yX0_markAs.desc).map (fun d => d.parameters.length) = some 4 := hv_X0_markAs.2
def sp_X0_markAs (V : Nat → Nat → Int32) (Hd : Nat → Nat → Int32) (tr : Int64) (x1 : Int32) (k : Nat) (x3 : Int32) (x4 : Int32) : Int32 × Int64 :=
  if x1 = (0 : Int32) then (nm2 (sp_X0_asCell tr x4) (fun r_4 tr_2 => (r_4, tr_2))) else (if x1 = (1 : Int32) then (nm2 (sp_X0_asCastle V tr k x3 x4) (fun r_8 tr_6 => (r_8, tr_6))) else (if x1 = (2 : Int32) then (nm2 (sp_X0_asCorridor tr x3 x4) (fun r_12 tr_10 => (r_12, tr_10))) else (if x1 = (3 : Int32) then (nm2 (sp_X0_asEmpire V tr k x3 x4) (fun r_16 tr_14 => (r_16, tr_14))) else (if x1 = (4 : Int32) then (nm2 (sp_X0_asPoland Hd tr k x3 x4) (fun r_20 tr_18 => (r_20, tr_18))) else (if x1 = (5 : Int32) then (nm2 (sp_X0_asSalient V tr k x4) (fun r_24 tr_22 => (r_24, tr_22))) else ((-1000000 : Int32), tr))))))
theorem sp_X0_markAs_s (V : Nat → Nat → Int32) (Hd : Nat → Nat → Int32) (tr : Int64) (x1 : Int32) (k : Nat) (x3 : Int32) (x4 : Int32) : (if x1 = (0 : Int32) then (nm2 (sp_X0_asCell tr x4) (fun r_4 tr_2 => (r_4, tr_2))) else (if x1 = (1 : Int32) then (nm2 (sp_X0_asCastle V tr k x3 x4) (fun r_8 tr_6 => (r_8, tr_6))) else (if x1 = (2 : Int32) then (nm2 (sp_X0_asCorridor tr x3 x4) (fun r_12 tr_10 => (r_12, tr_10))) else (if x1 = (3 : Int32) then (nm2 (sp_X0_asEmpire V tr k x3 x4) (fun r_16 tr_14 => (r_16, tr_14))) else (if x1 = (4 : Int32) then (nm2 (sp_X0_asPoland Hd tr k x3 x4) (fun r_20 tr_18 => (r_20, tr_18))) else (if x1 = (5 : Int32) then (nm2 (sp_X0_asSalient V tr k x4) (fun r_24 tr_22 => (r_24, tr_22))) else ((-1000000 : Int32), tr))))))) = sp_X0_markAs V Hd tr x1 k x3 x4 := rfl
set_option maxHeartbeats 4000000 in
set_option maxRecDepth 100000 in
theorem c_X0_markAs {l : Launch} {D : va_G} {cI cZ cO : ClassId} {sk : Nat → Nat} {g tb : Nat → Int32} {V Hd : Nat → Nat → Int32} {tr : Int64} {x1 : Int32} {k : Nat} {x3 : Int32} {x4 : Int32} (hk : k < 34) (sz : Nat) : Met l yX0_markAs (wm yX0_markAs cX0_markAs 5 (some .int)) ({ frames := 5, cells := 0, slots := 0, locals := 111 } : Room) (GPre D (ty3 cI cZ cO) (WW cI cO sk g tb V Hd tr) [.ref (sk 11), .int x1, .ref (sk (20 + 2 * k)), .int x3, .int x4] sz) (va_Qi (fun r (u : Int64) => (r, u) = sp_X0_markAs V Hd tr x1 k x3 x4) (fun u t => GAt D (ty3 cI cZ cO) (va_A (WW cI cO sk g tb V Hd tr) sz) (WW cI cO sk g tb V Hd u) t) (va_A (WW cI cO sk g tb V Hd tr) sz)) 0 0 (va_A (WW cI cO sk g tb V Hd tr) sz) := by
  refine metQ_i (W1 := (fun (u : Int64) => WW cI cO sk g tb V Hd u)) (post := (fun r (u : Int64) => (r, u) = sp_X0_markAs V Hd tr x1 k x3 x4)) (by decide) (Nat.le_of_ble_eq_true rfl) ?_
  intro p e s m args below meth c ls A Q C hsz hP hK hD hS hA hN hl hret
  have hx := C.1
  have hb := C.2.1
  have hl : lv_has ls 5 [(0, .ref (sk 11)), (1, .int x1), (2, .ref (sk (20 + 2 * k))), (3, .int x3), (4, .int x4)] := hl
  have hT := sp_X0_markAs_s V Hd tr x1 k x3 x4
  refine lv_iload_n hx hb dX0_markAs_0 rfl (lv_at hl 1 rfl) ?_
  by_cases c_1 : x1 = (0 : Int32)
  · have hT := it_t c_1 hT
    refine lv_tableIn (tgt := 40) hx hb dX0_markAs_1 (by rw [c_1]; decide) (by rw [c_1]; decide) (by rw [c_1]; rfl) (by decide) ?_
    refine lv_aload_n hx hb dX0_markAs_40 rfl (lv_at hl 0 rfl) ?_
    refine lv_iload hx hb dX0_markAs_41 (lv_at hl 4 rfl) ?_
    refine on_i (run_vQ (As := [.int x4]) (rest := []) C hK hP hD hN (c_X0_asCell _) (rX0_r hK hP) ⟨wd_3_6, wd_3_8, ws_14, wd_1_7, wd_3_9⟩ ⟨rfl, rfl⟩ hv_X0_asCell ⟨Nat.le_of_ble_eq_true rfl, Nat.le_of_ble_eq_true rfl⟩ rfl hl.1 rfl (Nat.le_of_ble_eq_true rfl) dX0_markAs_43 ⟨Nat.zero_le _, Nat.zero_le _⟩) hD hS hA (fun r_4 u H locs hp_3 hP hD hS => ?_)
    obtain ⟨tr_2, rfl⟩ : ∃ z, z = u := ⟨_, rfl⟩
    have hP : va_P D vwCl (WW cI cO sk g tb V Hd tr_2) H := hP
    have hD : va_D A (WW cI cO sk g tb V Hd tr_2) := hD
    have hT := nm2_u hp_3 hT
    exact hret _ tr_2 _ _ _ _ hT hP hD hS dX0_markAs_46
  · have hT := it_f c_1 hT
    by_cases c_5 : x1 = (1 : Int32)
    · have hT := it_t c_5 hT
      refine lv_tableIn (tgt := 47) hx hb dX0_markAs_1 (by rw [c_5]; decide) (by rw [c_5]; decide) (by rw [c_5]; rfl) (by decide) ?_
      refine lv_aload_n hx hb dX0_markAs_47 rfl (lv_at hl 0 rfl) ?_
      refine lv_aload_n hx hb dX0_markAs_48 rfl (lv_at hl 2 rfl) ?_
      refine lv_iload_n hx hb dX0_markAs_49 rfl (lv_at hl 3 rfl) ?_
      refine lv_iload hx hb dX0_markAs_50 (lv_at hl 4 rfl) ?_
      refine on_i (run_vQ (As := [.ref (sk (20 + 2 * k)), .int x3, .int x4]) (rest := []) C hK hP hD hN (c_X0_asCastle hk _) (rX0_r hK hP) ⟨wd_3_10, wd_3_12, ws_15, wd_1_7, wd_3_13⟩ ⟨rfl, rfl⟩ hv_X0_asCastle ⟨Nat.le_of_ble_eq_true rfl, Nat.le_of_ble_eq_true rfl⟩ rfl hl.1 rfl (Nat.le_of_ble_eq_true rfl) dX0_markAs_52 ⟨Nat.zero_le _, Nat.zero_le _⟩) hD hS hA (fun r_8 u H locs hp_7 hP hD hS => ?_)
      obtain ⟨tr_6, rfl⟩ : ∃ z, z = u := ⟨_, rfl⟩
      have hP : va_P D vwCl (WW cI cO sk g tb V Hd tr_6) H := hP
      have hD : va_D A (WW cI cO sk g tb V Hd tr_6) := hD
      have hT := nm2_u hp_7 hT
      exact hret _ tr_6 _ _ _ _ hT hP hD hS dX0_markAs_55
    · have hT := it_f c_5 hT
      by_cases c_9 : x1 = (2 : Int32)
      · have hT := it_t c_9 hT
        refine lv_tableIn (tgt := 56) hx hb dX0_markAs_1 (by rw [c_9]; decide) (by rw [c_9]; decide) (by rw [c_9]; rfl) (by decide) ?_
        refine lv_aload_n hx hb dX0_markAs_56 rfl (lv_at hl 0 rfl) ?_
        refine lv_iload_n hx hb dX0_markAs_57 rfl (lv_at hl 3 rfl) ?_
        refine lv_iload hx hb dX0_markAs_58 (lv_at hl 4 rfl) ?_
        refine on_i (run_vQ (As := [.int x3, .int x4]) (rest := []) C hK hP hD hN (c_X0_asCorridor _) (rX0_r hK hP) ⟨wd_3_20, wd_3_22, ws_16, wd_1_7, wd_3_23⟩ ⟨rfl, rfl⟩ hv_X0_asCorridor ⟨Nat.le_of_ble_eq_true rfl, Nat.le_of_ble_eq_true rfl⟩ rfl hl.1 rfl (Nat.le_of_ble_eq_true rfl) dX0_markAs_60 ⟨Nat.zero_le _, Nat.zero_le _⟩) hD hS hA (fun r_12 u H locs hp_11 hP hD hS => ?_)
        obtain ⟨tr_10, rfl⟩ : ∃ z, z = u := ⟨_, rfl⟩
        have hP : va_P D vwCl (WW cI cO sk g tb V Hd tr_10) H := hP
        have hD : va_D A (WW cI cO sk g tb V Hd tr_10) := hD
        have hT := nm2_u hp_11 hT
        exact hret _ tr_10 _ _ _ _ hT hP hD hS dX0_markAs_63
      · have hT := it_f c_9 hT
        by_cases c_13 : x1 = (3 : Int32)
        · have hT := it_t c_13 hT
          refine lv_tableIn (tgt := 64) hx hb dX0_markAs_1 (by rw [c_13]; decide) (by rw [c_13]; decide) (by rw [c_13]; rfl) (by decide) ?_
          refine lv_aload_n hx hb dX0_markAs_64 rfl (lv_at hl 0 rfl) ?_
          refine lv_aload_n hx hb dX0_markAs_65 rfl (lv_at hl 2 rfl) ?_
          refine lv_iload_n hx hb dX0_markAs_66 rfl (lv_at hl 3 rfl) ?_
          refine lv_iload hx hb dX0_markAs_67 (lv_at hl 4 rfl) ?_
          refine on_i (run_vQ (As := [.ref (sk (20 + 2 * k)), .int x3, .int x4]) (rest := []) C hK hP hD hN (c_X0_asEmpire hk _) (rX0_r hK hP) ⟨wd_3_25, wd_3_27, ws_17, wd_1_7, wd_3_28⟩ ⟨rfl, rfl⟩ hv_X0_asEmpire ⟨Nat.le_of_ble_eq_true rfl, Nat.le_of_ble_eq_true rfl⟩ rfl hl.1 rfl (Nat.le_of_ble_eq_true rfl) dX0_markAs_69 ⟨Nat.zero_le _, Nat.zero_le _⟩) hD hS hA (fun r_16 u H locs hp_15 hP hD hS => ?_)
          obtain ⟨tr_14, rfl⟩ : ∃ z, z = u := ⟨_, rfl⟩
          have hP : va_P D vwCl (WW cI cO sk g tb V Hd tr_14) H := hP
          have hD : va_D A (WW cI cO sk g tb V Hd tr_14) := hD
          have hT := nm2_u hp_15 hT
          exact hret _ tr_14 _ _ _ _ hT hP hD hS dX0_markAs_72
        · have hT := it_f c_13 hT
          by_cases c_17 : x1 = (4 : Int32)
          · have hT := it_t c_17 hT
            refine lv_tableIn (tgt := 73) hx hb dX0_markAs_1 (by rw [c_17]; decide) (by rw [c_17]; decide) (by rw [c_17]; rfl) (by decide) ?_
            refine lv_aload_n hx hb dX0_markAs_73 rfl (lv_at hl 0 rfl) ?_
            refine lv_aload_n hx hb dX0_markAs_74 rfl (lv_at hl 2 rfl) ?_
            refine lv_iload_n hx hb dX0_markAs_75 rfl (lv_at hl 3 rfl) ?_
            refine lv_iload hx hb dX0_markAs_76 (lv_at hl 4 rfl) ?_
            refine on_i (run_vQ (As := [.ref (sk (20 + 2 * k)), .int x3, .int x4]) (rest := []) C hK hP hD hN (c_X0_asPoland hk _) (rX0_r hK hP) ⟨wd_3_30, wd_3_32, ws_18, wd_1_7, wd_3_33⟩ ⟨rfl, rfl⟩ hv_X0_asPoland ⟨Nat.le_of_ble_eq_true rfl, Nat.le_of_ble_eq_true rfl⟩ rfl hl.1 rfl (Nat.le_of_ble_eq_true rfl) dX0_markAs_78 ⟨Nat.zero_le _, Nat.zero_le _⟩) hD hS hA (fun r_20 u H locs hp_19 hP hD hS => ?_)
            obtain ⟨tr_18, rfl⟩ : ∃ z, z = u := ⟨_, rfl⟩
            have hP : va_P D vwCl (WW cI cO sk g tb V Hd tr_18) H := hP
            have hD : va_D A (WW cI cO sk g tb V Hd tr_18) := hD
            have hT := nm2_u hp_19 hT
            exact hret _ tr_18 _ _ _ _ hT hP hD hS dX0_markAs_81
          · have hT := it_f c_17 hT
            by_cases c_21 : x1 = (5 : Int32)
            · have hT := it_t c_21 hT
              refine lv_tableIn (tgt := 82) hx hb dX0_markAs_1 (by rw [c_21]; decide) (by rw [c_21]; decide) (by rw [c_21]; rfl) (by decide) ?_
              refine lv_aload_n hx hb dX0_markAs_82 rfl (lv_at hl 0 rfl) ?_
              refine lv_aload_n hx hb dX0_markAs_83 rfl (lv_at hl 2 rfl) ?_
              refine lv_iload hx hb dX0_markAs_84 (lv_at hl 4 rfl) ?_
              refine on_i (run_vQ (As := [.ref (sk (20 + 2 * k)), .int x4]) (rest := []) C hK hP hD hN (c_X0_asSalient hk _) (rX0_r hK hP) ⟨wd_3_38, wd_3_40, ws_19, wd_1_7, wd_3_41⟩ ⟨rfl, rfl⟩ hv_X0_asSalient ⟨Nat.le_of_ble_eq_true rfl, Nat.le_of_ble_eq_true rfl⟩ rfl hl.1 rfl (Nat.le_of_ble_eq_true rfl) dX0_markAs_86 ⟨Nat.zero_le _, Nat.zero_le _⟩) hD hS hA (fun r_24 u H locs hp_23 hP hD hS => ?_)
              obtain ⟨tr_22, rfl⟩ : ∃ z, z = u := ⟨_, rfl⟩
              have hP : va_P D vwCl (WW cI cO sk g tb V Hd tr_22) H := hP
              have hD : va_D A (WW cI cO sk g tb V Hd tr_22) := hD
              have hT := nm2_u hp_23 hT
              exact hret _ tr_22 _ _ _ _ hT hP hD hS dX0_markAs_89
            · have hT := it_f c_21 hT
              refine lv_tableOut (tgt := 90) hx hb dX0_markAs_1 (by have h0 := lv_neT (a := 0) c_1 rfl; have h1 := lv_neT (a := 1) c_5 rfl; have h2 := lv_neT (a := 2) c_9 rfl; have h3 := lv_neT (a := 3) c_13 rfl; have h4 := lv_neT (a := 4) c_17 rfl; have h5 := lv_neT (a := 5) c_21 rfl; omega) (by decide) ?_
              refine lv_ldc hx hb C.2.2.2.1 (C.2.2.2.2 _ wd_3_43) dX0_markAs_90 ?_
              exact hret _ tr _ _ _ _ hT hP hD hS dX0_markAs_92
theorem hv_X3_beforeAt : yX3_beforeAt.cls = RX3 ∧ yX3_beforeAt.cls ≠ "java/lang/invoke/MethodHandle" ∧ yX3_beforeAt.cls ≠ "java/lang/invoke/VarHandle" ∧ (parseMethodDescriptor yX3_beforeAt.desc).map (fun d => d.parameters.length) = some 1 := by decide +kernel
theorem hd_X3_beforeAt : yX3_beforeAt.cls ≠ "java/lang/invoke/MethodHandle" ∧ yX3_beforeAt.cls ≠ "java/lang/invoke/VarHandle" ∧ (parseMethodDescriptor yX3_beforeAt.desc).map (fun d => d.parameters.length) = some 1 := hv_X3_beforeAt.2
set_option maxHeartbeats 4000000 in
set_option maxRecDepth 100000 in
theorem c_X3_beforeAt {l : Launch} {D : va_G} {cI cZ cO : ClassId} {sk : Nat → Nat} {g tb : Nat → Int32} {V Hd : Nat → Nat → Int32} {tr : Int64} {q : Nat} {x1 : Int32} (hq : q < 3) (hi : vp_in x1 10) (sz : Nat) : Met l yX3_beforeAt (wm yX3_beforeAt cX3_beforeAt 2 (some (FieldType.object "WindFrontiers$Strand"))) ({ frames := 0, cells := 0, slots := 0, locals := 0 } : Room) (GPre D (ty3 cI cZ cO) (WW cI cO sk g tb V Hd tr) [.ref (sk (4 + q)), .int x1] sz) (va_Sr (fun _ => True) (fun _ => .ref (sk (20 + 2 * (11 * q + x1.toNatClampNeg))))) 0 0 (fun _ => False) := by
  refine metP_r (by decide) (Nat.le_of_ble_eq_true rfl) ?_
  intro p e s m args below meth c ls Q C hsz hP hK hD hN hl hret
  have hx := C.1
  have hb := C.2.1
  have hl : lv_has ls 2 [(0, .ref (sk (4 + q))), (1, .int x1)] := hl
  refine lv_iload_n hx hb dX3_beforeAt_0 rfl (lv_at hl 1 rfl) ?_
  refine lv_if_lt (tgt := 22) hx hb dX3_beforeAt_1 (by decide) (fun c_1 => ?_) (fun c_1 => ?_)
  · exact absurd c_1 (vpn hi)
  · refine lv_iload_n hx hb dX3_beforeAt_4 rfl (lv_at hl 1 rfl) ?_
    refine lv_aload_n hx hb dX3_beforeAt_5 rfl (lv_at hl 0 rfl) ?_
    refine gX3_before C hK hP hq wd_1_112 dX3_beforeAt_6 ?_
    refine lX_before C hK hP hq dX3_beforeAt_9 ?_
    refine lv_icmp_ge (tgt := 22) hx hb dX3_beforeAt_10 (by decide) (fun c_2 => ?_) (fun c_2 => ?_)
    · exact absurd c_2 (vpl hi)
    · refine lv_aload_n hx hb dX3_beforeAt_13 rfl (lv_at hl 0 rfl) ?_
      refine gX3_before C hK hP hq wd_1_112 dX3_beforeAt_14 ?_
      refine lv_iload_n hx hb dX3_beforeAt_17 rfl (lv_at hl 1 rfl) ?_
      refine aX_before C hK hP hq hi dX3_beforeAt_18 ?_
      refine lv_goto (tgt := 23) hx hb dX3_beforeAt_19 (by decide) ?_
      exact hret _ _ _ ⟨rfl, Or.inr ⟨_, rfl⟩⟩ dX3_beforeAt_23
theorem hv_X3_copy : yX3_copy.cls = RX3 ∧ yX3_copy.cls ≠ "java/lang/invoke/MethodHandle" ∧ yX3_copy.cls ≠ "java/lang/invoke/VarHandle" ∧ (parseMethodDescriptor yX3_copy.desc).map (fun d => d.parameters.length) = some 2 := by decide +kernel
theorem hd_X3_copy : yX3_copy.cls ≠ "java/lang/invoke/MethodHandle" ∧ yX3_copy.cls ≠ "java/lang/invoke/VarHandle" ∧ (parseMethodDescriptor yX3_copy.desc).map (fun d => d.parameters.length) = some 2 := hv_X3_copy.2
def sp_X3_copy (V : Nat → Nat → Int32) (Hd : Nat → Nat → Int32) (k0 : Nat) (k1 : Nat) : (Nat → Nat → Int32) × (Nat → Nat → Int32) :=
  nm2 (sp_X4_becomes V Hd k1 k0) (fun V_1 Hd_2 => (V_1, Hd_2))
theorem sp_X3_copy_s (V : Nat → Nat → Int32) (Hd : Nat → Nat → Int32) (k0 : Nat) (k1 : Nat) : (nm2 (sp_X4_becomes V Hd k1 k0) (fun V_1 Hd_2 => (V_1, Hd_2))) = sp_X3_copy V Hd k0 k1 := rfl
set_option maxHeartbeats 4000000 in
set_option maxRecDepth 100000 in
theorem c_X3_copy {l : Launch} {D : va_G} {cI cZ cO : ClassId} {sk : Nat → Nat} {g tb : Nat → Int32} {V Hd : Nat → Nat → Int32} {tr : Int64} {k0 : Nat} {k1 : Nat} (hk0 : k0 < 34) (hk1 : k1 < 34) (sz : Nat) : Met l yX3_copy (wm yX3_copy cX3_copy 2 none) ({ frames := 2, cells := 0, slots := 0, locals := 43 } : Room) (GPre D (ty3 cI cZ cO) (WW cI cO sk g tb V Hd tr) [.ref (sk (20 + 2 * k0)), .ref (sk (20 + 2 * k1))] sz) (va_Qv (fun (u : (Nat → Nat → Int32) × (Nat → Nat → Int32)) => u = sp_X3_copy V Hd k0 k1) (fun u t => GAt D (ty3 cI cZ cO) (va_A (WW cI cO sk g tb V Hd tr) sz) (WW cI cO sk g tb u.1 u.2 tr) t) (va_A (WW cI cO sk g tb V Hd tr) sz)) 0 0 (va_A (WW cI cO sk g tb V Hd tr) sz) := by
  refine metQ_v (W1 := (fun (u : (Nat → Nat → Int32) × (Nat → Nat → Int32)) => WW cI cO sk g tb u.1 u.2 tr)) (post := (fun (u : (Nat → Nat → Int32) × (Nat → Nat → Int32)) => u = sp_X3_copy V Hd k0 k1)) (by decide) (Nat.le_of_ble_eq_true rfl) ?_
  intro p e s m args below meth c ls A Q C hsz hP hK hD hS hA hN hl hret
  have hx := C.1
  have hb := C.2.1
  have hl : lv_has ls 2 [(0, .ref (sk (20 + 2 * k0))), (1, .ref (sk (20 + 2 * k1)))] := hl
  have hT := sp_X3_copy_s V Hd k0 k1
  refine lv_aload_n hx hb dX3_copy_0 rfl (lv_at hl 0 rfl) ?_
  refine lv_ifnull hx hb dX3_copy_1 ?_
  refine lv_aload_n hx hb dX3_copy_4 rfl (lv_at hl 1 rfl) ?_
  refine lv_ifnull hx hb dX3_copy_5 ?_
  refine lv_aload_n hx hb dX3_copy_8 rfl (lv_at hl 1 rfl) ?_
  refine lv_aload_n hx hb dX3_copy_9 rfl (lv_at hl 0 rfl) ?_
  refine on_v (run_vQ (As := [.ref (sk (20 + 2 * k0))]) (rest := []) C hK hP hD hN (c_X4_becomes hk1 hk0 _) (rX4_r hK hP hk1) ⟨wd_2_132, wd_2_30, wd_2_31, wd_1_4, wd_2_32⟩ ⟨rfl, rfl⟩ hv_X4_becomes ⟨Nat.le_of_ble_eq_true rfl, Nat.le_of_ble_eq_true rfl⟩ rfl hl.1 rfl (Nat.le_of_ble_eq_true rfl) dX3_copy_10 ⟨Nat.zero_le _, Nat.zero_le _⟩) hD hS hA (fun u H locs hp_3 hP hD hS => ?_)
  obtain ⟨V_1, Hd_2⟩ := u
  have hP : va_P D vwCl (WW cI cO sk g tb V_1 Hd_2 tr) H := hP
  have hD : va_D A (WW cI cO sk g tb V_1 Hd_2 tr) := hD
  have hT := nm2_u hp_3 hT
  exact hret (V_1, Hd_2) _ _ _ _ hT hP hD hS dX3_copy_13
theorem hv_X3_dropOldest : yX3_dropOldest.cls = RX3 ∧ yX3_dropOldest.cls ≠ "java/lang/invoke/MethodHandle" ∧ yX3_dropOldest.cls ≠ "java/lang/invoke/VarHandle" ∧ (parseMethodDescriptor yX3_dropOldest.desc).map (fun d => d.parameters.length) = some 0 := by decide +kernel
theorem hd_X3_dropOldest : yX3_dropOldest.cls ≠ "java/lang/invoke/MethodHandle" ∧ yX3_dropOldest.cls ≠ "java/lang/invoke/VarHandle" ∧ (parseMethodDescriptor yX3_dropOldest.desc).map (fun d => d.parameters.length) = some 0 := hv_X3_dropOldest.2
def lp_X3_dropOldest_2 (q : Nat) : Nat → Int32 → (Nat → Nat → Int32) → (Nat → Nat → Int32) → (Nat → Nat → Int32) × (Nat → Nat → Int32)
  | 0, y_1, V_2, Hd_3 => (V_2, Hd_3)
  | n + 1, y_1, V_2, Hd_3 => if (10 : Int32) ≤ y_1 then (V_2, Hd_3) else (nm2 (sp_X3_copy V_2 Hd_3 (11 * q + y_1.toNatClampNeg) (11 * q + (y_1 - (1 : Int32)).toNatClampNeg)) (fun V_7 Hd_8 => lp_X3_dropOldest_2 q n (y_1 + 1) V_7 Hd_8))
theorem lp_X3_dropOldest_2_s (q : Nat) (n : Nat) (y_1 : Int32) (V_2 : Nat → Nat → Int32) (Hd_3 : Nat → Nat → Int32) : (if (10 : Int32) ≤ y_1 then (V_2, Hd_3) else (nm2 (sp_X3_copy V_2 Hd_3 (11 * q + y_1.toNatClampNeg) (11 * q + (y_1 - (1 : Int32)).toNatClampNeg)) (fun V_7 Hd_8 => lp_X3_dropOldest_2 q n (y_1 + 1) V_7 Hd_8))) = lp_X3_dropOldest_2 q (n + 1) y_1 V_2 Hd_3 := rfl
def sp_X3_dropOldest (g : Nat → Int32) (V : Nat → Nat → Int32) (Hd : Nat → Nat → Int32) (q : Nat) : (Nat → Int32) × (Nat → Nat → Int32) × (Nat → Nat → Int32) :=
  nm2 (lp_X3_dropOldest_2 q (((10 : Int32).toInt - (1 : Int32).toInt).toNat + 1) (1 : Int32) V Hd) (fun e_4 e_5 => (upd g (7 + q) ((10 : Int32) - (1 : Int32)), e_4, e_5))
theorem sp_X3_dropOldest_s (g : Nat → Int32) (V : Nat → Nat → Int32) (Hd : Nat → Nat → Int32) (q : Nat) : (nm2 (lp_X3_dropOldest_2 q (((10 : Int32).toInt - (1 : Int32).toInt).toNat + 1) (1 : Int32) V Hd) (fun e_4 e_5 => (upd g (7 + q) ((10 : Int32) - (1 : Int32)), e_4, e_5))) = sp_X3_dropOldest g V Hd q := rfl
set_option maxHeartbeats 4000000 in
set_option maxRecDepth 100000 in
theorem c_X3_dropOldest {l : Launch} {D : va_G} {cI cZ cO : ClassId} {sk : Nat → Nat} {g tb : Nat → Int32} {V Hd : Nat → Nat → Int32} {tr : Int64} {q : Nat} (hq : q < 3) (sz : Nat) : Met l yX3_dropOldest (wm yX3_dropOldest cX3_dropOldest 2 none) ({ frames := 3, cells := 0, slots := 0, locals := 64 } : Room) (GPre D (ty3 cI cZ cO) (WW cI cO sk g tb V Hd tr) [.ref (sk (4 + q))] sz) (va_Qv (fun (u : (Nat → Int32) × (Nat → Nat → Int32) × (Nat → Nat → Int32)) => u = sp_X3_dropOldest g V Hd q) (fun u t => GAt D (ty3 cI cZ cO) (va_A (WW cI cO sk g tb V Hd tr) sz) (WW cI cO sk u.1 tb u.2.1 u.2.2 tr) t) (va_A (WW cI cO sk g tb V Hd tr) sz)) 0 0 (va_A (WW cI cO sk g tb V Hd tr) sz) := by
  refine metQ_v (W1 := (fun (u : (Nat → Int32) × (Nat → Nat → Int32) × (Nat → Nat → Int32)) => WW cI cO sk u.1 tb u.2.1 u.2.2 tr)) (post := (fun (u : (Nat → Int32) × (Nat → Nat → Int32) × (Nat → Nat → Int32)) => u = sp_X3_dropOldest g V Hd q)) (by decide) (Nat.le_of_ble_eq_true rfl) ?_
  intro p e s m args below meth c ls A Q C hsz hP hK hD hS hA hN hl hret
  have hx := C.1
  have hb := C.2.1
  have hl : lv_has ls 2 [(0, .ref (sk (4 + q)))] := hl
  have hT := sp_X3_dropOldest_s g V Hd q
  refine lv_iconst (v := 1) hx hb dX3_dropOldest_0 (by decide) ?_
  refine lv_istore_n (lv' := [(1, .int (1 : Int32)), (0, .ref (sk (4 + q)))]) hx hb dX3_dropOldest_1 rfl hl (by decide) rfl (fun ls hl => ?_)
  have L_2 : ∀ (n : Nat) (ls : Array Slot) (y_1 : Int32) (V_2 : Nat → Nat → Int32) (Hd_3 : Nat → Nat → Int32) (z1 : 1 ≤ y_1.toInt) (hm : ((10 : Int32).toInt - y_1.toInt).toNat < n) (H : Heap) (locs : List Loc) (hP : va_P D vwCl (WW cI cO sk g tb V_2 Hd_3 tr) H) (hD : va_D A (WW cI cO sk g tb V_2 Hd_3 tr)) (hS : va_S A s.heap H locs) (hl : lv_has ls 2 [(0, .ref (sk (4 + q))), (1, .int y_1)]) (kont : ∀ (ls : Array Slot) (e_4 : Nat → Nat → Int32) (e_5 : Nat → Nat → Int32) (H : Heap) (locs : List Loc), va_P D vwCl (WW cI cO sk g tb e_4 e_5 tr) H → va_D A (WW cI cO sk g tb e_4 e_5 tr) → va_S A s.heap H locs → lv_has ls 2 [(0, .ref (sk (4 + q)))] → (e_4, e_5) = lp_X3_dropOldest_2 q n y_1 V_2 Hd_3 → W p l e ({ frames := 3, cells := 0, slots := 0, locals := 64 } : Room) s m args below meth c H locs 0 0 Q (F0 m 32 ls [])), W p l e ({ frames := 3, cells := 0, slots := 0, locals := 64 } : Room) s m args below meth c H locs 0 0 Q (F0 m 2 ls []) := by
    intro n
    induction n with
    | zero => intro ls y_1 V_2 Hd_3 z1 hm; exact absurd hm (Nat.not_lt_zero _)
    | succ n ih =>
      intro ls y_1 V_2 Hd_3 z1 hm H locs hP hD hS hl kont
      have hT := lp_X3_dropOldest_2_s q n y_1 V_2 Hd_3
      refine lv_iload_n hx hb dX3_dropOldest_2 rfl (lv_at hl 1 rfl) ?_
      refine lv_aload_n hx hb dX3_dropOldest_3 rfl (lv_at hl 0 rfl) ?_
      refine gX3_before C hK hP hq wd_1_112 dX3_dropOldest_4 ?_
      refine lX_before C hK hP hq dX3_dropOldest_7 ?_
      refine lv_icmp_ge (tgt := 32) hx hb dX3_dropOldest_8 (by decide) (fun c_6 => ?_) (fun c_6 => ?_)
      · have hT := it_t c_6 hT
        exact kont ls V_2 Hd_3 H locs hP hD hS (lv_sub hl [0] rfl) hT
      · have hT := it_f c_6 hT
        refine lv_aload_n hx hb dX3_dropOldest_11 rfl (lv_at hl 0 rfl) ?_
        refine lv_iload_n hx hb dX3_dropOldest_12 rfl (lv_at hl 1 rfl) ?_
        refine va_csr (run_vP (As := [.int y_1]) (rest := []) C hK hP hD hN (c_X3_beforeAt hq (ix1 z1 c_6) _) (rX3_r hK hP hq) ⟨wd_2_125, wd_2_127, ws_12, wd_1_5, wd_2_128⟩ ⟨rfl, rfl⟩ hv_X3_beforeAt ⟨Nat.le_of_ble_eq_true rfl, Nat.le_of_ble_eq_true rfl⟩ rfl hl.1 rfl (Nat.le_of_ble_eq_true rfl) dX3_dropOldest_13 ⟨Nat.zero_le _, Nat.zero_le _⟩) (fun _ _ => ?_)
        refine lv_aload_n hx hb dX3_dropOldest_16 rfl (lv_at hl 0 rfl) ?_
        refine lv_iload_n hx hb dX3_dropOldest_17 rfl (lv_at hl 1 rfl) ?_
        refine lv_iconst (v := 1) hx hb dX3_dropOldest_18 (by decide) ?_
        refine lv_isub hx hb dX3_dropOldest_19 ?_
        refine va_csr (run_vP (As := [.int (y_1 - (1 : Int32))]) (rest := [.ref (sk (20 + 2 * (11 * q + y_1.toNatClampNeg)))]) C hK hP hD hN (c_X3_beforeAt hq (ix2 z1 c_6) _) (rX3_r hK hP hq) ⟨wd_2_125, wd_2_127, ws_12, wd_1_5, wd_2_128⟩ ⟨rfl, rfl⟩ hv_X3_beforeAt ⟨Nat.le_of_ble_eq_true rfl, Nat.le_of_ble_eq_true rfl⟩ rfl hl.1 rfl (Nat.le_of_ble_eq_true rfl) dX3_dropOldest_20 ⟨Nat.zero_le _, Nat.zero_le _⟩) (fun _ _ => ?_)
        refine on_v (run_sQ (As := [.ref (sk (20 + 2 * (11 * q + y_1.toNatClampNeg))), .ref (sk (20 + 2 * (11 * q + (y_1 - (1 : Int32)).toNatClampNeg)))]) (rest := []) C hK hP hD hN (c_X3_copy (bf_lt hq (ix1 z1 c_6)) (bf_lt hq (ix2 z1 c_6)) _) ⟨wd_2_129, wd_2_130, wd_1_5, wd_2_131⟩ ⟨rfl, rfl⟩ hd_X3_copy ⟨Nat.le_of_ble_eq_true rfl, Nat.le_of_ble_eq_true rfl⟩ rfl hl.1 rfl (Nat.le_of_ble_eq_true rfl) dX3_dropOldest_23 ⟨Nat.zero_le _, Nat.zero_le _⟩) hD hS hA (fun u H locs hp_9 hP hD hS => ?_)
        obtain ⟨V_7, Hd_8⟩ := u
        have hP : va_P D vwCl (WW cI cO sk g tb V_7 Hd_8 tr) H := hP
        have hD : va_D A (WW cI cO sk g tb V_7 Hd_8 tr) := hD
        have hT := nm2_u hp_9 hT
        refine lv_iinc (v := y_1 + 1) (lv' := [(1, .int (y_1 + 1)), (0, .ref (sk (4 + q)))]) hx hb dX3_dropOldest_26 hl (k := 1) rfl rfl (by decide) rfl (fun ls hl => ?_)
        refine lv_goto (tgt := 2) hx hb dX3_dropOldest_29 (by decide) ?_
        exact ih ls (y_1 + 1) V_7 Hd_8 (up1z c_6 z1) (ms_up c_6 hm) H locs hP hD hS (lv_sub hl [1, 0] rfl) (fun ls z0 z1 H locs hP hD hS hl he => kont ls z0 z1 H locs hP hD hS hl (he.trans hT))
  refine L_2 (((10 : Int32).toInt - (1 : Int32).toInt).toNat + 1) ls (1 : Int32) V Hd (by decide) (Nat.lt_succ_self _) s.heap [] hP hD hS (lv_sub hl [1, 0] rfl) (fun ls e_4 e_5 H locs hP hD hS hl he => ?_)
  have hT := nm2_u he hT
  refine lv_aload_n hx hb dX3_dropOldest_32 rfl (lv_at hl 0 rfl) ?_
  refine lv_aload_n hx hb dX3_dropOldest_33 rfl (lv_at hl 0 rfl) ?_
  refine gX3_before C hK hP hq wd_1_112 dX3_dropOldest_34 ?_
  refine lX_before C hK hP hq dX3_dropOldest_37 ?_
  refine lv_iconst (v := 1) hx hb dX3_dropOldest_38 (by decide) ?_
  refine lv_isub hx hb dX3_dropOldest_39 ?_
  refine pX3_undoable C hK hP hD hS hq wd_1_113 dX3_dropOldest_40 (fun H locs hP hD hS => ?_)
  exact hret (upd g (7 + q) ((10 : Int32) - (1 : Int32)), e_4, e_5) _ _ _ _ hT hP hD hS dX3_dropOldest_43
theorem hv_X3_remember : yX3_remember.cls = RX3 ∧ yX3_remember.cls ≠ "java/lang/invoke/MethodHandle" ∧ yX3_remember.cls ≠ "java/lang/invoke/VarHandle" ∧ (parseMethodDescriptor yX3_remember.desc).map (fun d => d.parameters.length) = some 0 := by decide +kernel
theorem hd_X3_remember : yX3_remember.cls ≠ "java/lang/invoke/MethodHandle" ∧ yX3_remember.cls ≠ "java/lang/invoke/VarHandle" ∧ (parseMethodDescriptor yX3_remember.desc).map (fun d => d.parameters.length) = some 0 := hv_X3_remember.2
def sp_X3_remember (g : Nat → Int32) (V : Nat → Nat → Int32) (Hd : Nat → Nat → Int32) (q : Nat) : (Nat → Int32) × (Nat → Nat → Int32) × (Nat → Nat → Int32) :=
  if (g (7 + q)) < (10 : Int32) then (nm2 (sp_X3_copy V Hd (11 * q + 10) (11 * q + (g (7 + q)).toNatClampNeg)) (fun V_2 Hd_3 => (upd g (7 + q) ((g (7 + q)) + (1 : Int32)), V_2, Hd_3))) else (nm3 (sp_X3_dropOldest g V Hd q) (fun g_5 V_6 Hd_7 => nm2 (sp_X3_copy V_6 Hd_7 (11 * q + 10) (11 * q + (g_5 (7 + q)).toNatClampNeg)) (fun V_9 Hd_10 => (upd g_5 (7 + q) ((g_5 (7 + q)) + (1 : Int32)), V_9, Hd_10))))
theorem sp_X3_remember_s (g : Nat → Int32) (V : Nat → Nat → Int32) (Hd : Nat → Nat → Int32) (q : Nat) : (if (g (7 + q)) < (10 : Int32) then (nm2 (sp_X3_copy V Hd (11 * q + 10) (11 * q + (g (7 + q)).toNatClampNeg)) (fun V_2 Hd_3 => (upd g (7 + q) ((g (7 + q)) + (1 : Int32)), V_2, Hd_3))) else (nm3 (sp_X3_dropOldest g V Hd q) (fun g_5 V_6 Hd_7 => nm2 (sp_X3_copy V_6 Hd_7 (11 * q + 10) (11 * q + (g_5 (7 + q)).toNatClampNeg)) (fun V_9 Hd_10 => (upd g_5 (7 + q) ((g_5 (7 + q)) + (1 : Int32)), V_9, Hd_10))))) = sp_X3_remember g V Hd q := rfl
set_option maxHeartbeats 4000000 in
set_option maxRecDepth 100000 in
theorem c_X3_remember {l : Launch} {D : va_G} {cI cZ cO : ClassId} {sk : Nat → Nat} {g tb : Nat → Int32} {V Hd : Nat → Nat → Int32} {tr : Int64} {q : Nat} (hq : q < 3) (hu : 0 ≤ (g (7 + q)).toInt ∧ (g (7 + q)).toInt ≤ 10) (sz : Nat) : Met l yX3_remember (wm yX3_remember cX3_remember 1 none) ({ frames := 4, cells := 0, slots := 0, locals := 85 } : Room) (GPre D (ty3 cI cZ cO) (WW cI cO sk g tb V Hd tr) [.ref (sk (4 + q))] sz) (va_Qv (fun (u : (Nat → Int32) × (Nat → Nat → Int32) × (Nat → Nat → Int32)) => u = sp_X3_remember g V Hd q) (fun u t => GAt D (ty3 cI cZ cO) (va_A (WW cI cO sk g tb V Hd tr) sz) (WW cI cO sk u.1 tb u.2.1 u.2.2 tr) t) (va_A (WW cI cO sk g tb V Hd tr) sz)) 0 0 (va_A (WW cI cO sk g tb V Hd tr) sz) := by
  refine metQ_v (W1 := (fun (u : (Nat → Int32) × (Nat → Nat → Int32) × (Nat → Nat → Int32)) => WW cI cO sk u.1 tb u.2.1 u.2.2 tr)) (post := (fun (u : (Nat → Int32) × (Nat → Nat → Int32) × (Nat → Nat → Int32)) => u = sp_X3_remember g V Hd q)) (by decide) (Nat.le_of_ble_eq_true rfl) ?_
  intro p e s m args below meth c ls A Q C hsz hP hK hD hS hA hN hl hret
  have hx := C.1
  have hb := C.2.1
  have hl : lv_has ls 1 [(0, .ref (sk (4 + q)))] := hl
  have hT := sp_X3_remember_s g V Hd q
  refine lv_aload_n hx hb dX3_remember_0 rfl (lv_at hl 0 rfl) ?_
  refine gX3_undoable C hK hP hq wd_1_113 dX3_remember_1 ?_
  refine lv_aload_n hx hb dX3_remember_4 rfl (lv_at hl 0 rfl) ?_
  refine gX3_before C hK hP hq wd_1_112 dX3_remember_5 ?_
  refine lX_before C hK hP hq dX3_remember_8 ?_
  refine lv_icmp_lt (tgt := 16) hx hb dX3_remember_9 (by decide) (fun c_1 => ?_) (fun c_1 => ?_)
  · have hT := it_t c_1 hT
    refine lv_aload_n hx hb dX3_remember_16 rfl (lv_at hl 0 rfl) ?_
    refine gX3_present C hK hP hq wd_1_110 dX3_remember_17 ?_
    refine lv_aload_n hx hb dX3_remember_20 rfl (lv_at hl 0 rfl) ?_
    refine lv_aload_n hx hb dX3_remember_21 rfl (lv_at hl 0 rfl) ?_
    refine gX3_undoable C hK hP hq wd_1_113 dX3_remember_22 ?_
    refine va_csr (run_vP (As := [.int (g (7 + q))]) (rest := [.ref (sk (20 + 2 * (11 * q + 10)))]) C hK hP hD hN (c_X3_beforeAt hq (ix_hu hu c_1) _) (rX3_r hK hP hq) ⟨wd_2_125, wd_2_127, ws_12, wd_1_5, wd_2_128⟩ ⟨rfl, rfl⟩ hv_X3_beforeAt ⟨Nat.le_of_ble_eq_true rfl, Nat.le_of_ble_eq_true rfl⟩ rfl hl.1 rfl (Nat.le_of_ble_eq_true rfl) dX3_remember_25 ⟨Nat.zero_le _, Nat.zero_le _⟩) (fun _ _ => ?_)
    refine on_v (run_sQ (As := [.ref (sk (20 + 2 * (11 * q + 10))), .ref (sk (20 + 2 * (11 * q + (g (7 + q)).toNatClampNeg)))]) (rest := []) C hK hP hD hN (c_X3_copy (by omega) (bf_lt hq (ix_hu hu c_1)) _) ⟨wd_2_129, wd_2_130, wd_1_5, wd_2_131⟩ ⟨rfl, rfl⟩ hd_X3_copy ⟨Nat.le_of_ble_eq_true rfl, Nat.le_of_ble_eq_true rfl⟩ rfl hl.1 rfl (Nat.le_of_ble_eq_true rfl) dX3_remember_28 ⟨Nat.zero_le _, Nat.zero_le _⟩) hD hS hA (fun u H locs hp_4 hP hD hS => ?_)
    obtain ⟨V_2, Hd_3⟩ := u
    have hP : va_P D vwCl (WW cI cO sk g tb V_2 Hd_3 tr) H := hP
    have hD : va_D A (WW cI cO sk g tb V_2 Hd_3 tr) := hD
    have hT := nm2_u hp_4 hT
    refine lv_aload_n hx hb dX3_remember_31 rfl (lv_at hl 0 rfl) ?_
    refine lv_dup hx hb dX3_remember_32 rfl ?_
    refine gX3_undoable C hK hP hq wd_1_113 dX3_remember_33 ?_
    refine lv_iconst (v := 1) hx hb dX3_remember_36 (by decide) ?_
    refine lv_iadd hx hb dX3_remember_37 ?_
    refine pX3_undoable C hK hP hD hS hq wd_1_113 dX3_remember_38 (fun H locs hP hD hS => ?_)
    exact hret (upd g (7 + q) ((g (7 + q)) + (1 : Int32)), V_2, Hd_3) _ _ _ _ hT hP hD hS dX3_remember_41
  · have hT := it_f c_1 hT
    refine lv_aload_n hx hb dX3_remember_12 rfl (lv_at hl 0 rfl) ?_
    refine on_v (run_vQ (As := []) (rest := []) C hK hP hD hN (c_X3_dropOldest hq _) (rX3_r hK hP hq) ⟨wd_2_121, wd_2_123, ws_11, wd_1_5, wd_2_124⟩ ⟨rfl, rfl⟩ hv_X3_dropOldest ⟨Nat.le_of_ble_eq_true rfl, Nat.le_of_ble_eq_true rfl⟩ rfl hl.1 rfl (Nat.le_of_ble_eq_true rfl) dX3_remember_13 ⟨Nat.zero_le _, Nat.zero_le _⟩) hD hS hA (fun u H locs hp_8 hP hD hS => ?_)
    obtain ⟨g_5, V_6, Hd_7⟩ := u
    have hP : va_P D vwCl (WW cI cO sk g_5 tb V_6 Hd_7 tr) H := hP
    have hD : va_D A (WW cI cO sk g_5 tb V_6 Hd_7 tr) := hD
    have hT := nm3_u hp_8 hT
    have eg9 : g_5 (7 + q) = 9 := (congrArg (fun z => z.1 (7 + q)) hp_8).trans (by show upd g (7 + q) ((10 : Int32) - 1) (7 + q) = 9; rw [pk_us]; rfl)
    refine lv_aload_n hx hb dX3_remember_16 rfl (lv_at hl 0 rfl) ?_
    refine gX3_present C hK hP hq wd_1_110 dX3_remember_17 ?_
    refine lv_aload_n hx hb dX3_remember_20 rfl (lv_at hl 0 rfl) ?_
    refine lv_aload_n hx hb dX3_remember_21 rfl (lv_at hl 0 rfl) ?_
    refine gX3_undoable C hK hP hq wd_1_113 dX3_remember_22 ?_
    refine va_csr (run_vP (As := [.int (g_5 (7 + q))]) (rest := [.ref (sk (20 + 2 * (11 * q + 10)))]) C hK hP hD hN (c_X3_beforeAt hq (by rw [eg9]; exact ix_of (by decide) (by decide)) _) (rX3_r hK hP hq) ⟨wd_2_125, wd_2_127, ws_12, wd_1_5, wd_2_128⟩ ⟨rfl, rfl⟩ hv_X3_beforeAt ⟨Nat.le_of_ble_eq_true rfl, Nat.le_of_ble_eq_true rfl⟩ rfl hl.1 rfl (Nat.le_of_ble_eq_true rfl) dX3_remember_25 ⟨Nat.zero_le _, Nat.zero_le _⟩) (fun _ _ => ?_)
    refine on_v (run_sQ (As := [.ref (sk (20 + 2 * (11 * q + 10))), .ref (sk (20 + 2 * (11 * q + (g_5 (7 + q)).toNatClampNeg)))]) (rest := []) C hK hP hD hN (c_X3_copy (by omega) (bf_lt hq (by rw [eg9]; exact ix_of (by decide) (by decide))) _) ⟨wd_2_129, wd_2_130, wd_1_5, wd_2_131⟩ ⟨rfl, rfl⟩ hd_X3_copy ⟨Nat.le_of_ble_eq_true rfl, Nat.le_of_ble_eq_true rfl⟩ rfl hl.1 rfl (Nat.le_of_ble_eq_true rfl) dX3_remember_28 ⟨Nat.zero_le _, Nat.zero_le _⟩) hD hS hA (fun u H locs hp_11 hP hD hS => ?_)
    obtain ⟨V_9, Hd_10⟩ := u
    have hP : va_P D vwCl (WW cI cO sk g_5 tb V_9 Hd_10 tr) H := hP
    have hD : va_D A (WW cI cO sk g_5 tb V_9 Hd_10 tr) := hD
    have hT := nm2_u hp_11 hT
    refine lv_aload_n hx hb dX3_remember_31 rfl (lv_at hl 0 rfl) ?_
    refine lv_dup hx hb dX3_remember_32 rfl ?_
    refine gX3_undoable C hK hP hq wd_1_113 dX3_remember_33 ?_
    refine lv_iconst (v := 1) hx hb dX3_remember_36 (by decide) ?_
    refine lv_iadd hx hb dX3_remember_37 ?_
    refine pX3_undoable C hK hP hD hS hq wd_1_113 dX3_remember_38 (fun H locs hP hD hS => ?_)
    exact hret (upd g_5 (7 + q) ((g_5 (7 + q)) + (1 : Int32)), V_9, Hd_10) _ _ _ _ hT hP hD hS dX3_remember_41
theorem hv_X3_goBack : yX3_goBack.cls = RX3 ∧ yX3_goBack.cls ≠ "java/lang/invoke/MethodHandle" ∧ yX3_goBack.cls ≠ "java/lang/invoke/VarHandle" ∧ (parseMethodDescriptor yX3_goBack.desc).map (fun d => d.parameters.length) = some 0 := by decide +kernel
theorem hd_X3_goBack : yX3_goBack.cls ≠ "java/lang/invoke/MethodHandle" ∧ yX3_goBack.cls ≠ "java/lang/invoke/VarHandle" ∧ (parseMethodDescriptor yX3_goBack.desc).map (fun d => d.parameters.length) = some 0 := hv_X3_goBack.2
def sp_X3_goBack (g : Nat → Int32) (V : Nat → Nat → Int32) (Hd : Nat → Nat → Int32) (q : Nat) : Int32 × (Nat → Int32) × (Nat → Nat → Int32) × (Nat → Nat → Int32) :=
  if 0 < (g (7 + q)) then (nm2 (sp_X3_copy V Hd (11 * q + ((upd g (7 + q) ((g (7 + q)) - (1 : Int32))) (7 + q)).toNatClampNeg) (11 * q + 10)) (fun V_2 Hd_3 => ((1 : Int32), upd g (7 + q) ((g (7 + q)) - (1 : Int32)), V_2, Hd_3))) else ((0 : Int32), g, V, Hd)
theorem sp_X3_goBack_s (g : Nat → Int32) (V : Nat → Nat → Int32) (Hd : Nat → Nat → Int32) (q : Nat) : (if 0 < (g (7 + q)) then (nm2 (sp_X3_copy V Hd (11 * q + ((upd g (7 + q) ((g (7 + q)) - (1 : Int32))) (7 + q)).toNatClampNeg) (11 * q + 10)) (fun V_2 Hd_3 => ((1 : Int32), upd g (7 + q) ((g (7 + q)) - (1 : Int32)), V_2, Hd_3))) else ((0 : Int32), g, V, Hd)) = sp_X3_goBack g V Hd q := rfl
set_option maxHeartbeats 4000000 in
set_option maxRecDepth 100000 in
theorem c_X3_goBack {l : Launch} {D : va_G} {cI cZ cO : ClassId} {sk : Nat → Nat} {g tb : Nat → Int32} {V Hd : Nat → Nat → Int32} {tr : Int64} {q : Nat} (hq : q < 3) (hu : 0 ≤ (g (7 + q)).toInt ∧ (g (7 + q)).toInt ≤ 10) (sz : Nat) : Met l yX3_goBack (wm yX3_goBack cX3_goBack 1 (some .boolean)) ({ frames := 3, cells := 0, slots := 0, locals := 64 } : Room) (GPre D (ty3 cI cZ cO) (WW cI cO sk g tb V Hd tr) [.ref (sk (4 + q))] sz) (va_Qi (fun r (u : (Nat → Int32) × (Nat → Nat → Int32) × (Nat → Nat → Int32)) => (r, u) = sp_X3_goBack g V Hd q ∧ (r = 0 ∨ r = 1)) (fun u t => GAt D (ty3 cI cZ cO) (va_A (WW cI cO sk g tb V Hd tr) sz) (WW cI cO sk u.1 tb u.2.1 u.2.2 tr) t) (va_A (WW cI cO sk g tb V Hd tr) sz)) 0 0 (va_A (WW cI cO sk g tb V Hd tr) sz) := by
  refine metQ_z (W1 := (fun (u : (Nat → Int32) × (Nat → Nat → Int32) × (Nat → Nat → Int32)) => WW cI cO sk u.1 tb u.2.1 u.2.2 tr)) (post := (fun r (u : (Nat → Int32) × (Nat → Nat → Int32) × (Nat → Nat → Int32)) => (r, u) = sp_X3_goBack g V Hd q)) (by decide) (Nat.le_of_ble_eq_true rfl) ?_
  intro p e s m args below meth c ls A Q C hsz hP hK hD hS hA hN hl hret
  have hx := C.1
  have hb := C.2.1
  have hl : lv_has ls 1 [(0, .ref (sk (4 + q)))] := hl
  have hT := sp_X3_goBack_s g V Hd q
  refine lv_aload_n hx hb dX3_goBack_0 rfl (lv_at hl 0 rfl) ?_
  refine gX3_undoable C hK hP hq wd_1_113 dX3_goBack_1 ?_
  refine lv_if_gt (tgt := 9) hx hb dX3_goBack_4 (by decide) (fun c_1 => ?_) (fun c_1 => ?_)
  · have hT := it_t c_1 hT
    refine lv_aload_n hx hb dX3_goBack_9 rfl (lv_at hl 0 rfl) ?_
    refine lv_dup hx hb dX3_goBack_10 rfl ?_
    refine gX3_undoable C hK hP hq wd_1_113 dX3_goBack_11 ?_
    refine lv_iconst (v := 1) hx hb dX3_goBack_14 (by decide) ?_
    refine lv_isub hx hb dX3_goBack_15 ?_
    refine pX3_undoable C hK hP hD hS hq wd_1_113 dX3_goBack_16 (fun H locs hP hD hS => ?_)
    refine lv_aload_n hx hb dX3_goBack_19 rfl (lv_at hl 0 rfl) ?_
    refine lv_aload_n hx hb dX3_goBack_20 rfl (lv_at hl 0 rfl) ?_
    refine gX3_undoable C hK hP hq wd_1_113 dX3_goBack_21 ?_
    refine va_csr (run_vP (As := [.int ((upd g (7 + q) ((g (7 + q)) - (1 : Int32))) (7 + q))]) (rest := []) C hK hP hD hN (c_X3_beforeAt hq (by rw [pk_us]; exact ix_dec hu c_1) _) (rX3_r hK hP hq) ⟨wd_2_125, wd_2_127, ws_12, wd_1_5, wd_2_128⟩ ⟨rfl, rfl⟩ hv_X3_beforeAt ⟨Nat.le_of_ble_eq_true rfl, Nat.le_of_ble_eq_true rfl⟩ rfl hl.1 rfl (Nat.le_of_ble_eq_true rfl) dX3_goBack_24 ⟨Nat.zero_le _, Nat.zero_le _⟩) (fun _ _ => ?_)
    refine lv_aload_n hx hb dX3_goBack_27 rfl (lv_at hl 0 rfl) ?_
    refine gX3_present C hK hP hq wd_1_110 dX3_goBack_28 ?_
    refine on_v (run_sQ (As := [.ref (sk (20 + 2 * (11 * q + ((upd g (7 + q) ((g (7 + q)) - (1 : Int32))) (7 + q)).toNatClampNeg))), .ref (sk (20 + 2 * (11 * q + 10)))]) (rest := []) C hK hP hD hN (c_X3_copy (bf_lt hq (by rw [pk_us]; exact ix_dec hu c_1)) (by omega) _) ⟨wd_2_129, wd_2_130, wd_1_5, wd_2_131⟩ ⟨rfl, rfl⟩ hd_X3_copy ⟨Nat.le_of_ble_eq_true rfl, Nat.le_of_ble_eq_true rfl⟩ rfl hl.1 rfl (Nat.le_of_ble_eq_true rfl) dX3_goBack_31 ⟨Nat.zero_le _, Nat.zero_le _⟩) hD hS hA (fun u H locs hp_4 hP hD hS => ?_)
    obtain ⟨V_2, Hd_3⟩ := u
    have hP : va_P D vwCl (WW cI cO sk (upd g (7 + q) ((g (7 + q)) - (1 : Int32))) tb V_2 Hd_3 tr) H := hP
    have hD : va_D A (WW cI cO sk (upd g (7 + q) ((g (7 + q)) - (1 : Int32))) tb V_2 Hd_3 tr) := hD
    have hT := nm2_u hp_4 hT
    refine lv_iconst (v := 1) hx hb dX3_goBack_34 (by decide) ?_
    exact hret _ (upd g (7 + q) ((g (7 + q)) - (1 : Int32)), V_2, Hd_3) _ _ _ _ ⟨hT, (Or.inr rfl)⟩ hP hD hS dX3_goBack_35
  · have hT := it_f c_1 hT
    refine lv_iconst (v := 0) hx hb dX3_goBack_7 (by decide) ?_
    exact hret _ (g, V, Hd) _ _ _ _ ⟨hT, (Or.inl rfl)⟩ hP hD hS dX3_goBack_8
theorem hv_X3_becomes : yX3_becomes.cls = RX3 ∧ yX3_becomes.cls ≠ "java/lang/invoke/MethodHandle" ∧ yX3_becomes.cls ≠ "java/lang/invoke/VarHandle" ∧ (parseMethodDescriptor yX3_becomes.desc).map (fun d => d.parameters.length) = some 1 := by decide +kernel
theorem hd_X3_becomes : yX3_becomes.cls ≠ "java/lang/invoke/MethodHandle" ∧ yX3_becomes.cls ≠ "java/lang/invoke/VarHandle" ∧ (parseMethodDescriptor yX3_becomes.desc).map (fun d => d.parameters.length) = some 1 := hv_X3_becomes.2
def lp_X3_becomes_13 (q : Nat) (q0 : Nat) : Nat → Int32 → (Nat → Nat → Int32) → (Nat → Nat → Int32) → (Nat → Nat → Int32) × (Nat → Nat → Int32)
  | 0, y_4, V_5, Hd_6 => (V_5, Hd_6)
  | n + 1, y_4, V_5, Hd_6 => if (10 : Int32) ≤ y_4 then (V_5, Hd_6) else (nm2 (sp_X3_copy V_5 Hd_6 (11 * q0 + y_4.toNatClampNeg) (11 * q + y_4.toNatClampNeg)) (fun V_10 Hd_11 => lp_X3_becomes_13 q q0 n (y_4 + 1) V_10 Hd_11))
theorem lp_X3_becomes_13_s (q : Nat) (q0 : Nat) (n : Nat) (y_4 : Int32) (V_5 : Nat → Nat → Int32) (Hd_6 : Nat → Nat → Int32) : (if (10 : Int32) ≤ y_4 then (V_5, Hd_6) else (nm2 (sp_X3_copy V_5 Hd_6 (11 * q0 + y_4.toNatClampNeg) (11 * q + y_4.toNatClampNeg)) (fun V_10 Hd_11 => lp_X3_becomes_13 q q0 n (y_4 + 1) V_10 Hd_11))) = lp_X3_becomes_13 q q0 (n + 1) y_4 V_5 Hd_6 := rfl
def sp_X3_becomes (g : Nat → Int32) (V : Nat → Nat → Int32) (Hd : Nat → Nat → Int32) (q : Nat) (q0 : Nat) : (Nat → Int32) × (Nat → Nat → Int32) × (Nat → Nat → Int32) :=
  nm2 (sp_X4_becomes V Hd (11 * q + 10) (11 * q0 + 10)) (fun V_1 Hd_2 => nm2 (lp_X3_becomes_13 q q0 (((10 : Int32).toInt - (0 : Int32).toInt).toNat + 1) (0 : Int32) V_1 Hd_2) (fun e_7 e_8 => (upd g (7 + q) (g (7 + q0)), e_7, e_8)))
theorem sp_X3_becomes_s (g : Nat → Int32) (V : Nat → Nat → Int32) (Hd : Nat → Nat → Int32) (q : Nat) (q0 : Nat) : (nm2 (sp_X4_becomes V Hd (11 * q + 10) (11 * q0 + 10)) (fun V_1 Hd_2 => nm2 (lp_X3_becomes_13 q q0 (((10 : Int32).toInt - (0 : Int32).toInt).toNat + 1) (0 : Int32) V_1 Hd_2) (fun e_7 e_8 => (upd g (7 + q) (g (7 + q0)), e_7, e_8)))) = sp_X3_becomes g V Hd q q0 := rfl
set_option maxHeartbeats 4000000 in
set_option maxRecDepth 100000 in
theorem c_X3_becomes {l : Launch} {D : va_G} {cI cZ cO : ClassId} {sk : Nat → Nat} {g tb : Nat → Int32} {V Hd : Nat → Nat → Int32} {tr : Int64} {q : Nat} {q0 : Nat} (hq : q < 3) (hq0 : q0 < 3) (sz : Nat) : Met l yX3_becomes (wm yX3_becomes cX3_becomes 3 none) ({ frames := 3, cells := 0, slots := 0, locals := 64 } : Room) (GPre D (ty3 cI cZ cO) (WW cI cO sk g tb V Hd tr) [.ref (sk (4 + q)), .ref (sk (4 + q0))] sz) (va_Qv (fun (u : (Nat → Int32) × (Nat → Nat → Int32) × (Nat → Nat → Int32)) => u = sp_X3_becomes g V Hd q q0) (fun u t => GAt D (ty3 cI cZ cO) (va_A (WW cI cO sk g tb V Hd tr) sz) (WW cI cO sk u.1 tb u.2.1 u.2.2 tr) t) (va_A (WW cI cO sk g tb V Hd tr) sz)) 0 0 (va_A (WW cI cO sk g tb V Hd tr) sz) := by
  refine metQ_v (W1 := (fun (u : (Nat → Int32) × (Nat → Nat → Int32) × (Nat → Nat → Int32)) => WW cI cO sk u.1 tb u.2.1 u.2.2 tr)) (post := (fun (u : (Nat → Int32) × (Nat → Nat → Int32) × (Nat → Nat → Int32)) => u = sp_X3_becomes g V Hd q q0)) (by decide) (Nat.le_of_ble_eq_true rfl) ?_
  intro p e s m args below meth c ls A Q C hsz hP hK hD hS hA hN hl hret
  have hx := C.1
  have hb := C.2.1
  have hl : lv_has ls 3 [(0, .ref (sk (4 + q))), (1, .ref (sk (4 + q0)))] := hl
  have hT := sp_X3_becomes_s g V Hd q q0
  refine lv_aload_n hx hb dX3_becomes_0 rfl (lv_at hl 0 rfl) ?_
  refine gX3_present C hK hP hq wd_1_110 dX3_becomes_1 ?_
  refine lv_aload_n hx hb dX3_becomes_4 rfl (lv_at hl 1 rfl) ?_
  refine gX3_present C hK hP hq0 wd_1_110 dX3_becomes_5 ?_
  refine on_v (run_vQ (As := [.ref (sk (20 + 2 * (11 * q0 + 10)))]) (rest := []) C hK hP hD hN (c_X4_becomes (by omega) (by omega) _) (rX4_r hK hP (by omega)) ⟨wd_2_132, wd_2_30, wd_2_31, wd_1_4, wd_2_32⟩ ⟨rfl, rfl⟩ hv_X4_becomes ⟨Nat.le_of_ble_eq_true rfl, Nat.le_of_ble_eq_true rfl⟩ rfl hl.1 rfl (Nat.le_of_ble_eq_true rfl) dX3_becomes_8 ⟨Nat.zero_le _, Nat.zero_le _⟩) hD hS hA (fun u H locs hp_3 hP hD hS => ?_)
  obtain ⟨V_1, Hd_2⟩ := u
  have hP : va_P D vwCl (WW cI cO sk g tb V_1 Hd_2 tr) H := hP
  have hD : va_D A (WW cI cO sk g tb V_1 Hd_2 tr) := hD
  have hT := nm2_u hp_3 hT
  refine lv_iconst (v := 0) hx hb dX3_becomes_11 (by decide) ?_
  refine lv_istore_n (lv' := [(2, .int (0 : Int32)), (0, .ref (sk (4 + q))), (1, .ref (sk (4 + q0)))]) hx hb dX3_becomes_12 rfl hl (by decide) rfl (fun ls hl => ?_)
  have L_13 : ∀ (n : Nat) (ls : Array Slot) (y_4 : Int32) (V_5 : Nat → Nat → Int32) (Hd_6 : Nat → Nat → Int32) (z2 : 0 ≤ y_4.toInt) (hm : ((10 : Int32).toInt - y_4.toInt).toNat < n) (H : Heap) (locs : List Loc) (hP : va_P D vwCl (WW cI cO sk g tb V_5 Hd_6 tr) H) (hD : va_D A (WW cI cO sk g tb V_5 Hd_6 tr)) (hS : va_S A s.heap H locs) (hl : lv_has ls 3 [(0, .ref (sk (4 + q))), (1, .ref (sk (4 + q0))), (2, .int y_4)]) (kont : ∀ (ls : Array Slot) (e_7 : Nat → Nat → Int32) (e_8 : Nat → Nat → Int32) (H : Heap) (locs : List Loc), va_P D vwCl (WW cI cO sk g tb e_7 e_8 tr) H → va_D A (WW cI cO sk g tb e_7 e_8 tr) → va_S A s.heap H locs → lv_has ls 3 [(0, .ref (sk (4 + q))), (1, .ref (sk (4 + q0)))] → (e_7, e_8) = lp_X3_becomes_13 q q0 n y_4 V_5 Hd_6 → W p l e ({ frames := 3, cells := 0, slots := 0, locals := 64 } : Room) s m args below meth c H locs 0 0 Q (F0 m 41 ls [])), W p l e ({ frames := 3, cells := 0, slots := 0, locals := 64 } : Room) s m args below meth c H locs 0 0 Q (F0 m 13 ls []) := by
    intro n
    induction n with
    | zero => intro ls y_4 V_5 Hd_6 z2 hm; exact absurd hm (Nat.not_lt_zero _)
    | succ n ih =>
      intro ls y_4 V_5 Hd_6 z2 hm H locs hP hD hS hl kont
      have hT := lp_X3_becomes_13_s q q0 n y_4 V_5 Hd_6
      refine lv_iload_n hx hb dX3_becomes_13 rfl (lv_at hl 2 rfl) ?_
      refine lv_aload_n hx hb dX3_becomes_14 rfl (lv_at hl 0 rfl) ?_
      refine gX3_before C hK hP hq wd_1_112 dX3_becomes_15 ?_
      refine lX_before C hK hP hq dX3_becomes_18 ?_
      refine lv_icmp_ge (tgt := 41) hx hb dX3_becomes_19 (by decide) (fun c_9 => ?_) (fun c_9 => ?_)
      · have hT := it_t c_9 hT
        exact kont ls V_5 Hd_6 H locs hP hD hS (lv_sub hl [0, 1] rfl) hT
      · have hT := it_f c_9 hT
        refine lv_aload_n hx hb dX3_becomes_22 rfl (lv_at hl 1 rfl) ?_
        refine lv_iload_n hx hb dX3_becomes_23 rfl (lv_at hl 2 rfl) ?_
        refine va_csr (run_vP (As := [.int y_4]) (rest := []) C hK hP hD hN (c_X3_beforeAt hq0 (ix_inv_nle z2 c_9) _) (rX3_r hK hP hq0) ⟨wd_2_125, wd_2_127, ws_12, wd_1_5, wd_2_128⟩ ⟨rfl, rfl⟩ hv_X3_beforeAt ⟨Nat.le_of_ble_eq_true rfl, Nat.le_of_ble_eq_true rfl⟩ rfl hl.1 rfl (Nat.le_of_ble_eq_true rfl) dX3_becomes_24 ⟨Nat.zero_le _, Nat.zero_le _⟩) (fun _ _ => ?_)
        refine lv_aload_n hx hb dX3_becomes_27 rfl (lv_at hl 0 rfl) ?_
        refine lv_iload_n hx hb dX3_becomes_28 rfl (lv_at hl 2 rfl) ?_
        refine va_csr (run_vP (As := [.int y_4]) (rest := [.ref (sk (20 + 2 * (11 * q0 + y_4.toNatClampNeg)))]) C hK hP hD hN (c_X3_beforeAt hq (ix_inv_nle z2 c_9) _) (rX3_r hK hP hq) ⟨wd_2_125, wd_2_127, ws_12, wd_1_5, wd_2_128⟩ ⟨rfl, rfl⟩ hv_X3_beforeAt ⟨Nat.le_of_ble_eq_true rfl, Nat.le_of_ble_eq_true rfl⟩ rfl hl.1 rfl (Nat.le_of_ble_eq_true rfl) dX3_becomes_29 ⟨Nat.zero_le _, Nat.zero_le _⟩) (fun _ _ => ?_)
        refine on_v (run_sQ (As := [.ref (sk (20 + 2 * (11 * q0 + y_4.toNatClampNeg))), .ref (sk (20 + 2 * (11 * q + y_4.toNatClampNeg)))]) (rest := []) C hK hP hD hN (c_X3_copy (bf_lt hq0 (ix_inv_nle z2 c_9)) (bf_lt hq (ix_inv_nle z2 c_9)) _) ⟨wd_2_129, wd_2_130, wd_1_5, wd_2_131⟩ ⟨rfl, rfl⟩ hd_X3_copy ⟨Nat.le_of_ble_eq_true rfl, Nat.le_of_ble_eq_true rfl⟩ rfl hl.1 rfl (Nat.le_of_ble_eq_true rfl) dX3_becomes_32 ⟨Nat.zero_le _, Nat.zero_le _⟩) hD hS hA (fun u H locs hp_12 hP hD hS => ?_)
        obtain ⟨V_10, Hd_11⟩ := u
        have hP : va_P D vwCl (WW cI cO sk g tb V_10 Hd_11 tr) H := hP
        have hD : va_D A (WW cI cO sk g tb V_10 Hd_11 tr) := hD
        have hT := nm2_u hp_12 hT
        refine lv_iinc (v := y_4 + 1) (lv' := [(2, .int (y_4 + 1)), (0, .ref (sk (4 + q))), (1, .ref (sk (4 + q0)))]) hx hb dX3_becomes_35 hl (k := 2) rfl rfl (by decide) rfl (fun ls hl => ?_)
        refine lv_goto (tgt := 13) hx hb dX3_becomes_38 (by decide) ?_
        exact ih ls (y_4 + 1) V_10 Hd_11 (up0 c_9 z2) (ms_up c_9 hm) H locs hP hD hS (lv_sub hl [1, 2, 0] rfl) (fun ls z0 z1 H locs hP hD hS hl he => kont ls z0 z1 H locs hP hD hS hl (he.trans hT))
  refine L_13 (((10 : Int32).toInt - (0 : Int32).toInt).toNat + 1) ls (0 : Int32) V_1 Hd_2 (by decide) (Nat.lt_succ_self _) H locs hP hD hS (lv_sub hl [1, 2, 0] rfl) (fun ls e_7 e_8 H locs hP hD hS hl he => ?_)
  have hT := nm2_u he hT
  refine lv_aload_n hx hb dX3_becomes_41 rfl (lv_at hl 0 rfl) ?_
  refine lv_aload_n hx hb dX3_becomes_42 rfl (lv_at hl 1 rfl) ?_
  refine gX3_undoable C hK hP hq0 wd_1_113 dX3_becomes_43 ?_
  refine pX3_undoable C hK hP hD hS hq wd_1_113 dX3_becomes_46 (fun H locs hP hD hS => ?_)
  exact hret (upd g (7 + q) (g (7 + q0)), e_7, e_8) _ _ _ _ hT hP hD hS dX3_becomes_49
