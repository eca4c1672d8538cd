theorem hv_X6_imageOf : yX6_imageOf.cls = RX6 ∧ yX6_imageOf.cls ≠ "java/lang/invoke/MethodHandle" ∧ yX6_imageOf.cls ≠ "java/lang/invoke/VarHandle" ∧ (parseMethodDescriptor yX6_imageOf.desc).map (fun d => d.parameters.length) = some 1 := by decide +kernel
theorem hd_X6_imageOf : yX6_imageOf.cls ≠ "java/lang/invoke/MethodHandle" ∧ yX6_imageOf.cls ≠ "java/lang/invoke/VarHandle" ∧ (parseMethodDescriptor yX6_imageOf.desc).map (fun d => d.parameters.length) = some 1 := hv_X6_imageOf.2
set_option maxHeartbeats 4000000 in
set_option maxRecDepth 100000 in
theorem c_X6_imageOf_0 {l : Launch} {D : va_G} {cI cZ cO : ClassId} {sk : Nat → Nat} {g tb : Nat → Int32} {V Hd : Nat → Nat → Int32} {tr : Int64} {x1 : Int32} (h : x1 = 0) (sz : Nat) : Met l yX6_imageOf (wm yX6_imageOf cX6_imageOf 2 (some (FieldType.object "WindFrontiers$Story"))) ({ frames := 0, cells := 0, slots := 0, locals := 0 } : Room) (GPre D (ty3 cI cZ cO) (WW cI cO sk g tb V Hd tr) [.ref (sk 0), .int x1] sz) (va_Sr (fun _ => True) (fun _ => .ref (sk (4 + 1)))) 0 0 (fun _ => False) := by
  refine metP_r (by decide) (Nat.le_of_ble_eq_true rfl) ?_
  intro p e s m args below meth c ls Q C hsz hP hK hD hN hl hret
  have hx := C.1
  have hb := C.2.1
  have hl : lv_has ls 2 [(0, .ref (sk 0)), (1, .int x1)] := hl
  refine lv_iload_n hx hb dX6_imageOf_0 rfl (lv_at hl 1 rfl) ?_
  refine lv_lookup (tgt := 28) (off := 27) hx hb dX6_imageOf_1 (by decide) (by rw [h]; decide) (by decide) ?_
  refine lv_aload_n hx hb dX6_imageOf_28 rfl (lv_at hl 0 rfl) ?_
  refine gX6_firstImage C hK hP wd_1_163 dX6_imageOf_29 ?_
  exact hret _ _ _ ⟨rfl, Or.inr ⟨_, rfl⟩⟩ dX6_imageOf_32
set_option maxHeartbeats 4000000 in
set_option maxRecDepth 100000 in
theorem c_X6_imageOf_1 {l : Launch} {D : va_G} {cI cZ cO : ClassId} {sk : Nat → Nat} {g tb : Nat → Int32} {V Hd : Nat → Nat → Int32} {tr : Int64} {x1 : Int32} (h : x1 = 1) (sz : Nat) : Met l yX6_imageOf (wm yX6_imageOf cX6_imageOf 2 (some (FieldType.object "WindFrontiers$Story"))) ({ frames := 0, cells := 0, slots := 0, locals := 0 } : Room) (GPre D (ty3 cI cZ cO) (WW cI cO sk g tb V Hd tr) [.ref (sk 0), .int x1] sz) (va_Sr (fun _ => True) (fun _ => .ref (sk (4 + 2)))) 0 0 (fun _ => False) := by
  refine metP_r (by decide) (Nat.le_of_ble_eq_true rfl) ?_
  intro p e s m args below meth c ls Q C hsz hP hK hD hN hl hret
  have hx := C.1
  have hb := C.2.1
  have hl : lv_has ls 2 [(0, .ref (sk 0)), (1, .int x1)] := hl
  refine lv_iload_n hx hb dX6_imageOf_0 rfl (lv_at hl 1 rfl) ?_
  refine lv_lookup (tgt := 33) (off := 32) hx hb dX6_imageOf_1 (by decide) (by rw [h]; decide) (by decide) ?_
  refine lv_aload_n hx hb dX6_imageOf_33 rfl (lv_at hl 0 rfl) ?_
  refine gX6_secondImage C hK hP wd_1_164 dX6_imageOf_34 ?_
  exact hret _ _ _ ⟨rfl, Or.inr ⟨_, rfl⟩⟩ dX6_imageOf_37
set_option maxHeartbeats 4000000 in
set_option maxRecDepth 100000 in
theorem c_X6_imageOf_2 {l : Launch} {D : va_G} {cI cZ cO : ClassId} {sk : Nat → Nat} {g tb : Nat → Int32} {V Hd : Nat → Nat → Int32} {tr : Int64} {x1 : Int32} (h0 : ¬ x1 = 0) (h1 : ¬ x1 = 1) (sz : Nat) : Met l yX6_imageOf (wm yX6_imageOf cX6_imageOf 2 (some (FieldType.object "WindFrontiers$Story"))) ({ frames := 0, cells := 0, slots := 0, locals := 0 } : Room) (GPre D (ty3 cI cZ cO) (WW cI cO sk g tb V Hd tr) [.ref (sk 0), .int x1] sz) (va_Sr (fun _ => True) (fun _ => .null)) 0 0 (fun _ => False) := by
  refine metP_r (by decide) (Nat.le_of_ble_eq_true rfl) ?_
  intro p e s m args below meth c ls Q C hsz hP hK hD hN hl hret
  have hx := C.1
  have hb := C.2.1
  have hl : lv_has ls 2 [(0, .ref (sk 0)), (1, .int x1)] := hl
  refine lv_iload_n hx hb dX6_imageOf_0 rfl (lv_at hl 1 rfl) ?_
  refine lv_lookup (tgt := 38) (off := 37) hx hb dX6_imageOf_1 (by decide) (by exact (lv_osw h0 rfl).trans ((lv_osw h1 rfl).trans rfl)) (by decide) ?_
  refine lv_null hx hb dX6_imageOf_38 ?_
  exact hret _ _ _ ⟨rfl, Or.inl rfl⟩ dX6_imageOf_39
theorem hv_X6_type : yX6_type.cls = RX6 ∧ yX6_type.cls ≠ "java/lang/invoke/MethodHandle" ∧ yX6_type.cls ≠ "java/lang/invoke/VarHandle" ∧ (parseMethodDescriptor yX6_type.desc).map (fun d => d.parameters.length) = some 1 := by decide +kernel
theorem hd_X6_type : yX6_type.cls ≠ "java/lang/invoke/MethodHandle" ∧ yX6_type.cls ≠ "java/lang/invoke/VarHandle" ∧ (parseMethodDescriptor yX6_type.desc).map (fun d => d.parameters.length) = some 1 := hv_X6_type.2
def sp_X6_type (g : Nat → Int32) (tb : Nat → Int32) (x1 : Int32) : Int32 × (Nat → Int32) × (Nat → Int32) :=
  nm (sp_X6_isWithin x1 (255 : Int32)) (fun r_1 => if r_1 = 0 then ((-1 : Int32), g, tb) else (nm3 (sp_X5_append g tb x1) (fun r_6 g_3 tb_4 => if r_6 = 0 then ((-3 : Int32), g_3, tb_4) else (g_3 6, g_3, tb_4))))
theorem sp_X6_type_s (g : Nat → Int32) (tb : Nat → Int32) (x1 : Int32) : (nm (sp_X6_isWithin x1 (255 : Int32)) (fun r_1 => if r_1 = 0 then ((-1 : Int32), g, tb) else (nm3 (sp_X5_append g tb x1) (fun r_6 g_3 tb_4 => if r_6 = 0 then ((-3 : Int32), g_3, tb_4) else (g_3 6, g_3, tb_4))))) = sp_X6_type g tb x1 := rfl
set_option maxHeartbeats 4000000 in
set_option maxRecDepth 100000 in
theorem c_X6_type {l : Launch} {D : va_G} {cI cZ cO : ClassId} {sk : Nat → Nat} {g tb : Nat → Int32} {V Hd : Nat → Nat → Int32} {tr : Int64} {x1 : Int32}  (sz : Nat) : Met l yX6_type (wm yX6_type cX6_type 2 (some .int)) ({ frames := 1, cells := 0, slots := 0, locals := 21 } : Room) (GPre D (ty3 cI cZ cO) (WW cI cO sk g tb V Hd tr) [.ref (sk 0), .int x1] sz) (va_Qi (fun r (u : (Nat → Int32) × (Nat → Int32)) => (r, u) = sp_X6_type g tb x1) (fun u t => GAt D (ty3 cI cZ cO) (va_A (WW cI cO sk g tb V Hd tr) sz) (WW cI cO sk u.1 u.2 V Hd tr) t) (va_A (WW cI cO sk g tb V Hd tr) sz)) 0 0 (va_A (WW cI cO sk g tb V Hd tr) sz) := by
  refine metQ_i (W1 := (fun (u : (Nat → Int32) × (Nat → Int32)) => WW cI cO sk u.1 u.2 V Hd tr)) (post := (fun r (u : (Nat → Int32) × (Nat → Int32)) => (r, u) = sp_X6_type g tb x1)) (by decide) (Nat.le_of_ble_eq_true rfl) ?_
  intro p e s m args below meth c ls A Q C hsz hP hK hD hS hA hN hl hret
  have hx := C.1
  have hb := C.2.1
  have hl : lv_has ls 2 [(0, .ref (sk 0)), (1, .int x1)] := hl
  have hT := sp_X6_type_s g tb x1
  refine lv_iload_n hx hb dX6_type_0 rfl (lv_at hl 1 rfl) ?_
  refine lv_sipush (v := 255) hx hb dX6_type_1 (by decide) ?_
  refine vp_callSi (run_sP (As := [.int x1, .int (255 : Int32)]) (rest := []) C hN (c_X6_isWithin) ⟨wd_1_188, wd_1_189, wd_1_1, wd_1_190⟩ ⟨rfl, rfl⟩ hd_X6_isWithin ⟨Nat.le_of_ble_eq_true rfl, Nat.le_of_ble_eq_true rfl⟩ rfl hl.1 rfl (Nat.le_of_ble_eq_true rfl) dX6_type_4 ⟨Nat.zero_le _, Nat.zero_le _⟩) (fun r_1 hr_1 => ?_)
  have hT := nm_u hr_1.1 hT
  refine lv_if_ne (tgt := 12) hx hb dX6_type_7 (by decide) (fun c_2 => ?_) (fun c_2 => ?_)
  · have hT := it_f c_2 hT
    refine lv_aload_n hx hb dX6_type_12 rfl (lv_at hl 0 rfl) ?_
    refine gX6_text C hK hP wd_1_160 dX6_type_13 ?_
    refine lv_iload_n hx hb dX6_type_16 rfl (lv_at hl 1 rfl) ?_
    refine on_i (run_vQ (As := [.int x1]) (rest := []) C hK hP hD hN (c_X5_append _) (rX5_r hK hP) ⟨wd_1_191, wd_1_192, wd_1_193, wd_1_3, wd_1_194⟩ ⟨rfl, rfl⟩ hv_X5_append ⟨Nat.le_of_ble_eq_true rfl, Nat.le_of_ble_eq_true rfl⟩ rfl hl.1 rfl (Nat.le_of_ble_eq_true rfl) dX6_type_17 ⟨Nat.zero_le _, Nat.zero_le _⟩) hD hS hA (fun r_6 u H locs hp_5 hP hD hS => ?_)
    obtain ⟨g_3, tb_4⟩ := u
    have hP : va_P D vwCl (WW cI cO sk g_3 tb_4 V Hd tr) H := hP
    have hD : va_D A (WW cI cO sk g_3 tb_4 V Hd tr) := hD
    have hT := nm3_u hp_5.1 hT
    refine lv_if_eq (tgt := 33) hx hb dX6_type_20 (by decide) (fun c_7 => ?_) (fun c_7 => ?_)
    · have hT := it_t c_7 hT
      refine lv_bipush (v := -3) hx hb dX6_type_33 (by decide) ?_
      exact hret _ (g_3, tb_4) _ _ _ _ hT hP hD hS dX6_type_35
    · have hT := it_f c_7 hT
      refine lv_aload_n hx hb dX6_type_23 rfl (lv_at hl 0 rfl) ?_
      refine gX6_text C hK hP wd_1_160 dX6_type_24 ?_
      refine gX5_length C hK hP wd_1_32 dX6_type_27 ?_
      refine lv_goto (tgt := 35) hx hb dX6_type_30 (by decide) ?_
      exact hret _ (g_3, tb_4) _ _ _ _ hT hP hD hS dX6_type_35
  · have hT := it_t c_2 hT
    refine lv_iconst (v := -1) hx hb dX6_type_10 (by decide) ?_
    exact hret _ (g, tb) _ _ _ _ hT hP hD hS dX6_type_11
theorem hv_X6_clear : yX6_clear.cls = RX6 ∧ yX6_clear.cls ≠ "java/lang/invoke/MethodHandle" ∧ yX6_clear.cls ≠ "java/lang/invoke/VarHandle" ∧ (parseMethodDescriptor yX6_clear.desc).map (fun d => d.parameters.length) = some 0 := by decide +kernel
theorem hd_X6_clear : yX6_clear.cls ≠ "java/lang/invoke/MethodHandle" ∧ yX6_clear.cls ≠ "java/lang/invoke/VarHandle" ∧ (parseMethodDescriptor yX6_clear.desc).map (fun d => d.parameters.length) = some 0 := hv_X6_clear.2
def sp_X6_clear (g : Nat → Int32) : Int32 × (Nat → Int32) :=
  (g 6, upd g 6 (0 : Int32))
theorem sp_X6_clear_s (g : Nat → Int32) : ((g 6, upd g 6 (0 : Int32))) = sp_X6_clear g := rfl
set_option maxHeartbeats 4000000 in
set_option maxRecDepth 100000 in
theorem c_X6_clear {l : Launch} {D : va_G} {cI cZ cO : ClassId} {sk : Nat → Nat} {g tb : Nat → Int32} {V Hd : Nat → Nat → Int32} {tr : Int64}   (sz : Nat) : Met l yX6_clear (wm yX6_clear cX6_clear 2 (some .int)) ({ frames := 0, cells := 0, slots := 0, locals := 0 } : Room) (GPre D (ty3 cI cZ cO) (WW cI cO sk g tb V Hd tr) [.ref (sk 0)] sz) (va_Qi (fun r (u : (Nat → Int32)) => (r, u) = sp_X6_clear g) (fun u t => GAt D (ty3 cI cZ cO) (va_A (WW cI cO sk g tb V Hd tr) sz) (WW cI cO sk u tb V Hd tr) t) (va_A (WW cI cO sk g tb V Hd tr) sz)) 0 0 (va_A (WW cI cO sk g tb V Hd tr) sz) := by
  refine metQ_i (W1 := (fun (u : (Nat → Int32)) => WW cI cO sk u tb V Hd tr)) (post := (fun r (u : (Nat → Int32)) => (r, u) = sp_X6_clear g)) (by decide) (Nat.le_of_ble_eq_true rfl) ?_
  intro p e s m args below meth c ls A Q C hsz hP hK hD hS hA hN hl hret
  have hx := C.1
  have hb := C.2.1
  have hl : lv_has ls 2 [(0, .ref (sk 0))] := hl
  have hT := sp_X6_clear_s g
  refine lv_aload_n hx hb dX6_clear_0 rfl (lv_at hl 0 rfl) ?_
  refine gX6_text C hK hP wd_1_160 dX6_clear_1 ?_
  refine gX5_length C hK hP wd_1_32 dX6_clear_4 ?_
  refine lv_istore_n (lv' := [(1, .int (g 6)), (0, .ref (sk 0))]) hx hb dX6_clear_7 rfl hl (by decide) rfl (fun ls hl => ?_)
  refine lv_aload_n hx hb dX6_clear_8 rfl (lv_at hl 1 rfl) ?_
  refine gX6_text C hK hP wd_1_160 dX6_clear_9 ?_
  refine lv_iconst (v := 0) hx hb dX6_clear_12 (by decide) ?_
  refine pX5_length C hK hP hD hS wd_1_32 dX6_clear_13 (fun H locs hP hD hS => ?_)
  refine lv_iload_n hx hb dX6_clear_16 rfl (lv_at hl 0 rfl) ?_
  exact hret _ (upd g 6 (0 : Int32)) _ _ _ _ hT hP hD hS dX6_clear_17
theorem hv_X6_strand : yX6_strand.cls = RX6 ∧ yX6_strand.cls ≠ "java/lang/invoke/MethodHandle" ∧ yX6_strand.cls ≠ "java/lang/invoke/VarHandle" ∧ (parseMethodDescriptor yX6_strand.desc).map (fun d => d.parameters.length) = some 0 := by decide +kernel
theorem hd_X6_strand : yX6_strand.cls ≠ "java/lang/invoke/MethodHandle" ∧ yX6_strand.cls ≠ "java/lang/invoke/VarHandle" ∧ (parseMethodDescriptor yX6_strand.desc).map (fun d => d.parameters.length) = some 0 := hv_X6_strand.2
def sp_X6_strand (g : Nat → Int32) (tb : Nat → Int32) (V : Nat → Nat → Int32) (Hd : Nat → Nat → Int32) : Int32 × (Nat → Int32) × (Nat → Nat → Int32) × (Nat → Nat → Int32) :=
  nm4 (sp_X1_readAll g tb V Hd) (fun r_5 g_1 V_2 Hd_3 => if r_5 < 0 then (r_5, g_1, V_2, Hd_3) else (nm2 (sp_X4_becomes V_2 Hd_3 (11 * 0 + 10) 33) (fun V_7 Hd_8 => nm (sp_X2_dropAll (upd (upd (upd g_1 (7 + 0) (0 : Int32)) (10 + 1) (0 : Int32)) (10 + 2) (0 : Int32))) (fun g_10 => (r_5, upd g_10 6 (0 : Int32), V_7, Hd_8)))))
theorem sp_X6_strand_s (g : Nat → Int32) (tb : Nat → Int32) (V : Nat → Nat → Int32) (Hd : Nat → Nat → Int32) : (nm4 (sp_X1_readAll g tb V Hd) (fun r_5 g_1 V_2 Hd_3 => if r_5 < 0 then (r_5, g_1, V_2, Hd_3) else (nm2 (sp_X4_becomes V_2 Hd_3 (11 * 0 + 10) 33) (fun V_7 Hd_8 => nm (sp_X2_dropAll (upd (upd (upd g_1 (7 + 0) (0 : Int32)) (10 + 1) (0 : Int32)) (10 + 2) (0 : Int32))) (fun g_10 => (r_5, upd g_10 6 (0 : Int32), V_7, Hd_8)))))) = sp_X6_strand g tb V Hd := rfl
set_option maxHeartbeats 4000000 in
set_option maxRecDepth 100000 in
theorem c_X6_strand {l : Launch} {D : va_G} {cI cZ cO : ClassId} {sk : Nat → Nat} {g tb : Nat → Int32} {V Hd : Nat → Nat → Int32} {tr : Int64}   (sz : Nat) : Met l yX6_strand (wm yX6_strand cX6_strand 2 (some .int)) ({ frames := 6, cells := 0, slots := 0, locals := 129 } : Room) (GPre D (ty3 cI cZ cO) (WW cI cO sk g tb V Hd tr) [.ref (sk 0)] sz) (va_Qi (fun r (u : (Nat → Int32) × (Nat → Nat → Int32) × (Nat → Nat → Int32)) => (r, u) = sp_X6_strand g tb V Hd) (fun u t => GAt D (ty3 cI cZ cO) (va_A (WW cI cO sk g tb V Hd tr) sz) (WW cI cO sk u.1 tb u.2.1 u.2.2 tr) t) (va_A (WW cI cO sk g tb V Hd tr) sz)) 0 0 (va_A (WW cI cO sk g tb V Hd tr) sz) := by
  refine metQ_i (W1 := (fun (u : (Nat → Int32) × (Nat → Nat → Int32) × (Nat → Nat → Int32)) => WW cI cO sk u.1 tb u.2.1 u.2.2 tr)) (post := (fun r (u : (Nat → Int32) × (Nat → Nat → Int32) × (Nat → Nat → Int32)) => (r, u) = sp_X6_strand g tb V Hd)) (by decide) (Nat.le_of_ble_eq_true rfl) ?_
  intro p e s m args below meth c ls A Q C hsz hP hK hD hS hA hN hl hret
  have hx := C.1
  have hb := C.2.1
  have hl : lv_has ls 2 [(0, .ref (sk 0))] := hl
  have hT := sp_X6_strand_s g tb V Hd
  refine lv_aload_n hx hb dX6_strand_0 rfl (lv_at hl 0 rfl) ?_
  refine gX6_reader C hK hP wd_1_159 dX6_strand_1 ?_
  refine on_i (run_vQ (As := []) (rest := []) C hK hP hD hN (c_X1_readAll _) (rX1_r hK hP) ⟨wd_1_203, wd_1_204, wd_1_205, wd_1_2, wd_1_206⟩ ⟨rfl, rfl⟩ hv_X1_readAll ⟨Nat.le_of_ble_eq_true rfl, Nat.le_of_ble_eq_true rfl⟩ rfl hl.1 rfl (Nat.le_of_ble_eq_true rfl) dX6_strand_4 ⟨Nat.zero_le _, Nat.zero_le _⟩) hD hS hA (fun r_5 u H locs hp_4 hP hD hS => ?_)
  obtain ⟨g_1, V_2, Hd_3⟩ := u
  have hP : va_P D vwCl (WW cI cO sk g_1 tb V_2 Hd_3 tr) H := hP
  have hD : va_D A (WW cI cO sk g_1 tb V_2 Hd_3 tr) := hD
  have hT := nm4_u hp_4 hT
  refine lv_istore_n (lv' := [(1, .int r_5), (0, .ref (sk 0))]) hx hb dX6_strand_7 rfl hl (by decide) rfl (fun ls hl => ?_)
  refine lv_iload_n hx hb dX6_strand_8 rfl (lv_at hl 0 rfl) ?_
  refine lv_if_lt (tgt := 65) hx hb dX6_strand_9 (by decide) (fun c_6 => ?_) (fun c_6 => ?_)
  · have hT := it_t c_6 hT
    refine lv_iload_n hx hb dX6_strand_65 rfl (lv_at hl 0 rfl) ?_
    exact hret _ (g_1, V_2, Hd_3) _ _ _ _ hT hP hD hS dX6_strand_66
  · have hT := it_f c_6 hT
    refine lv_aload_n hx hb dX6_strand_12 rfl (lv_at hl 1 rfl) ?_
    refine gX6_shore C hK hP wd_1_162 dX6_strand_13 ?_
    refine lv_aload_n hx hb dX6_strand_16 rfl (lv_at hl 1 rfl) ?_
    refine gX6_reader C hK hP wd_1_159 dX6_strand_17 ?_
    refine gX1_draft C hK hP wd_1_77 dX6_strand_20 ?_
    refine on_v (run_vQ (As := [.ref (sk (20 + 2 * 33))]) (rest := []) C hK hP hD hN (c_X4_becomes (by decide) (by decide) _) (rX4_r hK hP (by decide)) ⟨wd_2_29, wd_2_30, wd_2_31, wd_1_4, wd_2_32⟩ ⟨rfl, rfl⟩ hv_X4_becomes ⟨Nat.le_of_ble_eq_true rfl, Nat.le_of_ble_eq_true rfl⟩ rfl hl.1 rfl (Nat.le_of_ble_eq_true rfl) dX6_strand_23 ⟨Nat.zero_le _, Nat.zero_le _⟩) hD hS hA (fun u H locs hp_9 hP hD hS => ?_)
    obtain ⟨V_7, Hd_8⟩ := u
    have hP : va_P D vwCl (WW cI cO sk g_1 tb V_7 Hd_8 tr) H := hP
    have hD : va_D A (WW cI cO sk g_1 tb V_7 Hd_8 tr) := hD
    have hT := nm2_u hp_9 hT
    refine lv_aload_n hx hb dX6_strand_26 rfl (lv_at hl 1 rfl) ?_
    refine gX6_story C hK hP wd_1_161 dX6_strand_27 ?_
    refine lv_iconst (v := 0) hx hb dX6_strand_30 (by decide) ?_
    refine pX3_undoable C hK hP hD hS (by decide) wd_1_114 dX6_strand_31 (fun H locs hP hD hS => ?_)
    refine lv_aload_n hx hb dX6_strand_34 rfl (lv_at hl 1 rfl) ?_
    refine gX6_firstImage C hK hP wd_1_163 dX6_strand_35 ?_
    refine lv_iconst (v := 0) hx hb dX6_strand_38 (by decide) ?_
    refine pX3_kept C hK hP hD hS (by decide) (Or.inl rfl) wd_1_115 dX6_strand_39 (fun H locs hP hD hS => ?_)
    refine lv_aload_n hx hb dX6_strand_42 rfl (lv_at hl 1 rfl) ?_
    refine gX6_secondImage C hK hP wd_1_164 dX6_strand_43 ?_
    refine lv_iconst (v := 0) hx hb dX6_strand_46 (by decide) ?_
    refine pX3_kept C hK hP hD hS (by decide) (Or.inl rfl) wd_1_115 dX6_strand_47 (fun H locs hP hD hS => ?_)
    refine lv_aload_n hx hb dX6_strand_50 rfl (lv_at hl 1 rfl) ?_
    refine gX6_seen C hK hP wd_1_165 dX6_strand_51 ?_
    refine on_v (run_vQ (As := []) (rest := []) C hK hP hD hN (c_X2_dropAll _) (rX2_r hK hP) ⟨wd_2_37, wd_2_38, wd_2_39, wd_1_6, wd_2_40⟩ ⟨rfl, rfl⟩ hv_X2_dropAll ⟨Nat.le_of_ble_eq_true rfl, Nat.le_of_ble_eq_true rfl⟩ rfl hl.1 rfl (Nat.le_of_ble_eq_true rfl) dX6_strand_54 ⟨Nat.zero_le _, Nat.zero_le _⟩) hD hS hA (fun u H locs hp_11 hP hD hS => ?_)
    obtain ⟨g_10, rfl⟩ : ∃ z, z = u := ⟨_, rfl⟩
    have hP : va_P D vwCl (WW cI cO sk g_10 tb V_7 Hd_8 tr) H := hP
    have hD : va_D A (WW cI cO sk g_10 tb V_7 Hd_8 tr) := hD
    have hT := nm_u hp_11 hT
    refine lv_aload_n hx hb dX6_strand_57 rfl (lv_at hl 1 rfl) ?_
    refine gX6_text C hK hP wd_1_160 dX6_strand_58 ?_
    refine lv_iconst (v := 0) hx hb dX6_strand_61 (by decide) ?_
    refine pX5_length C hK hP hD hS wd_1_32 dX6_strand_62 (fun H locs hP hD hS => ?_)
    refine lv_iload_n hx hb dX6_strand_65 rfl (lv_at hl 0 rfl) ?_
    exact hret _ (upd g_10 6 (0 : Int32), V_7, Hd_8) _ _ _ _ hT hP hD hS dX6_strand_66
theorem hv_X6_cell : yX6_cell.cls = RX6 ∧ yX6_cell.cls ≠ "java/lang/invoke/MethodHandle" ∧ yX6_cell.cls ≠ "java/lang/invoke/VarHandle" ∧ (parseMethodDescriptor yX6_cell.desc).map (fun d => d.parameters.length) = some 3 := by decide +kernel
theorem hd_X6_cell : yX6_cell.cls ≠ "java/lang/invoke/MethodHandle" ∧ yX6_cell.cls ≠ "java/lang/invoke/VarHandle" ∧ (parseMethodDescriptor yX6_cell.desc).map (fun d => d.parameters.length) = some 3 := hv_X6_cell.2
def sp_X6_cell (V : Nat → Nat → Int32) (Hd : Nat → Nat → Int32) (x1 : Int32) (x2 : Int32) (x3 : Int32) : Int32 :=
  nm (sp_X4_isCell V (11 * 0 + 10) x1 x2) (fun r_1 => if r_1 = 0 then (-1 : Int32) else (nm (sp_X6_bitOf x1 x2) (fun r_3 => if x3 = (0 : Int32) then (nm (sp_X4_holderOf Hd (11 * 0 + 10) r_3) (fun r_5 => r_5)) else (if x3 = (1 : Int32) then (if ((V (11 * 0 + 10) 2) &&& r_3) = 0 then (nm (sp_X6_oneIf (0 : Int32)) (fun r_8 => r_8)) else (nm (sp_X6_oneIf (1 : Int32)) (fun r_9 => r_9))) else (if x3 = (2 : Int32) then (nm (sp_X4_dryCells V (11 * 0 + 10)) (fun r_11 => if (r_11 &&& r_3) = 0 then (nm (sp_X6_oneIf (0 : Int32)) (fun r_13 => r_13)) else (nm (sp_X6_oneIf (1 : Int32)) (fun r_14 => r_14)))) else (if x3 = (3 : Int32) then (nm (sp_X4_stillBy V (11 * 0 + 10) (0 : Int32)) (fun r_16 => if (r_16 &&& r_3) = 0 then (nm (sp_X6_oneIf (0 : Int32)) (fun r_18 => r_18)) else (nm (sp_X6_oneIf (1 : Int32)) (fun r_19 => r_19)))) else (if x3 = (4 : Int32) then (nm (sp_X4_stillBy V (11 * 0 + 10) (1 : Int32)) (fun r_21 => if (r_21 &&& r_3) = 0 then (nm (sp_X6_oneIf (0 : Int32)) (fun r_23 => r_23)) else (nm (sp_X6_oneIf (1 : Int32)) (fun r_24 => r_24)))) else (-1 : Int32))))))))
theorem sp_X6_cell_s (V : Nat → Nat → Int32) (Hd : Nat → Nat → Int32) (x1 : Int32) (x2 : Int32) (x3 : Int32) : (nm (sp_X4_isCell V (11 * 0 + 10) x1 x2) (fun r_1 => if r_1 = 0 then (-1 : Int32) else (nm (sp_X6_bitOf x1 x2) (fun r_3 => if x3 = (0 : Int32) then (nm (sp_X4_holderOf Hd (11 * 0 + 10) r_3) (fun r_5 => r_5)) else (if x3 = (1 : Int32) then (if ((V (11 * 0 + 10) 2) &&& r_3) = 0 then (nm (sp_X6_oneIf (0 : Int32)) (fun r_8 => r_8)) else (nm (sp_X6_oneIf (1 : Int32)) (fun r_9 => r_9))) else (if x3 = (2 : Int32) then (nm (sp_X4_dryCells V (11 * 0 + 10)) (fun r_11 => if (r_11 &&& r_3) = 0 then (nm (sp_X6_oneIf (0 : Int32)) (fun r_13 => r_13)) else (nm (sp_X6_oneIf (1 : Int32)) (fun r_14 => r_14)))) else (if x3 = (3 : Int32) then (nm (sp_X4_stillBy V (11 * 0 + 10) (0 : Int32)) (fun r_16 => if (r_16 &&& r_3) = 0 then (nm (sp_X6_oneIf (0 : Int32)) (fun r_18 => r_18)) else (nm (sp_X6_oneIf (1 : Int32)) (fun r_19 => r_19)))) else (if x3 = (4 : Int32) then (nm (sp_X4_stillBy V (11 * 0 + 10) (1 : Int32)) (fun r_21 => if (r_21 &&& r_3) = 0 then (nm (sp_X6_oneIf (0 : Int32)) (fun r_23 => r_23)) else (nm (sp_X6_oneIf (1 : Int32)) (fun r_24 => r_24)))) else (-1 : Int32))))))))) = sp_X6_cell V Hd x1 x2 x3 := rfl
set_option maxHeartbeats 4000000 in
set_option maxRecDepth 100000 in
theorem c_X6_cell {l : Launch} {D : va_G} {cI cZ cO : ClassId} {sk : Nat → Nat} {g tb : Nat → Int32} {V Hd : Nat → Nat → Int32} {tr : Int64} {x1 : Int32} {x2 : Int32} {x3 : Int32}  (sz : Nat) : Met l yX6_cell (wm yX6_cell cX6_cell 5 (some .int)) ({ frames := 5, cells := 0, slots := 0, locals := 108 } : Room) (GPre D (ty3 cI cZ cO) (WW cI cO sk g tb V Hd tr) [.ref (sk 0), .int x1, .int x2, .int x3] sz) (vp_Si (fun r => r = sp_X6_cell V Hd x1 x2 x3)) 0 0 (fun _ => False) := by
  refine metP_i (post := (fun r => r = sp_X6_cell V Hd x1 x2 x3)) (by decide) (Nat.le_of_ble_eq_true rfl) ?_
  intro p e s m args below meth c ls Q C hsz hP hK hD hN hl hret
  have hx := C.1
  have hb := C.2.1
  have hl : lv_has ls 5 [(0, .ref (sk 0)), (1, .int x1), (2, .int x2), (3, .int x3)] := hl
  have hT := sp_X6_cell_s V Hd x1 x2 x3
  refine lv_aload_n hx hb dX6_cell_0 rfl (lv_at hl 0 rfl) ?_
  refine gX6_shore C hK hP wd_1_162 dX6_cell_1 ?_
  refine lv_iload_n hx hb dX6_cell_4 rfl (lv_at hl 1 rfl) ?_
  refine lv_iload_n hx hb dX6_cell_5 rfl (lv_at hl 2 rfl) ?_
  refine vp_callSi (run_vP (As := [.int x1, .int x2]) (rest := []) C hK hP hD hN (c_X4_isCell (by decide) _) (rX4_r hK hP (by decide)) ⟨wd_2_45, wd_2_46, wd_2_47, wd_1_4, wd_2_48⟩ ⟨rfl, rfl⟩ hv_X4_isCell ⟨Nat.le_of_ble_eq_true rfl, Nat.le_of_ble_eq_true rfl⟩ rfl hl.1 rfl (Nat.le_of_ble_eq_true rfl) dX6_cell_6 ⟨Nat.zero_le _, Nat.zero_le _⟩) (fun r_1 hr_1 => ?_)
  have hT := nm_u hr_1.1 hT
  refine lv_if_ne (tgt := 14) hx hb dX6_cell_9 (by decide) (fun c_2 => ?_) (fun c_2 => ?_)
  · have hT := it_f c_2 hT
    refine lv_iload_n hx hb dX6_cell_14 rfl (lv_at hl 1 rfl) ?_
    refine lv_iload_n hx hb dX6_cell_15 rfl (lv_at hl 2 rfl) ?_
    refine vp_callSi (run_sP (As := [.int x1, .int x2]) (rest := []) C hN (c_X6_bitOf) ⟨wd_2_50, wd_2_15, wd_1_1, wd_2_16⟩ ⟨rfl, rfl⟩ hd_X6_bitOf ⟨Nat.le_of_ble_eq_true rfl, Nat.le_of_ble_eq_true rfl⟩ rfl hl.1 rfl (Nat.le_of_ble_eq_true rfl) dX6_cell_16 ⟨Nat.zero_le _, Nat.zero_le _⟩) (fun r_3 hr_3 => ?_)
    have hT := nm_u hr_3 hT
    refine lv_istore (lv' := [(4, .int r_3), (0, .ref (sk 0)), (1, .int x1), (2, .int x2), (3, .int x3)]) hx hb dX6_cell_19 hl (by decide) rfl (fun ls hl => ?_)
    refine lv_iload_n hx hb dX6_cell_21 rfl (lv_at hl 4 rfl) ?_
    by_cases c_4 : x3 = (0 : Int32)
    · have hT := it_t c_4 hT
      refine lv_tableIn (tgt := 56) hx hb dX6_cell_22 (by rw [c_4]; decide) (by rw [c_4]; decide) (by rw [c_4]; rfl) (by decide) ?_
      refine lv_aload_n hx hb dX6_cell_56 rfl (lv_at hl 1 rfl) ?_
      refine gX6_shore C hK hP wd_1_162 dX6_cell_57 ?_
      refine lv_iload hx hb dX6_cell_60 (lv_at hl 0 rfl) ?_
      refine vp_callSi (run_vP (As := [.int r_3]) (rest := []) C hK hP hD hN (c_X4_holderOf (by decide) _) (rX4_r hK hP (by decide)) ⟨wd_2_51, wd_2_52, wd_2_53, wd_1_4, wd_2_54⟩ ⟨rfl, rfl⟩ hv_X4_holderOf ⟨Nat.le_of_ble_eq_true rfl, Nat.le_of_ble_eq_true rfl⟩ rfl hl.1 rfl (Nat.le_of_ble_eq_true rfl) dX6_cell_62 ⟨Nat.zero_le _, Nat.zero_le _⟩) (fun r_5 hr_5 => ?_)
      have hT := nm_u hr_5 hT
      exact hret _ _ _ hT dX6_cell_65
    · have hT := it_f c_4 hT
      by_cases c_6 : x3 = (1 : Int32)
      · have hT := it_t c_6 hT
        refine lv_tableIn (tgt := 66) hx hb dX6_cell_22 (by rw [c_6]; decide) (by rw [c_6]; decide) (by rw [c_6]; rfl) (by decide) ?_
        refine lv_aload_n hx hb dX6_cell_66 rfl (lv_at hl 1 rfl) ?_
        refine gX6_shore C hK hP wd_1_162 dX6_cell_67 ?_
        refine gX4_cloth C hK hP (by decide) wd_1_52 dX6_cell_70 ?_
        refine lv_iload hx hb dX6_cell_73 (lv_at hl 0 rfl) ?_
        refine lv_iand hx hb dX6_cell_75 ?_
        refine lv_if_eq (tgt := 83) hx hb dX6_cell_76 (by decide) (fun c_7 => ?_) (fun c_7 => ?_)
        · have hT := it_t c_7 hT
          refine lv_iconst (v := 0) hx hb dX6_cell_83 (by decide) ?_
          refine vp_callSi (run_sP (As := [.int (0 : Int32)]) (rest := []) C hN (c_X6_oneIf) ⟨wd_2_55, wd_2_56, wd_1_1, wd_2_57⟩ ⟨rfl, rfl⟩ hd_X6_oneIf ⟨Nat.le_of_ble_eq_true rfl, Nat.le_of_ble_eq_true rfl⟩ rfl hl.1 rfl (Nat.le_of_ble_eq_true rfl) dX6_cell_84 ⟨Nat.zero_le _, Nat.zero_le _⟩) (fun r_8 hr_8 => ?_)
          have hT := nm_u hr_8 hT
          exact hret _ _ _ hT dX6_cell_87
        · have hT := it_f c_7 hT
          refine lv_iconst (v := 1) hx hb dX6_cell_79 (by decide) ?_
          refine lv_goto (tgt := 84) hx hb dX6_cell_80 (by decide) ?_
          refine vp_callSi (run_sP (As := [.int (1 : Int32)]) (rest := []) C hN (c_X6_oneIf) ⟨wd_2_55, wd_2_56, wd_1_1, wd_2_57⟩ ⟨rfl, rfl⟩ hd_X6_oneIf ⟨Nat.le_of_ble_eq_true rfl, Nat.le_of_ble_eq_true rfl⟩ rfl hl.1 rfl (Nat.le_of_ble_eq_true rfl) dX6_cell_84 ⟨Nat.zero_le _, Nat.zero_le _⟩) (fun r_9 hr_9 => ?_)
          have hT := nm_u hr_9 hT
          exact hret _ _ _ hT dX6_cell_87
      · have hT := it_f c_6 hT
        by_cases c_10 : x3 = (2 : Int32)
        · have hT := it_t c_10 hT
          refine lv_tableIn (tgt := 88) hx hb dX6_cell_22 (by rw [c_10]; decide) (by rw [c_10]; decide) (by rw [c_10]; rfl) (by decide) ?_
          refine lv_aload_n hx hb dX6_cell_88 rfl (lv_at hl 1 rfl) ?_
          refine gX6_shore C hK hP wd_1_162 dX6_cell_89 ?_
          refine vp_callSi (run_vP (As := []) (rest := []) C hK hP hD hN (c_X4_dryCells (by decide) _) (rX4_r hK hP (by decide)) ⟨wd_2_58, wd_2_59, wd_2_60, wd_1_4, wd_2_61⟩ ⟨rfl, rfl⟩ hv_X4_dryCells ⟨Nat.le_of_ble_eq_true rfl, Nat.le_of_ble_eq_true rfl⟩ rfl hl.1 rfl (Nat.le_of_ble_eq_true rfl) dX6_cell_92 ⟨Nat.zero_le _, Nat.zero_le _⟩) (fun r_11 hr_11 => ?_)
          have hT := nm_u hr_11 hT
          refine lv_iload hx hb dX6_cell_95 (lv_at hl 0 rfl) ?_
          refine lv_iand hx hb dX6_cell_97 ?_
          refine lv_if_eq (tgt := 105) hx hb dX6_cell_98 (by decide) (fun c_12 => ?_) (fun c_12 => ?_)
          · have hT := it_t c_12 hT
            refine lv_iconst (v := 0) hx hb dX6_cell_105 (by decide) ?_
            refine vp_callSi (run_sP (As := [.int (0 : Int32)]) (rest := []) C hN (c_X6_oneIf) ⟨wd_2_55, wd_2_56, wd_1_1, wd_2_57⟩ ⟨rfl, rfl⟩ hd_X6_oneIf ⟨Nat.le_of_ble_eq_true rfl, Nat.le_of_ble_eq_true rfl⟩ rfl hl.1 rfl (Nat.le_of_ble_eq_true rfl) dX6_cell_106 ⟨Nat.zero_le _, Nat.zero_le _⟩) (fun r_13 hr_13 => ?_)
            have hT := nm_u hr_13 hT
            exact hret _ _ _ hT dX6_cell_109
          · have hT := it_f c_12 hT
            refine lv_iconst (v := 1) hx hb dX6_cell_101 (by decide) ?_
            refine lv_goto (tgt := 106) hx hb dX6_cell_102 (by decide) ?_
            refine vp_callSi (run_sP (As := [.int (1 : Int32)]) (rest := []) C hN (c_X6_oneIf) ⟨wd_2_55, wd_2_56, wd_1_1, wd_2_57⟩ ⟨rfl, rfl⟩ hd_X6_oneIf ⟨Nat.le_of_ble_eq_true rfl, Nat.le_of_ble_eq_true rfl⟩ rfl hl.1 rfl (Nat.le_of_ble_eq_true rfl) dX6_cell_106 ⟨Nat.zero_le _, Nat.zero_le _⟩) (fun r_14 hr_14 => ?_)
            have hT := nm_u hr_14 hT
            exact hret _ _ _ hT dX6_cell_109
        · have hT := it_f c_10 hT
          by_cases c_15 : x3 = (3 : Int32)
          · have hT := it_t c_15 hT
            refine lv_tableIn (tgt := 110) hx hb dX6_cell_22 (by rw [c_15]; decide) (by rw [c_15]; decide) (by rw [c_15]; rfl) (by decide) ?_
            refine lv_aload_n hx hb dX6_cell_110 rfl (lv_at hl 1 rfl) ?_
            refine gX6_shore C hK hP wd_1_162 dX6_cell_111 ?_
            refine lv_iconst (v := 0) hx hb dX6_cell_114 (by decide) ?_
            refine vp_callSi (run_vP (As := [.int (0 : Int32)]) (rest := []) C hK hP hD hN (c_X4_stillBy (by decide) _) (rX4_r hK hP (by decide)) ⟨wd_2_70, wd_2_71, wd_2_72, wd_1_4, wd_2_73⟩ ⟨rfl, rfl⟩ hv_X4_stillBy ⟨Nat.le_of_ble_eq_true rfl, Nat.le_of_ble_eq_true rfl⟩ rfl hl.1 rfl (Nat.le_of_ble_eq_true rfl) dX6_cell_115 ⟨Nat.zero_le _, Nat.zero_le _⟩) (fun r_16 hr_16 => ?_)
            have hT := nm_u hr_16 hT
            refine lv_iload hx hb dX6_cell_118 (lv_at hl 0 rfl) ?_
            refine lv_iand hx hb dX6_cell_120 ?_
            refine lv_if_eq (tgt := 128) hx hb dX6_cell_121 (by decide) (fun c_17 => ?_) (fun c_17 => ?_)
            · have hT := it_t c_17 hT
              refine lv_iconst (v := 0) hx hb dX6_cell_128 (by decide) ?_
              refine vp_callSi (run_sP (As := [.int (0 : Int32)]) (rest := []) C hN (c_X6_oneIf) ⟨wd_2_55, wd_2_56, wd_1_1, wd_2_57⟩ ⟨rfl, rfl⟩ hd_X6_oneIf ⟨Nat.le_of_ble_eq_true rfl, Nat.le_of_ble_eq_true rfl⟩ rfl hl.1 rfl (Nat.le_of_ble_eq_true rfl) dX6_cell_129 ⟨Nat.zero_le _, Nat.zero_le _⟩) (fun r_18 hr_18 => ?_)
              have hT := nm_u hr_18 hT
              exact hret _ _ _ hT dX6_cell_132
            · have hT := it_f c_17 hT
              refine lv_iconst (v := 1) hx hb dX6_cell_124 (by decide) ?_
              refine lv_goto (tgt := 129) hx hb dX6_cell_125 (by decide) ?_
              refine vp_callSi (run_sP (As := [.int (1 : Int32)]) (rest := []) C hN (c_X6_oneIf) ⟨wd_2_55, wd_2_56, wd_1_1, wd_2_57⟩ ⟨rfl, rfl⟩ hd_X6_oneIf ⟨Nat.le_of_ble_eq_true rfl, Nat.le_of_ble_eq_true rfl⟩ rfl hl.1 rfl (Nat.le_of_ble_eq_true rfl) dX6_cell_129 ⟨Nat.zero_le _, Nat.zero_le _⟩) (fun r_19 hr_19 => ?_)
              have hT := nm_u hr_19 hT
              exact hret _ _ _ hT dX6_cell_132
          · have hT := it_f c_15 hT
            by_cases c_20 : x3 = (4 : Int32)
            · have hT := it_t c_20 hT
              refine lv_tableIn (tgt := 133) hx hb dX6_cell_22 (by rw [c_20]; decide) (by rw [c_20]; decide) (by rw [c_20]; rfl) (by decide) ?_
              refine lv_aload_n hx hb dX6_cell_133 rfl (lv_at hl 1 rfl) ?_
              refine gX6_shore C hK hP wd_1_162 dX6_cell_134 ?_
              refine lv_iconst (v := 1) hx hb dX6_cell_137 (by decide) ?_
              refine vp_callSi (run_vP (As := [.int (1 : Int32)]) (rest := []) C hK hP hD hN (c_X4_stillBy (by decide) _) (rX4_r hK hP (by decide)) ⟨wd_2_70, wd_2_71, wd_2_72, wd_1_4, wd_2_73⟩ ⟨rfl, rfl⟩ hv_X4_stillBy ⟨Nat.le_of_ble_eq_true rfl, Nat.le_of_ble_eq_true rfl⟩ rfl hl.1 rfl (Nat.le_of_ble_eq_true rfl) dX6_cell_138 ⟨Nat.zero_le _, Nat.zero_le _⟩) (fun r_21 hr_21 => ?_)
              have hT := nm_u hr_21 hT
              refine lv_iload hx hb dX6_cell_141 (lv_at hl 0 rfl) ?_
              refine lv_iand hx hb dX6_cell_143 ?_
              refine lv_if_eq (tgt := 151) hx hb dX6_cell_144 (by decide) (fun c_22 => ?_) (fun c_22 => ?_)
              · have hT := it_t c_22 hT
                refine lv_iconst (v := 0) hx hb dX6_cell_151 (by decide) ?_
                refine vp_callSi (run_sP (As := [.int (0 : Int32)]) (rest := []) C hN (c_X6_oneIf) ⟨wd_2_55, wd_2_56, wd_1_1, wd_2_57⟩ ⟨rfl, rfl⟩ hd_X6_oneIf ⟨Nat.le_of_ble_eq_true rfl, Nat.le_of_ble_eq_true rfl⟩ rfl hl.1 rfl (Nat.le_of_ble_eq_true rfl) dX6_cell_152 ⟨Nat.zero_le _, Nat.zero_le _⟩) (fun r_23 hr_23 => ?_)
                have hT := nm_u hr_23 hT
                exact hret _ _ _ hT dX6_cell_155
              · have hT := it_f c_22 hT
                refine lv_iconst (v := 1) hx hb dX6_cell_147 (by decide) ?_
                refine lv_goto (tgt := 152) hx hb dX6_cell_148 (by decide) ?_
                refine vp_callSi (run_sP (As := [.int (1 : Int32)]) (rest := []) C hN (c_X6_oneIf) ⟨wd_2_55, wd_2_56, wd_1_1, wd_2_57⟩ ⟨rfl, rfl⟩ hd_X6_oneIf ⟨Nat.le_of_ble_eq_true rfl, Nat.le_of_ble_eq_true rfl⟩ rfl hl.1 rfl (Nat.le_of_ble_eq_true rfl) dX6_cell_152 ⟨Nat.zero_le _, Nat.zero_le _⟩) (fun r_24 hr_24 => ?_)
                have hT := nm_u hr_24 hT
                exact hret _ _ _ hT dX6_cell_155
            · have hT := it_f c_20 hT
              refine lv_tableOut (tgt := 156) hx hb dX6_cell_22 (by have h0 := lv_neT (a := 0) c_4 rfl; have h1 := lv_neT (a := 1) c_6 rfl; have h2 := lv_neT (a := 2) c_10 rfl; have h3 := lv_neT (a := 3) c_15 rfl; have h4 := lv_neT (a := 4) c_20 rfl; omega) (by decide) ?_
              refine lv_iconst (v := -1) hx hb dX6_cell_156 (by decide) ?_
              exact hret _ _ _ hT dX6_cell_157
  · have hT := it_t c_2 hT
    refine lv_iconst (v := -1) hx hb dX6_cell_12 (by decide) ?_
    exact hret _ _ _ hT dX6_cell_13
theorem hv_X6_family : yX6_family.cls = RX6 ∧ yX6_family.cls ≠ "java/lang/invoke/MethodHandle" ∧ yX6_family.cls ≠ "java/lang/invoke/VarHandle" ∧ (parseMethodDescriptor yX6_family.desc).map (fun d => d.parameters.length) = some 2 := by decide +kernel
theorem hd_X6_family : yX6_family.cls ≠ "java/lang/invoke/MethodHandle" ∧ yX6_family.cls ≠ "java/lang/invoke/VarHandle" ∧ (parseMethodDescriptor yX6_family.desc).map (fun d => d.parameters.length) = some 2 := hv_X6_family.2
def sp_X6_family (V : Nat → Nat → Int32) (Hd : Nat → Nat → Int32) (x1 : Int32) (x2 : Int32) : Int32 :=
  nm (sp_X6_isFamily x1) (fun r_1 => if r_1 = 0 then (-1 : Int32) else (if x2 = (0 : Int32) then (nm (sp_X4_heldBy Hd (11 * 0 + 10) x1) (fun r_4 => r_4)) else (if x2 = (1 : Int32) then (nm (sp_X4_shelterOf V Hd (11 * 0 + 10) x1) (fun r_6 => r_6)) else (if x2 = (2 : Int32) then (nm (sp_X4_losesAfter V Hd (11 * 0 + 10) x1) (fun r_8 => r_8)) else (-1 : Int32)))))
theorem sp_X6_family_s (V : Nat → Nat → Int32) (Hd : Nat → Nat → Int32) (x1 : Int32) (x2 : Int32) : (nm (sp_X6_isFamily x1) (fun r_1 => if r_1 = 0 then (-1 : Int32) else (if x2 = (0 : Int32) then (nm (sp_X4_heldBy Hd (11 * 0 + 10) x1) (fun r_4 => r_4)) else (if x2 = (1 : Int32) then (nm (sp_X4_shelterOf V Hd (11 * 0 + 10) x1) (fun r_6 => r_6)) else (if x2 = (2 : Int32) then (nm (sp_X4_losesAfter V Hd (11 * 0 + 10) x1) (fun r_8 => r_8)) else (-1 : Int32)))))) = sp_X6_family V Hd x1 x2 := rfl
set_option maxHeartbeats 4000000 in
set_option maxRecDepth 100000 in
theorem c_X6_family {l : Launch} {D : va_G} {cI cZ cO : ClassId} {sk : Nat → Nat} {g tb : Nat → Int32} {V Hd : Nat → Nat → Int32} {tr : Int64} {x1 : Int32} {x2 : Int32}  (sz : Nat) : Met l yX6_family (wm yX6_family cX6_family 3 (some .int)) ({ frames := 6, cells := 0, slots := 0, locals := 130 } : Room) (GPre D (ty3 cI cZ cO) (WW cI cO sk g tb V Hd tr) [.ref (sk 0), .int x1, .int x2] sz) (vp_Si (fun r => r = sp_X6_family V Hd x1 x2)) 0 0 (fun _ => False) := by
  refine metP_i (post := (fun r => r = sp_X6_family V Hd x1 x2)) (by decide) (Nat.le_of_ble_eq_true rfl) ?_
  intro p e s m args below meth c ls Q C hsz hP hK hD hN hl hret
  have hx := C.1
  have hb := C.2.1
  have hl : lv_has ls 3 [(0, .ref (sk 0)), (1, .int x1), (2, .int x2)] := hl
  have hT := sp_X6_family_s V Hd x1 x2
  refine lv_iload_n hx hb dX6_family_0 rfl (lv_at hl 1 rfl) ?_
  refine vp_callSi (run_sP (As := [.int x1]) (rest := []) C hN (c_X6_isFamily) ⟨wd_2_91, wd_2_92, wd_1_1, wd_2_93⟩ ⟨rfl, rfl⟩ hd_X6_isFamily ⟨Nat.le_of_ble_eq_true rfl, Nat.le_of_ble_eq_true rfl⟩ rfl hl.1 rfl (Nat.le_of_ble_eq_true rfl) dX6_family_1 ⟨Nat.zero_le _, Nat.zero_le _⟩) (fun r_1 hr_1 => ?_)
  have hT := nm_u hr_1.1 hT
  refine lv_if_ne (tgt := 9) hx hb dX6_family_4 (by decide) (fun c_2 => ?_) (fun c_2 => ?_)
  · have hT := it_f c_2 hT
    refine lv_iload_n hx hb dX6_family_9 rfl (lv_at hl 2 rfl) ?_
    by_cases c_3 : x2 = (0 : Int32)
    · have hT := it_t c_3 hT
      refine lv_tableIn (tgt := 36) hx hb dX6_family_10 (by rw [c_3]; decide) (by rw [c_3]; decide) (by rw [c_3]; rfl) (by decide) ?_
      refine lv_aload_n hx hb dX6_family_36 rfl (lv_at hl 0 rfl) ?_
      refine gX6_shore C hK hP wd_1_162 dX6_family_37 ?_
      refine lv_iload_n hx hb dX6_family_40 rfl (lv_at hl 1 rfl) ?_
      refine vp_callSi (run_vP (As := [.int x1]) (rest := []) C hK hP hD hN (c_X4_heldBy (by decide) _) (rX4_r hK hP (by decide)) ⟨wd_2_94, wd_2_34, wd_2_35, wd_1_4, wd_2_36⟩ ⟨rfl, rfl⟩ hv_X4_heldBy ⟨Nat.le_of_ble_eq_true rfl, Nat.le_of_ble_eq_true rfl⟩ rfl hl.1 rfl (Nat.le_of_ble_eq_true rfl) dX6_family_41 ⟨Nat.zero_le _, Nat.zero_le _⟩) (fun r_4 hr_4 => ?_)
      have hT := nm_u hr_4 hT
      exact hret _ _ _ hT dX6_family_44
    · have hT := it_f c_3 hT
      by_cases c_5 : x2 = (1 : Int32)
      · have hT := it_t c_5 hT
        refine lv_tableIn (tgt := 45) hx hb dX6_family_10 (by rw [c_5]; decide) (by rw [c_5]; decide) (by rw [c_5]; rfl) (by decide) ?_
        refine lv_aload_n hx hb dX6_family_45 rfl (lv_at hl 0 rfl) ?_
        refine gX6_shore C hK hP wd_1_162 dX6_family_46 ?_
        refine lv_iload_n hx hb dX6_family_49 rfl (lv_at hl 1 rfl) ?_
        refine vp_callSi (run_vP (As := [.int x1]) (rest := []) C hK hP hD hN (c_X4_shelterOf (by decide) _) (rX4_r hK hP (by decide)) ⟨wd_2_95, wd_2_96, wd_2_97, wd_1_4, wd_2_98⟩ ⟨rfl, rfl⟩ hv_X4_shelterOf ⟨Nat.le_of_ble_eq_true rfl, Nat.le_of_ble_eq_true rfl⟩ rfl hl.1 rfl (Nat.le_of_ble_eq_true rfl) dX6_family_50 ⟨Nat.zero_le _, Nat.zero_le _⟩) (fun r_6 hr_6 => ?_)
        have hT := nm_u hr_6 hT
        exact hret _ _ _ hT dX6_family_53
      · have hT := it_f c_5 hT
        by_cases c_7 : x2 = (2 : Int32)
        · have hT := it_t c_7 hT
          refine lv_tableIn (tgt := 54) hx hb dX6_family_10 (by rw [c_7]; decide) (by rw [c_7]; decide) (by rw [c_7]; rfl) (by decide) ?_
          refine lv_aload_n hx hb dX6_family_54 rfl (lv_at hl 0 rfl) ?_
          refine gX6_shore C hK hP wd_1_162 dX6_family_55 ?_
          refine lv_iload_n hx hb dX6_family_58 rfl (lv_at hl 1 rfl) ?_
          refine vp_callSi (run_vP (As := [.int x1]) (rest := []) C hK hP hD hN (c_X4_losesAfter (by decide) _) (rX4_r hK hP (by decide)) ⟨wd_2_109, wd_2_110, wd_2_111, wd_1_4, wd_2_112⟩ ⟨rfl, rfl⟩ hv_X4_losesAfter ⟨Nat.le_of_ble_eq_true rfl, Nat.le_of_ble_eq_true rfl⟩ rfl hl.1 rfl (Nat.le_of_ble_eq_true rfl) dX6_family_59 ⟨Nat.zero_le _, Nat.zero_le _⟩) (fun r_8 hr_8 => ?_)
          have hT := nm_u hr_8 hT
          exact hret _ _ _ hT dX6_family_62
        · have hT := it_f c_7 hT
          refine lv_tableOut (tgt := 63) hx hb dX6_family_10 (by have h0 := lv_neT (a := 0) c_3 rfl; have h1 := lv_neT (a := 1) c_5 rfl; have h2 := lv_neT (a := 2) c_7 rfl; omega) (by decide) ?_
          refine lv_iconst (v := -1) hx hb dX6_family_63 (by decide) ?_
          exact hret _ _ _ hT dX6_family_64
  · have hT := it_t c_2 hT
    refine lv_iconst (v := -1) hx hb dX6_family_7 (by decide) ?_
    exact hret _ _ _ hT dX6_family_8
theorem hv_X6_takes : yX6_takes.cls = RX6 ∧ yX6_takes.cls ≠ "java/lang/invoke/MethodHandle" ∧ yX6_takes.cls ≠ "java/lang/invoke/VarHandle" ∧ (parseMethodDescriptor yX6_takes.desc).map (fun d => d.parameters.length) = some 3 := by decide +kernel
theorem hd_X6_takes : yX6_takes.cls ≠ "java/lang/invoke/MethodHandle" ∧ yX6_takes.cls ≠ "java/lang/invoke/VarHandle" ∧ (parseMethodDescriptor yX6_takes.desc).map (fun d => d.parameters.length) = some 3 := hv_X6_takes.2
def sp_X6_takes (g : Nat → Int32) (V : Nat → Nat → Int32) (Hd : Nat → Nat → Int32) (x1 : Int32) (x2 : Int32) (x3 : Int32) : Int32 × (Nat → Int32) × (Nat → Nat → Int32) × (Nat → Nat → Int32) :=
  nm (sp_X6_isFamily x1) (fun r_1 => if r_1 = 0 then ((-1 : Int32), g, V, Hd) else (nm (sp_X4_isCell V (11 * 0 + 10) x2 x3) (fun r_3 => if r_3 = 0 then ((-1 : Int32), g, V, Hd) else (nm (sp_X6_bitOf x2 x3) (fun r_5 => nm (sp_X4_dryCells V (11 * 0 + 10)) (fun r_6 => if (r_6 &&& r_5) = 0 then ((-2 : Int32), g, V, Hd) else (nm (sp_X4_holderOf Hd (11 * 0 + 10) r_5) (fun r_8 => if r_8 = (-9 : Int32) then (nm3 (sp_X3_remember g V Hd 0) (fun g_10 V_11 Hd_12 => nm (sp_X4_give Hd_12 (11 * 0 + 10) x1 r_5) (fun Hd_14 => nm (sp_X4_heldBy Hd_14 (11 * 0 + 10) x1) (fun r_16 => nm (sp_J6_bitCount_0f7a4 r_16) (fun r_17 => (r_17, g_10, V_11, Hd_14)))))) else ((-2 : Int32), g, V, Hd)))))))))
theorem sp_X6_takes_s (g : Nat → Int32) (V : Nat → Nat → Int32) (Hd : Nat → Nat → Int32) (x1 : Int32) (x2 : Int32) (x3 : Int32) : (nm (sp_X6_isFamily x1) (fun r_1 => if r_1 = 0 then ((-1 : Int32), g, V, Hd) else (nm (sp_X4_isCell V (11 * 0 + 10) x2 x3) (fun r_3 => if r_3 = 0 then ((-1 : Int32), g, V, Hd) else (nm (sp_X6_bitOf x2 x3) (fun r_5 => nm (sp_X4_dryCells V (11 * 0 + 10)) (fun r_6 => if (r_6 &&& r_5) = 0 then ((-2 : Int32), g, V, Hd) else (nm (sp_X4_holderOf Hd (11 * 0 + 10) r_5) (fun r_8 => if r_8 = (-9 : Int32) then (nm3 (sp_X3_remember g V Hd 0) (fun g_10 V_11 Hd_12 => nm (sp_X4_give Hd_12 (11 * 0 + 10) x1 r_5) (fun Hd_14 => nm (sp_X4_heldBy Hd_14 (11 * 0 + 10) x1) (fun r_16 => nm (sp_J6_bitCount_0f7a4 r_16) (fun r_17 => (r_17, g_10, V_11, Hd_14)))))) else ((-2 : Int32), g, V, Hd)))))))))) = sp_X6_takes g V Hd x1 x2 x3 := rfl
set_option maxHeartbeats 4000000 in
set_option maxRecDepth 100000 in
theorem c_X6_takes {l : Launch} {D : va_G} {cI cZ cO : ClassId} {sk : Nat → Nat} {g tb : Nat → Int32} {V Hd : Nat → Nat → Int32} {tr : Int64} {x1 : Int32} {x2 : Int32} {x3 : Int32} (hu : 0 ≤ (g (7 + 0)).toInt ∧ (g (7 + 0)).toInt ≤ 10) (sz : Nat) : Met l yX6_takes (wm yX6_takes cX6_takes 5 (some .int)) ({ frames := 5, cells := 0, slots := 0, locals := 105 } : Room) (GPre D (ty3 cI cZ cO) (WW cI cO sk g tb V Hd tr) [.ref (sk 0), .int x1, .int x2, .int x3] sz) (va_Qi (fun r (u : (Nat → Int32) × (Nat → Nat → Int32) × (Nat → Nat → Int32)) => (r, u) = sp_X6_takes g V Hd x1 x2 x3) (fun u t => GAt D (ty3 cI cZ cO) (va_A (WW cI cO sk g tb V Hd tr) sz) (WW cI cO sk u.1 tb u.2.1 u.2.2 tr) t) (va_A (WW cI cO sk g tb V Hd tr) sz)) 0 0 (va_A (WW cI cO sk g tb V Hd tr) sz) := by
  refine metQ_i (W1 := (fun (u : (Nat → Int32) × (Nat → Nat → Int32) × (Nat → Nat → Int32)) => WW cI cO sk u.1 tb u.2.1 u.2.2 tr)) (post := (fun r (u : (Nat → Int32) × (Nat → Nat → Int32) × (Nat → Nat → Int32)) => (r, u) = sp_X6_takes g V Hd x1 x2 x3)) (by decide) (Nat.le_of_ble_eq_true rfl) ?_
  intro p e s m args below meth c ls A Q C hsz hP hK hD hS hA hN hl hret
  have hx := C.1
  have hb := C.2.1
  have hl : lv_has ls 5 [(0, .ref (sk 0)), (1, .int x1), (2, .int x2), (3, .int x3)] := hl
  have hT := sp_X6_takes_s g V Hd x1 x2 x3
  refine lv_iload_n hx hb dX6_takes_0 rfl (lv_at hl 1 rfl) ?_
  refine vp_callSi (run_sP (As := [.int x1]) (rest := []) C hN (c_X6_isFamily) ⟨wd_2_91, wd_2_92, wd_1_1, wd_2_93⟩ ⟨rfl, rfl⟩ hd_X6_isFamily ⟨Nat.le_of_ble_eq_true rfl, Nat.le_of_ble_eq_true rfl⟩ rfl hl.1 rfl (Nat.le_of_ble_eq_true rfl) dX6_takes_1 ⟨Nat.zero_le _, Nat.zero_le _⟩) (fun r_1 hr_1 => ?_)
  have hT := nm_u hr_1.1 hT
  refine lv_if_eq (tgt := 19) hx hb dX6_takes_4 (by decide) (fun c_2 => ?_) (fun c_2 => ?_)
  · have hT := it_t c_2 hT
    refine lv_iconst (v := -1) hx hb dX6_takes_19 (by decide) ?_
    exact hret _ (g, V, Hd) _ _ _ _ hT hP hD hS dX6_takes_20
  · have hT := it_f c_2 hT
    refine lv_aload_n hx hb dX6_takes_7 rfl (lv_at hl 0 rfl) ?_
    refine gX6_shore C hK hP wd_1_162 dX6_takes_8 ?_
    refine lv_iload_n hx hb dX6_takes_11 rfl (lv_at hl 2 rfl) ?_
    refine lv_iload_n hx hb dX6_takes_12 rfl (lv_at hl 3 rfl) ?_
    refine vp_callSi (run_vP (As := [.int x2, .int x3]) (rest := []) C hK hP hD hN (c_X4_isCell (by decide) _) (rX4_r hK hP (by decide)) ⟨wd_2_45, wd_2_46, wd_2_47, wd_1_4, wd_2_48⟩ ⟨rfl, rfl⟩ hv_X4_isCell ⟨Nat.le_of_ble_eq_true rfl, Nat.le_of_ble_eq_true rfl⟩ rfl hl.1 rfl (Nat.le_of_ble_eq_true rfl) dX6_takes_13 ⟨Nat.zero_le _, Nat.zero_le _⟩) (fun r_3 hr_3 => ?_)
    have hT := nm_u hr_3.1 hT
    refine lv_if_ne (tgt := 21) hx hb dX6_takes_16 (by decide) (fun c_4 => ?_) (fun c_4 => ?_)
    · have hT := it_f c_4 hT
      refine lv_iload_n hx hb dX6_takes_21 rfl (lv_at hl 2 rfl) ?_
      refine lv_iload_n hx hb dX6_takes_22 rfl (lv_at hl 3 rfl) ?_
      refine vp_callSi (run_sP (As := [.int x2, .int x3]) (rest := []) C hN (c_X6_bitOf) ⟨wd_2_50, wd_2_15, wd_1_1, wd_2_16⟩ ⟨rfl, rfl⟩ hd_X6_bitOf ⟨Nat.le_of_ble_eq_true rfl, Nat.le_of_ble_eq_true rfl⟩ rfl hl.1 rfl (Nat.le_of_ble_eq_true rfl) dX6_takes_23 ⟨Nat.zero_le _, Nat.zero_le _⟩) (fun r_5 hr_5 => ?_)
      have hT := nm_u hr_5 hT
      refine lv_istore (lv' := [(4, .int r_5), (0, .ref (sk 0)), (1, .int x1), (2, .int x2), (3, .int x3)]) hx hb dX6_takes_26 hl (by decide) rfl (fun ls hl => ?_)
      refine lv_aload_n hx hb dX6_takes_28 rfl (lv_at hl 1 rfl) ?_
      refine gX6_shore C hK hP wd_1_162 dX6_takes_29 ?_
      refine vp_callSi (run_vP (As := []) (rest := []) C hK hP hD hN (c_X4_dryCells (by decide) _) (rX4_r hK hP (by decide)) ⟨wd_2_58, wd_2_59, wd_2_60, wd_1_4, wd_2_61⟩ ⟨rfl, rfl⟩ hv_X4_dryCells ⟨Nat.le_of_ble_eq_true rfl, Nat.le_of_ble_eq_true rfl⟩ rfl hl.1 rfl (Nat.le_of_ble_eq_true rfl) dX6_takes_32 ⟨Nat.zero_le _, Nat.zero_le _⟩) (fun r_6 hr_6 => ?_)
      have hT := nm_u hr_6 hT
      refine lv_iload hx hb dX6_takes_35 (lv_at hl 0 rfl) ?_
      refine lv_iand hx hb dX6_takes_37 ?_
      refine lv_if_eq (tgt := 55) hx hb dX6_takes_38 (by decide) (fun c_7 => ?_) (fun c_7 => ?_)
      · have hT := it_t c_7 hT
        refine lv_bipush (v := -2) hx hb dX6_takes_55 (by decide) ?_
        exact hret _ (g, V, Hd) _ _ _ _ hT hP hD hS dX6_takes_57
      · have hT := it_f c_7 hT
        refine lv_aload_n hx hb dX6_takes_41 rfl (lv_at hl 1 rfl) ?_
        refine gX6_shore C hK hP wd_1_162 dX6_takes_42 ?_
        refine lv_iload hx hb dX6_takes_45 (lv_at hl 0 rfl) ?_
        refine vp_callSi (run_vP (As := [.int r_5]) (rest := []) C hK hP hD hN (c_X4_holderOf (by decide) _) (rX4_r hK hP (by decide)) ⟨wd_2_51, wd_2_52, wd_2_53, wd_1_4, wd_2_54⟩ ⟨rfl, rfl⟩ hv_X4_holderOf ⟨Nat.le_of_ble_eq_true rfl, Nat.le_of_ble_eq_true rfl⟩ rfl hl.1 rfl (Nat.le_of_ble_eq_true rfl) dX6_takes_47 ⟨Nat.zero_le _, Nat.zero_le _⟩) (fun r_8 hr_8 => ?_)
        have hT := nm_u hr_8 hT
        refine lv_bipush (v := -9) hx hb dX6_takes_50 (by decide) ?_
        refine lv_icmp_eq (tgt := 58) hx hb dX6_takes_52 (by decide) (fun c_9 => ?_) (fun c_9 => ?_)
        · have hT := it_t c_9 hT
          refine lv_aload_n hx hb dX6_takes_58 rfl (lv_at hl 1 rfl) ?_
          refine gX6_story C hK hP wd_1_161 dX6_takes_59 ?_
          refine on_v (run_vQ (As := []) (rest := []) C hK hP hD hN (c_X3_remember (by decide) hu _) (rX3_r hK hP (by decide)) ⟨wd_2_117, wd_2_118, wd_2_119, wd_1_5, wd_2_120⟩ ⟨rfl, rfl⟩ hv_X3_remember ⟨Nat.le_of_ble_eq_true rfl, Nat.le_of_ble_eq_true rfl⟩ rfl hl.1 rfl (Nat.le_of_ble_eq_true rfl) dX6_takes_62 ⟨Nat.zero_le _, Nat.zero_le _⟩) hD hS hA (fun u H locs hp_13 hP hD hS => ?_)
          obtain ⟨g_10, V_11, Hd_12⟩ := u
          have hP : va_P D vwCl (WW cI cO sk g_10 tb V_11 Hd_12 tr) H := hP
          have hD : va_D A (WW cI cO sk g_10 tb V_11 Hd_12 tr) := hD
          have hT := nm3_u hp_13 hT
          refine lv_aload_n hx hb dX6_takes_65 rfl (lv_at hl 1 rfl) ?_
          refine gX6_shore C hK hP wd_1_162 dX6_takes_66 ?_
          refine lv_iload_n hx hb dX6_takes_69 rfl (lv_at hl 2 rfl) ?_
          refine lv_iload hx hb dX6_takes_70 (lv_at hl 0 rfl) ?_
          refine on_v (run_vQ (As := [.int x1, .int r_5]) (rest := []) C hK hP hD hN (c_X4_give (by decide) _) (rX4_r hK hP (by decide)) ⟨wd_2_133, wd_2_18, wd_2_19, wd_1_4, wd_2_20⟩ ⟨rfl, rfl⟩ hv_X4_give ⟨Nat.le_of_ble_eq_true rfl, Nat.le_of_ble_eq_true rfl⟩ rfl hl.1 rfl (Nat.le_of_ble_eq_true rfl) dX6_takes_72 ⟨Nat.zero_le _, Nat.zero_le _⟩) hD hS hA (fun u H locs hp_15 hP hD hS => ?_)
          obtain ⟨Hd_14, rfl⟩ : ∃ z, z = u := ⟨_, rfl⟩
          have hP : va_P D vwCl (WW cI cO sk g_10 tb V_11 Hd_14 tr) H := hP
          have hD : va_D A (WW cI cO sk g_10 tb V_11 Hd_14 tr) := hD
          have hT := nm_u hp_15 hT
          refine lv_aload_n hx hb dX6_takes_75 rfl (lv_at hl 1 rfl) ?_
          refine gX6_shore C hK hP wd_1_162 dX6_takes_76 ?_
          refine lv_iload_n hx hb dX6_takes_79 rfl (lv_at hl 2 rfl) ?_
          refine vp_callSi (run_vP (As := [.int x1]) (rest := []) C hK hP hD hN (c_X4_heldBy (by decide) _) (rX4_r hK hP (by decide)) ⟨wd_2_94, wd_2_34, wd_2_35, wd_1_4, wd_2_36⟩ ⟨rfl, rfl⟩ hv_X4_heldBy ⟨Nat.le_of_ble_eq_true rfl, Nat.le_of_ble_eq_true rfl⟩ rfl hl.1 rfl (Nat.le_of_ble_eq_true rfl) dX6_takes_80 ⟨Nat.zero_le _, Nat.zero_le _⟩) (fun r_16 hr_16 => ?_)
          have hT := nm_u hr_16 hT
          refine vp_callSi (run_sP (As := [.int r_16]) (rest := []) C hN (c_J6_bitCount_0f7a4) ⟨wd_2_134, wd_2_104, wd_1_9, wd_2_105⟩ ⟨rfl, rfl⟩ hd_J6_bitCount_0f7a4 ⟨Nat.le_of_ble_eq_true rfl, Nat.le_of_ble_eq_true rfl⟩ rfl hl.1 rfl (Nat.le_of_ble_eq_true rfl) dX6_takes_83 ⟨Nat.zero_le _, Nat.zero_le _⟩) (fun r_17 hr_17 => ?_)
          have hT := nm_u hr_17 hT
          exact hret _ (g_10, V_11, Hd_14) _ _ _ _ hT hP hD hS dX6_takes_86
        · have hT := it_f c_9 hT
          refine lv_bipush (v := -2) hx hb dX6_takes_55 (by decide) ?_
          exact hret _ (g, V, Hd) _ _ _ _ hT hP hD hS dX6_takes_57
    · have hT := it_t c_4 hT
      refine lv_iconst (v := -1) hx hb dX6_takes_19 (by decide) ?_
      exact hret _ (g, V, Hd) _ _ _ _ hT hP hD hS dX6_takes_20
theorem hv_X6_leaves : yX6_leaves.cls = RX6 ∧ yX6_leaves.cls ≠ "java/lang/invoke/MethodHandle" ∧ yX6_leaves.cls ≠ "java/lang/invoke/VarHandle" ∧ (parseMethodDescriptor yX6_leaves.desc).map (fun d => d.parameters.length) = some 2 := by decide +kernel
theorem hd_X6_leaves : yX6_leaves.cls ≠ "java/lang/invoke/MethodHandle" ∧ yX6_leaves.cls ≠ "java/lang/invoke/VarHandle" ∧ (parseMethodDescriptor yX6_leaves.desc).map (fun d => d.parameters.length) = some 2 := hv_X6_leaves.2
def sp_X6_leaves (g : Nat → Int32) (V : Nat → Nat → Int32) (Hd : Nat → Nat → Int32) (x1 : Int32) (x2 : Int32) : Int32 × (Nat → Int32) × (Nat → Nat → Int32) × (Nat → Nat → Int32) :=
  nm (sp_X4_isCell V (11 * 0 + 10) x1 x2) (fun r_1 => if r_1 = 0 then ((-1 : Int32), g, V, Hd) else (nm (sp_X6_bitOf x1 x2) (fun r_3 => nm (sp_X4_holderOf Hd (11 * 0 + 10) r_3) (fun r_4 => if r_4 = (-9 : Int32) then ((-2 : Int32), g, V, Hd) else (nm3 (sp_X3_remember g V Hd 0) (fun g_6 V_7 Hd_8 => nm (sp_X4_freeAllBut Hd_8 (11 * 0 + 10) (r_3 ^^^ (-1 : Int32))) (fun Hd_10 => (r_4, g_6, V_7, Hd_10))))))))
theorem sp_X6_leaves_s (g : Nat → Int32) (V : Nat → Nat → Int32) (Hd : Nat → Nat → Int32) (x1 : Int32) (x2 : Int32) : (nm (sp_X4_isCell V (11 * 0 + 10) x1 x2) (fun r_1 => if r_1 = 0 then ((-1 : Int32), g, V, Hd) else (nm (sp_X6_bitOf x1 x2) (fun r_3 => nm (sp_X4_holderOf Hd (11 * 0 + 10) r_3) (fun r_4 => if r_4 = (-9 : Int32) then ((-2 : Int32), g, V, Hd) else (nm3 (sp_X3_remember g V Hd 0) (fun g_6 V_7 Hd_8 => nm (sp_X4_freeAllBut Hd_8 (11 * 0 + 10) (r_3 ^^^ (-1 : Int32))) (fun Hd_10 => (r_4, g_6, V_7, Hd_10))))))))) = sp_X6_leaves g V Hd x1 x2 := rfl
set_option maxHeartbeats 4000000 in
set_option maxRecDepth 100000 in
theorem c_X6_leaves {l : Launch} {D : va_G} {cI cZ cO : ClassId} {sk : Nat → Nat} {g tb : Nat → Int32} {V Hd : Nat → Nat → Int32} {tr : Int64} {x1 : Int32} {x2 : Int32} (hu : 0 ≤ (g (7 + 0)).toInt ∧ (g (7 + 0)).toInt ≤ 10) (sz : Nat) : Met l yX6_leaves (wm yX6_leaves cX6_leaves 5 (some .int)) ({ frames := 5, cells := 0, slots := 0, locals := 105 } : Room) (GPre D (ty3 cI cZ cO) (WW cI cO sk g tb V Hd tr) [.ref (sk 0), .int x1, .int x2] sz) (va_Qi (fun r (u : (Nat → Int32) × (Nat → Nat → Int32) × (Nat → Nat → Int32)) => (r, u) = sp_X6_leaves g V Hd x1 x2) (fun u t => GAt D (ty3 cI cZ cO) (va_A (WW cI cO sk g tb V Hd tr) sz) (WW cI cO sk u.1 tb u.2.1 u.2.2 tr) t) (va_A (WW cI cO sk g tb V Hd tr) sz)) 0 0 (va_A (WW cI cO sk g tb V Hd tr) sz) := by
  refine metQ_i (W1 := (fun (u : (Nat → Int32) × (Nat → Nat → Int32) × (Nat → Nat → Int32)) => WW cI cO sk u.1 tb u.2.1 u.2.2 tr)) (post := (fun r (u : (Nat → Int32) × (Nat → Nat → Int32) × (Nat → Nat → Int32)) => (r, u) = sp_X6_leaves g V Hd x1 x2)) (by decide) (Nat.le_of_ble_eq_true rfl) ?_
  intro p e s m args below meth c ls A Q C hsz hP hK hD hS hA hN hl hret
  have hx := C.1
  have hb := C.2.1
  have hl : lv_has ls 5 [(0, .ref (sk 0)), (1, .int x1), (2, .int x2)] := hl
  have hT := sp_X6_leaves_s g V Hd x1 x2
  refine lv_aload_n hx hb dX6_leaves_0 rfl (lv_at hl 0 rfl) ?_
  refine gX6_shore C hK hP wd_1_162 dX6_leaves_1 ?_
  refine lv_iload_n hx hb dX6_leaves_4 rfl (lv_at hl 1 rfl) ?_
  refine lv_iload_n hx hb dX6_leaves_5 rfl (lv_at hl 2 rfl) ?_
  refine vp_callSi (run_vP (As := [.int x1, .int x2]) (rest := []) C hK hP hD hN (c_X4_isCell (by decide) _) (rX4_r hK hP (by decide)) ⟨wd_2_45, wd_2_46, wd_2_47, wd_1_4, wd_2_48⟩ ⟨rfl, rfl⟩ hv_X4_isCell ⟨Nat.le_of_ble_eq_true rfl, Nat.le_of_ble_eq_true rfl⟩ rfl hl.1 rfl (Nat.le_of_ble_eq_true rfl) dX6_leaves_6 ⟨Nat.zero_le _, Nat.zero_le _⟩) (fun r_1 hr_1 => ?_)
  have hT := nm_u hr_1.1 hT
  refine lv_if_ne (tgt := 14) hx hb dX6_leaves_9 (by decide) (fun c_2 => ?_) (fun c_2 => ?_)
  · have hT := it_f c_2 hT
    refine lv_iload_n hx hb dX6_leaves_14 rfl (lv_at hl 1 rfl) ?_
    refine lv_iload_n hx hb dX6_leaves_15 rfl (lv_at hl 2 rfl) ?_
    refine vp_callSi (run_sP (As := [.int x1, .int x2]) (rest := []) C hN (c_X6_bitOf) ⟨wd_2_50, wd_2_15, wd_1_1, wd_2_16⟩ ⟨rfl, rfl⟩ hd_X6_bitOf ⟨Nat.le_of_ble_eq_true rfl, Nat.le_of_ble_eq_true rfl⟩ rfl hl.1 rfl (Nat.le_of_ble_eq_true rfl) dX6_leaves_16 ⟨Nat.zero_le _, Nat.zero_le _⟩) (fun r_3 hr_3 => ?_)
    have hT := nm_u hr_3 hT
    refine lv_istore_n (lv' := [(3, .int r_3), (0, .ref (sk 0)), (1, .int x1), (2, .int x2)]) hx hb dX6_leaves_19 rfl hl (by decide) rfl (fun ls hl => ?_)
    refine lv_aload_n hx hb dX6_leaves_20 rfl (lv_at hl 1 rfl) ?_
    refine gX6_shore C hK hP wd_1_162 dX6_leaves_21 ?_
    refine lv_iload_n hx hb dX6_leaves_24 rfl (lv_at hl 0 rfl) ?_
    refine vp_callSi (run_vP (As := [.int r_3]) (rest := []) C hK hP hD hN (c_X4_holderOf (by decide) _) (rX4_r hK hP (by decide)) ⟨wd_2_51, wd_2_52, wd_2_53, wd_1_4, wd_2_54⟩ ⟨rfl, rfl⟩ hv_X4_holderOf ⟨Nat.le_of_ble_eq_true rfl, Nat.le_of_ble_eq_true rfl⟩ rfl hl.1 rfl (Nat.le_of_ble_eq_true rfl) dX6_leaves_25 ⟨Nat.zero_le _, Nat.zero_le _⟩) (fun r_4 hr_4 => ?_)
    have hT := nm_u hr_4 hT
    refine lv_istore (lv' := [(4, .int r_4), (3, .int r_3), (0, .ref (sk 0)), (1, .int x1), (2, .int x2)]) hx hb dX6_leaves_28 hl (by decide) rfl (fun ls hl => ?_)
    refine lv_iload hx hb dX6_leaves_30 (lv_at hl 0 rfl) ?_
    refine lv_bipush (v := -9) hx hb dX6_leaves_32 (by decide) ?_
    refine lv_icmp_ne (tgt := 40) hx hb dX6_leaves_34 (by decide) (fun c_5 => ?_) (fun c_5 => ?_)
    · have hT := it_f c_5 hT
      refine lv_aload_n hx hb dX6_leaves_40 rfl (lv_at hl 2 rfl) ?_
      refine gX6_story C hK hP wd_1_161 dX6_leaves_41 ?_
      refine on_v (run_vQ (As := []) (rest := []) C hK hP hD hN (c_X3_remember (by decide) hu _) (rX3_r hK hP (by decide)) ⟨wd_2_117, wd_2_118, wd_2_119, wd_1_5, wd_2_120⟩ ⟨rfl, rfl⟩ hv_X3_remember ⟨Nat.le_of_ble_eq_true rfl, Nat.le_of_ble_eq_true rfl⟩ rfl hl.1 rfl (Nat.le_of_ble_eq_true rfl) dX6_leaves_44 ⟨Nat.zero_le _, Nat.zero_le _⟩) hD hS hA (fun u H locs hp_9 hP hD hS => ?_)
      obtain ⟨g_6, V_7, Hd_8⟩ := u
      have hP : va_P D vwCl (WW cI cO sk g_6 tb V_7 Hd_8 tr) H := hP
      have hD : va_D A (WW cI cO sk g_6 tb V_7 Hd_8 tr) := hD
      have hT := nm3_u hp_9 hT
      refine lv_aload_n hx hb dX6_leaves_47 rfl (lv_at hl 2 rfl) ?_
      refine gX6_shore C hK hP wd_1_162 dX6_leaves_48 ?_
      refine lv_iload_n hx hb dX6_leaves_51 rfl (lv_at hl 1 rfl) ?_
      refine lv_iconst (v := -1) hx hb dX6_leaves_52 (by decide) ?_
      refine lv_ixor hx hb dX6_leaves_53 ?_
      refine on_v (run_vQ (As := [.int (r_3 ^^^ (-1 : Int32))]) (rest := []) C hK hP hD hN (c_X4_freeAllBut (by decide) _) (rX4_r hK hP (by decide)) ⟨wd_2_139, wd_1_212, wd_1_213, wd_1_4, wd_1_214⟩ ⟨rfl, rfl⟩ hv_X4_freeAllBut ⟨Nat.le_of_ble_eq_true rfl, Nat.le_of_ble_eq_true rfl⟩ rfl hl.1 rfl (Nat.le_of_ble_eq_true rfl) dX6_leaves_54 ⟨Nat.zero_le _, Nat.zero_le _⟩) hD hS hA (fun u H locs hp_11 hP hD hS => ?_)
      obtain ⟨Hd_10, rfl⟩ : ∃ z, z = u := ⟨_, rfl⟩
      have hP : va_P D vwCl (WW cI cO sk g_6 tb V_7 Hd_10 tr) H := hP
      have hD : va_D A (WW cI cO sk g_6 tb V_7 Hd_10 tr) := hD
      have hT := nm_u hp_11 hT
      refine lv_iload hx hb dX6_leaves_57 (lv_at hl 0 rfl) ?_
      exact hret _ (g_6, V_7, Hd_10) _ _ _ _ hT hP hD hS dX6_leaves_59
    · have hT := it_t c_5 hT
      refine lv_bipush (v := -2) hx hb dX6_leaves_37 (by decide) ?_
      exact hret _ (g, V, Hd) _ _ _ _ hT hP hD hS dX6_leaves_39
  · have hT := it_t c_2 hT
    refine lv_iconst (v := -1) hx hb dX6_leaves_12 (by decide) ?_
    exact hret _ (g, V, Hd) _ _ _ _ hT hP hD hS dX6_leaves_13
theorem hv_X6_puts : yX6_puts.cls = RX6 ∧ yX6_puts.cls ≠ "java/lang/invoke/MethodHandle" ∧ yX6_puts.cls ≠ "java/lang/invoke/VarHandle" ∧ (parseMethodDescriptor yX6_puts.desc).map (fun d => d.parameters.length) = some 3 := by decide +kernel
theorem hd_X6_puts : yX6_puts.cls ≠ "java/lang/invoke/MethodHandle" ∧ yX6_puts.cls ≠ "java/lang/invoke/VarHandle" ∧ (parseMethodDescriptor yX6_puts.desc).map (fun d => d.parameters.length) = some 3 := hv_X6_puts.2
def jn_X6_puts_60 (g : Nat → Int32) (V : Nat → Nat → Int32) (Hd : Nat → Nat → Int32) (x3 : Int32) (r_5 : Int32) (v_8 : Int32) : Int32 × (Nat → Int32) × (Nat → Nat → Int32) × (Nat → Nat → Int32) :=
  nm (sp_X6_oneIf v_8) (fun r_9 => if r_9 = x3 then ((-2 : Int32), g, V, Hd) else (nm3 (sp_X3_remember g V Hd 0) (fun g_11 V_12 Hd_13 => nm (sp_J6_bitCount_0f7a4 ((vs V_12 (11 * 0 + 10) 2 ((V_12 (11 * 0 + 10) 2) ^^^ r_5)) (11 * 0 + 10) 2)) (fun r_15 => (r_15, g_11, vs V_12 (11 * 0 + 10) 2 ((V_12 (11 * 0 + 10) 2) ^^^ r_5), Hd_13)))))
theorem jn_X6_puts_60_s (g : Nat → Int32) (V : Nat → Nat → Int32) (Hd : Nat → Nat → Int32) (x3 : Int32) (r_5 : Int32) (v_8 : Int32) : (nm (sp_X6_oneIf v_8) (fun r_9 => if r_9 = x3 then ((-2 : Int32), g, V, Hd) else (nm3 (sp_X3_remember g V Hd 0) (fun g_11 V_12 Hd_13 => nm (sp_J6_bitCount_0f7a4 ((vs V_12 (11 * 0 + 10) 2 ((V_12 (11 * 0 + 10) 2) ^^^ r_5)) (11 * 0 + 10) 2)) (fun r_15 => (r_15, g_11, vs V_12 (11 * 0 + 10) 2 ((V_12 (11 * 0 + 10) 2) ^^^ r_5), Hd_13)))))) = jn_X6_puts_60 g V Hd x3 r_5 v_8 := rfl
def sp_X6_puts (g : Nat → Int32) (V : Nat → Nat → Int32) (Hd : Nat → Nat → Int32) (x1 : Int32) (x2 : Int32) (x3 : Int32) : Int32 × (Nat → Int32) × (Nat → Nat → Int32) × (Nat → Nat → Int32) :=
  nm (sp_X4_isCell V (11 * 0 + 10) x1 x2) (fun r_1 => if r_1 = 0 then ((-1 : Int32), g, V, Hd) else (nm (sp_X6_isWithin x3 (1 : Int32)) (fun r_3 => if r_3 = 0 then ((-1 : Int32), g, V, Hd) else (nm (sp_X6_bitOf x1 x2) (fun r_5 => nm (sp_X4_dryCells V (11 * 0 + 10)) (fun r_6 => if (r_6 &&& r_5) = 0 then ((-2 : Int32), g, V, Hd) else (if ((V (11 * 0 + 10) 2) &&& r_5) = 0 then (jn_X6_puts_60 g V Hd x3 r_5 (0 : Int32)) else (jn_X6_puts_60 g V Hd x3 r_5 (1 : Int32)))))))))
theorem sp_X6_puts_s (g : Nat → Int32) (V : Nat → Nat → Int32) (Hd : Nat → Nat → Int32) (x1 : Int32) (x2 : Int32) (x3 : Int32) : (nm (sp_X4_isCell V (11 * 0 + 10) x1 x2) (fun r_1 => if r_1 = 0 then ((-1 : Int32), g, V, Hd) else (nm (sp_X6_isWithin x3 (1 : Int32)) (fun r_3 => if r_3 = 0 then ((-1 : Int32), g, V, Hd) else (nm (sp_X6_bitOf x1 x2) (fun r_5 => nm (sp_X4_dryCells V (11 * 0 + 10)) (fun r_6 => if (r_6 &&& r_5) = 0 then ((-2 : Int32), g, V, Hd) else (if ((V (11 * 0 + 10) 2) &&& r_5) = 0 then (jn_X6_puts_60 g V Hd x3 r_5 (0 : Int32)) else (jn_X6_puts_60 g V Hd x3 r_5 (1 : Int32)))))))))) = sp_X6_puts g V Hd x1 x2 x3 := rfl
set_option maxHeartbeats 4000000 in
set_option maxRecDepth 100000 in
theorem c_X6_puts {l : Launch} {D : va_G} {cI cZ cO : ClassId} {sk : Nat → Nat} {g tb : Nat → Int32} {V Hd : Nat → Nat → Int32} {tr : Int64} {x1 : Int32} {x2 : Int32} {x3 : Int32} (hu : 0 ≤ (g (7 + 0)).toInt ∧ (g (7 + 0)).toInt ≤ 10) (sz : Nat) : Met l yX6_puts (wm yX6_puts cX6_puts 5 (some .int)) ({ frames := 5, cells := 0, slots := 0, locals := 105 } : Room) (GPre D (ty3 cI cZ cO) (WW cI cO sk g tb V Hd tr) [.ref (sk 0), .int x1, .int x2, .int x3] sz) (va_Qi (fun r (u : (Nat → Int32) × (Nat → Nat → Int32) × (Nat → Nat → Int32)) => (r, u) = sp_X6_puts g V Hd x1 x2 x3) (fun u t => GAt D (ty3 cI cZ cO) (va_A (WW cI cO sk g tb V Hd tr) sz) (WW cI cO sk u.1 tb u.2.1 u.2.2 tr) t) (va_A (WW cI cO sk g tb V Hd tr) sz)) 0 0 (va_A (WW cI cO sk g tb V Hd tr) sz) := by
  refine metQ_i (W1 := (fun (u : (Nat → Int32) × (Nat → Nat → Int32) × (Nat → Nat → Int32)) => WW cI cO sk u.1 tb u.2.1 u.2.2 tr)) (post := (fun r (u : (Nat → Int32) × (Nat → Nat → Int32) × (Nat → Nat → Int32)) => (r, u) = sp_X6_puts g V Hd x1 x2 x3)) (by decide) (Nat.le_of_ble_eq_true rfl) ?_
  intro p e s m args below meth c ls A Q C hsz hP hK hD hS hA hN hl hret
  have hx := C.1
  have hb := C.2.1
  have hl : lv_has ls 5 [(0, .ref (sk 0)), (1, .int x1), (2, .int x2), (3, .int x3)] := hl
  have hT := sp_X6_puts_s g V Hd x1 x2 x3
  refine lv_aload_n hx hb dX6_puts_0 rfl (lv_at hl 0 rfl) ?_
  refine gX6_shore C hK hP wd_1_162 dX6_puts_1 ?_
  refine lv_iload_n hx hb dX6_puts_4 rfl (lv_at hl 1 rfl) ?_
  refine lv_iload_n hx hb dX6_puts_5 rfl (lv_at hl 2 rfl) ?_
  refine vp_callSi (run_vP (As := [.int x1, .int x2]) (rest := []) C hK hP hD hN (c_X4_isCell (by decide) _) (rX4_r hK hP (by decide)) ⟨wd_2_45, wd_2_46, wd_2_47, wd_1_4, wd_2_48⟩ ⟨rfl, rfl⟩ hv_X4_isCell ⟨Nat.le_of_ble_eq_true rfl, Nat.le_of_ble_eq_true rfl⟩ rfl hl.1 rfl (Nat.le_of_ble_eq_true rfl) dX6_puts_6 ⟨Nat.zero_le _, Nat.zero_le _⟩) (fun r_1 hr_1 => ?_)
  have hT := nm_u hr_1.1 hT
  refine lv_if_eq (tgt := 20) hx hb dX6_puts_9 (by decide) (fun c_2 => ?_) (fun c_2 => ?_)
  · have hT := it_t c_2 hT
    refine lv_iconst (v := -1) hx hb dX6_puts_20 (by decide) ?_
    exact hret _ (g, V, Hd) _ _ _ _ hT hP hD hS dX6_puts_21
  · have hT := it_f c_2 hT
    refine lv_iload_n hx hb dX6_puts_12 rfl (lv_at hl 3 rfl) ?_
    refine lv_iconst (v := 1) hx hb dX6_puts_13 (by decide) ?_
    refine vp_callSi (run_sP (As := [.int x3, .int (1 : Int32)]) (rest := []) C hN (c_X6_isWithin) ⟨wd_1_188, wd_1_189, wd_1_1, wd_1_190⟩ ⟨rfl, rfl⟩ hd_X6_isWithin ⟨Nat.le_of_ble_eq_true rfl, Nat.le_of_ble_eq_true rfl⟩ rfl hl.1 rfl (Nat.le_of_ble_eq_true rfl) dX6_puts_14 ⟨Nat.zero_le _, Nat.zero_le _⟩) (fun r_3 hr_3 => ?_)
    have hT := nm_u hr_3.1 hT
    refine lv_if_ne (tgt := 22) hx hb dX6_puts_17 (by decide) (fun c_4 => ?_) (fun c_4 => ?_)
    · have hT := it_f c_4 hT
      refine lv_iload_n hx hb dX6_puts_22 rfl (lv_at hl 1 rfl) ?_
      refine lv_iload_n hx hb dX6_puts_23 rfl (lv_at hl 2 rfl) ?_
      refine vp_callSi (run_sP (As := [.int x1, .int x2]) (rest := []) C hN (c_X6_bitOf) ⟨wd_2_50, wd_2_15, wd_1_1, wd_2_16⟩ ⟨rfl, rfl⟩ hd_X6_bitOf ⟨Nat.le_of_ble_eq_true rfl, Nat.le_of_ble_eq_true rfl⟩ rfl hl.1 rfl (Nat.le_of_ble_eq_true rfl) dX6_puts_24 ⟨Nat.zero_le _, Nat.zero_le _⟩) (fun r_5 hr_5 => ?_)
      have hT := nm_u hr_5 hT
      refine lv_istore (lv' := [(4, .int r_5), (0, .ref (sk 0)), (1, .int x1), (2, .int x2), (3, .int x3)]) hx hb dX6_puts_27 hl (by decide) rfl (fun ls hl => ?_)
      refine lv_aload_n hx hb dX6_puts_29 rfl (lv_at hl 1 rfl) ?_
      refine gX6_shore C hK hP wd_1_162 dX6_puts_30 ?_
      refine vp_callSi (run_vP (As := []) (rest := []) C hK hP hD hN (c_X4_dryCells (by decide) _) (rX4_r hK hP (by decide)) ⟨wd_2_58, wd_2_59, wd_2_60, wd_1_4, wd_2_61⟩ ⟨rfl, rfl⟩ hv_X4_dryCells ⟨Nat.le_of_ble_eq_true rfl, Nat.le_of_ble_eq_true rfl⟩ rfl hl.1 rfl (Nat.le_of_ble_eq_true rfl) dX6_puts_33 ⟨Nat.zero_le _, Nat.zero_le _⟩) (fun r_6 hr_6 => ?_)
      have hT := nm_u hr_6 hT
      refine lv_iload hx hb dX6_puts_36 (lv_at hl 0 rfl) ?_
      refine lv_iand hx hb dX6_puts_38 ?_
      refine lv_if_eq (tgt := 67) hx hb dX6_puts_39 (by decide) (fun c_7 => ?_) (fun c_7 => ?_)
      · have hT := it_t c_7 hT
        refine lv_bipush (v := -2) hx hb dX6_puts_67 (by decide) ?_
        exact hret _ (g, V, Hd) _ _ _ _ hT hP hD hS dX6_puts_69
      · have hT := it_f c_7 hT
        refine lv_aload_n hx hb dX6_puts_42 rfl (lv_at hl 1 rfl) ?_
        refine gX6_shore C hK hP wd_1_162 dX6_puts_43 ?_
        refine gX4_cloth C hK hP (by decide) wd_1_52 dX6_puts_46 ?_
        refine lv_iload hx hb dX6_puts_49 (lv_at hl 0 rfl) ?_
        refine lv_iand hx hb dX6_puts_51 ?_
        have K_60 : ∀ (ls : Array Slot) (v_8 : Int32) (bo_v_8 : v_8 = 0 ∨ v_8 = 1) (hl : lv_has ls 5 [(0, .ref (sk 0)), (3, .int x3), (4, .int r_5)]) (hT0 : jn_X6_puts_60 g V Hd x3 r_5 v_8 = sp_X6_puts g V Hd x1 x2 x3), W p l e ({ frames := 5, cells := 0, slots := 0, locals := 105 } : Room) s m args below meth c s.heap [] 0 0 Q (F0 m 60 ls [.int v_8]) := by
          intro ls v_8 bo_v_8 hl hT0
          have hT := (jn_X6_puts_60_s g V Hd x3 r_5 v_8).trans hT0
          refine vp_callSi (run_sP (As := [.int v_8]) (rest := []) C hN (c_X6_oneIf) ⟨wd_2_55, wd_2_56, wd_1_1, wd_2_57⟩ ⟨rfl, rfl⟩ hd_X6_oneIf ⟨Nat.le_of_ble_eq_true rfl, Nat.le_of_ble_eq_true rfl⟩ rfl hl.1 rfl (Nat.le_of_ble_eq_true rfl) dX6_puts_60 ⟨Nat.zero_le _, Nat.zero_le _⟩) (fun r_9 hr_9 => ?_)
          have hT := nm_u hr_9 hT
          refine lv_iload_n hx hb dX6_puts_63 rfl (lv_at hl 1 rfl) ?_
          refine lv_icmp_ne (tgt := 70) hx hb dX6_puts_64 (by decide) (fun c_10 => ?_) (fun c_10 => ?_)
          · have hT := it_f c_10 hT
            refine lv_aload_n hx hb dX6_puts_70 rfl (lv_at hl 0 rfl) ?_
            refine gX6_story C hK hP wd_1_161 dX6_puts_71 ?_
            refine on_v (run_vQ (As := []) (rest := []) C hK hP hD hN (c_X3_remember (by decide) hu _) (rX3_r hK hP (by decide)) ⟨wd_2_117, wd_2_118, wd_2_119, wd_1_5, wd_2_120⟩ ⟨rfl, rfl⟩ hv_X3_remember ⟨Nat.le_of_ble_eq_true rfl, Nat.le_of_ble_eq_true rfl⟩ rfl hl.1 rfl (Nat.le_of_ble_eq_true rfl) dX6_puts_74 ⟨Nat.zero_le _, Nat.zero_le _⟩) hD hS hA (fun u H locs hp_14 hP hD hS => ?_)
            obtain ⟨g_11, V_12, Hd_13⟩ := u
            have hP : va_P D vwCl (WW cI cO sk g_11 tb V_12 Hd_13 tr) H := hP
            have hD : va_D A (WW cI cO sk g_11 tb V_12 Hd_13 tr) := hD
            have hT := nm3_u hp_14 hT
            refine lv_aload_n hx hb dX6_puts_77 rfl (lv_at hl 0 rfl) ?_
            refine gX6_shore C hK hP wd_1_162 dX6_puts_78 ?_
            refine lv_dup hx hb dX6_puts_81 rfl ?_
            refine gX4_cloth C hK hP (by decide) wd_1_52 dX6_puts_82 ?_
            refine lv_iload hx hb dX6_puts_85 (lv_at hl 2 rfl) ?_
            refine lv_ixor hx hb dX6_puts_87 ?_
            refine pX4_cloth C hK hP hD hS (by decide) wd_1_52 dX6_puts_88 (fun H locs hP hD hS => ?_)
            refine lv_aload_n hx hb dX6_puts_91 rfl (lv_at hl 0 rfl) ?_
            refine gX6_shore C hK hP wd_1_162 dX6_puts_92 ?_
            refine gX4_cloth C hK hP (by decide) wd_1_52 dX6_puts_95 ?_
            refine vp_callSi (run_sP (As := [.int ((vs V_12 (11 * 0 + 10) 2 ((V_12 (11 * 0 + 10) 2) ^^^ r_5)) (11 * 0 + 10) 2)]) (rest := []) C hN (c_J6_bitCount_0f7a4) ⟨wd_2_134, wd_2_104, wd_1_9, wd_2_105⟩ ⟨rfl, rfl⟩ hd_J6_bitCount_0f7a4 ⟨Nat.le_of_ble_eq_true rfl, Nat.le_of_ble_eq_true rfl⟩ rfl hl.1 rfl (Nat.le_of_ble_eq_true rfl) dX6_puts_98 ⟨Nat.zero_le _, Nat.zero_le _⟩) (fun r_15 hr_15 => ?_)
            have hT := nm_u hr_15 hT
            exact hret _ (g_11, vs V_12 (11 * 0 + 10) 2 ((V_12 (11 * 0 + 10) 2) ^^^ r_5), Hd_13) _ _ _ _ hT hP hD hS dX6_puts_101
          · have hT := it_t c_10 hT
            refine lv_bipush (v := -2) hx hb dX6_puts_67 (by decide) ?_
            exact hret _ (g, V, Hd) _ _ _ _ hT hP hD hS dX6_puts_69
        refine lv_if_eq (tgt := 59) hx hb dX6_puts_52 (by decide) (fun c_16 => ?_) (fun c_16 => ?_)
        · have hT := it_t c_16 hT
          refine lv_iconst (v := 0) hx hb dX6_puts_59 (by decide) ?_
          exact K_60 ls (0 : Int32) (Or.inl rfl) (lv_sub hl [1, 4, 0] rfl) hT
        · have hT := it_f c_16 hT
          refine lv_iconst (v := 1) hx hb dX6_puts_55 (by decide) ?_
          refine lv_goto (tgt := 60) hx hb dX6_puts_56 (by decide) ?_
          exact K_60 ls (1 : Int32) (Or.inr rfl) (lv_sub hl [1, 4, 0] rfl) hT
    · have hT := it_t c_4 hT
      refine lv_iconst (v := -1) hx hb dX6_puts_20 (by decide) ?_
      exact hret _ (g, V, Hd) _ _ _ _ hT hP hD hS dX6_puts_21
theorem hv_X6_veers : yX6_veers.cls = RX6 ∧ yX6_veers.cls ≠ "java/lang/invoke/MethodHandle" ∧ yX6_veers.cls ≠ "java/lang/invoke/VarHandle" ∧ (parseMethodDescriptor yX6_veers.desc).map (fun d => d.parameters.length) = some 0 := by decide +kernel
theorem hd_X6_veers : yX6_veers.cls ≠ "java/lang/invoke/MethodHandle" ∧ yX6_veers.cls ≠ "java/lang/invoke/VarHandle" ∧ (parseMethodDescriptor yX6_veers.desc).map (fun d => d.parameters.length) = some 0 := hv_X6_veers.2
def sp_X6_veers (g : Nat → Int32) (V : Nat → Nat → Int32) (Hd : Nat → Nat → Int32) : Int32 × (Nat → Int32) × (Nat → Nat → Int32) × (Nat → Nat → Int32) :=
  nm3 (sp_X3_remember g V Hd 0) (fun g_1 V_2 Hd_3 => ((vs V_2 (11 * 0 + 10) 3 ((1 : Int32) - (V_2 (11 * 0 + 10) 3))) (11 * 0 + 10) 3, g_1, vs V_2 (11 * 0 + 10) 3 ((1 : Int32) - (V_2 (11 * 0 + 10) 3)), Hd_3))
theorem sp_X6_veers_s (g : Nat → Int32) (V : Nat → Nat → Int32) (Hd : Nat → Nat → Int32) : (nm3 (sp_X3_remember g V Hd 0) (fun g_1 V_2 Hd_3 => ((vs V_2 (11 * 0 + 10) 3 ((1 : Int32) - (V_2 (11 * 0 + 10) 3))) (11 * 0 + 10) 3, g_1, vs V_2 (11 * 0 + 10) 3 ((1 : Int32) - (V_2 (11 * 0 + 10) 3)), Hd_3))) = sp_X6_veers g V Hd := rfl
set_option maxHeartbeats 4000000 in
set_option maxRecDepth 100000 in
theorem c_X6_veers {l : Launch} {D : va_G} {cI cZ cO : ClassId} {sk : Nat → Nat} {g tb : Nat → Int32} {V Hd : Nat → Nat → Int32} {tr : Int64}  (hu : 0 ≤ (g (7 + 0)).toInt ∧ (g (7 + 0)).toInt ≤ 10) (sz : Nat) : Met l yX6_veers (wm yX6_veers cX6_veers 1 (some .int)) ({ frames := 5, cells := 0, slots := 0, locals := 105 } : Room) (GPre D (ty3 cI cZ cO) (WW cI cO sk g tb V Hd tr) [.ref (sk 0)] sz) (va_Qi (fun r (u : (Nat → Int32) × (Nat → Nat → Int32) × (Nat → Nat → Int32)) => (r, u) = sp_X6_veers g V Hd) (fun u t => GAt D (ty3 cI cZ cO) (va_A (WW cI cO sk g tb V Hd tr) sz) (WW cI cO sk u.1 tb u.2.1 u.2.2 tr) t) (va_A (WW cI cO sk g tb V Hd tr) sz)) 0 0 (va_A (WW cI cO sk g tb V Hd tr) sz) := by
  refine metQ_i (W1 := (fun (u : (Nat → Int32) × (Nat → Nat → Int32) × (Nat → Nat → Int32)) => WW cI cO sk u.1 tb u.2.1 u.2.2 tr)) (post := (fun r (u : (Nat → Int32) × (Nat → Nat → Int32) × (Nat → Nat → Int32)) => (r, u) = sp_X6_veers g V Hd)) (by decide) (Nat.le_of_ble_eq_true rfl) ?_
  intro p e s m args below meth c ls A Q C hsz hP hK hD hS hA hN hl hret
  have hx := C.1
  have hb := C.2.1
  have hl : lv_has ls 1 [(0, .ref (sk 0))] := hl
  have hT := sp_X6_veers_s g V Hd
  refine lv_aload_n hx hb dX6_veers_0 rfl (lv_at hl 0 rfl) ?_
  refine gX6_story C hK hP wd_1_161 dX6_veers_1 ?_
  refine on_v (run_vQ (As := []) (rest := []) C hK hP hD hN (c_X3_remember (by decide) hu _) (rX3_r hK hP (by decide)) ⟨wd_2_117, wd_2_118, wd_2_119, wd_1_5, wd_2_120⟩ ⟨rfl, rfl⟩ hv_X3_remember ⟨Nat.le_of_ble_eq_true rfl, Nat.le_of_ble_eq_true rfl⟩ rfl hl.1 rfl (Nat.le_of_ble_eq_true rfl) dX6_veers_4 ⟨Nat.zero_le _, Nat.zero_le _⟩) hD hS hA (fun u H locs hp_4 hP hD hS => ?_)
  obtain ⟨g_1, V_2, Hd_3⟩ := u
  have hP : va_P D vwCl (WW cI cO sk g_1 tb V_2 Hd_3 tr) H := hP
  have hD : va_D A (WW cI cO sk g_1 tb V_2 Hd_3 tr) := hD
  have hT := nm3_u hp_4 hT
  refine lv_aload_n hx hb dX6_veers_7 rfl (lv_at hl 0 rfl) ?_
  refine gX6_shore C hK hP wd_1_162 dX6_veers_8 ?_
  refine lv_iconst (v := 1) hx hb dX6_veers_11 (by decide) ?_
  refine lv_aload_n hx hb dX6_veers_12 rfl (lv_at hl 0 rfl) ?_
  refine gX6_shore C hK hP wd_1_162 dX6_veers_13 ?_
  refine gX4_wind C hK hP (by decide) wd_1_56 dX6_veers_16 ?_
  refine lv_isub hx hb dX6_veers_19 ?_
  refine pX4_wind C hK hP hD hS (by decide) wd_1_56 dX6_veers_20 (fun H locs hP hD hS => ?_)
  refine lv_aload_n hx hb dX6_veers_23 rfl (lv_at hl 0 rfl) ?_
  refine gX6_shore C hK hP wd_1_162 dX6_veers_24 ?_
  refine gX4_wind C hK hP (by decide) wd_1_56 dX6_veers_27 ?_
  exact hret _ (g_1, vs V_2 (11 * 0 + 10) 3 ((1 : Int32) - (V_2 (11 * 0 + 10) 3)), Hd_3) _ _ _ _ hT hP hD hS dX6_veers_30
theorem hv_X6_tide : yX6_tide.cls = RX6 ∧ yX6_tide.cls ≠ "java/lang/invoke/MethodHandle" ∧ yX6_tide.cls ≠ "java/lang/invoke/VarHandle" ∧ (parseMethodDescriptor yX6_tide.desc).map (fun d => d.parameters.length) = some 1 := by decide +kernel
theorem hd_X6_tide : yX6_tide.cls ≠ "java/lang/invoke/MethodHandle" ∧ yX6_tide.cls ≠ "java/lang/invoke/VarHandle" ∧ (parseMethodDescriptor yX6_tide.desc).map (fun d => d.parameters.length) = some 1 := hv_X6_tide.2
def jn_X6_tide_36 (g : Nat → Int32) (V : Nat → Nat → Int32) (Hd : Nat → Nat → Int32) (v_3 : Int32) : Int32 × (Nat → Int32) × (Nat → Nat → Int32) × (Nat → Nat → Int32) :=
  nm (sp_X6_isWithin v_3 (V (11 * 0 + 10) 1)) (fun r_4 => if r_4 = 0 then ((-2 : Int32), g, V, Hd) else (nm3 (sp_X3_remember g V Hd 0) (fun g_6 V_7 Hd_8 => nm2 (sp_X4_tideBecomes V_7 Hd_8 (11 * 0 + 10) v_3) (fun V_10 Hd_11 => (v_3, g_6, V_10, Hd_11)))))
theorem jn_X6_tide_36_s (g : Nat → Int32) (V : Nat → Nat → Int32) (Hd : Nat → Nat → Int32) (v_3 : Int32) : (nm (sp_X6_isWithin v_3 (V (11 * 0 + 10) 1)) (fun r_4 => if r_4 = 0 then ((-2 : Int32), g, V, Hd) else (nm3 (sp_X3_remember g V Hd 0) (fun g_6 V_7 Hd_8 => nm2 (sp_X4_tideBecomes V_7 Hd_8 (11 * 0 + 10) v_3) (fun V_10 Hd_11 => (v_3, g_6, V_10, Hd_11)))))) = jn_X6_tide_36 g V Hd v_3 := rfl
def sp_X6_tide (g : Nat → Int32) (V : Nat → Nat → Int32) (Hd : Nat → Nat → Int32) (x1 : Int32) : Int32 × (Nat → Int32) × (Nat → Nat → Int32) × (Nat → Nat → Int32) :=
  nm (sp_X6_isWithin x1 (1 : Int32)) (fun r_1 => if r_1 = 0 then ((-1 : Int32), g, V, Hd) else (if x1 = (1 : Int32) then (jn_X6_tide_36 g V Hd ((V (11 * 0 + 10) 4) + (1 : Int32))) else (jn_X6_tide_36 g V Hd ((V (11 * 0 + 10) 4) - (1 : Int32)))))
theorem sp_X6_tide_s (g : Nat → Int32) (V : Nat → Nat → Int32) (Hd : Nat → Nat → Int32) (x1 : Int32) : (nm (sp_X6_isWithin x1 (1 : Int32)) (fun r_1 => if r_1 = 0 then ((-1 : Int32), g, V, Hd) else (if x1 = (1 : Int32) then (jn_X6_tide_36 g V Hd ((V (11 * 0 + 10) 4) + (1 : Int32))) else (jn_X6_tide_36 g V Hd ((V (11 * 0 + 10) 4) - (1 : Int32)))))) = sp_X6_tide g V Hd x1 := rfl
set_option maxHeartbeats 4000000 in
set_option maxRecDepth 100000 in
theorem c_X6_tide {l : Launch} {D : va_G} {cI cZ cO : ClassId} {sk : Nat → Nat} {g tb : Nat → Int32} {V Hd : Nat → Nat → Int32} {tr : Int64} {x1 : Int32} (hu : 0 ≤ (g (7 + 0)).toInt ∧ (g (7 + 0)).toInt ≤ 10) (sz : Nat) : Met l yX6_tide (wm yX6_tide cX6_tide 3 (some .int)) ({ frames := 5, cells := 0, slots := 0, locals := 105 } : Room) (GPre D (ty3 cI cZ cO) (WW cI cO sk g tb V Hd tr) [.ref (sk 0), .int x1] sz) (va_Qi (fun r (u : (Nat → Int32) × (Nat → Nat → Int32) × (Nat → Nat → Int32)) => (r, u) = sp_X6_tide g V Hd x1) (fun u t => GAt D (ty3 cI cZ cO) (va_A (WW cI cO sk g tb V Hd tr) sz) (WW cI cO sk u.1 tb u.2.1 u.2.2 tr) t) (va_A (WW cI cO sk g tb V Hd tr) sz)) 0 0 (va_A (WW cI cO sk g tb V Hd tr) sz) := by
  refine metQ_i (W1 := (fun (u : (Nat → Int32) × (Nat → Nat → Int32) × (Nat → Nat → Int32)) => WW cI cO sk u.1 tb u.2.1 u.2.2 tr)) (post := (fun r (u : (Nat → Int32) × (Nat → Nat → Int32) × (Nat → Nat → Int32)) => (r, u) = sp_X6_tide g V Hd x1)) (by decide) (Nat.le_of_ble_eq_true rfl) ?_
  intro p e s m args below meth c ls A Q C hsz hP hK hD hS hA hN hl hret
  have hx := C.1
  have hb := C.2.1
  have hl : lv_has ls 3 [(0, .ref (sk 0)), (1, .int x1)] := hl
  have hT := sp_X6_tide_s g V Hd x1
  refine lv_iload_n hx hb dX6_tide_0 rfl (lv_at hl 1 rfl) ?_
  refine lv_iconst (v := 1) hx hb dX6_tide_1 (by decide) ?_
  refine vp_callSi (run_sP (As := [.int x1, .int (1 : Int32)]) (rest := []) C hN (c_X6_isWithin) ⟨wd_1_188, wd_1_189, wd_1_1, wd_1_190⟩ ⟨rfl, rfl⟩ hd_X6_isWithin ⟨Nat.le_of_ble_eq_true rfl, Nat.le_of_ble_eq_true rfl⟩ rfl hl.1 rfl (Nat.le_of_ble_eq_true rfl) dX6_tide_2 ⟨Nat.zero_le _, Nat.zero_le _⟩) (fun r_1 hr_1 => ?_)
  have hT := nm_u hr_1.1 hT
  refine lv_if_ne (tgt := 10) hx hb dX6_tide_5 (by decide) (fun c_2 => ?_) (fun c_2 => ?_)
  · have hT := it_f c_2 hT
    refine lv_iload_n hx hb dX6_tide_10 rfl (lv_at hl 1 rfl) ?_
    refine lv_iconst (v := 1) hx hb dX6_tide_11 (by decide) ?_
    have K_36 : ∀ (ls : Array Slot) (v_3 : Int32) (hl : lv_has ls 3 [(0, .ref (sk 0))]) (hT0 : jn_X6_tide_36 g V Hd v_3 = sp_X6_tide g V Hd x1), W p l e ({ frames := 5, cells := 0, slots := 0, locals := 105 } : Room) s m args below meth c s.heap [] 0 0 Q (F0 m 36 ls [.int v_3]) := by
      intro ls v_3 hl hT0
      have hT := (jn_X6_tide_36_s g V Hd v_3).trans hT0
      refine lv_istore_n (lv' := [(2, .int v_3), (0, .ref (sk 0))]) hx hb dX6_tide_36 rfl hl (by decide) rfl (fun ls hl => ?_)
      refine lv_iload_n hx hb dX6_tide_37 rfl (lv_at hl 0 rfl) ?_
      refine lv_aload_n hx hb dX6_tide_38 rfl (lv_at hl 1 rfl) ?_
      refine gX6_shore C hK hP wd_1_162 dX6_tide_39 ?_
      refine gX4_rows C hK hP (by decide) wd_1_50 dX6_tide_42 ?_
      refine vp_callSi (run_sP (As := [.int v_3, .int (V (11 * 0 + 10) 1)]) (rest := []) C hN (c_X6_isWithin) ⟨wd_1_188, wd_1_189, wd_1_1, wd_1_190⟩ ⟨rfl, rfl⟩ hd_X6_isWithin ⟨Nat.le_of_ble_eq_true rfl, Nat.le_of_ble_eq_true rfl⟩ rfl hl.1 rfl (Nat.le_of_ble_eq_true rfl) dX6_tide_45 ⟨Nat.zero_le _, Nat.zero_le _⟩) (fun r_4 hr_4 => ?_)
      have hT := nm_u hr_4.1 hT
      refine lv_if_ne (tgt := 54) hx hb dX6_tide_48 (by decide) (fun c_5 => ?_) (fun c_5 => ?_)
      · have hT := it_f c_5 hT
        refine lv_aload_n hx hb dX6_tide_54 rfl (lv_at hl 1 rfl) ?_
        refine gX6_story C hK hP wd_1_161 dX6_tide_55 ?_
        refine on_v (run_vQ (As := []) (rest := []) C hK hP hD hN (c_X3_remember (by decide) hu _) (rX3_r hK hP (by decide)) ⟨wd_2_117, wd_2_118, wd_2_119, wd_1_5, wd_2_120⟩ ⟨rfl, rfl⟩ hv_X3_remember ⟨Nat.le_of_ble_eq_true rfl, Nat.le_of_ble_eq_true rfl⟩ rfl hl.1 rfl (Nat.le_of_ble_eq_true rfl) dX6_tide_58 ⟨Nat.zero_le _, Nat.zero_le _⟩) hD hS hA (fun u H locs hp_9 hP hD hS => ?_)
        obtain ⟨g_6, V_7, Hd_8⟩ := u
        have hP : va_P D vwCl (WW cI cO sk g_6 tb V_7 Hd_8 tr) H := hP
        have hD : va_D A (WW cI cO sk g_6 tb V_7 Hd_8 tr) := hD
        have hT := nm3_u hp_9 hT
        refine lv_aload_n hx hb dX6_tide_61 rfl (lv_at hl 1 rfl) ?_
        refine gX6_shore C hK hP wd_1_162 dX6_tide_62 ?_
        refine lv_iload_n hx hb dX6_tide_65 rfl (lv_at hl 0 rfl) ?_
        refine on_v (run_vQ (As := [.int v_3]) (rest := []) C hK hP hD hN (c_X4_tideBecomes (by decide) _) (rX4_r hK hP (by decide)) ⟨wd_2_152, wd_2_153, wd_2_154, wd_1_4, wd_2_155⟩ ⟨rfl, rfl⟩ hv_X4_tideBecomes ⟨Nat.le_of_ble_eq_true rfl, Nat.le_of_ble_eq_true rfl⟩ rfl hl.1 rfl (Nat.le_of_ble_eq_true rfl) dX6_tide_66 ⟨Nat.zero_le _, Nat.zero_le _⟩) hD hS hA (fun u H locs hp_12 hP hD hS => ?_)
        obtain ⟨V_10, Hd_11⟩ := u
        have hP : va_P D vwCl (WW cI cO sk g_6 tb V_10 Hd_11 tr) H := hP
        have hD : va_D A (WW cI cO sk g_6 tb V_10 Hd_11 tr) := hD
        have hT := nm2_u hp_12 hT
        refine lv_iload_n hx hb dX6_tide_69 rfl (lv_at hl 0 rfl) ?_
        exact hret _ (g_6, V_10, Hd_11) _ _ _ _ hT hP hD hS dX6_tide_70
      · have hT := it_t c_5 hT
        refine lv_bipush (v := -2) hx hb dX6_tide_51 (by decide) ?_
        exact hret _ (g, V, Hd) _ _ _ _ hT hP hD hS dX6_tide_53
    refine lv_icmp_ne (tgt := 27) hx hb dX6_tide_12 (by decide) (fun c_13 => ?_) (fun c_13 => ?_)
    · have hT := it_f c_13 hT
      refine lv_aload_n hx hb dX6_tide_27 rfl (lv_at hl 0 rfl) ?_
      refine gX6_shore C hK hP wd_1_162 dX6_tide_28 ?_
      refine gX4_tide C hK hP (by decide) wd_1_59 dX6_tide_31 ?_
      refine lv_iconst (v := 1) hx hb dX6_tide_34 (by decide) ?_
      refine lv_isub hx hb dX6_tide_35 ?_
      exact K_36 ls ((V (11 * 0 + 10) 4) - (1 : Int32)) (lv_sub hl [0] rfl) hT
    · have hT := it_t c_13 hT
      refine lv_aload_n hx hb dX6_tide_15 rfl (lv_at hl 0 rfl) ?_
      refine gX6_shore C hK hP wd_1_162 dX6_tide_16 ?_
      refine gX4_tide C hK hP (by decide) wd_1_59 dX6_tide_19 ?_
      refine lv_iconst (v := 1) hx hb dX6_tide_22 (by decide) ?_
      refine lv_iadd hx hb dX6_tide_23 ?_
      refine lv_goto (tgt := 36) hx hb dX6_tide_24 (by decide) ?_
      exact K_36 ls ((V (11 * 0 + 10) 4) + (1 : Int32)) (lv_sub hl [0] rfl) hT
  · have hT := it_t c_2 hT
    refine lv_iconst (v := -1) hx hb dX6_tide_8 (by decide) ?_
    exact hret _ (g, V, Hd) _ _ _ _ hT hP hD hS dX6_tide_9
theorem hv_X6_undo : yX6_undo.cls = RX6 ∧ yX6_undo.cls ≠ "java/lang/invoke/MethodHandle" ∧ yX6_undo.cls ≠ "java/lang/invoke/VarHandle" ∧ (parseMethodDescriptor yX6_undo.desc).map (fun d => d.parameters.length) = some 0 := by decide +kernel
theorem hd_X6_undo : yX6_undo.cls ≠ "java/lang/invoke/MethodHandle" ∧ yX6_undo.cls ≠ "java/lang/invoke/VarHandle" ∧ (parseMethodDescriptor yX6_undo.desc).map (fun d => d.parameters.length) = some 0 := hv_X6_undo.2
def sp_X6_undo (g : Nat → Int32) (V : Nat → Nat → Int32) (Hd : Nat → Nat → Int32) : Int32 × (Nat → Int32) × (Nat → Nat → Int32) × (Nat → Nat → Int32) :=
  nm4 (sp_X3_goBack g V Hd 0) (fun r_5 g_1 V_2 Hd_3 => if r_5 = 0 then ((-2 : Int32), g_1, V_2, Hd_3) else (g_1 (7 + 0), g_1, V_2, Hd_3))
theorem sp_X6_undo_s (g : Nat → Int32) (V : Nat → Nat → Int32) (Hd : Nat → Nat → Int32) : (nm4 (sp_X3_goBack g V Hd 0) (fun r_5 g_1 V_2 Hd_3 => if r_5 = 0 then ((-2 : Int32), g_1, V_2, Hd_3) else (g_1 (7 + 0), g_1, V_2, Hd_3))) = sp_X6_undo g V Hd := rfl
set_option maxHeartbeats 4000000 in
set_option maxRecDepth 100000 in
theorem c_X6_undo {l : Launch} {D : va_G} {cI cZ cO : ClassId} {sk : Nat → Nat} {g tb : Nat → Int32} {V Hd : Nat → Nat → Int32} {tr : Int64}  (hu : 0 ≤ (g (7 + 0)).toInt ∧ (g (7 + 0)).toInt ≤ 10) (sz : Nat) : Met l yX6_undo (wm yX6_undo cX6_undo 1 (some .int)) ({ frames := 4, cells := 0, slots := 0, locals := 84 } : Room) (GPre D (ty3 cI cZ cO) (WW cI cO sk g tb V Hd tr) [.ref (sk 0)] sz) (va_Qi (fun r (u : (Nat → Int32) × (Nat → Nat → Int32) × (Nat → Nat → Int32)) => (r, u) = sp_X6_undo g V Hd) (fun u t => GAt D (ty3 cI cZ cO) (va_A (WW cI cO sk g tb V Hd tr) sz) (WW cI cO sk u.1 tb u.2.1 u.2.2 tr) t) (va_A (WW cI cO sk g tb V Hd tr) sz)) 0 0 (va_A (WW cI cO sk g tb V Hd tr) sz) := by
  refine metQ_i (W1 := (fun (u : (Nat → Int32) × (Nat → Nat → Int32) × (Nat → Nat → Int32)) => WW cI cO sk u.1 tb u.2.1 u.2.2 tr)) (post := (fun r (u : (Nat → Int32) × (Nat → Nat → Int32) × (Nat → Nat → Int32)) => (r, u) = sp_X6_undo g V Hd)) (by decide) (Nat.le_of_ble_eq_true rfl) ?_
  intro p e s m args below meth c ls A Q C hsz hP hK hD hS hA hN hl hret
  have hx := C.1
  have hb := C.2.1
  have hl : lv_has ls 1 [(0, .ref (sk 0))] := hl
  have hT := sp_X6_undo_s g V Hd
  refine lv_aload_n hx hb dX6_undo_0 rfl (lv_at hl 0 rfl) ?_
  refine gX6_story C hK hP wd_1_161 dX6_undo_1 ?_
  refine on_i (run_vQ (As := []) (rest := []) C hK hP hD hN (c_X3_goBack (by decide) hu _) (rX3_r hK hP (by decide)) ⟨wd_2_160, wd_2_161, wd_2_162, wd_1_5, wd_2_163⟩ ⟨rfl, rfl⟩ hv_X3_goBack ⟨Nat.le_of_ble_eq_true rfl, Nat.le_of_ble_eq_true rfl⟩ rfl hl.1 rfl (Nat.le_of_ble_eq_true rfl) dX6_undo_4 ⟨Nat.zero_le _, Nat.zero_le _⟩) hD hS hA (fun r_5 u H locs hp_4 hP hD hS => ?_)
  obtain ⟨g_1, V_2, Hd_3⟩ := u
  have hP : va_P D vwCl (WW cI cO sk g_1 tb V_2 Hd_3 tr) H := hP
  have hD : va_D A (WW cI cO sk g_1 tb V_2 Hd_3 tr) := hD
  have hT := nm4_u hp_4.1 hT
  refine lv_if_eq (tgt := 20) hx hb dX6_undo_7 (by decide) (fun c_6 => ?_) (fun c_6 => ?_)
  · have hT := it_t c_6 hT
    refine lv_bipush (v := -2) hx hb dX6_undo_20 (by decide) ?_
    exact hret _ (g_1, V_2, Hd_3) _ _ _ _ hT hP hD hS dX6_undo_22
  · have hT := it_f c_6 hT
    refine lv_aload_n hx hb dX6_undo_10 rfl (lv_at hl 0 rfl) ?_
    refine gX6_story C hK hP wd_1_161 dX6_undo_11 ?_
    refine gX3_undoable C hK hP (by decide) wd_1_114 dX6_undo_14 ?_
    refine lv_goto (tgt := 22) hx hb dX6_undo_17 (by decide) ?_
    exact hret _ (g_1, V_2, Hd_3) _ _ _ _ hT hP hD hS dX6_undo_22
theorem hv_X6_now : yX6_now.cls = RX6 ∧ yX6_now.cls ≠ "java/lang/invoke/MethodHandle" ∧ yX6_now.cls ≠ "java/lang/invoke/VarHandle" ∧ (parseMethodDescriptor yX6_now.desc).map (fun d => d.parameters.length) = some 1 := by decide +kernel
theorem hd_X6_now : yX6_now.cls ≠ "java/lang/invoke/MethodHandle" ∧ yX6_now.cls ≠ "java/lang/invoke/VarHandle" ∧ (parseMethodDescriptor yX6_now.desc).map (fun d => d.parameters.length) = some 1 := hv_X6_now.2
def sp_X6_now (V : Nat → Nat → Int32) (Hd : Nat → Nat → Int32) (x1 : Int32) : Int32 :=
  if x1 = (0 : Int32) then (V (11 * 0 + 10) 3) else (if x1 = (1 : Int32) then (V (11 * 0 + 10) 4) else (if x1 = (2 : Int32) then (V (11 * 0 + 10) 2) else (if x1 = (3 : Int32) then (nm (sp_X4_heldByAny Hd (11 * 0 + 10)) (fun r_5 => r_5)) else (if x1 = (4 : Int32) then (nm (sp_X4_stillBy V (11 * 0 + 10) (V (11 * 0 + 10) 3)) (fun r_7 => r_7)) else (if x1 = (5 : Int32) then (nm (sp_X4_borderLength V Hd (11 * 0 + 10)) (fun r_9 => r_9)) else (-1 : Int32))))))
theorem sp_X6_now_s (V : Nat → Nat → Int32) (Hd : Nat → Nat → Int32) (x1 : Int32) : (if x1 = (0 : Int32) then (V (11 * 0 + 10) 3) else (if x1 = (1 : Int32) then (V (11 * 0 + 10) 4) else (if x1 = (2 : Int32) then (V (11 * 0 + 10) 2) else (if x1 = (3 : Int32) then (nm (sp_X4_heldByAny Hd (11 * 0 + 10)) (fun r_5 => r_5)) else (if x1 = (4 : Int32) then (nm (sp_X4_stillBy V (11 * 0 + 10) (V (11 * 0 + 10) 3)) (fun r_7 => r_7)) else (if x1 = (5 : Int32) then (nm (sp_X4_borderLength V Hd (11 * 0 + 10)) (fun r_9 => r_9)) else (-1 : Int32))))))) = sp_X6_now V Hd x1 := rfl
set_option maxHeartbeats 4000000 in
set_option maxRecDepth 100000 in
theorem c_X6_now {l : Launch} {D : va_G} {cI cZ cO : ClassId} {sk : Nat → Nat} {g tb : Nat → Int32} {V Hd : Nat → Nat → Int32} {tr : Int64} {x1 : Int32}  (sz : Nat) : Met l yX6_now (wm yX6_now cX6_now 2 (some .int)) ({ frames := 5, cells := 0, slots := 0, locals := 108 } : Room) (GPre D (ty3 cI cZ cO) (WW cI cO sk g tb V Hd tr) [.ref (sk 0), .int x1] sz) (vp_Si (fun r => r = sp_X6_now V Hd x1)) 0 0 (fun _ => False) := by
  refine metP_i (post := (fun r => r = sp_X6_now V Hd x1)) (by decide) (Nat.le_of_ble_eq_true rfl) ?_
  intro p e s m args below meth c ls Q C hsz hP hK hD hN hl hret
  have hx := C.1
  have hb := C.2.1
  have hl : lv_has ls 2 [(0, .ref (sk 0)), (1, .int x1)] := hl
  have hT := sp_X6_now_s V Hd x1
  refine lv_iload_n hx hb dX6_now_0 rfl (lv_at hl 1 rfl) ?_
  by_cases c_1 : x1 = (0 : Int32)
  · have hT := it_t c_1 hT
    refine lv_tableIn (tgt := 40) hx hb dX6_now_1 (by rw [c_1]; decide) (by rw [c_1]; decide) (by rw [c_1]; rfl) (by decide) ?_
    refine lv_aload_n hx hb dX6_now_40 rfl (lv_at hl 0 rfl) ?_
    refine gX6_shore C hK hP wd_1_162 dX6_now_41 ?_
    refine gX4_wind C hK hP (by decide) wd_1_56 dX6_now_44 ?_
    exact hret _ _ _ hT dX6_now_47
  · have hT := it_f c_1 hT
    by_cases c_2 : x1 = (1 : Int32)
    · have hT := it_t c_2 hT
      refine lv_tableIn (tgt := 48) hx hb dX6_now_1 (by rw [c_2]; decide) (by rw [c_2]; decide) (by rw [c_2]; rfl) (by decide) ?_
      refine lv_aload_n hx hb dX6_now_48 rfl (lv_at hl 0 rfl) ?_
      refine gX6_shore C hK hP wd_1_162 dX6_now_49 ?_
      refine gX4_tide C hK hP (by decide) wd_1_59 dX6_now_52 ?_
      exact hret _ _ _ hT dX6_now_55
    · have hT := it_f c_2 hT
      by_cases c_3 : x1 = (2 : Int32)
      · have hT := it_t c_3 hT
        refine lv_tableIn (tgt := 56) hx hb dX6_now_1 (by rw [c_3]; decide) (by rw [c_3]; decide) (by rw [c_3]; rfl) (by decide) ?_
        refine lv_aload_n hx hb dX6_now_56 rfl (lv_at hl 0 rfl) ?_
        refine gX6_shore C hK hP wd_1_162 dX6_now_57 ?_
        refine gX4_cloth C hK hP (by decide) wd_1_52 dX6_now_60 ?_
        exact hret _ _ _ hT dX6_now_63
      · have hT := it_f c_3 hT
        by_cases c_4 : x1 = (3 : Int32)
        · have hT := it_t c_4 hT
          refine lv_tableIn (tgt := 64) hx hb dX6_now_1 (by rw [c_4]; decide) (by rw [c_4]; decide) (by rw [c_4]; rfl) (by decide) ?_
          refine lv_aload_n hx hb dX6_now_64 rfl (lv_at hl 0 rfl) ?_
          refine gX6_shore C hK hP wd_1_162 dX6_now_65 ?_
          refine vp_callSi (run_vP (As := []) (rest := []) C hK hP hD hN (c_X4_heldByAny (by decide) _) (rX4_r hK hP (by decide)) ⟨wd_2_168, wd_2_7, wd_2_8, wd_1_4, wd_2_9⟩ ⟨rfl, rfl⟩ hv_X4_heldByAny ⟨Nat.le_of_ble_eq_true rfl, Nat.le_of_ble_eq_true rfl⟩ rfl hl.1 rfl (Nat.le_of_ble_eq_true rfl) dX6_now_68 ⟨Nat.zero_le _, Nat.zero_le _⟩) (fun r_5 hr_5 => ?_)
          have hT := nm_u hr_5 hT
          exact hret _ _ _ hT dX6_now_71
        · have hT := it_f c_4 hT
          by_cases c_6 : x1 = (4 : Int32)
          · have hT := it_t c_6 hT
            refine lv_tableIn (tgt := 72) hx hb dX6_now_1 (by rw [c_6]; decide) (by rw [c_6]; decide) (by rw [c_6]; rfl) (by decide) ?_
            refine lv_aload_n hx hb dX6_now_72 rfl (lv_at hl 0 rfl) ?_
            refine gX6_shore C hK hP wd_1_162 dX6_now_73 ?_
            refine lv_aload_n hx hb dX6_now_76 rfl (lv_at hl 0 rfl) ?_
            refine gX6_shore C hK hP wd_1_162 dX6_now_77 ?_
            refine gX4_wind C hK hP (by decide) wd_1_56 dX6_now_80 ?_
            refine vp_callSi (run_vP (As := [.int (V (11 * 0 + 10) 3)]) (rest := []) C hK hP hD hN (c_X4_stillBy (by decide) _) (rX4_r hK hP (by decide)) ⟨wd_2_70, wd_2_71, wd_2_72, wd_1_4, wd_2_73⟩ ⟨rfl, rfl⟩ hv_X4_stillBy ⟨Nat.le_of_ble_eq_true rfl, Nat.le_of_ble_eq_true rfl⟩ rfl hl.1 rfl (Nat.le_of_ble_eq_true rfl) dX6_now_83 ⟨Nat.zero_le _, Nat.zero_le _⟩) (fun r_7 hr_7 => ?_)
            have hT := nm_u hr_7 hT
            exact hret _ _ _ hT dX6_now_86
          · have hT := it_f c_6 hT
            by_cases c_8 : x1 = (5 : Int32)
            · have hT := it_t c_8 hT
              refine lv_tableIn (tgt := 87) hx hb dX6_now_1 (by rw [c_8]; decide) (by rw [c_8]; decide) (by rw [c_8]; rfl) (by decide) ?_
              refine lv_aload_n hx hb dX6_now_87 rfl (lv_at hl 0 rfl) ?_
              refine gX6_shore C hK hP wd_1_162 dX6_now_88 ?_
              refine vp_callSi (run_vP (As := []) (rest := []) C hK hP hD hN (c_X4_borderLength (by decide) _) (rX4_r hK hP (by decide)) ⟨wd_2_169, wd_2_170, wd_2_171, wd_1_4, wd_2_172⟩ ⟨rfl, rfl⟩ hv_X4_borderLength ⟨Nat.le_of_ble_eq_true rfl, Nat.le_of_ble_eq_true rfl⟩ rfl hl.1 rfl (Nat.le_of_ble_eq_true rfl) dX6_now_91 ⟨Nat.zero_le _, Nat.zero_le _⟩) (fun r_9 hr_9 => ?_)
              have hT := nm_u hr_9 hT
              exact hret _ _ _ hT dX6_now_94
            · have hT := it_f c_8 hT
              refine lv_tableOut (tgt := 95) hx hb dX6_now_1 (by have h0 := lv_neT (a := 0) c_1 rfl; have h1 := lv_neT (a := 1) c_2 rfl; have h2 := lv_neT (a := 2) c_3 rfl; have h3 := lv_neT (a := 3) c_4 rfl; have h4 := lv_neT (a := 4) c_6 rfl; have h5 := lv_neT (a := 5) c_8 rfl; omega) (by decide) ?_
              refine lv_iconst (v := -1) hx hb dX6_now_95 (by decide) ?_
              exact hret _ _ _ hT dX6_now_96
theorem hv_X6_water : yX6_water.cls = RX6 ∧ yX6_water.cls ≠ "java/lang/invoke/MethodHandle" ∧ yX6_water.cls ≠ "java/lang/invoke/VarHandle" ∧ (parseMethodDescriptor yX6_water.desc).map (fun d => d.parameters.length) = some 3 := by decide +kernel
theorem hd_X6_water : yX6_water.cls ≠ "java/lang/invoke/MethodHandle" ∧ yX6_water.cls ≠ "java/lang/invoke/VarHandle" ∧ (parseMethodDescriptor yX6_water.desc).map (fun d => d.parameters.length) = some 3 := hv_X6_water.2
def sp_X6_water (V : Nat → Nat → Int32) (Hd : Nat → Nat → Int32) (x1 : Int32) (x2 : Int32) (x3 : Int32) : Int32 :=
  nm (sp_X6_isFamily x1) (fun r_1 => if r_1 = 0 then (-1 : Int32) else (nm (sp_X4_isCell V (11 * 0 + 10) x2 x3) (fun r_3 => if r_3 = 0 then (-1 : Int32) else (nm (sp_X6_bitOf x2 x3) (fun r_5 => nm (sp_X4_dryCells V (11 * 0 + 10)) (fun r_6 => if (r_6 &&& r_5) = 0 then (-1 : Int32) else (nm (sp_X4_fewestOthers V Hd (11 * 0 + 10) x1 r_5) (fun r_8 => r_8))))))))
theorem sp_X6_water_s (V : Nat → Nat → Int32) (Hd : Nat → Nat → Int32) (x1 : Int32) (x2 : Int32) (x3 : Int32) : (nm (sp_X6_isFamily x1) (fun r_1 => if r_1 = 0 then (-1 : Int32) else (nm (sp_X4_isCell V (11 * 0 + 10) x2 x3) (fun r_3 => if r_3 = 0 then (-1 : Int32) else (nm (sp_X6_bitOf x2 x3) (fun r_5 => nm (sp_X4_dryCells V (11 * 0 + 10)) (fun r_6 => if (r_6 &&& r_5) = 0 then (-1 : Int32) else (nm (sp_X4_fewestOthers V Hd (11 * 0 + 10) x1 r_5) (fun r_8 => r_8))))))))) = sp_X6_water V Hd x1 x2 x3 := rfl
set_option maxHeartbeats 4000000 in
set_option maxRecDepth 100000 in
theorem c_X6_water {l : Launch} {D : va_G} {cI cZ cO : ClassId} {sk : Nat → Nat} {g tb : Nat → Int32} {V Hd : Nat → Nat → Int32} {tr : Int64} {x1 : Int32} {x2 : Int32} {x3 : Int32}  (sz : Nat) : Met l yX6_water (wm yX6_water cX6_water 5 (some .int)) ({ frames := 4, cells := 0, slots := 0, locals := 91 } : Room) (GPre D (ty3 cI cZ cO) (WW cI cO sk g tb V Hd tr) [.ref (sk 0), .int x1, .int x2, .int x3] sz) (vp_Si (fun r => r = sp_X6_water V Hd x1 x2 x3)) 0 0 (fun _ => False) := by
  refine metP_i (post := (fun r => r = sp_X6_water V Hd x1 x2 x3)) (by decide) (Nat.le_of_ble_eq_true rfl) ?_
  intro p e s m args below meth c ls Q C hsz hP hK hD hN hl hret
  have hx := C.1
  have hb := C.2.1
  have hl : lv_has ls 5 [(0, .ref (sk 0)), (1, .int x1), (2, .int x2), (3, .int x3)] := hl
  have hT := sp_X6_water_s V Hd x1 x2 x3
  refine lv_iload_n hx hb dX6_water_0 rfl (lv_at hl 1 rfl) ?_
  refine vp_callSi (run_sP (As := [.int x1]) (rest := []) C hN (c_X6_isFamily) ⟨wd_2_91, wd_2_92, wd_1_1, wd_2_93⟩ ⟨rfl, rfl⟩ hd_X6_isFamily ⟨Nat.le_of_ble_eq_true rfl, Nat.le_of_ble_eq_true rfl⟩ rfl hl.1 rfl (Nat.le_of_ble_eq_true rfl) dX6_water_1 ⟨Nat.zero_le _, Nat.zero_le _⟩) (fun r_1 hr_1 => ?_)
  have hT := nm_u hr_1.1 hT
  refine lv_if_eq (tgt := 19) hx hb dX6_water_4 (by decide) (fun c_2 => ?_) (fun c_2 => ?_)
  · have hT := it_t c_2 hT
    refine lv_iconst (v := -1) hx hb dX6_water_19 (by decide) ?_
    exact hret _ _ _ hT dX6_water_20
  · have hT := it_f c_2 hT
    refine lv_aload_n hx hb dX6_water_7 rfl (lv_at hl 0 rfl) ?_
    refine gX6_shore C hK hP wd_1_162 dX6_water_8 ?_
    refine lv_iload_n hx hb dX6_water_11 rfl (lv_at hl 2 rfl) ?_
    refine lv_iload_n hx hb dX6_water_12 rfl (lv_at hl 3 rfl) ?_
    refine vp_callSi (run_vP (As := [.int x2, .int x3]) (rest := []) C hK hP hD hN (c_X4_isCell (by decide) _) (rX4_r hK hP (by decide)) ⟨wd_2_45, wd_2_46, wd_2_47, wd_1_4, wd_2_48⟩ ⟨rfl, rfl⟩ hv_X4_isCell ⟨Nat.le_of_ble_eq_true rfl, Nat.le_of_ble_eq_true rfl⟩ rfl hl.1 rfl (Nat.le_of_ble_eq_true rfl) dX6_water_13 ⟨Nat.zero_le _, Nat.zero_le _⟩) (fun r_3 hr_3 => ?_)
    have hT := nm_u hr_3.1 hT
    refine lv_if_ne (tgt := 21) hx hb dX6_water_16 (by decide) (fun c_4 => ?_) (fun c_4 => ?_)
    · have hT := it_f c_4 hT
      refine lv_iload_n hx hb dX6_water_21 rfl (lv_at hl 2 rfl) ?_
      refine lv_iload_n hx hb dX6_water_22 rfl (lv_at hl 3 rfl) ?_
      refine vp_callSi (run_sP (As := [.int x2, .int x3]) (rest := []) C hN (c_X6_bitOf) ⟨wd_2_50, wd_2_15, wd_1_1, wd_2_16⟩ ⟨rfl, rfl⟩ hd_X6_bitOf ⟨Nat.le_of_ble_eq_true rfl, Nat.le_of_ble_eq_true rfl⟩ rfl hl.1 rfl (Nat.le_of_ble_eq_true rfl) dX6_water_23 ⟨Nat.zero_le _, Nat.zero_le _⟩) (fun r_5 hr_5 => ?_)
      have hT := nm_u hr_5 hT
      refine lv_istore (lv' := [(4, .int r_5), (0, .ref (sk 0)), (1, .int x1), (2, .int x2), (3, .int x3)]) hx hb dX6_water_26 hl (by decide) rfl (fun ls hl => ?_)
      refine lv_aload_n hx hb dX6_water_28 rfl (lv_at hl 1 rfl) ?_
      refine gX6_shore C hK hP wd_1_162 dX6_water_29 ?_
      refine vp_callSi (run_vP (As := []) (rest := []) C hK hP hD hN (c_X4_dryCells (by decide) _) (rX4_r hK hP (by decide)) ⟨wd_2_58, wd_2_59, wd_2_60, wd_1_4, wd_2_61⟩ ⟨rfl, rfl⟩ hv_X4_dryCells ⟨Nat.le_of_ble_eq_true rfl, Nat.le_of_ble_eq_true rfl⟩ rfl hl.1 rfl (Nat.le_of_ble_eq_true rfl) dX6_water_32 ⟨Nat.zero_le _, Nat.zero_le _⟩) (fun r_6 hr_6 => ?_)
      have hT := nm_u hr_6 hT
      refine lv_iload hx hb dX6_water_35 (lv_at hl 0 rfl) ?_
      refine lv_iand hx hb dX6_water_37 ?_
      refine lv_if_ne (tgt := 45) hx hb dX6_water_38 (by decide) (fun c_7 => ?_) (fun c_7 => ?_)
      · have hT := it_f c_7 hT
        refine lv_aload_n hx hb dX6_water_45 rfl (lv_at hl 1 rfl) ?_
        refine gX6_shore C hK hP wd_1_162 dX6_water_46 ?_
        refine lv_iload_n hx hb dX6_water_49 rfl (lv_at hl 2 rfl) ?_
        refine lv_iload hx hb dX6_water_50 (lv_at hl 0 rfl) ?_
        refine vp_callSi (run_vP (As := [.int x1, .int r_5]) (rest := []) C hK hP hD hN (c_X4_fewestOthers (by decide) _) (rX4_r hK hP (by decide)) ⟨wd_2_181, wd_2_182, wd_2_183, wd_1_4, wd_2_184⟩ ⟨rfl, rfl⟩ hv_X4_fewestOthers ⟨Nat.le_of_ble_eq_true rfl, Nat.le_of_ble_eq_true rfl⟩ rfl hl.1 rfl (Nat.le_of_ble_eq_true rfl) dX6_water_52 ⟨Nat.zero_le _, Nat.zero_le _⟩) (fun r_8 hr_8 => ?_)
        have hT := nm_u hr_8 hT
        exact hret _ _ _ hT dX6_water_55
      · have hT := it_t c_7 hT
        refine lv_iconst (v := -1) hx hb dX6_water_41 (by decide) ?_
        refine lv_goto (tgt := 55) hx hb dX6_water_42 (by decide) ?_
        exact hret _ _ _ hT dX6_water_55
    · have hT := it_t c_4 hT
      refine lv_iconst (v := -1) hx hb dX6_water_19 (by decide) ?_
      exact hret _ _ _ hT dX6_water_20
theorem hv_X6_help : yX6_help.cls = RX6 ∧ yX6_help.cls ≠ "java/lang/invoke/MethodHandle" ∧ yX6_help.cls ≠ "java/lang/invoke/VarHandle" ∧ (parseMethodDescriptor yX6_help.desc).map (fun d => d.parameters.length) = some 2 := by decide +kernel
theorem hd_X6_help : yX6_help.cls ≠ "java/lang/invoke/MethodHandle" ∧ yX6_help.cls ≠ "java/lang/invoke/VarHandle" ∧ (parseMethodDescriptor yX6_help.desc).map (fun d => d.parameters.length) = some 2 := hv_X6_help.2
def sp_X6_help (V : Nat → Nat → Int32) (Hd : Nat → Nat → Int32) (x1 : Int32) (x2 : Int32) : Int32 :=
  nm (sp_X6_isFamily x1) (fun r_1 => if r_1 = 0 then (-1 : Int32) else (nm (sp_X6_isWithin x2 (1 : Int32)) (fun r_3 => if r_3 = 0 then (-1 : Int32) else (nm (sp_X4_bestCloth V Hd (11 * 0 + 10) x1) (fun r_5 => if r_5 = (-9 : Int32) then r_5 else (if x2 = 0 then r_5 else (nm (sp_X4_shelterWith V Hd (11 * 0 + 10) x1 ((V (11 * 0 + 10) 2) ||| ((1 : Int32) <<< (r_5 &&& 31)))) (fun r_8 => nm (sp_X4_shelterOf V Hd (11 * 0 + 10) x1) (fun r_9 => r_8 - r_9)))))))))
theorem sp_X6_help_s (V : Nat → Nat → Int32) (Hd : Nat → Nat → Int32) (x1 : Int32) (x2 : Int32) : (nm (sp_X6_isFamily x1) (fun r_1 => if r_1 = 0 then (-1 : Int32) else (nm (sp_X6_isWithin x2 (1 : Int32)) (fun r_3 => if r_3 = 0 then (-1 : Int32) else (nm (sp_X4_bestCloth V Hd (11 * 0 + 10) x1) (fun r_5 => if r_5 = (-9 : Int32) then r_5 else (if x2 = 0 then r_5 else (nm (sp_X4_shelterWith V Hd (11 * 0 + 10) x1 ((V (11 * 0 + 10) 2) ||| ((1 : Int32) <<< (r_5 &&& 31)))) (fun r_8 => nm (sp_X4_shelterOf V Hd (11 * 0 + 10) x1) (fun r_9 => r_8 - r_9)))))))))) = sp_X6_help V Hd x1 x2 := rfl
set_option maxHeartbeats 4000000 in
set_option maxRecDepth 100000 in
theorem c_X6_help {l : Launch} {D : va_G} {cI cZ cO : ClassId} {sk : Nat → Nat} {g tb : Nat → Int32} {V Hd : Nat → Nat → Int32} {tr : Int64} {x1 : Int32} {x2 : Int32}  (sz : Nat) : Met l yX6_help (wm yX6_help cX6_help 4 (some .int)) ({ frames := 6, cells := 0, slots := 0, locals := 135 } : Room) (GPre D (ty3 cI cZ cO) (WW cI cO sk g tb V Hd tr) [.ref (sk 0), .int x1, .int x2] sz) (vp_Si (fun r => r = sp_X6_help V Hd x1 x2)) 0 0 (fun _ => False) := by
  refine metP_i (post := (fun r => r = sp_X6_help V Hd x1 x2)) (by decide) (Nat.le_of_ble_eq_true rfl) ?_
  intro p e s m args below meth c ls Q C hsz hP hK hD hN hl hret
  have hx := C.1
  have hb := C.2.1
  have hl : lv_has ls 4 [(0, .ref (sk 0)), (1, .int x1), (2, .int x2)] := hl
  have hT := sp_X6_help_s V Hd x1 x2
  refine lv_iload_n hx hb dX6_help_0 rfl (lv_at hl 1 rfl) ?_
  refine vp_callSi (run_sP (As := [.int x1]) (rest := []) C hN (c_X6_isFamily) ⟨wd_2_91, wd_2_92, wd_1_1, wd_2_93⟩ ⟨rfl, rfl⟩ hd_X6_isFamily ⟨Nat.le_of_ble_eq_true rfl, Nat.le_of_ble_eq_true rfl⟩ rfl hl.1 rfl (Nat.le_of_ble_eq_true rfl) dX6_help_1 ⟨Nat.zero_le _, Nat.zero_le _⟩) (fun r_1 hr_1 => ?_)
  have hT := nm_u hr_1.1 hT
  refine lv_if_eq (tgt := 15) hx hb dX6_help_4 (by decide) (fun c_2 => ?_) (fun c_2 => ?_)
  · have hT := it_t c_2 hT
    refine lv_iconst (v := -1) hx hb dX6_help_15 (by decide) ?_
    exact hret _ _ _ hT dX6_help_16
  · have hT := it_f c_2 hT
    refine lv_iload_n hx hb dX6_help_7 rfl (lv_at hl 2 rfl) ?_
    refine lv_iconst (v := 1) hx hb dX6_help_8 (by decide) ?_
    refine vp_callSi (run_sP (As := [.int x2, .int (1 : Int32)]) (rest := []) C hN (c_X6_isWithin) ⟨wd_1_188, wd_1_189, wd_1_1, wd_1_190⟩ ⟨rfl, rfl⟩ hd_X6_isWithin ⟨Nat.le_of_ble_eq_true rfl, Nat.le_of_ble_eq_true rfl⟩ rfl hl.1 rfl (Nat.le_of_ble_eq_true rfl) dX6_help_9 ⟨Nat.zero_le _, Nat.zero_le _⟩) (fun r_3 hr_3 => ?_)
    have hT := nm_u hr_3.1 hT
    refine lv_if_ne (tgt := 17) hx hb dX6_help_12 (by decide) (fun c_4 => ?_) (fun c_4 => ?_)
    · have hT := it_f c_4 hT
      refine lv_aload_n hx hb dX6_help_17 rfl (lv_at hl 0 rfl) ?_
      refine gX6_shore C hK hP wd_1_162 dX6_help_18 ?_
      refine lv_iload_n hx hb dX6_help_21 rfl (lv_at hl 1 rfl) ?_
      refine vp_callSi (run_vP (As := [.int x1]) (rest := []) C hK hP hD hN (c_X4_bestCloth (by decide) _) (rX4_r hK hP (by decide)) ⟨wd_2_196, wd_2_197, wd_2_198, wd_1_4, wd_2_199⟩ ⟨rfl, rfl⟩ hv_X4_bestCloth ⟨Nat.le_of_ble_eq_true rfl, Nat.le_of_ble_eq_true rfl⟩ rfl hl.1 rfl (Nat.le_of_ble_eq_true rfl) dX6_help_22 ⟨Nat.zero_le _, Nat.zero_le _⟩) (fun r_5 hr_5 => ?_)
      have hT := nm_u hr_5 hT
      refine lv_istore_n (lv' := [(3, .int r_5), (0, .ref (sk 0)), (1, .int x1), (2, .int x2)]) hx hb dX6_help_25 rfl hl (by decide) rfl (fun ls hl => ?_)
      refine lv_iload_n hx hb dX6_help_26 rfl (lv_at hl 0 rfl) ?_
      refine lv_bipush (v := -9) hx hb dX6_help_27 (by decide) ?_
      refine lv_icmp_eq (tgt := 36) hx hb dX6_help_29 (by decide) (fun c_6 => ?_) (fun c_6 => ?_)
      · have hT := it_t c_6 hT
        refine lv_iload_n hx hb dX6_help_36 rfl (lv_at hl 0 rfl) ?_
        exact hret _ _ _ hT dX6_help_37
      · have hT := it_f c_6 hT
        refine lv_iload_n hx hb dX6_help_32 rfl (lv_at hl 3 rfl) ?_
        refine lv_if_ne (tgt := 38) hx hb dX6_help_33 (by decide) (fun c_7 => ?_) (fun c_7 => ?_)
        · have hT := it_f c_7 hT
          refine lv_aload_n hx hb dX6_help_38 rfl (lv_at hl 1 rfl) ?_
          refine gX6_shore C hK hP wd_1_162 dX6_help_39 ?_
          refine lv_iload_n hx hb dX6_help_42 rfl (lv_at hl 2 rfl) ?_
          refine lv_aload_n hx hb dX6_help_43 rfl (lv_at hl 1 rfl) ?_
          refine gX6_shore C hK hP wd_1_162 dX6_help_44 ?_
          refine gX4_cloth C hK hP (by decide) wd_1_52 dX6_help_47 ?_
          refine lv_iconst (v := 1) hx hb dX6_help_50 (by decide) ?_
          refine lv_iload_n hx hb dX6_help_51 rfl (lv_at hl 0 rfl) ?_
          refine lv_ishl hx hb dX6_help_52 ?_
          refine lv_ior hx hb dX6_help_53 ?_
          refine vp_callSi (run_vP (As := [.int x1, .int ((V (11 * 0 + 10) 2) ||| ((1 : Int32) <<< (r_5 &&& 31)))]) (rest := []) C hK hP hD hN (c_X4_shelterWith (by decide) _) (rX4_r hK hP (by decide)) ⟨wd_2_204, wd_2_100, wd_2_101, wd_1_4, wd_2_102⟩ ⟨rfl, rfl⟩ hv_X4_shelterWith ⟨Nat.le_of_ble_eq_true rfl, Nat.le_of_ble_eq_true rfl⟩ rfl hl.1 rfl (Nat.le_of_ble_eq_true rfl) dX6_help_54 ⟨Nat.zero_le _, Nat.zero_le _⟩) (fun r_8 hr_8 => ?_)
          have hT := nm_u hr_8 hT
          refine lv_aload_n hx hb dX6_help_57 rfl (lv_at hl 1 rfl) ?_
          refine gX6_shore C hK hP wd_1_162 dX6_help_58 ?_
          refine lv_iload_n hx hb dX6_help_61 rfl (lv_at hl 2 rfl) ?_
          refine vp_callSi (run_vP (As := [.int x1]) (rest := [.int r_8]) C hK hP hD hN (c_X4_shelterOf (by decide) _) (rX4_r hK hP (by decide)) ⟨wd_2_95, wd_2_96, wd_2_97, wd_1_4, wd_2_98⟩ ⟨rfl, rfl⟩ hv_X4_shelterOf ⟨Nat.le_of_ble_eq_true rfl, Nat.le_of_ble_eq_true rfl⟩ rfl hl.1 rfl (Nat.le_of_ble_eq_true rfl) dX6_help_62 ⟨Nat.zero_le _, Nat.zero_le _⟩) (fun r_9 hr_9 => ?_)
          have hT := nm_u hr_9 hT
          refine lv_isub hx hb dX6_help_65 ?_
          exact hret _ _ _ hT dX6_help_66
        · have hT := it_t c_7 hT
          refine lv_iload_n hx hb dX6_help_36 rfl (lv_at hl 0 rfl) ?_
          exact hret _ _ _ hT dX6_help_37
    · have hT := it_t c_4 hT
      refine lv_iconst (v := -1) hx hb dX6_help_15 (by decide) ?_
      exact hret _ _ _ hT dX6_help_16
theorem hv_X6_odds : yX6_odds.cls = RX6 ∧ yX6_odds.cls ≠ "java/lang/invoke/MethodHandle" ∧ yX6_odds.cls ≠ "java/lang/invoke/VarHandle" ∧ (parseMethodDescriptor yX6_odds.desc).map (fun d => d.parameters.length) = some 5 := by decide +kernel
theorem hd_X6_odds : yX6_odds.cls ≠ "java/lang/invoke/MethodHandle" ∧ yX6_odds.cls ≠ "java/lang/invoke/VarHandle" ∧ (parseMethodDescriptor yX6_odds.desc).map (fun d => d.parameters.length) = some 5 := hv_X6_odds.2
def lp_X6_odds_54 (x3 : Int32) (x4 : Int32) : Nat → Int32 → Int32 → Int32 → Int32 → Int32 × Int32 × Int32
  | 0, y_9, y_10, y_11, y_12 => (y_9, y_10, y_11)
  | n + 1, y_9, y_10, y_11, y_12 => if x4 ≤ y_12 then (y_9, y_10, y_11) else (lp_X6_odds_54 x3 x4 n ((y_9 * ((10 : Int32) - x3)) + (y_10 * x3)) ((y_10 * ((10 : Int32) - x3)) + (y_9 * x3)) (y_11 * (10 : Int32)) (y_12 + 1))
theorem lp_X6_odds_54_s (x3 : Int32) (x4 : Int32) (n : Nat) (y_9 : Int32) (y_10 : Int32) (y_11 : Int32) (y_12 : Int32) : (if x4 ≤ y_12 then (y_9, y_10, y_11) else (lp_X6_odds_54 x3 x4 n ((y_9 * ((10 : Int32) - x3)) + (y_10 * x3)) ((y_10 * ((10 : Int32) - x3)) + (y_9 * x3)) (y_11 * (10 : Int32)) (y_12 + 1))) = lp_X6_odds_54 x3 x4 (n + 1) y_9 y_10 y_11 y_12 := rfl
def jn_X6_odds_139 (V : Nat → Nat → Int32) (x5 : Int32) (e_14 : Int32) (e_15 : Int32) (r_17 : Int32) (v_19 : Int32) : Int32 :=
  nm (sp_X4_stillBy V (11 * 0 + 10) ((1 : Int32) - (V (11 * 0 + 10) 3))) (fun r_20 => if (r_20 &&& r_17) = 0 then (nm (sp_X6_inLeastTerms (v_19 + (0 : Int32)) e_15 x5) (fun r_22 => r_22)) else (nm (sp_X6_inLeastTerms (v_19 + e_14) e_15 x5) (fun r_23 => r_23)))
theorem jn_X6_odds_139_s (V : Nat → Nat → Int32) (x5 : Int32) (e_14 : Int32) (e_15 : Int32) (r_17 : Int32) (v_19 : Int32) : (nm (sp_X4_stillBy V (11 * 0 + 10) ((1 : Int32) - (V (11 * 0 + 10) 3))) (fun r_20 => if (r_20 &&& r_17) = 0 then (nm (sp_X6_inLeastTerms (v_19 + (0 : Int32)) e_15 x5) (fun r_22 => r_22)) else (nm (sp_X6_inLeastTerms (v_19 + e_14) e_15 x5) (fun r_23 => r_23)))) = jn_X6_odds_139 V x5 e_14 e_15 r_17 v_19 := rfl
def sp_X6_odds (V : Nat → Nat → Int32) (x1 : Int32) (x2 : Int32) (x3 : Int32) (x4 : Int32) (x5 : Int32) : Int32 :=
  nm (sp_X4_isCell V (11 * 0 + 10) x1 x2) (fun r_1 => if r_1 = 0 then (-1 : Int32) else (nm (sp_X6_isWithin x3 (10 : Int32)) (fun r_3 => if r_3 = 0 then (-1 : Int32) else (nm (sp_X6_isWithin x4 (6 : Int32)) (fun r_5 => if r_5 = 0 then (-1 : Int32) else (nm (sp_X6_isWithin x5 (1 : Int32)) (fun r_7 => if r_7 = 0 then (-1 : Int32) else (nm3 (lp_X6_odds_54 x3 x4 (((x4).toInt - (0 : Int32).toInt).toNat + 1) (1 : Int32) (0 : Int32) (1 : Int32) (0 : Int32)) (fun e_13 e_14 e_15 => nm (sp_X6_bitOf x1 x2) (fun r_17 => nm (sp_X4_stillBy V (11 * 0 + 10) (V (11 * 0 + 10) 3)) (fun r_18 => if (r_18 &&& r_17) = 0 then (jn_X6_odds_139 V x5 e_14 e_15 r_17 (0 : Int32)) else (jn_X6_odds_139 V x5 e_14 e_15 r_17 e_13))))))))))))
theorem sp_X6_odds_s (V : Nat → Nat → Int32) (x1 : Int32) (x2 : Int32) (x3 : Int32) (x4 : Int32) (x5 : Int32) : (nm (sp_X4_isCell V (11 * 0 + 10) x1 x2) (fun r_1 => if r_1 = 0 then (-1 : Int32) else (nm (sp_X6_isWithin x3 (10 : Int32)) (fun r_3 => if r_3 = 0 then (-1 : Int32) else (nm (sp_X6_isWithin x4 (6 : Int32)) (fun r_5 => if r_5 = 0 then (-1 : Int32) else (nm (sp_X6_isWithin x5 (1 : Int32)) (fun r_7 => if r_7 = 0 then (-1 : Int32) else (nm3 (lp_X6_odds_54 x3 x4 (((x4).toInt - (0 : Int32).toInt).toNat + 1) (1 : Int32) (0 : Int32) (1 : Int32) (0 : Int32)) (fun e_13 e_14 e_15 => nm (sp_X6_bitOf x1 x2) (fun r_17 => nm (sp_X4_stillBy V (11 * 0 + 10) (V (11 * 0 + 10) 3)) (fun r_18 => if (r_18 &&& r_17) = 0 then (jn_X6_odds_139 V x5 e_14 e_15 r_17 (0 : Int32)) else (jn_X6_odds_139 V x5 e_14 e_15 r_17 e_13))))))))))))) = sp_X6_odds V x1 x2 x3 x4 x5 := rfl
set_option maxHeartbeats 4000000 in
set_option maxRecDepth 100000 in
theorem c_X6_odds {l : Launch} {D : va_G} {cI cZ cO : ClassId} {sk : Nat → Nat} {g tb : Nat → Int32} {V Hd : Nat → Nat → Int32} {tr : Int64} {x1 : Int32} {x2 : Int32} {x3 : Int32} {x4 : Int32} {x5 : Int32}  (sz : Nat) : Met l yX6_odds (wm yX6_odds cX6_odds 11 (some .int)) ({ frames := 5, cells := 0, slots := 0, locals := 108 } : Room) (GPre D (ty3 cI cZ cO) (WW cI cO sk g tb V Hd tr) [.ref (sk 0), .int x1, .int x2, .int x3, .int x4, .int x5] sz) (vp_Si (fun r => r = sp_X6_odds V x1 x2 x3 x4 x5)) 0 0 (fun _ => False) := by
  refine metP_i (post := (fun r => r = sp_X6_odds V x1 x2 x3 x4 x5)) (by decide) (Nat.le_of_ble_eq_true rfl) ?_
  intro p e s m args below meth c ls Q C hsz hP hK hD hN hl hret
  have hx := C.1
  have hb := C.2.1
  have hl : lv_has ls 11 [(0, .ref (sk 0)), (1, .int x1), (2, .int x2), (3, .int x3), (4, .int x4), (5, .int x5)] := hl
  have hT := sp_X6_odds_s V x1 x2 x3 x4 x5
  refine lv_aload_n hx hb dX6_odds_0 rfl (lv_at hl 0 rfl) ?_
  refine gX6_shore C hK hP wd_1_162 dX6_odds_1 ?_
  refine lv_iload_n hx hb dX6_odds_4 rfl (lv_at hl 1 rfl) ?_
  refine lv_iload_n hx hb dX6_odds_5 rfl (lv_at hl 2 rfl) ?_
  refine vp_callSi (run_vP (As := [.int x1, .int x2]) (rest := []) C hK hP hD hN (c_X4_isCell (by decide) _) (rX4_r hK hP (by decide)) ⟨wd_2_45, wd_2_46, wd_2_47, wd_1_4, wd_2_48⟩ ⟨rfl, rfl⟩ hv_X4_isCell ⟨Nat.le_of_ble_eq_true rfl, Nat.le_of_ble_eq_true rfl⟩ rfl hl.1 rfl (Nat.le_of_ble_eq_true rfl) dX6_odds_6 ⟨Nat.zero_le _, Nat.zero_le _⟩) (fun r_1 hr_1 => ?_)
  have hT := nm_u hr_1.1 hT
  refine lv_if_eq (tgt := 40) hx hb dX6_odds_9 (by decide) (fun c_2 => ?_) (fun c_2 => ?_)
  · have hT := it_t c_2 hT
    refine lv_iconst (v := -1) hx hb dX6_odds_40 (by decide) ?_
    exact hret _ _ _ hT dX6_odds_41
  · have hT := it_f c_2 hT
    refine lv_iload_n hx hb dX6_odds_12 rfl (lv_at hl 3 rfl) ?_
    refine lv_bipush (v := 10) hx hb dX6_odds_13 (by decide) ?_
    refine vp_callSi (run_sP (As := [.int x3, .int (10 : Int32)]) (rest := []) C hN (c_X6_isWithin) ⟨wd_1_188, wd_1_189, wd_1_1, wd_1_190⟩ ⟨rfl, rfl⟩ hd_X6_isWithin ⟨Nat.le_of_ble_eq_true rfl, Nat.le_of_ble_eq_true rfl⟩ rfl hl.1 rfl (Nat.le_of_ble_eq_true rfl) dX6_odds_15 ⟨Nat.zero_le _, Nat.zero_le _⟩) (fun r_3 hr_3 => ?_)
    have hT := nm_u hr_3.1 hT
    refine lv_if_eq (tgt := 40) hx hb dX6_odds_18 (by decide) (fun c_4 => ?_) (fun c_4 => ?_)
    · have hT := it_t c_4 hT
      refine lv_iconst (v := -1) hx hb dX6_odds_40 (by decide) ?_
      exact hret _ _ _ hT dX6_odds_41
    · have hT := it_f c_4 hT
      refine lv_iload hx hb dX6_odds_21 (lv_at hl 4 rfl) ?_
      refine lv_bipush (v := 6) hx hb dX6_odds_23 (by decide) ?_
      refine vp_callSi (run_sP (As := [.int x4, .int (6 : Int32)]) (rest := []) C hN (c_X6_isWithin) ⟨wd_1_188, wd_1_189, wd_1_1, wd_1_190⟩ ⟨rfl, rfl⟩ hd_X6_isWithin ⟨Nat.le_of_ble_eq_true rfl, Nat.le_of_ble_eq_true rfl⟩ rfl hl.1 rfl (Nat.le_of_ble_eq_true rfl) dX6_odds_25 ⟨Nat.zero_le _, Nat.zero_le _⟩) (fun r_5 hr_5 => ?_)
      have hT := nm_u hr_5.1 hT
      refine lv_if_eq (tgt := 40) hx hb dX6_odds_28 (by decide) (fun c_6 => ?_) (fun c_6 => ?_)
      · have hT := it_t c_6 hT
        refine lv_iconst (v := -1) hx hb dX6_odds_40 (by decide) ?_
        exact hret _ _ _ hT dX6_odds_41
      · have hT := it_f c_6 hT
        refine lv_iload hx hb dX6_odds_31 (lv_at hl 5 rfl) ?_
        refine lv_iconst (v := 1) hx hb dX6_odds_33 (by decide) ?_
        refine vp_callSi (run_sP (As := [.int x5, .int (1 : Int32)]) (rest := []) C hN (c_X6_isWithin) ⟨wd_1_188, wd_1_189, wd_1_1, wd_1_190⟩ ⟨rfl, rfl⟩ hd_X6_isWithin ⟨Nat.le_of_ble_eq_true rfl, Nat.le_of_ble_eq_true rfl⟩ rfl hl.1 rfl (Nat.le_of_ble_eq_true rfl) dX6_odds_34 ⟨Nat.zero_le _, Nat.zero_le _⟩) (fun r_7 hr_7 => ?_)
        have hT := nm_u hr_7.1 hT
        refine lv_if_ne (tgt := 42) hx hb dX6_odds_37 (by decide) (fun c_8 => ?_) (fun c_8 => ?_)
        · have hT := it_f c_8 hT
          refine lv_iconst (v := 1) hx hb dX6_odds_42 (by decide) ?_
          refine lv_istore (lv' := [(6, .int (1 : Int32)), (0, .ref (sk 0)), (1, .int x1), (2, .int x2), (3, .int x3), (4, .int x4), (5, .int x5)]) hx hb dX6_odds_43 hl (by decide) rfl (fun ls hl => ?_)
          refine lv_iconst (v := 0) hx hb dX6_odds_45 (by decide) ?_
          refine lv_istore (lv' := [(7, .int (0 : Int32)), (6, .int (1 : Int32)), (0, .ref (sk 0)), (1, .int x1), (2, .int x2), (3, .int x3), (4, .int x4), (5, .int x5)]) hx hb dX6_odds_46 hl (by decide) rfl (fun ls hl => ?_)
          refine lv_iconst (v := 1) hx hb dX6_odds_48 (by decide) ?_
          refine lv_istore (lv' := [(8, .int (1 : Int32)), (7, .int (0 : Int32)), (6, .int (1 : Int32)), (0, .ref (sk 0)), (1, .int x1), (2, .int x2), (3, .int x3), (4, .int x4), (5, .int x5)]) hx hb dX6_odds_49 hl (by decide) rfl (fun ls hl => ?_)
          refine lv_iconst (v := 0) hx hb dX6_odds_51 (by decide) ?_
          refine lv_istore (lv' := [(9, .int (0 : Int32)), (8, .int (1 : Int32)), (7, .int (0 : Int32)), (6, .int (1 : Int32)), (0, .ref (sk 0)), (1, .int x1), (2, .int x2), (3, .int x3), (4, .int x4), (5, .int x5)]) hx hb dX6_odds_52 hl (by decide) rfl (fun ls hl => ?_)
          have L_54 : ∀ (n : Nat) (ls : Array Slot) (y_9 : Int32) (y_10 : Int32) (y_11 : Int32) (y_12 : Int32) (hm : ((x4).toInt - y_12.toInt).toNat < n) (hl : lv_has ls 11 [(0, .ref (sk 0)), (1, .int x1), (2, .int x2), (3, .int x3), (4, .int x4), (5, .int x5), (6, .int y_9), (7, .int y_10), (8, .int y_11), (9, .int y_12)]) (kont : ∀ (ls : Array Slot) (e_13 : Int32) (e_14 : Int32) (e_15 : Int32), lv_has ls 11 [(0, .ref (sk 0)), (1, .int x1), (2, .int x2), (5, .int x5), (6, .int e_13), (7, .int e_14), (8, .int e_15)] → (e_13, e_14, e_15) = lp_X6_odds_54 x3 x4 n y_9 y_10 y_11 y_12 → W p l e ({ frames := 5, cells := 0, slots := 0, locals := 108 } : Room) s m args below meth c s.heap [] 0 0 Q (F0 m 106 ls [])), W p l e ({ frames := 5, cells := 0, slots := 0, locals := 108 } : Room) s m args below meth c s.heap [] 0 0 Q (F0 m 54 ls []) := by
            intro n
            induction n with
            | zero => intro ls y_9 y_10 y_11 y_12 hm; exact absurd hm (Nat.not_lt_zero _)
            | succ n ih =>
              intro ls y_9 y_10 y_11 y_12 hm hl kont
              have hT := lp_X6_odds_54_s x3 x4 n y_9 y_10 y_11 y_12
              refine lv_iload hx hb dX6_odds_54 (lv_at hl 9 rfl) ?_
              refine lv_iload hx hb dX6_odds_56 (lv_at hl 4 rfl) ?_
              refine lv_icmp_ge (tgt := 106) hx hb dX6_odds_58 (by decide) (fun c_16 => ?_) (fun c_16 => ?_)
              · have hT := it_t c_16 hT
                exact kont ls y_9 y_10 y_11 (lv_sub hl [0, 1, 2, 5, 6, 7, 8] rfl) hT
              · have hT := it_f c_16 hT
                refine lv_iload hx hb dX6_odds_61 (lv_at hl 6 rfl) ?_
                refine lv_istore (lv' := [(10, .int y_9), (0, .ref (sk 0)), (1, .int x1), (2, .int x2), (3, .int x3), (4, .int x4), (5, .int x5), (6, .int y_9), (7, .int y_10), (8, .int y_11), (9, .int y_12)]) hx hb dX6_odds_63 hl (by decide) rfl (fun ls hl => ?_)
                refine lv_iload hx hb dX6_odds_65 (lv_at hl 0 rfl) ?_
                refine lv_bipush (v := 10) hx hb dX6_odds_67 (by decide) ?_
                refine lv_iload_n hx hb dX6_odds_69 rfl (lv_at hl 4 rfl) ?_
                refine lv_isub hx hb dX6_odds_70 ?_
                refine lv_imul hx hb dX6_odds_71 ?_
                refine lv_iload hx hb dX6_odds_72 (lv_at hl 8 rfl) ?_
                refine lv_iload_n hx hb dX6_odds_74 rfl (lv_at hl 4 rfl) ?_
                refine lv_imul hx hb dX6_odds_75 ?_
                refine lv_iadd hx hb dX6_odds_76 ?_
                refine lv_istore (lv' := [(6, .int ((y_9 * ((10 : Int32) - x3)) + (y_10 * x3))), (10, .int y_9), (0, .ref (sk 0)), (1, .int x1), (2, .int x2), (3, .int x3), (4, .int x4), (5, .int x5), (7, .int y_10), (8, .int y_11), (9, .int y_12)]) hx hb dX6_odds_77 hl (by decide) rfl (fun ls hl => ?_)
                refine lv_iload hx hb dX6_odds_79 (lv_at hl 8 rfl) ?_
                refine lv_bipush (v := 10) hx hb dX6_odds_81 (by decide) ?_
                refine lv_iload_n hx hb dX6_odds_83 rfl (lv_at hl 5 rfl) ?_
                refine lv_isub hx hb dX6_odds_84 ?_
                refine lv_imul hx hb dX6_odds_85 ?_
                refine lv_iload hx hb dX6_odds_86 (lv_at hl 1 rfl) ?_
                refine lv_iload_n hx hb dX6_odds_88 rfl (lv_at hl 5 rfl) ?_
                refine lv_imul hx hb dX6_odds_89 ?_
                refine lv_iadd hx hb dX6_odds_90 ?_
                refine lv_istore (lv' := [(7, .int ((y_10 * ((10 : Int32) - x3)) + (y_9 * x3))), (6, .int ((y_9 * ((10 : Int32) - x3)) + (y_10 * x3))), (10, .int y_9), (0, .ref (sk 0)), (1, .int x1), (2, .int x2), (3, .int x3), (4, .int x4), (5, .int x5), (8, .int y_11), (9, .int y_12)]) hx hb dX6_odds_91 hl (by decide) rfl (fun ls hl => ?_)
                refine lv_iload hx hb dX6_odds_93 (lv_at hl 9 rfl) ?_
                refine lv_bipush (v := 10) hx hb dX6_odds_95 (by decide) ?_
                refine lv_imul hx hb dX6_odds_97 ?_
                refine lv_istore (lv' := [(8, .int (y_11 * (10 : Int32))), (7, .int ((y_10 * ((10 : Int32) - x3)) + (y_9 * x3))), (6, .int ((y_9 * ((10 : Int32) - x3)) + (y_10 * x3))), (10, .int y_9), (0, .ref (sk 0)), (1, .int x1), (2, .int x2), (3, .int x3), (4, .int x4), (5, .int x5), (9, .int y_12)]) hx hb dX6_odds_98 hl (by decide) rfl (fun ls hl => ?_)
                refine lv_iinc (v := y_12 + 1) (lv' := [(9, .int (y_12 + 1)), (8, .int (y_11 * (10 : Int32))), (7, .int ((y_10 * ((10 : Int32) - x3)) + (y_9 * x3))), (6, .int ((y_9 * ((10 : Int32) - x3)) + (y_10 * x3))), (10, .int y_9), (0, .ref (sk 0)), (1, .int x1), (2, .int x2), (3, .int x3), (4, .int x4), (5, .int x5)]) hx hb dX6_odds_100 hl (k := 10) rfl rfl (by decide) rfl (fun ls hl => ?_)
                refine lv_goto (tgt := 54) hx hb dX6_odds_103 (by decide) ?_
                exact ih ls ((y_9 * ((10 : Int32) - x3)) + (y_10 * x3)) ((y_10 * ((10 : Int32) - x3)) + (y_9 * x3)) (y_11 * (10 : Int32)) (y_12 + 1) (ms_up c_16 hm) (lv_sub hl [5, 6, 7, 8, 9, 10, 3, 2, 1, 0] rfl) (fun ls z0 z1 z2 hl he => kont ls z0 z1 z2 hl (he.trans hT))
          refine L_54 (((x4).toInt - (0 : Int32).toInt).toNat + 1) ls (1 : Int32) (0 : Int32) (1 : Int32) (0 : Int32) (Nat.lt_succ_self _) (lv_sub hl [4, 5, 6, 7, 8, 9, 3, 2, 1, 0] rfl) (fun ls e_13 e_14 e_15 hl he => ?_)
          have hT := nm3_u he hT
          refine lv_iload_n hx hb dX6_odds_106 rfl (lv_at hl 1 rfl) ?_
          refine lv_iload_n hx hb dX6_odds_107 rfl (lv_at hl 2 rfl) ?_
          refine vp_callSi (run_sP (As := [.int x1, .int x2]) (rest := []) C hN (c_X6_bitOf) ⟨wd_2_50, wd_2_15, wd_1_1, wd_2_16⟩ ⟨rfl, rfl⟩ hd_X6_bitOf ⟨Nat.le_of_ble_eq_true rfl, Nat.le_of_ble_eq_true rfl⟩ rfl hl.1 rfl (Nat.le_of_ble_eq_true rfl) dX6_odds_108 ⟨Nat.zero_le _, Nat.zero_le _⟩) (fun r_17 hr_17 => ?_)
          have hT := nm_u hr_17 hT
          refine lv_istore (lv' := [(9, .int r_17), (0, .ref (sk 0)), (1, .int x1), (2, .int x2), (5, .int x5), (6, .int e_13), (7, .int e_14), (8, .int e_15)]) hx hb dX6_odds_111 hl (by decide) rfl (fun ls hl => ?_)
          refine lv_aload_n hx hb dX6_odds_113 rfl (lv_at hl 1 rfl) ?_
          refine gX6_shore C hK hP wd_1_162 dX6_odds_114 ?_
          refine lv_aload_n hx hb dX6_odds_117 rfl (lv_at hl 1 rfl) ?_
          refine gX6_shore C hK hP wd_1_162 dX6_odds_118 ?_
          refine gX4_wind C hK hP (by decide) wd_1_56 dX6_odds_121 ?_
          refine vp_callSi (run_vP (As := [.int (V (11 * 0 + 10) 3)]) (rest := []) C hK hP hD hN (c_X4_stillBy (by decide) _) (rX4_r hK hP (by decide)) ⟨wd_2_70, wd_2_71, wd_2_72, wd_1_4, wd_2_73⟩ ⟨rfl, rfl⟩ hv_X4_stillBy ⟨Nat.le_of_ble_eq_true rfl, Nat.le_of_ble_eq_true rfl⟩ rfl hl.1 rfl (Nat.le_of_ble_eq_true rfl) dX6_odds_124 ⟨Nat.zero_le _, Nat.zero_le _⟩) (fun r_18 hr_18 => ?_)
          have hT := nm_u hr_18 hT
          refine lv_iload hx hb dX6_odds_127 (lv_at hl 0 rfl) ?_
          refine lv_iand hx hb dX6_odds_129 ?_
          have K_139 : ∀ (ls : Array Slot) (v_19 : Int32) (hl : lv_has ls 11 [(0, .ref (sk 0)), (5, .int x5), (7, .int e_14), (8, .int e_15), (9, .int r_17)]) (hT0 : jn_X6_odds_139 V x5 e_14 e_15 r_17 v_19 = sp_X6_odds V x1 x2 x3 x4 x5), W p l e ({ frames := 5, cells := 0, slots := 0, locals := 108 } : Room) s m args below meth c s.heap [] 0 0 Q (F0 m 139 ls [.int v_19]) := by
            intro ls v_19 hl hT0
            have hT := (jn_X6_odds_139_s V x5 e_14 e_15 r_17 v_19).trans hT0
            refine lv_istore (lv' := [(10, .int v_19), (0, .ref (sk 0)), (5, .int x5), (7, .int e_14), (8, .int e_15), (9, .int r_17)]) hx hb dX6_odds_139 hl (by decide) rfl (fun ls hl => ?_)
            refine lv_iload hx hb dX6_odds_141 (lv_at hl 0 rfl) ?_
            refine lv_aload_n hx hb dX6_odds_143 rfl (lv_at hl 1 rfl) ?_
            refine gX6_shore C hK hP wd_1_162 dX6_odds_144 ?_
            refine lv_iconst (v := 1) hx hb dX6_odds_147 (by decide) ?_
            refine lv_aload_n hx hb dX6_odds_148 rfl (lv_at hl 1 rfl) ?_
            refine gX6_shore C hK hP wd_1_162 dX6_odds_149 ?_
            refine gX4_wind C hK hP (by decide) wd_1_56 dX6_odds_152 ?_
            refine lv_isub hx hb dX6_odds_155 ?_
            refine vp_callSi (run_vP (As := [.int ((1 : Int32) - (V (11 * 0 + 10) 3))]) (rest := [.int v_19]) C hK hP hD hN (c_X4_stillBy (by decide) _) (rX4_r hK hP (by decide)) ⟨wd_2_70, wd_2_71, wd_2_72, wd_1_4, wd_2_73⟩ ⟨rfl, rfl⟩ hv_X4_stillBy ⟨Nat.le_of_ble_eq_true rfl, Nat.le_of_ble_eq_true rfl⟩ rfl hl.1 rfl (Nat.le_of_ble_eq_true rfl) dX6_odds_156 ⟨Nat.zero_le _, Nat.zero_le _⟩) (fun r_20 hr_20 => ?_)
            have hT := nm_u hr_20 hT
            refine lv_iload hx hb dX6_odds_159 (lv_at hl 5 rfl) ?_
            refine lv_iand hx hb dX6_odds_161 ?_
            refine lv_if_eq (tgt := 170) hx hb dX6_odds_162 (by decide) (fun c_21 => ?_) (fun c_21 => ?_)
            · have hT := it_t c_21 hT
              refine lv_iconst (v := 0) hx hb dX6_odds_170 (by decide) ?_
              refine lv_iadd hx hb dX6_odds_171 ?_
              refine lv_istore (lv' := [(10, .int (v_19 + (0 : Int32))), (0, .ref (sk 0)), (5, .int x5), (7, .int e_14), (8, .int e_15), (9, .int r_17)]) hx hb dX6_odds_172 hl (by decide) rfl (fun ls hl => ?_)
              refine lv_iload hx hb dX6_odds_174 (lv_at hl 0 rfl) ?_
              refine lv_iload hx hb dX6_odds_176 (lv_at hl 4 rfl) ?_
              refine lv_iload hx hb dX6_odds_178 (lv_at hl 2 rfl) ?_
              refine vp_callSi (run_sP (As := [.int (v_19 + (0 : Int32)), .int e_15, .int x5]) (rest := []) C hN (c_X6_inLeastTerms) ⟨wd_2_209, wd_2_210, wd_1_1, wd_2_211⟩ ⟨rfl, rfl⟩ hd_X6_inLeastTerms ⟨Nat.le_of_ble_eq_true rfl, Nat.le_of_ble_eq_true rfl⟩ rfl hl.1 rfl (Nat.le_of_ble_eq_true rfl) dX6_odds_180 ⟨Nat.zero_le _, Nat.zero_le _⟩) (fun r_22 hr_22 => ?_)
              have hT := nm_u hr_22 hT
              exact hret _ _ _ hT dX6_odds_183
            · have hT := it_f c_21 hT
              refine lv_iload hx hb dX6_odds_165 (lv_at hl 3 rfl) ?_
              refine lv_goto (tgt := 171) hx hb dX6_odds_167 (by decide) ?_
              refine lv_iadd hx hb dX6_odds_171 ?_
              refine lv_istore (lv' := [(10, .int (v_19 + e_14)), (0, .ref (sk 0)), (5, .int x5), (7, .int e_14), (8, .int e_15), (9, .int r_17)]) hx hb dX6_odds_172 hl (by decide) rfl (fun ls hl => ?_)
              refine lv_iload hx hb dX6_odds_174 (lv_at hl 0 rfl) ?_
              refine lv_iload hx hb dX6_odds_176 (lv_at hl 4 rfl) ?_
              refine lv_iload hx hb dX6_odds_178 (lv_at hl 2 rfl) ?_
              refine vp_callSi (run_sP (As := [.int (v_19 + e_14), .int e_15, .int x5]) (rest := []) C hN (c_X6_inLeastTerms) ⟨wd_2_209, wd_2_210, wd_1_1, wd_2_211⟩ ⟨rfl, rfl⟩ hd_X6_inLeastTerms ⟨Nat.le_of_ble_eq_true rfl, Nat.le_of_ble_eq_true rfl⟩ rfl hl.1 rfl (Nat.le_of_ble_eq_true rfl) dX6_odds_180 ⟨Nat.zero_le _, Nat.zero_le _⟩) (fun r_23 hr_23 => ?_)
              have hT := nm_u hr_23 hT
              exact hret _ _ _ hT dX6_odds_183
          refine lv_if_eq (tgt := 138) hx hb dX6_odds_130 (by decide) (fun c_24 => ?_) (fun c_24 => ?_)
          · have hT := it_t c_24 hT
            refine lv_iconst (v := 0) hx hb dX6_odds_138 (by decide) ?_
            exact K_139 ls (0 : Int32) (lv_sub hl [1, 4, 6, 7, 0] rfl) hT
          · have hT := it_f c_24 hT
            refine lv_iload hx hb dX6_odds_133 (lv_at hl 5 rfl) ?_
            refine lv_goto (tgt := 139) hx hb dX6_odds_135 (by decide) ?_
            exact K_139 ls e_13 (lv_sub hl [1, 4, 6, 7, 0] rfl) hT
        · have hT := it_t c_8 hT
          refine lv_iconst (v := -1) hx hb dX6_odds_40 (by decide) ?_
          exact hret _ _ _ hT dX6_odds_41
theorem hv_X6_saw : yX6_saw.cls = RX6 ∧ yX6_saw.cls ≠ "java/lang/invoke/MethodHandle" ∧ yX6_saw.cls ≠ "java/lang/invoke/VarHandle" ∧ (parseMethodDescriptor yX6_saw.desc).map (fun d => d.parameters.length) = some 4 := by decide +kernel
theorem hd_X6_saw : yX6_saw.cls ≠ "java/lang/invoke/MethodHandle" ∧ yX6_saw.cls ≠ "java/lang/invoke/VarHandle" ∧ (parseMethodDescriptor yX6_saw.desc).map (fun d => d.parameters.length) = some 4 := hv_X6_saw.2
def sp_X6_saw (g : Nat → Int32) (V : Nat → Nat → Int32) (x1 : Int32) (x2 : Int32) (x3 : Int32) (x4 : Int32) : Int32 × (Nat → Int32) :=
  nm (sp_X4_isCell V (11 * 0 + 10) x1 x2) (fun r_1 => if r_1 = 0 then ((-1 : Int32), g) else (nm (sp_X6_isWithin x3 (1 : Int32)) (fun r_3 => if r_3 = 0 then ((-1 : Int32), g) else (nm (sp_X6_isWithin x4 (1 : Int32)) (fun r_5 => if r_5 = 0 then ((-1 : Int32), g) else (nm (sp_X6_bitOf x1 x2) (fun r_7 => nm2 (sp_X2_add g r_7 x3 x4) (fun r_10 g_8 => if r_10 = 0 then ((-3 : Int32), g_8) else (g_8 13, g_8)))))))))
theorem sp_X6_saw_s (g : Nat → Int32) (V : Nat → Nat → Int32) (x1 : Int32) (x2 : Int32) (x3 : Int32) (x4 : Int32) : (nm (sp_X4_isCell V (11 * 0 + 10) x1 x2) (fun r_1 => if r_1 = 0 then ((-1 : Int32), g) else (nm (sp_X6_isWithin x3 (1 : Int32)) (fun r_3 => if r_3 = 0 then ((-1 : Int32), g) else (nm (sp_X6_isWithin x4 (1 : Int32)) (fun r_5 => if r_5 = 0 then ((-1 : Int32), g) else (nm (sp_X6_bitOf x1 x2) (fun r_7 => nm2 (sp_X2_add g r_7 x3 x4) (fun r_10 g_8 => if r_10 = 0 then ((-3 : Int32), g_8) else (g_8 13, g_8)))))))))) = sp_X6_saw g V x1 x2 x3 x4 := rfl
set_option maxHeartbeats 4000000 in
set_option maxRecDepth 100000 in
theorem c_X6_saw {l : Launch} {D : va_G} {cI cZ cO : ClassId} {sk : Nat → Nat} {g tb : Nat → Int32} {V Hd : Nat → Nat → Int32} {tr : Int64} {x1 : Int32} {x2 : Int32} {x3 : Int32} {x4 : Int32}  (sz : Nat) : Met l yX6_saw (wm yX6_saw cX6_saw 5 (some .int)) ({ frames := 2, cells := 0, slots := 0, locals := 43 } : Room) (GPre D (ty3 cI cZ cO) (WW cI cO sk g tb V Hd tr) [.ref (sk 0), .int x1, .int x2, .int x3, .int x4] sz) (va_Qi (fun r (u : (Nat → Int32)) => (r, u) = sp_X6_saw g V x1 x2 x3 x4) (fun u t => GAt D (ty3 cI cZ cO) (va_A (WW cI cO sk g tb V Hd tr) sz) (WW cI cO sk u tb V Hd tr) t) (va_A (WW cI cO sk g tb V Hd tr) sz)) 0 0 (va_A (WW cI cO sk g tb V Hd tr) sz) := by
  refine metQ_i (W1 := (fun (u : (Nat → Int32)) => WW cI cO sk u tb V Hd tr)) (post := (fun r (u : (Nat → Int32)) => (r, u) = sp_X6_saw g V x1 x2 x3 x4)) (by decide) (Nat.le_of_ble_eq_true rfl) ?_
  intro p e s m args below meth c ls A Q C hsz hP hK hD hS hA hN hl hret
  have hx := C.1
  have hb := C.2.1
  have hl : lv_has ls 5 [(0, .ref (sk 0)), (1, .int x1), (2, .int x2), (3, .int x3), (4, .int x4)] := hl
  have hT := sp_X6_saw_s g V x1 x2 x3 x4
  refine lv_aload_n hx hb dX6_saw_0 rfl (lv_at hl 0 rfl) ?_
  refine gX6_shore C hK hP wd_1_162 dX6_saw_1 ?_
  refine lv_iload_n hx hb dX6_saw_4 rfl (lv_at hl 1 rfl) ?_
  refine lv_iload_n hx hb dX6_saw_5 rfl (lv_at hl 2 rfl) ?_
  refine vp_callSi (run_vP (As := [.int x1, .int x2]) (rest := []) C hK hP hD hN (c_X4_isCell (by decide) _) (rX4_r hK hP (by decide)) ⟨wd_2_45, wd_2_46, wd_2_47, wd_1_4, wd_2_48⟩ ⟨rfl, rfl⟩ hv_X4_isCell ⟨Nat.le_of_ble_eq_true rfl, Nat.le_of_ble_eq_true rfl⟩ rfl hl.1 rfl (Nat.le_of_ble_eq_true rfl) dX6_saw_6 ⟨Nat.zero_le _, Nat.zero_le _⟩) (fun r_1 hr_1 => ?_)
  have hT := nm_u hr_1.1 hT
  refine lv_if_eq (tgt := 29) hx hb dX6_saw_9 (by decide) (fun c_2 => ?_) (fun c_2 => ?_)
  · have hT := it_t c_2 hT
    refine lv_iconst (v := -1) hx hb dX6_saw_29 (by decide) ?_
    exact hret _ g _ _ _ _ hT hP hD hS dX6_saw_30
  · have hT := it_f c_2 hT
    refine lv_iload_n hx hb dX6_saw_12 rfl (lv_at hl 3 rfl) ?_
    refine lv_iconst (v := 1) hx hb dX6_saw_13 (by decide) ?_
    refine vp_callSi (run_sP (As := [.int x3, .int (1 : Int32)]) (rest := []) C hN (c_X6_isWithin) ⟨wd_1_188, wd_1_189, wd_1_1, wd_1_190⟩ ⟨rfl, rfl⟩ hd_X6_isWithin ⟨Nat.le_of_ble_eq_true rfl, Nat.le_of_ble_eq_true rfl⟩ rfl hl.1 rfl (Nat.le_of_ble_eq_true rfl) dX6_saw_14 ⟨Nat.zero_le _, Nat.zero_le _⟩) (fun r_3 hr_3 => ?_)
    have hT := nm_u hr_3.1 hT
    refine lv_if_eq (tgt := 29) hx hb dX6_saw_17 (by decide) (fun c_4 => ?_) (fun c_4 => ?_)
    · have hT := it_t c_4 hT
      refine lv_iconst (v := -1) hx hb dX6_saw_29 (by decide) ?_
      exact hret _ g _ _ _ _ hT hP hD hS dX6_saw_30
    · have hT := it_f c_4 hT
      refine lv_iload hx hb dX6_saw_20 (lv_at hl 4 rfl) ?_
      refine lv_iconst (v := 1) hx hb dX6_saw_22 (by decide) ?_
      refine vp_callSi (run_sP (As := [.int x4, .int (1 : Int32)]) (rest := []) C hN (c_X6_isWithin) ⟨wd_1_188, wd_1_189, wd_1_1, wd_1_190⟩ ⟨rfl, rfl⟩ hd_X6_isWithin ⟨Nat.le_of_ble_eq_true rfl, Nat.le_of_ble_eq_true rfl⟩ rfl hl.1 rfl (Nat.le_of_ble_eq_true rfl) dX6_saw_23 ⟨Nat.zero_le _, Nat.zero_le _⟩) (fun r_5 hr_5 => ?_)
      have hT := nm_u hr_5.1 hT
      refine lv_if_ne (tgt := 31) hx hb dX6_saw_26 (by decide) (fun c_6 => ?_) (fun c_6 => ?_)
      · have hT := it_f c_6 hT
        refine lv_aload_n hx hb dX6_saw_31 rfl (lv_at hl 0 rfl) ?_
        refine gX6_seen C hK hP wd_1_165 dX6_saw_32 ?_
        refine lv_iload_n hx hb dX6_saw_35 rfl (lv_at hl 1 rfl) ?_
        refine lv_iload_n hx hb dX6_saw_36 rfl (lv_at hl 2 rfl) ?_
        refine vp_callSi (run_sP (As := [.int x1, .int x2]) (rest := [.ref (sk 10)]) C hN (c_X6_bitOf) ⟨wd_2_50, wd_2_15, wd_1_1, wd_2_16⟩ ⟨rfl, rfl⟩ hd_X6_bitOf ⟨Nat.le_of_ble_eq_true rfl, Nat.le_of_ble_eq_true rfl⟩ rfl hl.1 rfl (Nat.le_of_ble_eq_true rfl) dX6_saw_37 ⟨Nat.zero_le _, Nat.zero_le _⟩) (fun r_7 hr_7 => ?_)
        have hT := nm_u hr_7 hT
        refine lv_iload_n hx hb dX6_saw_40 rfl (lv_at hl 3 rfl) ?_
        refine lv_iload hx hb dX6_saw_41 (lv_at hl 4 rfl) ?_
        refine on_i (run_vQ (As := [.int r_7, .int x3, .int x4]) (rest := []) C hK hP hD hN (c_X2_add _) (rX2_r hK hP) ⟨wd_2_216, wd_2_217, wd_2_218, wd_1_6, wd_2_219⟩ ⟨rfl, rfl⟩ hv_X2_add ⟨Nat.le_of_ble_eq_true rfl, Nat.le_of_ble_eq_true rfl⟩ rfl hl.1 rfl (Nat.le_of_ble_eq_true rfl) dX6_saw_43 ⟨Nat.zero_le _, Nat.zero_le _⟩) hD hS hA (fun r_10 u H locs hp_9 hP hD hS => ?_)
        obtain ⟨g_8, rfl⟩ : ∃ z, z = u := ⟨_, rfl⟩
        have hP : va_P D vwCl (WW cI cO sk g_8 tb V Hd tr) H := hP
        have hD : va_D A (WW cI cO sk g_8 tb V Hd tr) := hD
        have hT := nm2_u hp_9.1 hT
        refine lv_if_eq (tgt := 59) hx hb dX6_saw_46 (by decide) (fun c_11 => ?_) (fun c_11 => ?_)
        · have hT := it_t c_11 hT
          refine lv_bipush (v := -3) hx hb dX6_saw_59 (by decide) ?_
          exact hret _ g_8 _ _ _ _ hT hP hD hS dX6_saw_61
        · have hT := it_f c_11 hT
          refine lv_aload_n hx hb dX6_saw_49 rfl (lv_at hl 0 rfl) ?_
          refine gX6_seen C hK hP wd_1_165 dX6_saw_50 ?_
          refine gX2_much C hK hP wd_1_132 dX6_saw_53 ?_
          refine lv_goto (tgt := 61) hx hb dX6_saw_56 (by decide) ?_
          exact hret _ g_8 _ _ _ _ hT hP hD hS dX6_saw_61
      · have hT := it_t c_6 hT
        refine lv_iconst (v := -1) hx hb dX6_saw_29 (by decide) ?_
        exact hret _ g _ _ _ _ hT hP hD hS dX6_saw_30
theorem hv_X6_forget : yX6_forget.cls = RX6 ∧ yX6_forget.cls ≠ "java/lang/invoke/MethodHandle" ∧ yX6_forget.cls ≠ "java/lang/invoke/VarHandle" ∧ (parseMethodDescriptor yX6_forget.desc).map (fun d => d.parameters.length) = some 0 := by decide +kernel
theorem hd_X6_forget : yX6_forget.cls ≠ "java/lang/invoke/MethodHandle" ∧ yX6_forget.cls ≠ "java/lang/invoke/VarHandle" ∧ (parseMethodDescriptor yX6_forget.desc).map (fun d => d.parameters.length) = some 0 := hv_X6_forget.2
def sp_X6_forget (g : Nat → Int32) : Int32 × (Nat → Int32) :=
  nm (sp_X2_dropAll g) (fun g_1 => (g 13, g_1))
theorem sp_X6_forget_s (g : Nat → Int32) : (nm (sp_X2_dropAll g) (fun g_1 => (g 13, g_1))) = sp_X6_forget g := rfl
set_option maxHeartbeats 4000000 in
set_option maxRecDepth 100000 in
theorem c_X6_forget {l : Launch} {D : va_G} {cI cZ cO : ClassId} {sk : Nat → Nat} {g tb : Nat → Int32} {V Hd : Nat → Nat → Int32} {tr : Int64}   (sz : Nat) : Met l yX6_forget (wm yX6_forget cX6_forget 2 (some .int)) ({ frames := 1, cells := 0, slots := 0, locals := 20 } : Room) (GPre D (ty3 cI cZ cO) (WW cI cO sk g tb V Hd tr) [.ref (sk 0)] sz) (va_Qi (fun r (u : (Nat → Int32)) => (r, u) = sp_X6_forget g) (fun u t => GAt D (ty3 cI cZ cO) (va_A (WW cI cO sk g tb V Hd tr) sz) (WW cI cO sk u tb V Hd tr) t) (va_A (WW cI cO sk g tb V Hd tr) sz)) 0 0 (va_A (WW cI cO sk g tb V Hd tr) sz) := by
  refine metQ_i (W1 := (fun (u : (Nat → Int32)) => WW cI cO sk u tb V Hd tr)) (post := (fun r (u : (Nat → Int32)) => (r, u) = sp_X6_forget g)) (by decide) (Nat.le_of_ble_eq_true rfl) ?_
  intro p e s m args below meth c ls A Q C hsz hP hK hD hS hA hN hl hret
  have hx := C.1
  have hb := C.2.1
  have hl : lv_has ls 2 [(0, .ref (sk 0))] := hl
  have hT := sp_X6_forget_s g
  refine lv_aload_n hx hb dX6_forget_0 rfl (lv_at hl 0 rfl) ?_
  refine gX6_seen C hK hP wd_1_165 dX6_forget_1 ?_
  refine gX2_much C hK hP wd_1_132 dX6_forget_4 ?_
  refine lv_istore_n (lv' := [(1, .int (g 13)), (0, .ref (sk 0))]) hx hb dX6_forget_7 rfl hl (by decide) rfl (fun ls hl => ?_)
  refine lv_aload_n hx hb dX6_forget_8 rfl (lv_at hl 1 rfl) ?_
  refine gX6_seen C hK hP wd_1_165 dX6_forget_9 ?_
  refine on_v (run_vQ (As := []) (rest := []) C hK hP hD hN (c_X2_dropAll _) (rX2_r hK hP) ⟨wd_2_37, wd_2_38, wd_2_39, wd_1_6, wd_2_40⟩ ⟨rfl, rfl⟩ hv_X2_dropAll ⟨Nat.le_of_ble_eq_true rfl, Nat.le_of_ble_eq_true rfl⟩ rfl hl.1 rfl (Nat.le_of_ble_eq_true rfl) dX6_forget_12 ⟨Nat.zero_le _, Nat.zero_le _⟩) hD hS hA (fun u H locs hp_2 hP hD hS => ?_)
  obtain ⟨g_1, rfl⟩ : ∃ z, z = u := ⟨_, rfl⟩
  have hP : va_P D vwCl (WW cI cO sk g_1 tb V Hd tr) H := hP
  have hD : va_D A (WW cI cO sk g_1 tb V Hd tr) := hD
  have hT := nm_u hp_2 hT
  refine lv_iload_n hx hb dX6_forget_15 rfl (lv_at hl 0 rfl) ?_
  exact hret _ g_1 _ _ _ _ hT hP hD hS dX6_forget_16
theorem hv_X6_mayHaveMoved : yX6_mayHaveMoved.cls = RX6 ∧ yX6_mayHaveMoved.cls ≠ "java/lang/invoke/MethodHandle" ∧ yX6_mayHaveMoved.cls ≠ "java/lang/invoke/VarHandle" ∧ (parseMethodDescriptor yX6_mayHaveMoved.desc).map (fun d => d.parameters.length) = some 2 := by decide +kernel
theorem hd_X6_mayHaveMoved : yX6_mayHaveMoved.cls ≠ "java/lang/invoke/MethodHandle" ∧ yX6_mayHaveMoved.cls ≠ "java/lang/invoke/VarHandle" ∧ (parseMethodDescriptor yX6_mayHaveMoved.desc).map (fun d => d.parameters.length) = some 2 := hv_X6_mayHaveMoved.2
def sp_X6_mayHaveMoved (g : Nat → Int32) (V : Nat → Nat → Int32) (x1 : Int32) (x2 : Int32) : Int32 :=
  if ((V (11 * 0 + 10) 2) &&& ((1 : Int32) <<< (x1 &&& 31))) = 0 then (0 : Int32) else (nm (sp_X4_bareCells V (11 * 0 + 10)) (fun r_2 => if (r_2 &&& ((1 : Int32) <<< (x2 &&& 31))) = 0 then (0 : Int32) else (nm (((V (11 * 0 + 10) 2) ^^^ ((1 : Int32) <<< (x1 &&& 31))) ^^^ ((1 : Int32) <<< (x2 &&& 31))) (fun y_4 => nm (sp_X4_stillWith V (11 * 0 + 10) y_4 (0 : Int32)) (fun r_5 => nm (sp_X4_stillWith V (11 * 0 + 10) y_4 (1 : Int32)) (fun r_6 => nm (sp_X2_agrees g r_5 r_6) (fun r_7 => r_7)))))))
theorem sp_X6_mayHaveMoved_s (g : Nat → Int32) (V : Nat → Nat → Int32) (x1 : Int32) (x2 : Int32) : (if ((V (11 * 0 + 10) 2) &&& ((1 : Int32) <<< (x1 &&& 31))) = 0 then (0 : Int32) else (nm (sp_X4_bareCells V (11 * 0 + 10)) (fun r_2 => if (r_2 &&& ((1 : Int32) <<< (x2 &&& 31))) = 0 then (0 : Int32) else (nm (((V (11 * 0 + 10) 2) ^^^ ((1 : Int32) <<< (x1 &&& 31))) ^^^ ((1 : Int32) <<< (x2 &&& 31))) (fun y_4 => nm (sp_X4_stillWith V (11 * 0 + 10) y_4 (0 : Int32)) (fun r_5 => nm (sp_X4_stillWith V (11 * 0 + 10) y_4 (1 : Int32)) (fun r_6 => nm (sp_X2_agrees g r_5 r_6) (fun r_7 => r_7)))))))) = sp_X6_mayHaveMoved g V x1 x2 := rfl
set_option maxHeartbeats 4000000 in
set_option maxRecDepth 100000 in
theorem c_X6_mayHaveMoved {l : Launch} {D : va_G} {cI cZ cO : ClassId} {sk : Nat → Nat} {g tb : Nat → Int32} {V Hd : Nat → Nat → Int32} {tr : Int64} {x1 : Int32} {x2 : Int32}  (sz : Nat) : Met l yX6_mayHaveMoved (wm yX6_mayHaveMoved cX6_mayHaveMoved 6 (some .boolean)) ({ frames := 4, cells := 0, slots := 0, locals := 87 } : Room) (GPre D (ty3 cI cZ cO) (WW cI cO sk g tb V Hd tr) [.ref (sk 0), .int x1, .int x2] sz) (vp_Si (fun r => r = sp_X6_mayHaveMoved g V x1 x2 ∧ (r = 0 ∨ r = 1))) 0 0 (fun _ => False) := by
  refine metP_z (post := (fun r => r = sp_X6_mayHaveMoved g V x1 x2)) (by decide) (Nat.le_of_ble_eq_true rfl) ?_
  intro p e s m args below meth c ls Q C hsz hP hK hD hN hl hret
  have hx := C.1
  have hb := C.2.1
  have hl : lv_has ls 6 [(0, .ref (sk 0)), (1, .int x1), (2, .int x2)] := hl
  have hT := sp_X6_mayHaveMoved_s g V x1 x2
  refine lv_iconst (v := 1) hx hb dX6_mayHaveMoved_0 (by decide) ?_
  refine lv_iload_n hx hb dX6_mayHaveMoved_1 rfl (lv_at hl 1 rfl) ?_
  refine lv_ishl hx hb dX6_mayHaveMoved_2 ?_
  refine lv_istore_n (lv' := [(3, .int ((1 : Int32) <<< (x1 &&& 31))), (0, .ref (sk 0)), (1, .int x1), (2, .int x2)]) hx hb dX6_mayHaveMoved_3 rfl hl (by decide) rfl (fun ls hl => ?_)
  refine lv_iconst (v := 1) hx hb dX6_mayHaveMoved_4 (by decide) ?_
  refine lv_iload_n hx hb dX6_mayHaveMoved_5 rfl (lv_at hl 3 rfl) ?_
  refine lv_ishl hx hb dX6_mayHaveMoved_6 ?_
  refine lv_istore (lv' := [(4, .int ((1 : Int32) <<< (x2 &&& 31))), (3, .int ((1 : Int32) <<< (x1 &&& 31))), (0, .ref (sk 0)), (1, .int x1), (2, .int x2)]) hx hb dX6_mayHaveMoved_7 hl (by decide) rfl (fun ls hl => ?_)
  refine lv_aload_n hx hb dX6_mayHaveMoved_9 rfl (lv_at hl 2 rfl) ?_
  refine gX6_shore C hK hP wd_1_162 dX6_mayHaveMoved_10 ?_
  refine gX4_cloth C hK hP (by decide) wd_1_52 dX6_mayHaveMoved_13 ?_
  refine lv_iload_n hx hb dX6_mayHaveMoved_16 rfl (lv_at hl 1 rfl) ?_
  refine lv_iand hx hb dX6_mayHaveMoved_17 ?_
  refine lv_if_eq (tgt := 34) hx hb dX6_mayHaveMoved_18 (by decide) (fun c_1 => ?_) (fun c_1 => ?_)
  · have hT := it_t c_1 hT
    refine lv_iconst (v := 0) hx hb dX6_mayHaveMoved_34 (by decide) ?_
    exact hret _ _ _ ⟨hT, (Or.inl rfl)⟩ dX6_mayHaveMoved_35
  · have hT := it_f c_1 hT
    refine lv_aload_n hx hb dX6_mayHaveMoved_21 rfl (lv_at hl 2 rfl) ?_
    refine gX6_shore C hK hP wd_1_162 dX6_mayHaveMoved_22 ?_
    refine vp_callSi (run_vP (As := []) (rest := []) C hK hP hD hN (c_X4_bareCells (by decide) _) (rX4_r hK hP (by decide)) ⟨wd_2_232, wd_2_201, wd_2_202, wd_1_4, wd_2_203⟩ ⟨rfl, rfl⟩ hv_X4_bareCells ⟨Nat.le_of_ble_eq_true rfl, Nat.le_of_ble_eq_true rfl⟩ rfl hl.1 rfl (Nat.le_of_ble_eq_true rfl) dX6_mayHaveMoved_25 ⟨Nat.zero_le _, Nat.zero_le _⟩) (fun r_2 hr_2 => ?_)
    have hT := nm_u hr_2 hT
    refine lv_iload hx hb dX6_mayHaveMoved_28 (lv_at hl 0 rfl) ?_
    refine lv_iand hx hb dX6_mayHaveMoved_30 ?_
    refine lv_if_ne (tgt := 36) hx hb dX6_mayHaveMoved_31 (by decide) (fun c_3 => ?_) (fun c_3 => ?_)
    · have hT := it_f c_3 hT
      refine lv_aload_n hx hb dX6_mayHaveMoved_36 rfl (lv_at hl 2 rfl) ?_
      refine gX6_shore C hK hP wd_1_162 dX6_mayHaveMoved_37 ?_
      refine gX4_cloth C hK hP (by decide) wd_1_52 dX6_mayHaveMoved_40 ?_
      refine lv_iload_n hx hb dX6_mayHaveMoved_43 rfl (lv_at hl 1 rfl) ?_
      refine lv_ixor hx hb dX6_mayHaveMoved_44 ?_
      refine lv_iload hx hb dX6_mayHaveMoved_45 (lv_at hl 0 rfl) ?_
      refine lv_ixor hx hb dX6_mayHaveMoved_47 ?_
      refine lv_topi (fun y_4 ey_4 => ?_)
      have hT := nm_u ey_4 hT
      refine lv_istore (lv' := [(5, .int y_4), (4, .int ((1 : Int32) <<< (x2 &&& 31))), (3, .int ((1 : Int32) <<< (x1 &&& 31))), (0, .ref (sk 0)), (1, .int x1), (2, .int x2)]) hx hb dX6_mayHaveMoved_48 hl (by decide) rfl (fun ls hl => ?_)
      refine lv_aload_n hx hb dX6_mayHaveMoved_50 rfl (lv_at hl 3 rfl) ?_
      refine gX6_seen C hK hP wd_1_165 dX6_mayHaveMoved_51 ?_
      refine lv_aload_n hx hb dX6_mayHaveMoved_54 rfl (lv_at hl 3 rfl) ?_
      refine gX6_shore C hK hP wd_1_162 dX6_mayHaveMoved_55 ?_
      refine lv_iload hx hb dX6_mayHaveMoved_58 (lv_at hl 0 rfl) ?_
      refine lv_iconst (v := 0) hx hb dX6_mayHaveMoved_60 (by decide) ?_
      refine vp_callSi (run_vP (As := [.int y_4, .int (0 : Int32)]) (rest := [.ref (sk 10)]) C hK hP hD hN (c_X4_stillWith (by decide) _) (rX4_r hK hP (by decide)) ⟨wd_2_233, wd_2_75, wd_2_76, wd_1_4, wd_2_77⟩ ⟨rfl, rfl⟩ hv_X4_stillWith ⟨Nat.le_of_ble_eq_true rfl, Nat.le_of_ble_eq_true rfl⟩ rfl hl.1 rfl (Nat.le_of_ble_eq_true rfl) dX6_mayHaveMoved_61 ⟨Nat.zero_le _, Nat.zero_le _⟩) (fun r_5 hr_5 => ?_)
      have hT := nm_u hr_5 hT
      refine lv_aload_n hx hb dX6_mayHaveMoved_64 rfl (lv_at hl 3 rfl) ?_
      refine gX6_shore C hK hP wd_1_162 dX6_mayHaveMoved_65 ?_
      refine lv_iload hx hb dX6_mayHaveMoved_68 (lv_at hl 0 rfl) ?_
      refine lv_iconst (v := 1) hx hb dX6_mayHaveMoved_70 (by decide) ?_
      refine vp_callSi (run_vP (As := [.int y_4, .int (1 : Int32)]) (rest := [.int r_5, .ref (sk 10)]) C hK hP hD hN (c_X4_stillWith (by decide) _) (rX4_r hK hP (by decide)) ⟨wd_2_233, wd_2_75, wd_2_76, wd_1_4, wd_2_77⟩ ⟨rfl, rfl⟩ hv_X4_stillWith ⟨Nat.le_of_ble_eq_true rfl, Nat.le_of_ble_eq_true rfl⟩ rfl hl.1 rfl (Nat.le_of_ble_eq_true rfl) dX6_mayHaveMoved_71 ⟨Nat.zero_le _, Nat.zero_le _⟩) (fun r_6 hr_6 => ?_)
      have hT := nm_u hr_6 hT
      refine vp_callSi (run_vP (As := [.int r_5, .int r_6]) (rest := []) C hK hP hD hN (c_X2_agrees _) (rX2_r hK hP) ⟨wd_2_234, wd_2_235, wd_2_236, wd_1_6, wd_2_237⟩ ⟨rfl, rfl⟩ hv_X2_agrees ⟨Nat.le_of_ble_eq_true rfl, Nat.le_of_ble_eq_true rfl⟩ rfl hl.1 rfl (Nat.le_of_ble_eq_true rfl) dX6_mayHaveMoved_74 ⟨Nat.zero_le _, Nat.zero_le _⟩) (fun r_7 hr_7 => ?_)
      have hT := nm_u hr_7.1 hT
      exact hret _ _ _ ⟨hT, hr_7.2⟩ dX6_mayHaveMoved_77
    · have hT := it_t c_3 hT
      refine lv_iconst (v := 0) hx hb dX6_mayHaveMoved_34 (by decide) ?_
      exact hret _ _ _ ⟨hT, (Or.inl rfl)⟩ dX6_mayHaveMoved_35
theorem hv_X6_moved : yX6_moved.cls = RX6 ∧ yX6_moved.cls ≠ "java/lang/invoke/MethodHandle" ∧ yX6_moved.cls ≠ "java/lang/invoke/VarHandle" ∧ (parseMethodDescriptor yX6_moved.desc).map (fun d => d.parameters.length) = some 1 := by decide +kernel
theorem hd_X6_moved : yX6_moved.cls ≠ "java/lang/invoke/MethodHandle" ∧ yX6_moved.cls ≠ "java/lang/invoke/VarHandle" ∧ (parseMethodDescriptor yX6_moved.desc).map (fun d => d.parameters.length) = some 1 := hv_X6_moved.2
def lp_X6_moved_28 (g : Nat → Int32) (V : Nat → Nat → Int32) (y_5 : Int32) : Nat → Int32 → Int32 → Int32 → Int32 × Int32
  | 0, y_9, y_10, y_11 => (y_9, y_10)
  | n + 1, y_9, y_10, y_11 => if (20 : Int32) ≤ y_11 then (y_9, y_10) else (nm (sp_X6_mayHaveMoved g V y_5 y_11) (fun r_15 => if r_15 = 0 then (lp_X6_moved_28 g V y_5 n y_9 y_10 (y_11 + 1)) else (if y_9 = 0 then (lp_X6_moved_28 g V y_5 n (y_9 + 1) (((100 : Int32) * y_5) + y_11) (y_11 + 1)) else (lp_X6_moved_28 g V y_5 n (y_9 + 1) y_10 (y_11 + 1)))))
theorem lp_X6_moved_28_s (g : Nat → Int32) (V : Nat → Nat → Int32) (y_5 : Int32) (n : Nat) (y_9 : Int32) (y_10 : Int32) (y_11 : Int32) : (if (20 : Int32) ≤ y_11 then (y_9, y_10) else (nm (sp_X6_mayHaveMoved g V y_5 y_11) (fun r_15 => if r_15 = 0 then (lp_X6_moved_28 g V y_5 n y_9 y_10 (y_11 + 1)) else (if y_9 = 0 then (lp_X6_moved_28 g V y_5 n (y_9 + 1) (((100 : Int32) * y_5) + y_11) (y_11 + 1)) else (lp_X6_moved_28 g V y_5 n (y_9 + 1) y_10 (y_11 + 1)))))) = lp_X6_moved_28 g V y_5 (n + 1) y_9 y_10 y_11 := rfl
def lp_X6_moved_18 (g : Nat → Int32) (V : Nat → Nat → Int32) : Nat → Int32 → Int32 → Int32 → Int32 × Int32
  | 0, y_3, y_4, y_5 => (y_3, y_4)
  | n + 1, y_3, y_4, y_5 => if (20 : Int32) ≤ y_5 then (y_3, y_4) else (nm2 (lp_X6_moved_28 g V y_5 (((20 : Int32).toInt - (0 : Int32).toInt).toNat + 1) y_3 y_4 (0 : Int32)) (fun e_12 e_13 => lp_X6_moved_18 g V n e_12 e_13 (y_5 + 1)))
theorem lp_X6_moved_18_s (g : Nat → Int32) (V : Nat → Nat → Int32) (n : Nat) (y_3 : Int32) (y_4 : Int32) (y_5 : Int32) : (if (20 : Int32) ≤ y_5 then (y_3, y_4) else (nm2 (lp_X6_moved_28 g V y_5 (((20 : Int32).toInt - (0 : Int32).toInt).toNat + 1) y_3 y_4 (0 : Int32)) (fun e_12 e_13 => lp_X6_moved_18 g V n e_12 e_13 (y_5 + 1)))) = lp_X6_moved_18 g V (n + 1) y_3 y_4 y_5 := rfl
def sp_X6_moved (g : Nat → Int32) (V : Nat → Nat → Int32) (x1 : Int32) : Int32 :=
  nm (sp_X6_isWithin x1 (1 : Int32)) (fun r_1 => if r_1 = 0 then (-1 : Int32) else (nm2 (lp_X6_moved_18 g V (((20 : Int32).toInt - (0 : Int32).toInt).toNat + 1) (0 : Int32) (-9 : Int32) (0 : Int32)) (fun e_6 e_7 => if x1 = 0 then e_6 else e_7)))
theorem sp_X6_moved_s (g : Nat → Int32) (V : Nat → Nat → Int32) (x1 : Int32) : (nm (sp_X6_isWithin x1 (1 : Int32)) (fun r_1 => if r_1 = 0 then (-1 : Int32) else (nm2 (lp_X6_moved_18 g V (((20 : Int32).toInt - (0 : Int32).toInt).toNat + 1) (0 : Int32) (-9 : Int32) (0 : Int32)) (fun e_6 e_7 => if x1 = 0 then e_6 else e_7)))) = sp_X6_moved g V x1 := rfl
set_option maxHeartbeats 4000000 in
set_option maxRecDepth 100000 in
theorem c_X6_moved {l : Launch} {D : va_G} {cI cZ cO : ClassId} {sk : Nat → Nat} {g tb : Nat → Int32} {V Hd : Nat → Nat → Int32} {tr : Int64} {x1 : Int32}  (sz : Nat) : Met l yX6_moved (wm yX6_moved cX6_moved 6 (some .int)) ({ frames := 5, cells := 0, slots := 0, locals := 112 } : Room) (GPre D (ty3 cI cZ cO) (WW cI cO sk g tb V Hd tr) [.ref (sk 0), .int x1] sz) (vp_Si (fun r => r = sp_X6_moved g V x1)) 0 0 (fun _ => False) := by
  refine metP_i (post := (fun r => r = sp_X6_moved g V x1)) (by decide) (Nat.le_of_ble_eq_true rfl) ?_
  intro p e s m args below meth c ls Q C hsz hP hK hD hN hl hret
  have hx := C.1
  have hb := C.2.1
  have hl : lv_has ls 6 [(0, .ref (sk 0)), (1, .int x1)] := hl
  have hT := sp_X6_moved_s g V x1
  refine lv_iload_n hx hb dX6_moved_0 rfl (lv_at hl 1 rfl) ?_
  refine lv_iconst (v := 1) hx hb dX6_moved_1 (by decide) ?_
  refine vp_callSi (run_sP (As := [.int x1, .int (1 : Int32)]) (rest := []) C hN (c_X6_isWithin) ⟨wd_1_188, wd_1_189, wd_1_1, wd_1_190⟩ ⟨rfl, rfl⟩ hd_X6_isWithin ⟨Nat.le_of_ble_eq_true rfl, Nat.le_of_ble_eq_true rfl⟩ rfl hl.1 rfl (Nat.le_of_ble_eq_true rfl) dX6_moved_2 ⟨Nat.zero_le _, Nat.zero_le _⟩) (fun r_1 hr_1 => ?_)
  have hT := nm_u hr_1.1 hT
  refine lv_if_ne (tgt := 10) hx hb dX6_moved_5 (by decide) (fun c_2 => ?_) (fun c_2 => ?_)
  · have hT := it_f c_2 hT
    refine lv_iconst (v := 0) hx hb dX6_moved_10 (by decide) ?_
    refine lv_istore_n (lv' := [(2, .int (0 : Int32)), (0, .ref (sk 0)), (1, .int x1)]) hx hb dX6_moved_11 rfl hl (by decide) rfl (fun ls hl => ?_)
    refine lv_bipush (v := -9) hx hb dX6_moved_12 (by decide) ?_
    refine lv_istore_n (lv' := [(3, .int (-9 : Int32)), (2, .int (0 : Int32)), (0, .ref (sk 0)), (1, .int x1)]) hx hb dX6_moved_14 rfl hl (by decide) rfl (fun ls hl => ?_)
    refine lv_iconst (v := 0) hx hb dX6_moved_15 (by decide) ?_
    refine lv_istore (lv' := [(4, .int (0 : Int32)), (3, .int (-9 : Int32)), (2, .int (0 : Int32)), (0, .ref (sk 0)), (1, .int x1)]) hx hb dX6_moved_16 hl (by decide) rfl (fun ls hl => ?_)
    have L_18 : ∀ (n : Nat) (ls : Array Slot) (y_3 : Int32) (y_4 : Int32) (y_5 : Int32) (hm : ((20 : Int32).toInt - y_5.toInt).toNat < n) (hl : lv_has ls 6 [(0, .ref (sk 0)), (1, .int x1), (2, .int y_3), (3, .int y_4), (4, .int y_5)]) (kont : ∀ (ls : Array Slot) (e_6 : Int32) (e_7 : Int32), lv_has ls 6 [(1, .int x1), (2, .int e_6), (3, .int e_7)] → (e_6, e_7) = lp_X6_moved_18 g V n y_3 y_4 y_5 → W p l e ({ frames := 5, cells := 0, slots := 0, locals := 112 } : Room) s m args below meth c s.heap [] 0 0 Q (F0 m 78 ls [])), W p l e ({ frames := 5, cells := 0, slots := 0, locals := 112 } : Room) s m args below meth c s.heap [] 0 0 Q (F0 m 18 ls []) := by
      intro n
      induction n with
      | zero => intro ls y_3 y_4 y_5 hm; exact absurd hm (Nat.not_lt_zero _)
      | succ n ih =>
        intro ls y_3 y_4 y_5 hm hl kont
        have hT := lp_X6_moved_18_s g V n y_3 y_4 y_5
        refine lv_iload hx hb dX6_moved_18 (lv_at hl 4 rfl) ?_
        refine lv_bipush (v := 20) hx hb dX6_moved_20 (by decide) ?_
        refine lv_icmp_ge (tgt := 78) hx hb dX6_moved_22 (by decide) (fun c_8 => ?_) (fun c_8 => ?_)
        · have hT := it_t c_8 hT
          exact kont ls y_3 y_4 (lv_sub hl [1, 2, 3] rfl) hT
        · have hT := it_f c_8 hT
          refine lv_iconst (v := 0) hx hb dX6_moved_25 (by decide) ?_
          refine lv_istore (lv' := [(5, .int (0 : Int32)), (0, .ref (sk 0)), (1, .int x1), (2, .int y_3), (3, .int y_4), (4, .int y_5)]) hx hb dX6_moved_26 hl (by decide) rfl (fun ls hl => ?_)
          have L_28 : ∀ (n : Nat) (ls : Array Slot) (y_9 : Int32) (y_10 : Int32) (y_11 : Int32) (hm : ((20 : Int32).toInt - y_11.toInt).toNat < n) (hl : lv_has ls 6 [(0, .ref (sk 0)), (1, .int x1), (2, .int y_9), (3, .int y_10), (4, .int y_5), (5, .int y_11)]) (kont : ∀ (ls : Array Slot) (e_12 : Int32) (e_13 : Int32), lv_has ls 6 [(0, .ref (sk 0)), (1, .int x1), (2, .int e_12), (3, .int e_13), (4, .int y_5)] → (e_12, e_13) = lp_X6_moved_28 g V y_5 n y_9 y_10 y_11 → W p l e ({ frames := 5, cells := 0, slots := 0, locals := 112 } : Room) s m args below meth c s.heap [] 0 0 Q (F0 m 72 ls [])), W p l e ({ frames := 5, cells := 0, slots := 0, locals := 112 } : Room) s m args below meth c s.heap [] 0 0 Q (F0 m 28 ls []) := by
            intro n
            induction n with
            | zero => intro ls y_9 y_10 y_11 hm; exact absurd hm (Nat.not_lt_zero _)
            | succ n ih =>
              intro ls y_9 y_10 y_11 hm hl kont
              have hT := lp_X6_moved_28_s g V y_5 n y_9 y_10 y_11
              refine lv_iload hx hb dX6_moved_28 (lv_at hl 5 rfl) ?_
              refine lv_bipush (v := 20) hx hb dX6_moved_30 (by decide) ?_
              refine lv_icmp_ge (tgt := 72) hx hb dX6_moved_32 (by decide) (fun c_14 => ?_) (fun c_14 => ?_)
              · have hT := it_t c_14 hT
                exact kont ls y_9 y_10 (lv_sub hl [0, 1, 2, 3, 4] rfl) hT
              · have hT := it_f c_14 hT
                refine lv_aload_n hx hb dX6_moved_35 rfl (lv_at hl 0 rfl) ?_
                refine lv_iload hx hb dX6_moved_36 (lv_at hl 4 rfl) ?_
                refine lv_iload hx hb dX6_moved_38 (lv_at hl 5 rfl) ?_
                refine vp_callSi (run_vP (As := [.int y_5, .int y_11]) (rest := []) C hK hP hD hN (c_X6_mayHaveMoved _) (rX6_r hK hP) ⟨wd_2_228, wd_2_230, ws_13, wd_1_1, wd_2_231⟩ ⟨rfl, rfl⟩ hv_X6_mayHaveMoved ⟨Nat.le_of_ble_eq_true rfl, Nat.le_of_ble_eq_true rfl⟩ rfl hl.1 rfl (Nat.le_of_ble_eq_true rfl) dX6_moved_40 ⟨Nat.zero_le _, Nat.zero_le _⟩) (fun r_15 hr_15 => ?_)
                have hT := nm_u hr_15.1 hT
                refine lv_if_eq (tgt := 66) hx hb dX6_moved_43 (by decide) (fun c_16 => ?_) (fun c_16 => ?_)
                · have hT := it_t c_16 hT
                  refine lv_iinc (v := y_11 + 1) (lv' := [(5, .int (y_11 + 1)), (0, .ref (sk 0)), (1, .int x1), (2, .int y_9), (3, .int y_10), (4, .int y_5)]) hx hb dX6_moved_66 hl (k := 5) rfl rfl (by decide) rfl (fun ls hl => ?_)
                  refine lv_goto (tgt := 28) hx hb dX6_moved_69 (by decide) ?_
                  exact ih ls y_9 y_10 (y_11 + 1) (ms_up c_14 hm) (lv_sub hl [1, 2, 3, 4, 5, 0] rfl) (fun ls z0 z1 hl he => kont ls z0 z1 hl (he.trans hT))
                · have hT := it_f c_16 hT
                  refine lv_iload_n hx hb dX6_moved_46 rfl (lv_at hl 2 rfl) ?_
                  refine lv_if_ne (tgt := 61) hx hb dX6_moved_47 (by decide) (fun c_17 => ?_) (fun c_17 => ?_)
                  · have hT := it_f c_17 hT
                    refine lv_iload_n hx hb dX6_moved_61 rfl (lv_at hl 3 rfl) ?_
                    refine lv_istore_n (lv' := [(3, .int y_10), (0, .ref (sk 0)), (1, .int x1), (2, .int y_9), (4, .int y_5), (5, .int y_11)]) hx hb dX6_moved_62 rfl hl (by decide) rfl (fun ls hl => ?_)
                    refine lv_iinc (v := y_9 + 1) (lv' := [(2, .int (y_9 + 1)), (3, .int y_10), (0, .ref (sk 0)), (1, .int x1), (4, .int y_5), (5, .int y_11)]) hx hb dX6_moved_63 hl (k := 3) rfl rfl (by decide) rfl (fun ls hl => ?_)
                    refine lv_iinc (v := y_11 + 1) (lv' := [(5, .int (y_11 + 1)), (2, .int (y_9 + 1)), (3, .int y_10), (0, .ref (sk 0)), (1, .int x1), (4, .int y_5)]) hx hb dX6_moved_66 hl (k := 5) rfl rfl (by decide) rfl (fun ls hl => ?_)
                    refine lv_goto (tgt := 28) hx hb dX6_moved_69 (by decide) ?_
                    exact ih ls (y_9 + 1) y_10 (y_11 + 1) (ms_up c_14 hm) (lv_sub hl [3, 4, 1, 2, 5, 0] rfl) (fun ls z0 z1 hl he => kont ls z0 z1 hl (he.trans hT))
                  · have hT := it_t c_17 hT
                    refine lv_bipush (v := 100) hx hb dX6_moved_50 (by decide) ?_
                    refine lv_iload hx hb dX6_moved_52 (lv_at hl 4 rfl) ?_
                    refine lv_imul hx hb dX6_moved_54 ?_
                    refine lv_iload hx hb dX6_moved_55 (lv_at hl 5 rfl) ?_
                    refine lv_iadd hx hb dX6_moved_57 ?_
                    refine lv_goto (tgt := 62) hx hb dX6_moved_58 (by decide) ?_
                    refine lv_istore_n (lv' := [(3, .int (((100 : Int32) * y_5) + y_11)), (0, .ref (sk 0)), (1, .int x1), (2, .int y_9), (4, .int y_5), (5, .int y_11)]) hx hb dX6_moved_62 rfl hl (by decide) rfl (fun ls hl => ?_)
                    refine lv_iinc (v := y_9 + 1) (lv' := [(2, .int (y_9 + 1)), (3, .int (((100 : Int32) * y_5) + y_11)), (0, .ref (sk 0)), (1, .int x1), (4, .int y_5), (5, .int y_11)]) hx hb dX6_moved_63 hl (k := 3) rfl rfl (by decide) rfl (fun ls hl => ?_)
                    refine lv_iinc (v := y_11 + 1) (lv' := [(5, .int (y_11 + 1)), (2, .int (y_9 + 1)), (3, .int (((100 : Int32) * y_5) + y_11)), (0, .ref (sk 0)), (1, .int x1), (4, .int y_5)]) hx hb dX6_moved_66 hl (k := 5) rfl rfl (by decide) rfl (fun ls hl => ?_)
                    refine lv_goto (tgt := 28) hx hb dX6_moved_69 (by decide) ?_
                    exact ih ls (y_9 + 1) (((100 : Int32) * y_5) + y_11) (y_11 + 1) (ms_up c_14 hm) (lv_sub hl [3, 4, 1, 2, 5, 0] rfl) (fun ls z0 z1 hl he => kont ls z0 z1 hl (he.trans hT))
          refine L_28 (((20 : Int32).toInt - (0 : Int32).toInt).toNat + 1) ls y_3 y_4 (0 : Int32) (Nat.lt_succ_self _) (lv_sub hl [1, 2, 3, 4, 5, 0] rfl) (fun ls e_12 e_13 hl he => ?_)
          have hT := nm2_u he hT
          refine lv_iinc (v := y_5 + 1) (lv' := [(4, .int (y_5 + 1)), (0, .ref (sk 0)), (1, .int x1), (2, .int e_12), (3, .int e_13)]) hx hb dX6_moved_72 hl (k := 4) rfl rfl (by decide) rfl (fun ls hl => ?_)
          refine lv_goto (tgt := 18) hx hb dX6_moved_75 (by decide) ?_
          exact ih ls e_12 e_13 (y_5 + 1) (ms_up c_8 hm) (lv_sub hl [1, 2, 3, 4, 0] rfl) (fun ls z0 z1 hl he => kont ls z0 z1 hl (he.trans hT))
    refine L_18 (((20 : Int32).toInt - (0 : Int32).toInt).toNat + 1) ls (0 : Int32) (-9 : Int32) (0 : Int32) (Nat.lt_succ_self _) (lv_sub hl [3, 4, 2, 1, 0] rfl) (fun ls e_6 e_7 hl he => ?_)
    have hT := nm2_u he hT
    refine lv_iload_n hx hb dX6_moved_78 rfl (lv_at hl 0 rfl) ?_
    refine lv_if_ne (tgt := 86) hx hb dX6_moved_79 (by decide) (fun c_18 => ?_) (fun c_18 => ?_)
    · have hT := it_f c_18 hT
      refine lv_iload_n hx hb dX6_moved_86 rfl (lv_at hl 2 rfl) ?_
      exact hret _ _ _ hT dX6_moved_87
    · have hT := it_t c_18 hT
      refine lv_iload_n hx hb dX6_moved_82 rfl (lv_at hl 1 rfl) ?_
      refine lv_goto (tgt := 87) hx hb dX6_moved_83 (by decide) ?_
      exact hret _ _ _ hT dX6_moved_87
  · have hT := it_t c_2 hT
    refine lv_iconst (v := -1) hx hb dX6_moved_8 (by decide) ?_
    exact hret _ _ _ hT dX6_moved_9
theorem hv_X6_mark : yX6_mark.cls = RX6 ∧ yX6_mark.cls ≠ "java/lang/invoke/MethodHandle" ∧ yX6_mark.cls ≠ "java/lang/invoke/VarHandle" ∧ (parseMethodDescriptor yX6_mark.desc).map (fun d => d.parameters.length) = some 3 := by decide +kernel
theorem hd_X6_mark : yX6_mark.cls ≠ "java/lang/invoke/MethodHandle" ∧ yX6_mark.cls ≠ "java/lang/invoke/VarHandle" ∧ (parseMethodDescriptor yX6_mark.desc).map (fun d => d.parameters.length) = some 3 := hv_X6_mark.2
def sp_X6_mark (V : Nat → Nat → Int32) (Hd : Nat → Nat → Int32) (tr : Int64) (x1 : Int32) (x2 : Int32) (x3 : Int32) : Int32 × Int64 :=
  nm (sp_X4_isCell V (11 * 0 + 10) x2 x3) (fun r_1 => if r_1 = 0 then ((-1000000 : Int32), tr) else (nm2 (sp_X0_markAs V Hd tr x1 (11 * 0 + 10) x2 x3) (fun r_5 tr_3 => (r_5, tr_3))))
theorem sp_X6_mark_s (V : Nat → Nat → Int32) (Hd : Nat → Nat → Int32) (tr : Int64) (x1 : Int32) (x2 : Int32) (x3 : Int32) : (nm (sp_X4_isCell V (11 * 0 + 10) x2 x3) (fun r_1 => if r_1 = 0 then ((-1000000 : Int32), tr) else (nm2 (sp_X0_markAs V Hd tr x1 (11 * 0 + 10) x2 x3) (fun r_5 tr_3 => (r_5, tr_3))))) = sp_X6_mark V Hd tr x1 x2 x3 := rfl
set_option maxHeartbeats 4000000 in
set_option maxRecDepth 100000 in
theorem c_X6_mark {l : Launch} {D : va_G} {cI cZ cO : ClassId} {sk : Nat → Nat} {g tb : Nat → Int32} {V Hd : Nat → Nat → Int32} {tr : Int64} {x1 : Int32} {x2 : Int32} {x3 : Int32}  (sz : Nat) : Met l yX6_mark (wm yX6_mark cX6_mark 4 (some .int)) ({ frames := 6, cells := 0, slots := 0, locals := 135 } : Room) (GPre D (ty3 cI cZ cO) (WW cI cO sk g tb V Hd tr) [.ref (sk 0), .int x1, .int x2, .int x3] sz) (va_Qi (fun r (u : Int64) => (r, u) = sp_X6_mark V Hd tr x1 x2 x3) (fun u t => GAt D (ty3 cI cZ cO) (va_A (WW cI cO sk g tb V Hd tr) sz) (WW cI cO sk g tb V Hd u) t) (va_A (WW cI cO sk g tb V Hd tr) sz)) 0 0 (va_A (WW cI cO sk g tb V Hd tr) sz) := by
  refine metQ_i (W1 := (fun (u : Int64) => WW cI cO sk g tb V Hd u)) (post := (fun r (u : Int64) => (r, u) = sp_X6_mark V Hd tr x1 x2 x3)) (by decide) (Nat.le_of_ble_eq_true rfl) ?_
  intro p e s m args below meth c ls A Q C hsz hP hK hD hS hA hN hl hret
  have hx := C.1
  have hb := C.2.1
  have hl : lv_has ls 4 [(0, .ref (sk 0)), (1, .int x1), (2, .int x2), (3, .int x3)] := hl
  have hT := sp_X6_mark_s V Hd tr x1 x2 x3
  refine lv_aload_n hx hb dX6_mark_0 rfl (lv_at hl 0 rfl) ?_
  refine gX6_shore C hK hP wd_1_162 dX6_mark_1 ?_
  refine lv_iload_n hx hb dX6_mark_4 rfl (lv_at hl 2 rfl) ?_
  refine lv_iload_n hx hb dX6_mark_5 rfl (lv_at hl 3 rfl) ?_
  refine vp_callSi (run_vP (As := [.int x2, .int x3]) (rest := []) C hK hP hD hN (c_X4_isCell (by decide) _) (rX4_r hK hP (by decide)) ⟨wd_2_45, wd_2_46, wd_2_47, wd_1_4, wd_2_48⟩ ⟨rfl, rfl⟩ hv_X4_isCell ⟨Nat.le_of_ble_eq_true rfl, Nat.le_of_ble_eq_true rfl⟩ rfl hl.1 rfl (Nat.le_of_ble_eq_true rfl) dX6_mark_6 ⟨Nat.zero_le _, Nat.zero_le _⟩) (fun r_1 hr_1 => ?_)
  have hT := nm_u hr_1.1 hT
  refine lv_if_eq (tgt := 29) hx hb dX6_mark_9 (by decide) (fun c_2 => ?_) (fun c_2 => ?_)
  · have hT := it_t c_2 hT
    refine lv_ldc hx hb C.2.2.2.1 (C.2.2.2.2 _ wd_3_44) dX6_mark_29 ?_
    exact hret _ tr _ _ _ _ hT hP hD hS dX6_mark_31
  · have hT := it_f c_2 hT
    refine lv_aload_n hx hb dX6_mark_12 rfl (lv_at hl 0 rfl) ?_
    refine gX6_marks C hK hP wd_1_166 dX6_mark_13 ?_
    refine lv_iload_n hx hb dX6_mark_16 rfl (lv_at hl 1 rfl) ?_
    refine lv_aload_n hx hb dX6_mark_17 rfl (lv_at hl 0 rfl) ?_
    refine gX6_shore C hK hP wd_1_162 dX6_mark_18 ?_
    refine lv_iload_n hx hb dX6_mark_21 rfl (lv_at hl 2 rfl) ?_
    refine lv_iload_n hx hb dX6_mark_22 rfl (lv_at hl 3 rfl) ?_
    refine on_i (run_vQ (As := [.int x1, .ref (sk (20 + 2 * (11 * 0 + 10))), .int x2, .int x3]) (rest := []) C hK hP hD hN (c_X0_markAs (by decide) _) (rX0_r hK hP) ⟨wd_3_2, wd_3_3, wd_3_4, wd_1_7, wd_3_5⟩ ⟨rfl, rfl⟩ hv_X0_markAs ⟨Nat.le_of_ble_eq_true rfl, Nat.le_of_ble_eq_true rfl⟩ rfl hl.1 rfl (Nat.le_of_ble_eq_true rfl) dX6_mark_23 ⟨Nat.zero_le _, Nat.zero_le _⟩) hD hS hA (fun r_5 u H locs hp_4 hP hD hS => ?_)
    obtain ⟨tr_3, rfl⟩ : ∃ z, z = u := ⟨_, rfl⟩
    have hP : va_P D vwCl (WW cI cO sk g tb V Hd tr_3) H := hP
    have hD : va_D A (WW cI cO sk g tb V Hd tr_3) := hD
    have hT := nm2_u hp_4 hT
    refine lv_goto (tgt := 31) hx hb dX6_mark_26 (by decide) ?_
    exact hret _ tr_3 _ _ _ _ hT hP hD hS dX6_mark_31
theorem hv_X6_keep : yX6_keep.cls = RX6 ∧ yX6_keep.cls ≠ "java/lang/invoke/MethodHandle" ∧ yX6_keep.cls ≠ "java/lang/invoke/VarHandle" ∧ (parseMethodDescriptor yX6_keep.desc).map (fun d => d.parameters.length) = some 1 := by decide +kernel
theorem hd_X6_keep : yX6_keep.cls ≠ "java/lang/invoke/MethodHandle" ∧ yX6_keep.cls ≠ "java/lang/invoke/VarHandle" ∧ (parseMethodDescriptor yX6_keep.desc).map (fun d => d.parameters.length) = some 1 := hv_X6_keep.2
def sp_X6_keep (g : Nat → Int32) (V : Nat → Nat → Int32) (Hd : Nat → Nat → Int32) (x1 : Int32) : Int32 × (Nat → Int32) × (Nat → Nat → Int32) × (Nat → Nat → Int32) :=
  if x1 = (0 : Int32) then (nm3 (sp_X3_becomes g V Hd 1 0) (fun g_3 V_4 Hd_5 => (V_4 (11 * 0 + 10) 4, upd g_3 (10 + 1) (1 : Int32), V_4, Hd_5))) else (if x1 = (1 : Int32) then (nm3 (sp_X3_becomes g V Hd 2 0) (fun g_7 V_8 Hd_9 => (V_8 (11 * 0 + 10) 4, upd g_7 (10 + 2) (1 : Int32), V_8, Hd_9))) else ((-1 : Int32), g, V, Hd))
theorem sp_X6_keep_s (g : Nat → Int32) (V : Nat → Nat → Int32) (Hd : Nat → Nat → Int32) (x1 : Int32) : (if x1 = (0 : Int32) then (nm3 (sp_X3_becomes g V Hd 1 0) (fun g_3 V_4 Hd_5 => (V_4 (11 * 0 + 10) 4, upd g_3 (10 + 1) (1 : Int32), V_4, Hd_5))) else (if x1 = (1 : Int32) then (nm3 (sp_X3_becomes g V Hd 2 0) (fun g_7 V_8 Hd_9 => (V_8 (11 * 0 + 10) 4, upd g_7 (10 + 2) (1 : Int32), V_8, Hd_9))) else ((-1 : Int32), g, V, Hd))) = sp_X6_keep g V Hd x1 := rfl
set_option maxHeartbeats 4000000 in
set_option maxRecDepth 100000 in
theorem c_X6_keep {l : Launch} {D : va_G} {cI cZ cO : ClassId} {sk : Nat → Nat} {g tb : Nat → Int32} {V Hd : Nat → Nat → Int32} {tr : Int64} {x1 : Int32}  (sz : Nat) : Met l yX6_keep (wm yX6_keep cX6_keep 3 (some .int)) ({ frames := 4, cells := 0, slots := 0, locals := 86 } : Room) (GPre D (ty3 cI cZ cO) (WW cI cO sk g tb V Hd tr) [.ref (sk 0), .int x1] sz) (va_Qi (fun r (u : (Nat → Int32) × (Nat → Nat → Int32) × (Nat → Nat → Int32)) => (r, u) = sp_X6_keep g V Hd x1) (fun u t => GAt D (ty3 cI cZ cO) (va_A (WW cI cO sk g tb V Hd tr) sz) (WW cI cO sk u.1 tb u.2.1 u.2.2 tr) t) (va_A (WW cI cO sk g tb V Hd tr) sz)) 0 0 (va_A (WW cI cO sk g tb V Hd tr) sz) := by
  refine metQ_i (W1 := (fun (u : (Nat → Int32) × (Nat → Nat → Int32) × (Nat → Nat → Int32)) => WW cI cO sk u.1 tb u.2.1 u.2.2 tr)) (post := (fun r (u : (Nat → Int32) × (Nat → Nat → Int32) × (Nat → Nat → Int32)) => (r, u) = sp_X6_keep g V Hd x1)) (by decide) (Nat.le_of_ble_eq_true rfl) ?_
  intro p e s m args below meth c ls A Q C hsz hP hK hD hS hA hN hl hret
  have hx := C.1
  have hb := C.2.1
  have hl : lv_has ls 3 [(0, .ref (sk 0)), (1, .int x1)] := hl
  have hT := sp_X6_keep_s g V Hd x1
  refine lv_aload_n hx hb dX6_keep_0 rfl (lv_at hl 0 rfl) ?_
  refine lv_iload_n hx hb dX6_keep_1 rfl (lv_at hl 1 rfl) ?_
  by_cases c_1 : x1 = (0 : Int32)
  · have hT := it_t c_1 hT
    refine va_csr (run_vP (As := [.int x1]) (rest := []) C hK hP hD hN (c_X6_imageOf_0 c_1 _) (rX6_r hK hP) ⟨wd_3_49, wd_3_51, ws_20, wd_1_1, wd_3_52⟩ ⟨rfl, rfl⟩ hv_X6_imageOf ⟨Nat.le_of_ble_eq_true rfl, Nat.le_of_ble_eq_true rfl⟩ rfl hl.1 rfl (Nat.le_of_ble_eq_true rfl) dX6_keep_2 ⟨Nat.zero_le _, Nat.zero_le _⟩) (fun _ _ => ?_)
    refine lv_astore_n (lv' := [(2, .ref (sk (4 + 1))), (0, .ref (sk 0)), (1, .int x1)]) hx hb dX6_keep_5 rfl hl (by decide) rfl (fun ls hl => ?_)
    refine lv_aload_n hx hb dX6_keep_6 rfl (lv_at hl 0 rfl) ?_
    refine lv_ifnonnull (tgt := 12) hx hb dX6_keep_7 (by decide) ?_
    refine lv_aload_n hx hb dX6_keep_12 rfl (lv_at hl 0 rfl) ?_
    refine lv_aload_n hx hb dX6_keep_13 rfl (lv_at hl 1 rfl) ?_
    refine gX6_story C hK hP wd_1_161 dX6_keep_14 ?_
    refine on_v (run_vQ (As := [.ref (sk (4 + 0))]) (rest := []) C hK hP hD hN (c_X3_becomes (by decide) (by decide) _) (rX3_r hK hP (by decide)) ⟨wd_3_53, wd_3_54, wd_3_55, wd_1_5, wd_3_56⟩ ⟨rfl, rfl⟩ hv_X3_becomes ⟨Nat.le_of_ble_eq_true rfl, Nat.le_of_ble_eq_true rfl⟩ rfl hl.1 rfl (Nat.le_of_ble_eq_true rfl) dX6_keep_17 ⟨Nat.zero_le _, Nat.zero_le _⟩) hD hS hA (fun u H locs hp_6 hP hD hS => ?_)
    obtain ⟨g_3, V_4, Hd_5⟩ := u
    have hP : va_P D vwCl (WW cI cO sk g_3 tb V_4 Hd_5 tr) H := hP
    have hD : va_D A (WW cI cO sk g_3 tb V_4 Hd_5 tr) := hD
    have hT := nm3_u hp_6 hT
    refine lv_aload_n hx hb dX6_keep_20 rfl (lv_at hl 0 rfl) ?_
    refine lv_iconst (v := 1) hx hb dX6_keep_21 (by decide) ?_
    refine pX3_kept C hK hP hD hS (by decide) (Or.inr rfl) wd_1_115 dX6_keep_22 (fun H locs hP hD hS => ?_)
    refine lv_aload_n hx hb dX6_keep_25 rfl (lv_at hl 1 rfl) ?_
    refine gX6_shore C hK hP wd_1_162 dX6_keep_26 ?_
    refine gX4_tide C hK hP (by decide) wd_1_59 dX6_keep_29 ?_
    exact hret _ (upd g_3 (10 + 1) (1 : Int32), V_4, Hd_5) _ _ _ _ hT hP hD hS dX6_keep_32
  · have hT := it_f c_1 hT
    by_cases c_2 : x1 = (1 : Int32)
    · have hT := it_t c_2 hT
      refine va_csr (run_vP (As := [.int x1]) (rest := []) C hK hP hD hN (c_X6_imageOf_1 c_2 _) (rX6_r hK hP) ⟨wd_3_49, wd_3_51, ws_20, wd_1_1, wd_3_52⟩ ⟨rfl, rfl⟩ hv_X6_imageOf ⟨Nat.le_of_ble_eq_true rfl, Nat.le_of_ble_eq_true rfl⟩ rfl hl.1 rfl (Nat.le_of_ble_eq_true rfl) dX6_keep_2 ⟨Nat.zero_le _, Nat.zero_le _⟩) (fun _ _ => ?_)
      refine lv_astore_n (lv' := [(2, .ref (sk (4 + 2))), (0, .ref (sk 0)), (1, .int x1)]) hx hb dX6_keep_5 rfl hl (by decide) rfl (fun ls hl => ?_)
      refine lv_aload_n hx hb dX6_keep_6 rfl (lv_at hl 0 rfl) ?_
      refine lv_ifnonnull (tgt := 12) hx hb dX6_keep_7 (by decide) ?_
      refine lv_aload_n hx hb dX6_keep_12 rfl (lv_at hl 0 rfl) ?_
      refine lv_aload_n hx hb dX6_keep_13 rfl (lv_at hl 1 rfl) ?_
      refine gX6_story C hK hP wd_1_161 dX6_keep_14 ?_
      refine on_v (run_vQ (As := [.ref (sk (4 + 0))]) (rest := []) C hK hP hD hN (c_X3_becomes (by decide) (by decide) _) (rX3_r hK hP (by decide)) ⟨wd_3_53, wd_3_54, wd_3_55, wd_1_5, wd_3_56⟩ ⟨rfl, rfl⟩ hv_X3_becomes ⟨Nat.le_of_ble_eq_true rfl, Nat.le_of_ble_eq_true rfl⟩ rfl hl.1 rfl (Nat.le_of_ble_eq_true rfl) dX6_keep_17 ⟨Nat.zero_le _, Nat.zero_le _⟩) hD hS hA (fun u H locs hp_10 hP hD hS => ?_)
      obtain ⟨g_7, V_8, Hd_9⟩ := u
      have hP : va_P D vwCl (WW cI cO sk g_7 tb V_8 Hd_9 tr) H := hP
      have hD : va_D A (WW cI cO sk g_7 tb V_8 Hd_9 tr) := hD
      have hT := nm3_u hp_10 hT
      refine lv_aload_n hx hb dX6_keep_20 rfl (lv_at hl 0 rfl) ?_
      refine lv_iconst (v := 1) hx hb dX6_keep_21 (by decide) ?_
      refine pX3_kept C hK hP hD hS (by decide) (Or.inr rfl) wd_1_115 dX6_keep_22 (fun H locs hP hD hS => ?_)
      refine lv_aload_n hx hb dX6_keep_25 rfl (lv_at hl 1 rfl) ?_
      refine gX6_shore C hK hP wd_1_162 dX6_keep_26 ?_
      refine gX4_tide C hK hP (by decide) wd_1_59 dX6_keep_29 ?_
      exact hret _ (upd g_7 (10 + 2) (1 : Int32), V_8, Hd_9) _ _ _ _ hT hP hD hS dX6_keep_32
    · have hT := it_f c_2 hT
      refine va_csr (run_vP (As := [.int x1]) (rest := []) C hK hP hD hN (c_X6_imageOf_2 c_1 c_2 _) (rX6_r hK hP) ⟨wd_3_49, wd_3_51, ws_20, wd_1_1, wd_3_52⟩ ⟨rfl, rfl⟩ hv_X6_imageOf ⟨Nat.le_of_ble_eq_true rfl, Nat.le_of_ble_eq_true rfl⟩ rfl hl.1 rfl (Nat.le_of_ble_eq_true rfl) dX6_keep_2 ⟨Nat.zero_le _, Nat.zero_le _⟩) (fun _ _ => ?_)
      refine lv_astore_nN (lv' := [(2, .null), (0, .ref (sk 0)), (1, .int x1)]) hx hb dX6_keep_5 rfl hl (by decide) rfl (fun ls hl => ?_)
      refine lv_aload_nN hx hb dX6_keep_6 rfl (lv_at hl 0 rfl) ?_
      refine lv_ifnonnullN hx hb dX6_keep_7 ?_
      refine lv_iconst (v := -1) hx hb dX6_keep_10 (by decide) ?_
      exact hret _ (g, V, Hd) _ _ _ _ hT hP hD hS dX6_keep_11
theorem hv_X6_back : yX6_back.cls = RX6 ∧ yX6_back.cls ≠ "java/lang/invoke/MethodHandle" ∧ yX6_back.cls ≠ "java/lang/invoke/VarHandle" ∧ (parseMethodDescriptor yX6_back.desc).map (fun d => d.parameters.length) = some 1 := by decide +kernel
theorem hd_X6_back : yX6_back.cls ≠ "java/lang/invoke/MethodHandle" ∧ yX6_back.cls ≠ "java/lang/invoke/VarHandle" ∧ (parseMethodDescriptor yX6_back.desc).map (fun d => d.parameters.length) = some 1 := hv_X6_back.2
def sp_X6_back (g : Nat → Int32) (V : Nat → Nat → Int32) (Hd : Nat → Nat → Int32) (x1 : Int32) : Int32 × (Nat → Int32) × (Nat → Nat → Int32) × (Nat → Nat → Int32) :=
  if x1 = (0 : Int32) then (if (g (10 + 1)) = 0 then ((-2 : Int32), g, V, Hd) else (nm3 (sp_X3_becomes g V Hd 0 1) (fun g_4 V_5 Hd_6 => (V_5 (11 * 0 + 10) 4, g_4, V_5, Hd_6)))) else (if x1 = (1 : Int32) then (if (g (10 + 2)) = 0 then ((-2 : Int32), g, V, Hd) else (nm3 (sp_X3_becomes g V Hd 0 2) (fun g_9 V_10 Hd_11 => (V_10 (11 * 0 + 10) 4, g_9, V_10, Hd_11)))) else ((-1 : Int32), g, V, Hd))
theorem sp_X6_back_s (g : Nat → Int32) (V : Nat → Nat → Int32) (Hd : Nat → Nat → Int32) (x1 : Int32) : (if x1 = (0 : Int32) then (if (g (10 + 1)) = 0 then ((-2 : Int32), g, V, Hd) else (nm3 (sp_X3_becomes g V Hd 0 1) (fun g_4 V_5 Hd_6 => (V_5 (11 * 0 + 10) 4, g_4, V_5, Hd_6)))) else (if x1 = (1 : Int32) then (if (g (10 + 2)) = 0 then ((-2 : Int32), g, V, Hd) else (nm3 (sp_X3_becomes g V Hd 0 2) (fun g_9 V_10 Hd_11 => (V_10 (11 * 0 + 10) 4, g_9, V_10, Hd_11)))) else ((-1 : Int32), g, V, Hd))) = sp_X6_back g V Hd x1 := rfl
set_option maxHeartbeats 4000000 in
set_option maxRecDepth 100000 in
theorem c_X6_back {l : Launch} {D : va_G} {cI cZ cO : ClassId} {sk : Nat → Nat} {g tb : Nat → Int32} {V Hd : Nat → Nat → Int32} {tr : Int64} {x1 : Int32}  (sz : Nat) : Met l yX6_back (wm yX6_back cX6_back 3 (some .int)) ({ frames := 4, cells := 0, slots := 0, locals := 86 } : Room) (GPre D (ty3 cI cZ cO) (WW cI cO sk g tb V Hd tr) [.ref (sk 0), .int x1] sz) (va_Qi (fun r (u : (Nat → Int32) × (Nat → Nat → Int32) × (Nat → Nat → Int32)) => (r, u) = sp_X6_back g V Hd x1) (fun u t => GAt D (ty3 cI cZ cO) (va_A (WW cI cO sk g tb V Hd tr) sz) (WW cI cO sk u.1 tb u.2.1 u.2.2 tr) t) (va_A (WW cI cO sk g tb V Hd tr) sz)) 0 0 (va_A (WW cI cO sk g tb V Hd tr) sz) := by
  refine metQ_i (W1 := (fun (u : (Nat → Int32) × (Nat → Nat → Int32) × (Nat → Nat → Int32)) => WW cI cO sk u.1 tb u.2.1 u.2.2 tr)) (post := (fun r (u : (Nat → Int32) × (Nat → Nat → Int32) × (Nat → Nat → Int32)) => (r, u) = sp_X6_back g V Hd x1)) (by decide) (Nat.le_of_ble_eq_true rfl) ?_
  intro p e s m args below meth c ls A Q C hsz hP hK hD hS hA hN hl hret
  have hx := C.1
  have hb := C.2.1
  have hl : lv_has ls 3 [(0, .ref (sk 0)), (1, .int x1)] := hl
  have hT := sp_X6_back_s g V Hd x1
  refine lv_aload_n hx hb dX6_back_0 rfl (lv_at hl 0 rfl) ?_
  refine lv_iload_n hx hb dX6_back_1 rfl (lv_at hl 1 rfl) ?_
  by_cases c_1 : x1 = (0 : Int32)
  · have hT := it_t c_1 hT
    refine va_csr (run_vP (As := [.int x1]) (rest := []) C hK hP hD hN (c_X6_imageOf_0 c_1 _) (rX6_r hK hP) ⟨wd_3_49, wd_3_51, ws_20, wd_1_1, wd_3_52⟩ ⟨rfl, rfl⟩ hv_X6_imageOf ⟨Nat.le_of_ble_eq_true rfl, Nat.le_of_ble_eq_true rfl⟩ rfl hl.1 rfl (Nat.le_of_ble_eq_true rfl) dX6_back_2 ⟨Nat.zero_le _, Nat.zero_le _⟩) (fun _ _ => ?_)
    refine lv_astore_n (lv' := [(2, .ref (sk (4 + 1))), (0, .ref (sk 0)), (1, .int x1)]) hx hb dX6_back_5 rfl hl (by decide) rfl (fun ls hl => ?_)
    refine lv_aload_n hx hb dX6_back_6 rfl (lv_at hl 0 rfl) ?_
    refine lv_ifnonnull (tgt := 12) hx hb dX6_back_7 (by decide) ?_
    refine lv_aload_n hx hb dX6_back_12 rfl (lv_at hl 0 rfl) ?_
    refine gX3_kept C hK hP (by decide) wd_1_115 dX6_back_13 ?_
    refine lv_if_ne (tgt := 22) hx hb dX6_back_16 (by decide) (fun c_3 => ?_) (fun c_3 => ?_)
    · have hT := it_f c_3 hT
      refine lv_aload_n hx hb dX6_back_22 rfl (lv_at hl 1 rfl) ?_
      refine gX6_story C hK hP wd_1_161 dX6_back_23 ?_
      refine lv_aload_n hx hb dX6_back_26 rfl (lv_at hl 0 rfl) ?_
      refine on_v (run_vQ (As := [.ref (sk (4 + 1))]) (rest := []) C hK hP hD hN (c_X3_becomes (by decide) (by decide) _) (rX3_r hK hP (by decide)) ⟨wd_3_53, wd_3_54, wd_3_55, wd_1_5, wd_3_56⟩ ⟨rfl, rfl⟩ hv_X3_becomes ⟨Nat.le_of_ble_eq_true rfl, Nat.le_of_ble_eq_true rfl⟩ rfl hl.1 rfl (Nat.le_of_ble_eq_true rfl) dX6_back_27 ⟨Nat.zero_le _, Nat.zero_le _⟩) hD hS hA (fun u H locs hp_7 hP hD hS => ?_)
      obtain ⟨g_4, V_5, Hd_6⟩ := u
      have hP : va_P D vwCl (WW cI cO sk g_4 tb V_5 Hd_6 tr) H := hP
      have hD : va_D A (WW cI cO sk g_4 tb V_5 Hd_6 tr) := hD
      have hT := nm3_u hp_7 hT
      refine lv_aload_n hx hb dX6_back_30 rfl (lv_at hl 1 rfl) ?_
      refine gX6_shore C hK hP wd_1_162 dX6_back_31 ?_
      refine gX4_tide C hK hP (by decide) wd_1_59 dX6_back_34 ?_
      exact hret _ (g_4, V_5, Hd_6) _ _ _ _ hT hP hD hS dX6_back_37
    · have hT := it_t c_3 hT
      refine lv_bipush (v := -2) hx hb dX6_back_19 (by decide) ?_
      exact hret _ (g, V, Hd) _ _ _ _ hT hP hD hS dX6_back_21
  · have hT := it_f c_1 hT
    by_cases c_2 : x1 = (1 : Int32)
    · have hT := it_t c_2 hT
      refine va_csr (run_vP (As := [.int x1]) (rest := []) C hK hP hD hN (c_X6_imageOf_1 c_2 _) (rX6_r hK hP) ⟨wd_3_49, wd_3_51, ws_20, wd_1_1, wd_3_52⟩ ⟨rfl, rfl⟩ hv_X6_imageOf ⟨Nat.le_of_ble_eq_true rfl, Nat.le_of_ble_eq_true rfl⟩ rfl hl.1 rfl (Nat.le_of_ble_eq_true rfl) dX6_back_2 ⟨Nat.zero_le _, Nat.zero_le _⟩) (fun _ _ => ?_)
      refine lv_astore_n (lv' := [(2, .ref (sk (4 + 2))), (0, .ref (sk 0)), (1, .int x1)]) hx hb dX6_back_5 rfl hl (by decide) rfl (fun ls hl => ?_)
      refine lv_aload_n hx hb dX6_back_6 rfl (lv_at hl 0 rfl) ?_
      refine lv_ifnonnull (tgt := 12) hx hb dX6_back_7 (by decide) ?_
      refine lv_aload_n hx hb dX6_back_12 rfl (lv_at hl 0 rfl) ?_
      refine gX3_kept C hK hP (by decide) wd_1_115 dX6_back_13 ?_
      refine lv_if_ne (tgt := 22) hx hb dX6_back_16 (by decide) (fun c_8 => ?_) (fun c_8 => ?_)
      · have hT := it_f c_8 hT
        refine lv_aload_n hx hb dX6_back_22 rfl (lv_at hl 1 rfl) ?_
        refine gX6_story C hK hP wd_1_161 dX6_back_23 ?_
        refine lv_aload_n hx hb dX6_back_26 rfl (lv_at hl 0 rfl) ?_
        refine on_v (run_vQ (As := [.ref (sk (4 + 2))]) (rest := []) C hK hP hD hN (c_X3_becomes (by decide) (by decide) _) (rX3_r hK hP (by decide)) ⟨wd_3_53, wd_3_54, wd_3_55, wd_1_5, wd_3_56⟩ ⟨rfl, rfl⟩ hv_X3_becomes ⟨Nat.le_of_ble_eq_true rfl, Nat.le_of_ble_eq_true rfl⟩ rfl hl.1 rfl (Nat.le_of_ble_eq_true rfl) dX6_back_27 ⟨Nat.zero_le _, Nat.zero_le _⟩) hD hS hA (fun u H locs hp_12 hP hD hS => ?_)
        obtain ⟨g_9, V_10, Hd_11⟩ := u
        have hP : va_P D vwCl (WW cI cO sk g_9 tb V_10 Hd_11 tr) H := hP
        have hD : va_D A (WW cI cO sk g_9 tb V_10 Hd_11 tr) := hD
        have hT := nm3_u hp_12 hT
        refine lv_aload_n hx hb dX6_back_30 rfl (lv_at hl 1 rfl) ?_
        refine gX6_shore C hK hP wd_1_162 dX6_back_31 ?_
        refine gX4_tide C hK hP (by decide) wd_1_59 dX6_back_34 ?_
        exact hret _ (g_9, V_10, Hd_11) _ _ _ _ hT hP hD hS dX6_back_37
      · have hT := it_t c_8 hT
        refine lv_bipush (v := -2) hx hb dX6_back_19 (by decide) ?_
        exact hret _ (g, V, Hd) _ _ _ _ hT hP hD hS dX6_back_21
    · have hT := it_f c_2 hT
      refine va_csr (run_vP (As := [.int x1]) (rest := []) C hK hP hD hN (c_X6_imageOf_2 c_1 c_2 _) (rX6_r hK hP) ⟨wd_3_49, wd_3_51, ws_20, wd_1_1, wd_3_52⟩ ⟨rfl, rfl⟩ hv_X6_imageOf ⟨Nat.le_of_ble_eq_true rfl, Nat.le_of_ble_eq_true rfl⟩ rfl hl.1 rfl (Nat.le_of_ble_eq_true rfl) dX6_back_2 ⟨Nat.zero_le _, Nat.zero_le _⟩) (fun _ _ => ?_)
      refine lv_astore_nN (lv' := [(2, .null), (0, .ref (sk 0)), (1, .int x1)]) hx hb dX6_back_5 rfl hl (by decide) rfl (fun ls hl => ?_)
      refine lv_aload_nN hx hb dX6_back_6 rfl (lv_at hl 0 rfl) ?_
      refine lv_ifnonnullN hx hb dX6_back_7 ?_
      refine lv_iconst (v := -1) hx hb dX6_back_10 (by decide) ?_
      exact hret _ (g, V, Hd) _ _ _ _ hT hP hD hS dX6_back_11
theorem hv_X6_count : yX6_count.cls = RX6 ∧ yX6_count.cls ≠ "java/lang/invoke/MethodHandle" ∧ yX6_count.cls ≠ "java/lang/invoke/VarHandle" ∧ (parseMethodDescriptor yX6_count.desc).map (fun d => d.parameters.length) = some 1 := by decide +kernel
theorem hd_X6_count : yX6_count.cls ≠ "java/lang/invoke/MethodHandle" ∧ yX6_count.cls ≠ "java/lang/invoke/VarHandle" ∧ (parseMethodDescriptor yX6_count.desc).map (fun d => d.parameters.length) = some 1 := hv_X6_count.2
def sp_X6_count (g : Nat → Int32) (V : Nat → Nat → Int32) (x1 : Int32) : Int32 :=
  if x1 = (0 : Int32) then (V (11 * 0 + 10) 0) else (if x1 = (1 : Int32) then (V (11 * 0 + 10) 1) else (if x1 = (2 : Int32) then (g 13) else (if x1 = (3 : Int32) then (g (7 + 0)) else (if x1 = (4 : Int32) then (g 6) else (-1 : Int32)))))
theorem sp_X6_count_s (g : Nat → Int32) (V : Nat → Nat → Int32) (x1 : Int32) : (if x1 = (0 : Int32) then (V (11 * 0 + 10) 0) else (if x1 = (1 : Int32) then (V (11 * 0 + 10) 1) else (if x1 = (2 : Int32) then (g 13) else (if x1 = (3 : Int32) then (g (7 + 0)) else (if x1 = (4 : Int32) then (g 6) else (-1 : Int32)))))) = sp_X6_count g V x1 := rfl
set_option maxHeartbeats 4000000 in
set_option maxRecDepth 100000 in
theorem c_X6_count {l : Launch} {D : va_G} {cI cZ cO : ClassId} {sk : Nat → Nat} {g tb : Nat → Int32} {V Hd : Nat → Nat → Int32} {tr : Int64} {x1 : Int32}  (sz : Nat) : Met l yX6_count (wm yX6_count cX6_count 2 (some .int)) ({ frames := 0, cells := 0, slots := 0, locals := 0 } : Room) (GPre D (ty3 cI cZ cO) (WW cI cO sk g tb V Hd tr) [.ref (sk 0), .int x1] sz) (vp_Si (fun r => r = sp_X6_count g V x1)) 0 0 (fun _ => False) := by
  refine metP_i (post := (fun r => r = sp_X6_count g V x1)) (by decide) (Nat.le_of_ble_eq_true rfl) ?_
  intro p e s m args below meth c ls Q C hsz hP hK hD hN hl hret
  have hx := C.1
  have hb := C.2.1
  have hl : lv_has ls 2 [(0, .ref (sk 0)), (1, .int x1)] := hl
  have hT := sp_X6_count_s g V x1
  refine lv_iload_n hx hb dX6_count_0 rfl (lv_at hl 1 rfl) ?_
  by_cases c_1 : x1 = (0 : Int32)
  · have hT := it_t c_1 hT
    refine lv_tableIn (tgt := 36) hx hb dX6_count_1 (by rw [c_1]; decide) (by rw [c_1]; decide) (by rw [c_1]; rfl) (by decide) ?_
    refine lv_aload_n hx hb dX6_count_36 rfl (lv_at hl 0 rfl) ?_
    refine gX6_shore C hK hP wd_1_162 dX6_count_37 ?_
    refine gX4_wide C hK hP (by decide) wd_1_47 dX6_count_40 ?_
    exact hret _ _ _ hT dX6_count_43
  · have hT := it_f c_1 hT
    by_cases c_2 : x1 = (1 : Int32)
    · have hT := it_t c_2 hT
      refine lv_tableIn (tgt := 44) hx hb dX6_count_1 (by rw [c_2]; decide) (by rw [c_2]; decide) (by rw [c_2]; rfl) (by decide) ?_
      refine lv_aload_n hx hb dX6_count_44 rfl (lv_at hl 0 rfl) ?_
      refine gX6_shore C hK hP wd_1_162 dX6_count_45 ?_
      refine gX4_rows C hK hP (by decide) wd_1_50 dX6_count_48 ?_
      exact hret _ _ _ hT dX6_count_51
    · have hT := it_f c_2 hT
      by_cases c_3 : x1 = (2 : Int32)
      · have hT := it_t c_3 hT
        refine lv_tableIn (tgt := 52) hx hb dX6_count_1 (by rw [c_3]; decide) (by rw [c_3]; decide) (by rw [c_3]; rfl) (by decide) ?_
        refine lv_aload_n hx hb dX6_count_52 rfl (lv_at hl 0 rfl) ?_
        refine gX6_seen C hK hP wd_1_165 dX6_count_53 ?_
        refine gX2_much C hK hP wd_1_132 dX6_count_56 ?_
        exact hret _ _ _ hT dX6_count_59
      · have hT := it_f c_3 hT
        by_cases c_4 : x1 = (3 : Int32)
        · have hT := it_t c_4 hT
          refine lv_tableIn (tgt := 60) hx hb dX6_count_1 (by rw [c_4]; decide) (by rw [c_4]; decide) (by rw [c_4]; rfl) (by decide) ?_
          refine lv_aload_n hx hb dX6_count_60 rfl (lv_at hl 0 rfl) ?_
          refine gX6_story C hK hP wd_1_161 dX6_count_61 ?_
          refine gX3_undoable C hK hP (by decide) wd_1_114 dX6_count_64 ?_
          exact hret _ _ _ hT dX6_count_67
        · have hT := it_f c_4 hT
          by_cases c_5 : x1 = (4 : Int32)
          · have hT := it_t c_5 hT
            refine lv_tableIn (tgt := 68) hx hb dX6_count_1 (by rw [c_5]; decide) (by rw [c_5]; decide) (by rw [c_5]; rfl) (by decide) ?_
            refine lv_aload_n hx hb dX6_count_68 rfl (lv_at hl 0 rfl) ?_
            refine gX6_text C hK hP wd_1_160 dX6_count_69 ?_
            refine gX5_length C hK hP wd_1_32 dX6_count_72 ?_
            exact hret _ _ _ hT dX6_count_75
          · have hT := it_f c_5 hT
            refine lv_tableOut (tgt := 76) hx hb dX6_count_1 (by have h0 := lv_neT (a := 0) c_1 rfl; have h1 := lv_neT (a := 1) c_2 rfl; have h2 := lv_neT (a := 2) c_3 rfl; have h3 := lv_neT (a := 3) c_4 rfl; have h4 := lv_neT (a := 4) c_5 rfl; omega) (by decide) ?_
            refine lv_iconst (v := -1) hx hb dX6_count_76 (by decide) ?_
            exact hret _ _ _ hT dX6_count_77
theorem hv_X6_trace : yX6_trace.cls = RX6 ∧ yX6_trace.cls ≠ "java/lang/invoke/MethodHandle" ∧ yX6_trace.cls ≠ "java/lang/invoke/VarHandle" ∧ (parseMethodDescriptor yX6_trace.desc).map (fun d => d.parameters.length) = some 0 := by decide +kernel
theorem hd_X6_trace : yX6_trace.cls ≠ "java/lang/invoke/MethodHandle" ∧ yX6_trace.cls ≠ "java/lang/invoke/VarHandle" ∧ (parseMethodDescriptor yX6_trace.desc).map (fun d => d.parameters.length) = some 0 := hv_X6_trace.2
def sp_X6_trace (tr : Int64) : Int64 :=
  tr
theorem sp_X6_trace_s (tr : Int64) : (tr) = sp_X6_trace tr := rfl
set_option maxHeartbeats 4000000 in
set_option maxRecDepth 100000 in
theorem c_X6_trace {l : Launch} {D : va_G} {cI cZ cO : ClassId} {sk : Nat → Nat} {g tb : Nat → Int32} {V Hd : Nat → Nat → Int32} {tr : Int64}   (sz : Nat) : Met l yX6_trace (wm yX6_trace cX6_trace 1 (some .long)) ({ frames := 0, cells := 0, slots := 0, locals := 0 } : Room) (GPre D (ty3 cI cZ cO) (WW cI cO sk g tb V Hd tr) [.ref (sk 0)] sz) (vp_Sl (fun r => r = sp_X6_trace tr)) 0 0 (fun _ => False) := by
  refine metP_l (post := (fun r => r = sp_X6_trace tr)) (by decide) (Nat.le_of_ble_eq_true rfl) ?_
  intro p e s m args below meth c ls Q C hsz hP hK hD hN hl hret
  have hx := C.1
  have hb := C.2.1
  have hl : lv_has ls 1 [(0, .ref (sk 0))] := hl
  have hT := sp_X6_trace_s tr
  refine lv_aload_n hx hb dX6_trace_0 rfl (lv_at hl 0 rfl) ?_
  refine gX6_marks C hK hP wd_1_166 dX6_trace_1 ?_
  refine gX0_sum C hK hP wd_1_155 dX6_trace_4 ?_
  exact hret _ _ _ hT dX6_trace_7
