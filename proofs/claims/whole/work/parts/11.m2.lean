theorem hv_X7_isCloth : yX7_isCloth.cls = RX7 ∧ yX7_isCloth.cls ≠ "java/lang/invoke/MethodHandle" ∧ yX7_isCloth.cls ≠ "java/lang/invoke/VarHandle" ∧ (parseMethodDescriptor yX7_isCloth.desc).map (fun d => d.parameters.length) = some 3 := by decide +kernel
theorem hd_X7_isCloth : yX7_isCloth.cls ≠ "java/lang/invoke/MethodHandle" ∧ yX7_isCloth.cls ≠ "java/lang/invoke/VarHandle" ∧ (parseMethodDescriptor yX7_isCloth.desc).map (fun d => d.parameters.length) = some 3 := hv_X7_isCloth.2
def sp_X7_isCloth (mg : Nat → Int32) (x1 : Int32) (x2 : Int32) (x3 : Int32) : Int32 :=
  nm (sp_X7_isCell mg x2 x3) (fun r_1 => if r_1 = 0 then (0 : Int32) else (nm (sp_X7_has x1 (((5 : Int32) * x3) + x2)) (fun r_3 => if r_3 = 0 then (0 : Int32) else (1 : Int32))))
theorem sp_X7_isCloth_s (mg : Nat → Int32) (x1 : Int32) (x2 : Int32) (x3 : Int32) : (nm (sp_X7_isCell mg x2 x3) (fun r_1 => if r_1 = 0 then (0 : Int32) else (nm (sp_X7_has x1 (((5 : Int32) * x3) + x2)) (fun r_3 => if r_3 = 0 then (0 : Int32) else (1 : Int32))))) = sp_X7_isCloth mg x1 x2 x3 := rfl
set_option maxHeartbeats 4000000 in
set_option maxRecDepth 100000 in
theorem c_X7_isCloth {l : Launch} {D : va_G} {cI cZ cO : ClassId} {mk : Nat → Nat} {mg st im ke se tx sh fa : Nat → Int32} {mt : Int64} {x1 : Int32} {x2 : Int32} {x3 : Int32}  (sz : Nat) : Met l yX7_isCloth (wm yX7_isCloth cX7_isCloth 4 (some .boolean)) ({ frames := 2, cells := 0, slots := 0, locals := 44 } : Room) (GPre D (ty3 cI cZ cO) (MW cI cZ mk mg st im ke se tx sh fa mt) [.ref (mk 0), .int x1, .int x2, .int x3] sz) (vp_Si (fun r => r = sp_X7_isCloth mg x1 x2 x3 ∧ (r = 0 ∨ r = 1))) 0 0 (fun _ => False) := by
  refine metP_z (post := (fun r => r = sp_X7_isCloth mg x1 x2 x3)) (by decide) (Nat.le_of_ble_eq_true rfl) ?_
  intro p e s m args below meth c ls Q C hsz hP hK hD hN hl hret
  have hx := C.1
  have hb := C.2.1
  have hl : lv_has ls 4 [(0, .ref (mk 0)), (1, .int x1), (2, .int x2), (3, .int x3)] := hl
  have hT := sp_X7_isCloth_s mg x1 x2 x3
  refine lv_aload_n hx hb dX7_isCloth_0 rfl (lv_at hl 0 rfl) ?_
  refine lv_iload_n hx hb dX7_isCloth_1 rfl (lv_at hl 2 rfl) ?_
  refine lv_iload_n hx hb dX7_isCloth_2 rfl (lv_at hl 3 rfl) ?_
  refine vp_callSi (run_vP (As := [.int x2, .int x3]) (rest := []) C hK hP hD hN (c_X7_isCell _) (rX7_r hK hP) ⟨wd_3_195, wd_3_197, ws_27, wd_1_8, wd_3_198⟩ ⟨rfl, rfl⟩ hv_X7_isCell ⟨Nat.le_of_ble_eq_true rfl, Nat.le_of_ble_eq_true rfl⟩ rfl hl.1 rfl (Nat.le_of_ble_eq_true rfl) dX7_isCloth_3 ⟨Nat.zero_le _, Nat.zero_le _⟩) (fun r_1 hr_1 => ?_)
  have hT := nm_u hr_1.1 hT
  refine lv_if_eq (tgt := 25) hx hb dX7_isCloth_6 (by decide) (fun c_2 => ?_) (fun c_2 => ?_)
  · have hT := it_t c_2 hT
    refine lv_iconst (v := 0) hx hb dX7_isCloth_25 (by decide) ?_
    exact hret _ _ _ ⟨hT, (Or.inl rfl)⟩ dX7_isCloth_26
  · have hT := it_f c_2 hT
    refine lv_iload_n hx hb dX7_isCloth_9 rfl (lv_at hl 1 rfl) ?_
    refine lv_iconst (v := 5) hx hb dX7_isCloth_10 (by decide) ?_
    refine lv_iload_n hx hb dX7_isCloth_11 rfl (lv_at hl 3 rfl) ?_
    refine lv_imul hx hb dX7_isCloth_12 ?_
    refine lv_iload_n hx hb dX7_isCloth_13 rfl (lv_at hl 2 rfl) ?_
    refine lv_iadd hx hb dX7_isCloth_14 ?_
    refine vp_callSi (run_sP (As := [.int x1, .int (((5 : Int32) * x3) + x2)]) (rest := []) C hN (c_X7_has) ⟨wd_3_184, wd_3_185, wd_1_8, wd_3_186⟩ ⟨rfl, rfl⟩ hd_X7_has ⟨Nat.le_of_ble_eq_true rfl, Nat.le_of_ble_eq_true rfl⟩ rfl hl.1 rfl (Nat.le_of_ble_eq_true rfl) dX7_isCloth_15 ⟨Nat.zero_le _, Nat.zero_le _⟩) (fun r_3 hr_3 => ?_)
    have hT := nm_u hr_3.1 hT
    refine lv_if_eq (tgt := 25) hx hb dX7_isCloth_18 (by decide) (fun c_4 => ?_) (fun c_4 => ?_)
    · have hT := it_t c_4 hT
      refine lv_iconst (v := 0) hx hb dX7_isCloth_25 (by decide) ?_
      exact hret _ _ _ ⟨hT, (Or.inl rfl)⟩ dX7_isCloth_26
    · have hT := it_f c_4 hT
      refine lv_iconst (v := 1) hx hb dX7_isCloth_21 (by decide) ?_
      refine lv_goto (tgt := 26) hx hb dX7_isCloth_22 (by decide) ?_
      exact hret _ _ _ ⟨hT, (Or.inr rfl)⟩ dX7_isCloth_26
theorem hv_X7_isStill : yX7_isStill.cls = RX7 ∧ yX7_isStill.cls ≠ "java/lang/invoke/MethodHandle" ∧ yX7_isStill.cls ≠ "java/lang/invoke/VarHandle" ∧ (parseMethodDescriptor yX7_isStill.desc).map (fun d => d.parameters.length) = some 4 := by decide +kernel
theorem hd_X7_isStill : yX7_isStill.cls ≠ "java/lang/invoke/MethodHandle" ∧ yX7_isStill.cls ≠ "java/lang/invoke/VarHandle" ∧ (parseMethodDescriptor yX7_isStill.desc).map (fun d => d.parameters.length) = some 4 := hv_X7_isStill.2
def jn_X7_isStill_64 (st : Nat → Int32) (x3 : Int32) (v_1 : Int32) : Int32 :=
  if v_1 = 0 then (0 : Int32) else (if x3 < (st (22 : Int32).toNatClampNeg) then (0 : Int32) else (1 : Int32))
theorem jn_X7_isStill_64_s (st : Nat → Int32) (x3 : Int32) (v_1 : Int32) : (if v_1 = 0 then (0 : Int32) else (if x3 < (st (22 : Int32).toNatClampNeg) then (0 : Int32) else (1 : Int32))) = jn_X7_isStill_64 st x3 v_1 := rfl
def sp_X7_isStill (mg : Nat → Int32) (st : Nat → Int32) (x1 : Int32) (x2 : Int32) (x3 : Int32) (x4 : Int32) : Int32 :=
  if x4 = 0 then (nm (sp_X7_isCloth mg x1 (x2 - (1 : Int32)) x3) (fun r_9 => if r_9 = 0 then (nm (sp_X7_isCloth mg x1 (x2 - (2 : Int32)) x3) (fun r_11 => if r_11 = 0 then (jn_X7_isStill_64 st x3 (0 : Int32)) else (jn_X7_isStill_64 st x3 (1 : Int32)))) else (jn_X7_isStill_64 st x3 (1 : Int32)))) else (nm (sp_X7_isCloth mg x1 x2 x3) (fun r_5 => if r_5 = 0 then (nm (sp_X7_isCloth mg x1 (x2 + (1 : Int32)) x3) (fun r_7 => if r_7 = 0 then (jn_X7_isStill_64 st x3 (0 : Int32)) else (jn_X7_isStill_64 st x3 (1 : Int32)))) else (jn_X7_isStill_64 st x3 (1 : Int32))))
theorem sp_X7_isStill_s (mg : Nat → Int32) (st : Nat → Int32) (x1 : Int32) (x2 : Int32) (x3 : Int32) (x4 : Int32) : (if x4 = 0 then (nm (sp_X7_isCloth mg x1 (x2 - (1 : Int32)) x3) (fun r_9 => if r_9 = 0 then (nm (sp_X7_isCloth mg x1 (x2 - (2 : Int32)) x3) (fun r_11 => if r_11 = 0 then (jn_X7_isStill_64 st x3 (0 : Int32)) else (jn_X7_isStill_64 st x3 (1 : Int32)))) else (jn_X7_isStill_64 st x3 (1 : Int32)))) else (nm (sp_X7_isCloth mg x1 x2 x3) (fun r_5 => if r_5 = 0 then (nm (sp_X7_isCloth mg x1 (x2 + (1 : Int32)) x3) (fun r_7 => if r_7 = 0 then (jn_X7_isStill_64 st x3 (0 : Int32)) else (jn_X7_isStill_64 st x3 (1 : Int32)))) else (jn_X7_isStill_64 st x3 (1 : Int32))))) = sp_X7_isStill mg st x1 x2 x3 x4 := rfl
set_option maxHeartbeats 4000000 in
set_option maxRecDepth 100000 in
theorem c_X7_isStill {l : Launch} {D : va_G} {cI cZ cO : ClassId} {mk : Nat → Nat} {mg st im ke se tx sh fa : Nat → Int32} {mt : Int64} {x1 : Int32} {x2 : Int32} {x3 : Int32} {x4 : Int32}  (sz : Nat) : Met l yX7_isStill (wm yX7_isStill cX7_isStill 6 (some .boolean)) ({ frames := 3, cells := 0, slots := 0, locals := 67 } : Room) (GPre D (ty3 cI cZ cO) (MW cI cZ mk mg st im ke se tx sh fa mt) [.ref (mk 0), .int x1, .int x2, .int x3, .int x4] sz) (vp_Si (fun r => r = sp_X7_isStill mg st x1 x2 x3 x4 ∧ (r = 0 ∨ r = 1))) 0 0 (fun _ => False) := by
  refine metP_z (post := (fun r => r = sp_X7_isStill mg st x1 x2 x3 x4)) (by decide) (Nat.le_of_ble_eq_true rfl) ?_
  intro p e s m args below meth c ls Q C hsz hP hK hD hN hl hret
  have hx := C.1
  have hb := C.2.1
  have hl : lv_has ls 6 [(0, .ref (mk 0)), (1, .int x1), (2, .int x2), (3, .int x3), (4, .int x4)] := hl
  have hT := sp_X7_isStill_s mg st x1 x2 x3 x4
  refine lv_iload hx hb dX7_isStill_0 (lv_at hl 4 rfl) ?_
  have K_64 : ∀ (ls : Array Slot) (v_1 : Int32) (bo_v_1 : v_1 = 0 ∨ v_1 = 1) (hl : lv_has ls 6 [(0, .ref (mk 0)), (3, .int x3)]) (hT0 : jn_X7_isStill_64 st x3 v_1 = sp_X7_isStill mg st x1 x2 x3 x4), W p l e ({ frames := 3, cells := 0, slots := 0, locals := 67 } : Room) s m args below meth c s.heap [] 0 0 Q (F0 m 64 ls [.int v_1]) := by
    intro ls v_1 bo_v_1 hl hT0
    have hT := (jn_X7_isStill_64_s st x3 v_1).trans hT0
    refine lv_istore (lv' := [(5, .int v_1), (0, .ref (mk 0)), (3, .int x3)]) hx hb dX7_isStill_64 hl (by decide) rfl (fun ls hl => ?_)
    refine lv_iload hx hb dX7_isStill_66 (lv_at hl 0 rfl) ?_
    refine lv_if_eq (tgt := 86) hx hb dX7_isStill_68 (by decide) (fun c_2 => ?_) (fun c_2 => ?_)
    · have hT := it_t c_2 hT
      refine lv_iconst (v := 0) hx hb dX7_isStill_86 (by decide) ?_
      exact hret _ _ _ ⟨hT, (Or.inl rfl)⟩ dX7_isStill_87
    · have hT := it_f c_2 hT
      refine lv_iload_n hx hb dX7_isStill_71 rfl (lv_at hl 2 rfl) ?_
      refine lv_aload_n hx hb dX7_isStill_72 rfl (lv_at hl 1 rfl) ?_
      refine gX7_st C hK hP wd_3_77 dX7_isStill_73 ?_
      refine lv_bipush (v := 22) hx hb dX7_isStill_76 (by decide) ?_
      refine aM_st C hK hP (ix_of (by decide) (by decide)) dX7_isStill_78 ?_
      refine lv_icmp_lt (tgt := 86) hx hb dX7_isStill_79 (by decide) (fun c_3 => ?_) (fun c_3 => ?_)
      · have hT := it_t c_3 hT
        refine lv_iconst (v := 0) hx hb dX7_isStill_86 (by decide) ?_
        exact hret _ _ _ ⟨hT, (Or.inl rfl)⟩ dX7_isStill_87
      · have hT := it_f c_3 hT
        refine lv_iconst (v := 1) hx hb dX7_isStill_82 (by decide) ?_
        refine lv_goto (tgt := 87) hx hb dX7_isStill_83 (by decide) ?_
        exact hret _ _ _ ⟨hT, (Or.inr rfl)⟩ dX7_isStill_87
  refine lv_if_ne (tgt := 37) hx hb dX7_isStill_2 (by decide) (fun c_4 => ?_) (fun c_4 => ?_)
  · have hT := it_f c_4 hT
    refine lv_aload_n hx hb dX7_isStill_37 rfl (lv_at hl 0 rfl) ?_
    refine lv_iload_n hx hb dX7_isStill_38 rfl (lv_at hl 1 rfl) ?_
    refine lv_iload_n hx hb dX7_isStill_39 rfl (lv_at hl 2 rfl) ?_
    refine lv_iload_n hx hb dX7_isStill_40 rfl (lv_at hl 3 rfl) ?_
    refine vp_callSi (run_vP (As := [.int x1, .int x2, .int x3]) (rest := []) C hK hP hD hN (c_X7_isCloth _) (rX7_r hK hP) ⟨wd_3_207, wd_3_209, ws_30, wd_1_8, wd_3_210⟩ ⟨rfl, rfl⟩ hv_X7_isCloth ⟨Nat.le_of_ble_eq_true rfl, Nat.le_of_ble_eq_true rfl⟩ rfl hl.1 rfl (Nat.le_of_ble_eq_true rfl) dX7_isStill_41 ⟨Nat.zero_le _, Nat.zero_le _⟩) (fun r_5 hr_5 => ?_)
    have hT := nm_u hr_5.1 hT
    refine lv_if_ne (tgt := 59) hx hb dX7_isStill_44 (by decide) (fun c_6 => ?_) (fun c_6 => ?_)
    · have hT := it_f c_6 hT
      refine lv_iconst (v := 1) hx hb dX7_isStill_59 (by decide) ?_
      refine lv_goto (tgt := 64) hx hb dX7_isStill_60 (by decide) ?_
      exact K_64 ls (1 : Int32) (Or.inr rfl) (lv_sub hl [0, 3] rfl) hT
    · have hT := it_t c_6 hT
      refine lv_aload_n hx hb dX7_isStill_47 rfl (lv_at hl 0 rfl) ?_
      refine lv_iload_n hx hb dX7_isStill_48 rfl (lv_at hl 1 rfl) ?_
      refine lv_iload_n hx hb dX7_isStill_49 rfl (lv_at hl 2 rfl) ?_
      refine lv_iconst (v := 1) hx hb dX7_isStill_50 (by decide) ?_
      refine lv_iadd hx hb dX7_isStill_51 ?_
      refine lv_iload_n hx hb dX7_isStill_52 rfl (lv_at hl 3 rfl) ?_
      refine vp_callSi (run_vP (As := [.int x1, .int (x2 + (1 : Int32)), .int x3]) (rest := []) C hK hP hD hN (c_X7_isCloth _) (rX7_r hK hP) ⟨wd_3_207, wd_3_209, ws_30, wd_1_8, wd_3_210⟩ ⟨rfl, rfl⟩ hv_X7_isCloth ⟨Nat.le_of_ble_eq_true rfl, Nat.le_of_ble_eq_true rfl⟩ rfl hl.1 rfl (Nat.le_of_ble_eq_true rfl) dX7_isStill_53 ⟨Nat.zero_le _, Nat.zero_le _⟩) (fun r_7 hr_7 => ?_)
      have hT := nm_u hr_7.1 hT
      refine lv_if_eq (tgt := 63) hx hb dX7_isStill_56 (by decide) (fun c_8 => ?_) (fun c_8 => ?_)
      · have hT := it_t c_8 hT
        refine lv_iconst (v := 0) hx hb dX7_isStill_63 (by decide) ?_
        exact K_64 ls (0 : Int32) (Or.inl rfl) (lv_sub hl [0, 3] rfl) hT
      · have hT := it_f c_8 hT
        refine lv_iconst (v := 1) hx hb dX7_isStill_59 (by decide) ?_
        refine lv_goto (tgt := 64) hx hb dX7_isStill_60 (by decide) ?_
        exact K_64 ls (1 : Int32) (Or.inr rfl) (lv_sub hl [0, 3] rfl) hT
  · have hT := it_t c_4 hT
    refine lv_aload_n hx hb dX7_isStill_5 rfl (lv_at hl 0 rfl) ?_
    refine lv_iload_n hx hb dX7_isStill_6 rfl (lv_at hl 1 rfl) ?_
    refine lv_iload_n hx hb dX7_isStill_7 rfl (lv_at hl 2 rfl) ?_
    refine lv_iconst (v := 1) hx hb dX7_isStill_8 (by decide) ?_
    refine lv_isub hx hb dX7_isStill_9 ?_
    refine lv_iload_n hx hb dX7_isStill_10 rfl (lv_at hl 3 rfl) ?_
    refine vp_callSi (run_vP (As := [.int x1, .int (x2 - (1 : Int32)), .int x3]) (rest := []) C hK hP hD hN (c_X7_isCloth _) (rX7_r hK hP) ⟨wd_3_207, wd_3_209, ws_30, wd_1_8, wd_3_210⟩ ⟨rfl, rfl⟩ hv_X7_isCloth ⟨Nat.le_of_ble_eq_true rfl, Nat.le_of_ble_eq_true rfl⟩ rfl hl.1 rfl (Nat.le_of_ble_eq_true rfl) dX7_isStill_11 ⟨Nat.zero_le _, Nat.zero_le _⟩) (fun r_9 hr_9 => ?_)
    have hT := nm_u hr_9.1 hT
    refine lv_if_ne (tgt := 29) hx hb dX7_isStill_14 (by decide) (fun c_10 => ?_) (fun c_10 => ?_)
    · have hT := it_f c_10 hT
      refine lv_iconst (v := 1) hx hb dX7_isStill_29 (by decide) ?_
      refine lv_goto (tgt := 64) hx hb dX7_isStill_30 (by decide) ?_
      exact K_64 ls (1 : Int32) (Or.inr rfl) (lv_sub hl [0, 3] rfl) hT
    · have hT := it_t c_10 hT
      refine lv_aload_n hx hb dX7_isStill_17 rfl (lv_at hl 0 rfl) ?_
      refine lv_iload_n hx hb dX7_isStill_18 rfl (lv_at hl 1 rfl) ?_
      refine lv_iload_n hx hb dX7_isStill_19 rfl (lv_at hl 2 rfl) ?_
      refine lv_iconst (v := 2) hx hb dX7_isStill_20 (by decide) ?_
      refine lv_isub hx hb dX7_isStill_21 ?_
      refine lv_iload_n hx hb dX7_isStill_22 rfl (lv_at hl 3 rfl) ?_
      refine vp_callSi (run_vP (As := [.int x1, .int (x2 - (2 : Int32)), .int x3]) (rest := []) C hK hP hD hN (c_X7_isCloth _) (rX7_r hK hP) ⟨wd_3_207, wd_3_209, ws_30, wd_1_8, wd_3_210⟩ ⟨rfl, rfl⟩ hv_X7_isCloth ⟨Nat.le_of_ble_eq_true rfl, Nat.le_of_ble_eq_true rfl⟩ rfl hl.1 rfl (Nat.le_of_ble_eq_true rfl) dX7_isStill_23 ⟨Nat.zero_le _, Nat.zero_le _⟩) (fun r_11 hr_11 => ?_)
      have hT := nm_u hr_11.1 hT
      refine lv_if_eq (tgt := 33) hx hb dX7_isStill_26 (by decide) (fun c_12 => ?_) (fun c_12 => ?_)
      · have hT := it_t c_12 hT
        refine lv_iconst (v := 0) hx hb dX7_isStill_33 (by decide) ?_
        refine lv_goto (tgt := 64) hx hb dX7_isStill_34 (by decide) ?_
        exact K_64 ls (0 : Int32) (Or.inl rfl) (lv_sub hl [0, 3] rfl) hT
      · have hT := it_f c_12 hT
        refine lv_iconst (v := 1) hx hb dX7_isStill_29 (by decide) ?_
        refine lv_goto (tgt := 64) hx hb dX7_isStill_30 (by decide) ?_
        exact K_64 ls (1 : Int32) (Or.inr rfl) (lv_sub hl [0, 3] rfl) hT
theorem hv_X7_stillOnes : yX7_stillOnes.cls = RX7 ∧ yX7_stillOnes.cls ≠ "java/lang/invoke/MethodHandle" ∧ yX7_stillOnes.cls ≠ "java/lang/invoke/VarHandle" ∧ (parseMethodDescriptor yX7_stillOnes.desc).map (fun d => d.parameters.length) = some 2 := by decide +kernel
theorem hd_X7_stillOnes : yX7_stillOnes.cls ≠ "java/lang/invoke/MethodHandle" ∧ yX7_stillOnes.cls ≠ "java/lang/invoke/VarHandle" ∧ (parseMethodDescriptor yX7_stillOnes.desc).map (fun d => d.parameters.length) = some 2 := hv_X7_stillOnes.2
def lp_X7_stillOnes_17 (mg : Nat → Int32) (st : Nat → Int32) (x1 : Int32) (x2 : Int32) (y_2 : Int32) : Nat → Int32 → Int32 → Int32
  | 0, y_5, y_6 => y_5
  | n + 1, y_5, y_6 => if (mg 0) ≤ y_6 then y_5 else (nm (sp_X7_isStill mg st x1 y_6 y_2 x2) (fun r_9 => if r_9 = 0 then (lp_X7_stillOnes_17 mg st x1 x2 y_2 n (y_5 ||| (0 : Int32)) (y_6 + 1)) else (nm (y_5 ||| ((1 : Int32) <<< ((((5 : Int32) * y_2) + y_6) &&& 31))) (fun y_11 => lp_X7_stillOnes_17 mg st x1 x2 y_2 n y_11 (y_6 + 1)))))
theorem lp_X7_stillOnes_17_s (mg : Nat → Int32) (st : Nat → Int32) (x1 : Int32) (x2 : Int32) (y_2 : Int32) (n : Nat) (y_5 : Int32) (y_6 : Int32) : (if (mg 0) ≤ y_6 then y_5 else (nm (sp_X7_isStill mg st x1 y_6 y_2 x2) (fun r_9 => if r_9 = 0 then (lp_X7_stillOnes_17 mg st x1 x2 y_2 n (y_5 ||| (0 : Int32)) (y_6 + 1)) else (nm (y_5 ||| ((1 : Int32) <<< ((((5 : Int32) * y_2) + y_6) &&& 31))) (fun y_11 => lp_X7_stillOnes_17 mg st x1 x2 y_2 n y_11 (y_6 + 1)))))) = lp_X7_stillOnes_17 mg st x1 x2 y_2 (n + 1) y_5 y_6 := rfl
def lp_X7_stillOnes_5 (mg : Nat → Int32) (st : Nat → Int32) (x1 : Int32) (x2 : Int32) : Nat → Int32 → Int32 → Int32
  | 0, y_1, y_2 => y_1
  | n + 1, y_1, y_2 => if (mg 1) ≤ y_2 then y_1 else (nm (lp_X7_stillOnes_17 mg st x1 x2 y_2 (((mg 0).toInt - (0 : Int32).toInt).toNat + 1) y_1 (0 : Int32)) (fun e_7 => lp_X7_stillOnes_5 mg st x1 x2 n e_7 (y_2 + 1)))
theorem lp_X7_stillOnes_5_s (mg : Nat → Int32) (st : Nat → Int32) (x1 : Int32) (x2 : Int32) (n : Nat) (y_1 : Int32) (y_2 : Int32) : (if (mg 1) ≤ y_2 then y_1 else (nm (lp_X7_stillOnes_17 mg st x1 x2 y_2 (((mg 0).toInt - (0 : Int32).toInt).toNat + 1) y_1 (0 : Int32)) (fun e_7 => lp_X7_stillOnes_5 mg st x1 x2 n e_7 (y_2 + 1)))) = lp_X7_stillOnes_5 mg st x1 x2 (n + 1) y_1 y_2 := rfl
def sp_X7_stillOnes (mg : Nat → Int32) (st : Nat → Int32) (x1 : Int32) (x2 : Int32) : Int32 :=
  nm (lp_X7_stillOnes_5 mg st x1 x2 (((mg 1).toInt - (0 : Int32).toInt).toNat + 1) (0 : Int32) (0 : Int32)) (fun e_3 => e_3)
theorem sp_X7_stillOnes_s (mg : Nat → Int32) (st : Nat → Int32) (x1 : Int32) (x2 : Int32) : (nm (lp_X7_stillOnes_5 mg st x1 x2 (((mg 1).toInt - (0 : Int32).toInt).toNat + 1) (0 : Int32) (0 : Int32)) (fun e_3 => e_3)) = sp_X7_stillOnes mg st x1 x2 := rfl
set_option maxHeartbeats 4000000 in
set_option maxRecDepth 100000 in
theorem c_X7_stillOnes {l : Launch} {D : va_G} {cI cZ cO : ClassId} {mk : Nat → Nat} {mg st im ke se tx sh fa : Nat → Int32} {mt : Int64} {x1 : Int32} {x2 : Int32}  (sz : Nat) : Met l yX7_stillOnes (wm yX7_stillOnes cX7_stillOnes 6 (some .int)) ({ frames := 4, cells := 0, slots := 0, locals := 92 } : Room) (GPre D (ty3 cI cZ cO) (MW cI cZ mk mg st im ke se tx sh fa mt) [.ref (mk 0), .int x1, .int x2] sz) (vp_Si (fun r => r = sp_X7_stillOnes mg st x1 x2)) 0 0 (fun _ => False) := by
  refine metP_i (post := (fun r => r = sp_X7_stillOnes mg st x1 x2)) (by decide) (Nat.le_of_ble_eq_true rfl) ?_
  intro p e s m args below meth c ls Q C hsz hP hK hD hN hl hret
  have hx := C.1
  have hb := C.2.1
  have hl : lv_has ls 6 [(0, .ref (mk 0)), (1, .int x1), (2, .int x2)] := hl
  have hT := sp_X7_stillOnes_s mg st x1 x2
  refine lv_iconst (v := 0) hx hb dX7_stillOnes_0 (by decide) ?_
  refine lv_istore_n (lv' := [(3, .int (0 : Int32)), (0, .ref (mk 0)), (1, .int x1), (2, .int x2)]) hx hb dX7_stillOnes_1 rfl hl (by decide) rfl (fun ls hl => ?_)
  refine lv_iconst (v := 0) hx hb dX7_stillOnes_2 (by decide) ?_
  refine lv_istore (lv' := [(4, .int (0 : Int32)), (3, .int (0 : Int32)), (0, .ref (mk 0)), (1, .int x1), (2, .int x2)]) hx hb dX7_stillOnes_3 hl (by decide) rfl (fun ls hl => ?_)
  have L_5 : ∀ (n : Nat) (ls : Array Slot) (y_1 : Int32) (y_2 : Int32) (hm : ((mg 1).toInt - y_2.toInt).toNat < n) (hl : lv_has ls 6 [(0, .ref (mk 0)), (1, .int x1), (2, .int x2), (3, .int y_1), (4, .int y_2)]) (kont : ∀ (ls : Array Slot) (e_3 : Int32), lv_has ls 6 [(3, .int e_3)] → e_3 = lp_X7_stillOnes_5 mg st x1 x2 n y_1 y_2 → W p l e ({ frames := 4, cells := 0, slots := 0, locals := 92 } : Room) s m args below meth c s.heap [] 0 0 Q (F0 m 67 ls [])), W p l e ({ frames := 4, cells := 0, slots := 0, locals := 92 } : Room) s m args below meth c s.heap [] 0 0 Q (F0 m 5 ls []) := by
    intro n
    induction n with
    | zero => intro ls y_1 y_2 hm; exact absurd hm (Nat.not_lt_zero _)
    | succ n ih =>
      intro ls y_1 y_2 hm hl kont
      have hT := lp_X7_stillOnes_5_s mg st x1 x2 n y_1 y_2
      refine lv_iload hx hb dX7_stillOnes_5 (lv_at hl 4 rfl) ?_
      refine lv_aload_n hx hb dX7_stillOnes_7 rfl (lv_at hl 0 rfl) ?_
      refine gX7_rows C hK hP wd_3_76 dX7_stillOnes_8 ?_
      refine lv_icmp_ge (tgt := 67) hx hb dX7_stillOnes_11 (by decide) (fun c_4 => ?_) (fun c_4 => ?_)
      · have hT := it_t c_4 hT
        exact kont ls y_1 (lv_sub hl [3] rfl) hT
      · have hT := it_f c_4 hT
        refine lv_iconst (v := 0) hx hb dX7_stillOnes_14 (by decide) ?_
        refine lv_istore (lv' := [(5, .int (0 : Int32)), (0, .ref (mk 0)), (1, .int x1), (2, .int x2), (3, .int y_1), (4, .int y_2)]) hx hb dX7_stillOnes_15 hl (by decide) rfl (fun ls hl => ?_)
        have L_17 : ∀ (n : Nat) (ls : Array Slot) (y_5 : Int32) (y_6 : Int32) (hm : ((mg 0).toInt - y_6.toInt).toNat < n) (hl : lv_has ls 6 [(0, .ref (mk 0)), (1, .int x1), (2, .int x2), (3, .int y_5), (4, .int y_2), (5, .int y_6)]) (kont : ∀ (ls : Array Slot) (e_7 : Int32), lv_has ls 6 [(0, .ref (mk 0)), (1, .int x1), (2, .int x2), (3, .int e_7), (4, .int y_2)] → e_7 = lp_X7_stillOnes_17 mg st x1 x2 y_2 n y_5 y_6 → W p l e ({ frames := 4, cells := 0, slots := 0, locals := 92 } : Room) s m args below meth c s.heap [] 0 0 Q (F0 m 61 ls [])), W p l e ({ frames := 4, cells := 0, slots := 0, locals := 92 } : Room) s m args below meth c s.heap [] 0 0 Q (F0 m 17 ls []) := by
          intro n
          induction n with
          | zero => intro ls y_5 y_6 hm; exact absurd hm (Nat.not_lt_zero _)
          | succ n ih =>
            intro ls y_5 y_6 hm hl kont
            have hT := lp_X7_stillOnes_17_s mg st x1 x2 y_2 n y_5 y_6
            refine lv_iload hx hb dX7_stillOnes_17 (lv_at hl 5 rfl) ?_
            refine lv_aload_n hx hb dX7_stillOnes_19 rfl (lv_at hl 0 rfl) ?_
            refine gX7_wide C hK hP wd_3_75 dX7_stillOnes_20 ?_
            refine lv_icmp_ge (tgt := 61) hx hb dX7_stillOnes_23 (by decide) (fun c_8 => ?_) (fun c_8 => ?_)
            · have hT := it_t c_8 hT
              exact kont ls y_5 (lv_sub hl [0, 1, 2, 3, 4] rfl) hT
            · have hT := it_f c_8 hT
              refine lv_iload_n hx hb dX7_stillOnes_26 rfl (lv_at hl 3 rfl) ?_
              refine lv_aload_n hx hb dX7_stillOnes_27 rfl (lv_at hl 0 rfl) ?_
              refine lv_iload_n hx hb dX7_stillOnes_28 rfl (lv_at hl 1 rfl) ?_
              refine lv_iload hx hb dX7_stillOnes_29 (lv_at hl 5 rfl) ?_
              refine lv_iload hx hb dX7_stillOnes_31 (lv_at hl 4 rfl) ?_
              refine lv_iload_n hx hb dX7_stillOnes_33 rfl (lv_at hl 2 rfl) ?_
              refine vp_callSi (run_vP (As := [.int x1, .int y_6, .int y_2, .int x2]) (rest := [.int y_5]) C hK hP hD hN (c_X7_isStill _) (rX7_r hK hP) ⟨wd_3_203, wd_3_205, ws_29, wd_1_8, wd_3_206⟩ ⟨rfl, rfl⟩ hv_X7_isStill ⟨Nat.le_of_ble_eq_true rfl, Nat.le_of_ble_eq_true rfl⟩ rfl hl.1 rfl (Nat.le_of_ble_eq_true rfl) dX7_stillOnes_34 ⟨Nat.zero_le _, Nat.zero_le _⟩) (fun r_9 hr_9 => ?_)
              have hT := nm_u hr_9.1 hT
              refine lv_if_eq (tgt := 52) hx hb dX7_stillOnes_37 (by decide) (fun c_10 => ?_) (fun c_10 => ?_)
              · have hT := it_t c_10 hT
                refine lv_iconst (v := 0) hx hb dX7_stillOnes_52 (by decide) ?_
                refine lv_ior hx hb dX7_stillOnes_53 ?_
                refine lv_istore_n (lv' := [(3, .int (y_5 ||| (0 : Int32))), (0, .ref (mk 0)), (1, .int x1), (2, .int x2), (4, .int y_2), (5, .int y_6)]) hx hb dX7_stillOnes_54 rfl hl (by decide) rfl (fun ls hl => ?_)
                refine lv_iinc (v := y_6 + 1) (lv' := [(5, .int (y_6 + 1)), (3, .int (y_5 ||| (0 : Int32))), (0, .ref (mk 0)), (1, .int x1), (2, .int x2), (4, .int y_2)]) hx hb dX7_stillOnes_55 hl (k := 5) rfl rfl (by decide) rfl (fun ls hl => ?_)
                refine lv_goto (tgt := 17) hx hb dX7_stillOnes_58 (by decide) ?_
                exact ih ls (y_5 ||| (0 : Int32)) (y_6 + 1) (ms_up c_8 hm) (lv_sub hl [2, 3, 4, 1, 5, 0] rfl) (fun ls z0 hl he => kont ls z0 hl (he.trans hT))
              · have hT := it_f c_10 hT
                refine lv_iconst (v := 1) hx hb dX7_stillOnes_40 (by decide) ?_
                refine lv_iconst (v := 5) hx hb dX7_stillOnes_41 (by decide) ?_
                refine lv_iload hx hb dX7_stillOnes_42 (lv_at hl 4 rfl) ?_
                refine lv_imul hx hb dX7_stillOnes_44 ?_
                refine lv_iload hx hb dX7_stillOnes_45 (lv_at hl 5 rfl) ?_
                refine lv_iadd hx hb dX7_stillOnes_47 ?_
                refine lv_ishl hx hb dX7_stillOnes_48 ?_
                refine lv_goto (tgt := 53) hx hb dX7_stillOnes_49 (by decide) ?_
                refine lv_ior hx hb dX7_stillOnes_53 ?_
                refine lv_topi (fun y_11 ey_11 => ?_)
                have hT := nm_u ey_11 hT
                refine lv_istore_n (lv' := [(3, .int y_11), (0, .ref (mk 0)), (1, .int x1), (2, .int x2), (4, .int y_2), (5, .int y_6)]) hx hb dX7_stillOnes_54 rfl hl (by decide) rfl (fun ls hl => ?_)
                refine lv_iinc (v := y_6 + 1) (lv' := [(5, .int (y_6 + 1)), (3, .int y_11), (0, .ref (mk 0)), (1, .int x1), (2, .int x2), (4, .int y_2)]) hx hb dX7_stillOnes_55 hl (k := 5) rfl rfl (by decide) rfl (fun ls hl => ?_)
                refine lv_goto (tgt := 17) hx hb dX7_stillOnes_58 (by decide) ?_
                exact ih ls y_11 (y_6 + 1) (ms_up c_8 hm) (lv_sub hl [2, 3, 4, 1, 5, 0] rfl) (fun ls z0 hl he => kont ls z0 hl (he.trans hT))
        refine L_17 (((mg 0).toInt - (0 : Int32).toInt).toNat + 1) ls y_1 (0 : Int32) (Nat.lt_succ_self _) (lv_sub hl [1, 2, 3, 4, 5, 0] rfl) (fun ls e_7 hl he => ?_)
        have hT := nm_u he hT
        refine lv_iinc (v := y_2 + 1) (lv' := [(4, .int (y_2 + 1)), (0, .ref (mk 0)), (1, .int x1), (2, .int x2), (3, .int e_7)]) hx hb dX7_stillOnes_61 hl (k := 4) rfl rfl (by decide) rfl (fun ls hl => ?_)
        refine lv_goto (tgt := 5) hx hb dX7_stillOnes_64 (by decide) ?_
        exact ih ls e_7 (y_2 + 1) (ms_up c_4 hm) (lv_sub hl [1, 2, 3, 4, 0] rfl) (fun ls z0 hl he => kont ls z0 hl (he.trans hT))
  refine L_5 (((mg 1).toInt - (0 : Int32).toInt).toNat + 1) ls (0 : Int32) (0 : Int32) (Nat.lt_succ_self _) (lv_sub hl [2, 3, 4, 1, 0] rfl) (fun ls e_3 hl he => ?_)
  have hT := nm_u he hT
  refine lv_iload_n hx hb dX7_stillOnes_67 rfl (lv_at hl 0 rfl) ?_
  exact hret _ _ _ hT dX7_stillOnes_68
theorem hv_X7_heldBy : yX7_heldBy.cls = RX7 ∧ yX7_heldBy.cls ≠ "java/lang/invoke/MethodHandle" ∧ yX7_heldBy.cls ≠ "java/lang/invoke/VarHandle" ∧ (parseMethodDescriptor yX7_heldBy.desc).map (fun d => d.parameters.length) = some 1 := by decide +kernel
theorem hd_X7_heldBy : yX7_heldBy.cls ≠ "java/lang/invoke/MethodHandle" ∧ yX7_heldBy.cls ≠ "java/lang/invoke/VarHandle" ∧ (parseMethodDescriptor yX7_heldBy.desc).map (fun d => d.parameters.length) = some 1 := hv_X7_heldBy.2
def lp_X7_heldBy_4 (st : Nat → Int32) (x1 : Int32) : Nat → Int32 → Int32 → Int32
  | 0, y_1, y_2 => y_1
  | n + 1, y_1, y_2 => if (20 : Int32) ≤ y_2 then y_1 else (if (st y_2.toNatClampNeg) = (x1 + (1 : Int32)) then (lp_X7_heldBy_4 st x1 n (y_1 ||| ((1 : Int32) <<< (y_2 &&& 31))) (y_2 + 1)) else (lp_X7_heldBy_4 st x1 n (y_1 ||| (0 : Int32)) (y_2 + 1)))
theorem lp_X7_heldBy_4_s (st : Nat → Int32) (x1 : Int32) (n : Nat) (y_1 : Int32) (y_2 : Int32) : (if (20 : Int32) ≤ y_2 then y_1 else (if (st y_2.toNatClampNeg) = (x1 + (1 : Int32)) then (lp_X7_heldBy_4 st x1 n (y_1 ||| ((1 : Int32) <<< (y_2 &&& 31))) (y_2 + 1)) else (lp_X7_heldBy_4 st x1 n (y_1 ||| (0 : Int32)) (y_2 + 1)))) = lp_X7_heldBy_4 st x1 (n + 1) y_1 y_2 := rfl
def sp_X7_heldBy (st : Nat → Int32) (x1 : Int32) : Int32 :=
  nm (lp_X7_heldBy_4 st x1 (((20 : Int32).toInt - (0 : Int32).toInt).toNat + 1) (0 : Int32) (0 : Int32)) (fun e_3 => e_3)
theorem sp_X7_heldBy_s (st : Nat → Int32) (x1 : Int32) : (nm (lp_X7_heldBy_4 st x1 (((20 : Int32).toInt - (0 : Int32).toInt).toNat + 1) (0 : Int32) (0 : Int32)) (fun e_3 => e_3)) = sp_X7_heldBy st x1 := rfl
set_option maxHeartbeats 4000000 in
set_option maxRecDepth 100000 in
theorem c_X7_heldBy {l : Launch} {D : va_G} {cI cZ cO : ClassId} {mk : Nat → Nat} {mg st im ke se tx sh fa : Nat → Int32} {mt : Int64} {x1 : Int32}  (sz : Nat) : Met l yX7_heldBy (wm yX7_heldBy cX7_heldBy 4 (some .int)) ({ frames := 0, cells := 0, slots := 0, locals := 0 } : Room) (GPre D (ty3 cI cZ cO) (MW cI cZ mk mg st im ke se tx sh fa mt) [.ref (mk 0), .int x1] sz) (vp_Si (fun r => r = sp_X7_heldBy st x1)) 0 0 (fun _ => False) := by
  refine metP_i (post := (fun r => r = sp_X7_heldBy st x1)) (by decide) (Nat.le_of_ble_eq_true rfl) ?_
  intro p e s m args below meth c ls Q C hsz hP hK hD hN hl hret
  have hx := C.1
  have hb := C.2.1
  have hl : lv_has ls 4 [(0, .ref (mk 0)), (1, .int x1)] := hl
  have hT := sp_X7_heldBy_s st x1
  refine lv_iconst (v := 0) hx hb dX7_heldBy_0 (by decide) ?_
  refine lv_istore_n (lv' := [(2, .int (0 : Int32)), (0, .ref (mk 0)), (1, .int x1)]) hx hb dX7_heldBy_1 rfl hl (by decide) rfl (fun ls hl => ?_)
  refine lv_iconst (v := 0) hx hb dX7_heldBy_2 (by decide) ?_
  refine lv_istore_n (lv' := [(3, .int (0 : Int32)), (2, .int (0 : Int32)), (0, .ref (mk 0)), (1, .int x1)]) hx hb dX7_heldBy_3 rfl hl (by decide) rfl (fun ls hl => ?_)
  have L_4 : ∀ (n : Nat) (ls : Array Slot) (y_1 : Int32) (y_2 : Int32) (z3 : 0 ≤ y_2.toInt) (hm : ((20 : Int32).toInt - y_2.toInt).toNat < n) (hl : lv_has ls 4 [(0, .ref (mk 0)), (1, .int x1), (2, .int y_1), (3, .int y_2)]) (kont : ∀ (ls : Array Slot) (e_3 : Int32), lv_has ls 4 [(2, .int e_3)] → e_3 = lp_X7_heldBy_4 st x1 n y_1 y_2 → W p l e ({ frames := 0, cells := 0, slots := 0, locals := 0 } : Room) s m args below meth c s.heap [] 0 0 Q (F0 m 38 ls [])), W p l e ({ frames := 0, cells := 0, slots := 0, locals := 0 } : Room) s m args below meth c s.heap [] 0 0 Q (F0 m 4 ls []) := by
    intro n
    induction n with
    | zero => intro ls y_1 y_2 z3 hm; exact absurd hm (Nat.not_lt_zero _)
    | succ n ih =>
      intro ls y_1 y_2 z3 hm hl kont
      have hT := lp_X7_heldBy_4_s st x1 n y_1 y_2
      refine lv_iload_n hx hb dX7_heldBy_4 rfl (lv_at hl 3 rfl) ?_
      refine lv_bipush (v := 20) hx hb dX7_heldBy_5 (by decide) ?_
      refine lv_icmp_ge (tgt := 38) hx hb dX7_heldBy_7 (by decide) (fun c_4 => ?_) (fun c_4 => ?_)
      · have hT := it_t c_4 hT
        exact kont ls y_1 (lv_sub hl [2] rfl) hT
      · have hT := it_f c_4 hT
        refine lv_iload_n hx hb dX7_heldBy_10 rfl (lv_at hl 2 rfl) ?_
        refine lv_aload_n hx hb dX7_heldBy_11 rfl (lv_at hl 0 rfl) ?_
        refine gX7_st C hK hP wd_3_77 dX7_heldBy_12 ?_
        refine lv_iload_n hx hb dX7_heldBy_15 rfl (lv_at hl 3 rfl) ?_
        refine aM_st C hK hP (ix_inv_nle z3 c_4) dX7_heldBy_16 ?_
        refine lv_iload_n hx hb dX7_heldBy_17 rfl (lv_at hl 1 rfl) ?_
        refine lv_iconst (v := 1) hx hb dX7_heldBy_18 (by decide) ?_
        refine lv_iadd hx hb dX7_heldBy_19 ?_
        refine lv_icmp_ne (tgt := 29) hx hb dX7_heldBy_20 (by decide) (fun c_5 => ?_) (fun c_5 => ?_)
        · have hT := it_f c_5 hT
          refine lv_iconst (v := 0) hx hb dX7_heldBy_29 (by decide) ?_
          refine lv_ior hx hb dX7_heldBy_30 ?_
          refine lv_istore_n (lv' := [(2, .int (y_1 ||| (0 : Int32))), (0, .ref (mk 0)), (1, .int x1), (3, .int y_2)]) hx hb dX7_heldBy_31 rfl hl (by decide) rfl (fun ls hl => ?_)
          refine lv_iinc (v := y_2 + 1) (lv' := [(3, .int (y_2 + 1)), (2, .int (y_1 ||| (0 : Int32))), (0, .ref (mk 0)), (1, .int x1)]) hx hb dX7_heldBy_32 hl (k := 3) rfl rfl (by decide) rfl (fun ls hl => ?_)
          refine lv_goto (tgt := 4) hx hb dX7_heldBy_35 (by decide) ?_
          exact ih ls (y_1 ||| (0 : Int32)) (y_2 + 1) (up0 c_4 z3) (ms_up c_4 hm) (lv_sub hl [2, 3, 1, 0] rfl) (fun ls z0 hl he => kont ls z0 hl (he.trans hT))
        · have hT := it_t c_5 hT
          refine lv_iconst (v := 1) hx hb dX7_heldBy_23 (by decide) ?_
          refine lv_iload_n hx hb dX7_heldBy_24 rfl (lv_at hl 3 rfl) ?_
          refine lv_ishl hx hb dX7_heldBy_25 ?_
          refine lv_goto (tgt := 30) hx hb dX7_heldBy_26 (by decide) ?_
          refine lv_ior hx hb dX7_heldBy_30 ?_
          refine lv_istore_n (lv' := [(2, .int (y_1 ||| ((1 : Int32) <<< (y_2 &&& 31)))), (0, .ref (mk 0)), (1, .int x1), (3, .int y_2)]) hx hb dX7_heldBy_31 rfl hl (by decide) rfl (fun ls hl => ?_)
          refine lv_iinc (v := y_2 + 1) (lv' := [(3, .int (y_2 + 1)), (2, .int (y_1 ||| ((1 : Int32) <<< (y_2 &&& 31)))), (0, .ref (mk 0)), (1, .int x1)]) hx hb dX7_heldBy_32 hl (k := 3) rfl rfl (by decide) rfl (fun ls hl => ?_)
          refine lv_goto (tgt := 4) hx hb dX7_heldBy_35 (by decide) ?_
          exact ih ls (y_1 ||| ((1 : Int32) <<< (y_2 &&& 31))) (y_2 + 1) (up0 c_4 z3) (ms_up c_4 hm) (lv_sub hl [2, 3, 1, 0] rfl) (fun ls z0 hl he => kont ls z0 hl (he.trans hT))
  refine L_4 (((20 : Int32).toInt - (0 : Int32).toInt).toNat + 1) ls (0 : Int32) (0 : Int32) (by decide) (Nat.lt_succ_self _) (lv_sub hl [2, 3, 1, 0] rfl) (fun ls e_3 hl he => ?_)
  have hT := nm_u he hT
  refine lv_iload_n hx hb dX7_heldBy_38 rfl (lv_at hl 0 rfl) ?_
  exact hret _ _ _ hT dX7_heldBy_39
theorem hv_X7_losesOf : yX7_losesOf.cls = RX7 ∧ yX7_losesOf.cls ≠ "java/lang/invoke/MethodHandle" ∧ yX7_losesOf.cls ≠ "java/lang/invoke/VarHandle" ∧ (parseMethodDescriptor yX7_losesOf.desc).map (fun d => d.parameters.length) = some 1 := by decide +kernel
theorem hd_X7_losesOf : yX7_losesOf.cls ≠ "java/lang/invoke/MethodHandle" ∧ yX7_losesOf.cls ≠ "java/lang/invoke/VarHandle" ∧ (parseMethodDescriptor yX7_losesOf.desc).map (fun d => d.parameters.length) = some 1 := hv_X7_losesOf.2
def lp_X7_losesOf_8 (st : Nat → Int32) (r_1 : Int32) : Nat → Int32 → Int32
  | 0, y_2 => 0
  | n + 1, y_2 => if (20 : Int32) ≤ y_2 then (-9 : Int32) else (nm (sp_X7_has r_1 y_2) (fun r_4 => if r_4 = 0 then (lp_X7_losesOf_8 st r_1 n (y_2 + 1)) else (((y_2 / (5 : Int32)) - (st (22 : Int32).toNatClampNeg)) + (1 : Int32))))
theorem lp_X7_losesOf_8_s (st : Nat → Int32) (r_1 : Int32) (n : Nat) (y_2 : Int32) : (if (20 : Int32) ≤ y_2 then (-9 : Int32) else (nm (sp_X7_has r_1 y_2) (fun r_4 => if r_4 = 0 then (lp_X7_losesOf_8 st r_1 n (y_2 + 1)) else (((y_2 / (5 : Int32)) - (st (22 : Int32).toNatClampNeg)) + (1 : Int32))))) = lp_X7_losesOf_8 st r_1 (n + 1) y_2 := rfl
def sp_X7_losesOf (st : Nat → Int32) (x1 : Int32) : Int32 :=
  nm (sp_X7_heldBy st x1) (fun r_1 => lp_X7_losesOf_8 st r_1 (((20 : Int32).toInt - (0 : Int32).toInt).toNat + 1) (0 : Int32))
theorem sp_X7_losesOf_s (st : Nat → Int32) (x1 : Int32) : (nm (sp_X7_heldBy st x1) (fun r_1 => lp_X7_losesOf_8 st r_1 (((20 : Int32).toInt - (0 : Int32).toInt).toNat + 1) (0 : Int32))) = sp_X7_losesOf st x1 := rfl
set_option maxHeartbeats 4000000 in
set_option maxRecDepth 100000 in
theorem c_X7_losesOf {l : Launch} {D : va_G} {cI cZ cO : ClassId} {mk : Nat → Nat} {mg st im ke se tx sh fa : Nat → Int32} {mt : Int64} {x1 : Int32}  (sz : Nat) : Met l yX7_losesOf (wm yX7_losesOf cX7_losesOf 4 (some .int)) ({ frames := 1, cells := 0, slots := 0, locals := 23 } : Room) (GPre D (ty3 cI cZ cO) (MW cI cZ mk mg st im ke se tx sh fa mt) [.ref (mk 0), .int x1] sz) (vp_Si (fun r => r = sp_X7_losesOf st x1)) 0 0 (fun _ => False) := by
  refine metP_i (post := (fun r => r = sp_X7_losesOf st x1)) (by decide) (Nat.le_of_ble_eq_true rfl) ?_
  intro p e s m args below meth c ls Q C hsz hP hK hD hN hl hret
  have hx := C.1
  have hb := C.2.1
  have hl : lv_has ls 4 [(0, .ref (mk 0)), (1, .int x1)] := hl
  have hT := sp_X7_losesOf_s st x1
  refine lv_aload_n hx hb dX7_losesOf_0 rfl (lv_at hl 0 rfl) ?_
  refine lv_iload_n hx hb dX7_losesOf_1 rfl (lv_at hl 1 rfl) ?_
  refine vp_callSi (run_vP (As := [.int x1]) (rest := []) C hK hP hD hN (c_X7_heldBy _) (rX7_r hK hP) ⟨wd_3_218, wd_3_220, ws_31, wd_1_8, wd_3_221⟩ ⟨rfl, rfl⟩ hv_X7_heldBy ⟨Nat.le_of_ble_eq_true rfl, Nat.le_of_ble_eq_true rfl⟩ rfl hl.1 rfl (Nat.le_of_ble_eq_true rfl) dX7_losesOf_2 ⟨Nat.zero_le _, Nat.zero_le _⟩) (fun r_1 hr_1 => ?_)
  have hT := nm_u hr_1 hT
  refine lv_istore_n (lv' := [(2, .int r_1), (0, .ref (mk 0)), (1, .int x1)]) hx hb dX7_losesOf_5 rfl hl (by decide) rfl (fun ls hl => ?_)
  refine lv_iconst (v := 0) hx hb dX7_losesOf_6 (by decide) ?_
  refine lv_istore_n (lv' := [(3, .int (0 : Int32)), (2, .int r_1), (0, .ref (mk 0)), (1, .int x1)]) hx hb dX7_losesOf_7 rfl hl (by decide) rfl (fun ls hl => ?_)
  have L_8 : ∀ (n : Nat) (ls : Array Slot) (y_2 : Int32) (hm : ((20 : Int32).toInt - y_2.toInt).toNat < n) (hl : lv_has ls 4 [(0, .ref (mk 0)), (2, .int r_1), (3, .int y_2)]) (hT0 : lp_X7_losesOf_8 st r_1 n y_2 = sp_X7_losesOf st x1), W p l e ({ frames := 1, cells := 0, slots := 0, locals := 23 } : Room) s m args below meth c s.heap [] 0 0 Q (F0 m 8 ls []) := by
    intro n
    induction n with
    | zero => intro ls y_2 hm; exact absurd hm (Nat.not_lt_zero _)
    | succ n ih =>
      intro ls y_2 hm hl hT0
      have hT := (lp_X7_losesOf_8_s st r_1 n y_2).trans hT0
      refine lv_iload_n hx hb dX7_losesOf_8 rfl (lv_at hl 2 rfl) ?_
      refine lv_bipush (v := 20) hx hb dX7_losesOf_9 (by decide) ?_
      refine lv_icmp_ge (tgt := 42) hx hb dX7_losesOf_11 (by decide) (fun c_3 => ?_) (fun c_3 => ?_)
      · have hT := it_t c_3 hT
        refine lv_bipush (v := -9) hx hb dX7_losesOf_42 (by decide) ?_
        exact hret _ _ _ hT dX7_losesOf_44
      · have hT := it_f c_3 hT
        refine lv_iload_n hx hb dX7_losesOf_14 rfl (lv_at hl 1 rfl) ?_
        refine lv_iload_n hx hb dX7_losesOf_15 rfl (lv_at hl 2 rfl) ?_
        refine vp_callSi (run_sP (As := [.int r_1, .int y_2]) (rest := []) C hN (c_X7_has) ⟨wd_3_184, wd_3_185, wd_1_8, wd_3_186⟩ ⟨rfl, rfl⟩ hd_X7_has ⟨Nat.le_of_ble_eq_true rfl, Nat.le_of_ble_eq_true rfl⟩ rfl hl.1 rfl (Nat.le_of_ble_eq_true rfl) dX7_losesOf_16 ⟨Nat.zero_le _, Nat.zero_le _⟩) (fun r_4 hr_4 => ?_)
        have hT := nm_u hr_4.1 hT
        refine lv_if_eq (tgt := 36) hx hb dX7_losesOf_19 (by decide) (fun c_5 => ?_) (fun c_5 => ?_)
        · have hT := it_t c_5 hT
          refine lv_iinc (v := y_2 + 1) (lv' := [(3, .int (y_2 + 1)), (0, .ref (mk 0)), (2, .int r_1)]) hx hb dX7_losesOf_36 hl (k := 2) rfl rfl (by decide) rfl (fun ls hl => ?_)
          refine lv_goto (tgt := 8) hx hb dX7_losesOf_39 (by decide) ?_
          exact ih ls (y_2 + 1) (ms_up c_3 hm) (lv_sub hl [1, 2, 0] rfl) hT
        · have hT := it_f c_5 hT
          refine lv_iload_n hx hb dX7_losesOf_22 rfl (lv_at hl 2 rfl) ?_
          refine lv_iconst (v := 5) hx hb dX7_losesOf_23 (by decide) ?_
          refine lv_idiv hx hb dX7_losesOf_24 (by decide) ?_
          refine lv_aload_n hx hb dX7_losesOf_25 rfl (lv_at hl 0 rfl) ?_
          refine gX7_st C hK hP wd_3_77 dX7_losesOf_26 ?_
          refine lv_bipush (v := 22) hx hb dX7_losesOf_29 (by decide) ?_
          refine aM_st C hK hP (ix_of (by decide) (by decide)) dX7_losesOf_31 ?_
          refine lv_isub hx hb dX7_losesOf_32 ?_
          refine lv_iconst (v := 1) hx hb dX7_losesOf_33 (by decide) ?_
          refine lv_iadd hx hb dX7_losesOf_34 ?_
          exact hret _ _ _ hT dX7_losesOf_35
  exact L_8 (((20 : Int32).toInt - (0 : Int32).toInt).toNat + 1) ls (0 : Int32) (Nat.lt_succ_self _) (lv_sub hl [2, 1, 0] rfl) hT
theorem hv_X7_cell : yX7_cell.cls = RX7 ∧ yX7_cell.cls ≠ "java/lang/invoke/MethodHandle" ∧ yX7_cell.cls ≠ "java/lang/invoke/VarHandle" ∧ (parseMethodDescriptor yX7_cell.desc).map (fun d => d.parameters.length) = some 3 := by decide +kernel
theorem hd_X7_cell : yX7_cell.cls ≠ "java/lang/invoke/MethodHandle" ∧ yX7_cell.cls ≠ "java/lang/invoke/VarHandle" ∧ (parseMethodDescriptor yX7_cell.desc).map (fun d => d.parameters.length) = some 3 := hv_X7_cell.2
def jn_X7_cell_113 (mg : Nat → Int32) (st : Nat → Int32) (x1 : Int32) (x2 : Int32) (x3 : Int32) : Int32 :=
  nm (sp_X7_isStill mg st (st (20 : Int32).toNatClampNeg) x1 x2 (x3 - (3 : Int32))) (fun r_3 => if r_3 = 0 then (0 : Int32) else (1 : Int32))
theorem jn_X7_cell_113_s (mg : Nat → Int32) (st : Nat → Int32) (x1 : Int32) (x2 : Int32) (x3 : Int32) : (nm (sp_X7_isStill mg st (st (20 : Int32).toNatClampNeg) x1 x2 (x3 - (3 : Int32))) (fun r_3 => if r_3 = 0 then (0 : Int32) else (1 : Int32))) = jn_X7_cell_113 mg st x1 x2 x3 := rfl
def sp_X7_cell (mg : Nat → Int32) (st : Nat → Int32) (x1 : Int32) (x2 : Int32) (x3 : Int32) : Int32 :=
  nm (sp_X7_isCell mg x1 x2) (fun r_1 => if r_1 = 0 then (-1 : Int32) else (if x3 = (0 : Int32) then (if (st (((5 : Int32) * x2) + x1).toNatClampNeg) = 0 then (-9 : Int32) else ((st (((5 : Int32) * x2) + x1).toNatClampNeg) - (1 : Int32))) else (if x3 = (1 : Int32) then (nm (sp_X7_has (st (20 : Int32).toNatClampNeg) (((5 : Int32) * x2) + x1)) (fun r_8 => if r_8 = 0 then (0 : Int32) else (1 : Int32))) else (if x3 = (2 : Int32) then (nm (sp_X7_isDry st (((5 : Int32) * x2) + x1)) (fun r_11 => if r_11 = 0 then (0 : Int32) else (1 : Int32))) else (if x3 = (3 : Int32) then (jn_X7_cell_113 mg st x1 x2 x3) else (if x3 = (4 : Int32) then (jn_X7_cell_113 mg st x1 x2 x3) else (-1 : Int32)))))))
theorem sp_X7_cell_s (mg : Nat → Int32) (st : Nat → Int32) (x1 : Int32) (x2 : Int32) (x3 : Int32) : (nm (sp_X7_isCell mg x1 x2) (fun r_1 => if r_1 = 0 then (-1 : Int32) else (if x3 = (0 : Int32) then (if (st (((5 : Int32) * x2) + x1).toNatClampNeg) = 0 then (-9 : Int32) else ((st (((5 : Int32) * x2) + x1).toNatClampNeg) - (1 : Int32))) else (if x3 = (1 : Int32) then (nm (sp_X7_has (st (20 : Int32).toNatClampNeg) (((5 : Int32) * x2) + x1)) (fun r_8 => if r_8 = 0 then (0 : Int32) else (1 : Int32))) else (if x3 = (2 : Int32) then (nm (sp_X7_isDry st (((5 : Int32) * x2) + x1)) (fun r_11 => if r_11 = 0 then (0 : Int32) else (1 : Int32))) else (if x3 = (3 : Int32) then (jn_X7_cell_113 mg st x1 x2 x3) else (if x3 = (4 : Int32) then (jn_X7_cell_113 mg st x1 x2 x3) else (-1 : Int32)))))))) = sp_X7_cell mg st x1 x2 x3 := rfl
set_option maxHeartbeats 4000000 in
set_option maxRecDepth 100000 in
theorem c_X7_cell {l : Launch} {D : va_G} {cI cZ cO : ClassId} {mk : Nat → Nat} {mg st im ke se tx sh fa : Nat → Int32} {mt : Int64} {x1 : Int32} {x2 : Int32} {x3 : Int32} (hw : 1 ≤ (mg 0).toInt ∧ (mg 0).toInt ≤ 5) (hh : 1 ≤ (mg 1).toInt ∧ (mg 1).toInt ≤ 4) (sz : Nat) : Met l yX7_cell (wm yX7_cell cX7_cell 5 (some .int)) ({ frames := 4, cells := 0, slots := 0, locals := 92 } : Room) (GPre D (ty3 cI cZ cO) (MW cI cZ mk mg st im ke se tx sh fa mt) [.ref (mk 0), .int x1, .int x2, .int x3] sz) (vp_Si (fun r => r = sp_X7_cell mg st x1 x2 x3)) 0 0 (fun _ => False) := by
  refine metP_i (post := (fun r => r = sp_X7_cell mg st x1 x2 x3)) (by decide) (Nat.le_of_ble_eq_true rfl) ?_
  intro p e s m args below meth c ls Q C hsz hP hK hD hN hl hret
  have hx := C.1
  have hb := C.2.1
  have hl : lv_has ls 5 [(0, .ref (mk 0)), (1, .int x1), (2, .int x2), (3, .int x3)] := hl
  have hT := sp_X7_cell_s mg st x1 x2 x3
  refine lv_aload_n hx hb dX7_cell_0 rfl (lv_at hl 0 rfl) ?_
  refine lv_iload_n hx hb dX7_cell_1 rfl (lv_at hl 1 rfl) ?_
  refine lv_iload_n hx hb dX7_cell_2 rfl (lv_at hl 2 rfl) ?_
  refine vp_callSi (run_vP (As := [.int x1, .int x2]) (rest := []) C hK hP hD hN (c_X7_isCell _) (rX7_r hK hP) ⟨wd_3_195, wd_3_197, ws_27, wd_1_8, wd_3_198⟩ ⟨rfl, rfl⟩ hv_X7_isCell ⟨Nat.le_of_ble_eq_true rfl, Nat.le_of_ble_eq_true rfl⟩ rfl hl.1 rfl (Nat.le_of_ble_eq_true rfl) dX7_cell_3 ⟨Nat.zero_le _, Nat.zero_le _⟩) (fun r_1 hr_1 => ?_)
  have hT := nm_u hr_1.1 hT
  refine lv_if_ne (tgt := 11) hx hb dX7_cell_6 (by decide) (fun c_2 => ?_) (fun c_2 => ?_)
  · have hT := it_f c_2 hT
    refine lv_iconst (v := 5) hx hb dX7_cell_11 (by decide) ?_
    refine lv_iload_n hx hb dX7_cell_12 rfl (lv_at hl 2 rfl) ?_
    refine lv_imul hx hb dX7_cell_13 ?_
    refine lv_iload_n hx hb dX7_cell_14 rfl (lv_at hl 1 rfl) ?_
    refine lv_iadd hx hb dX7_cell_15 ?_
    refine lv_istore (lv' := [(4, .int (((5 : Int32) * x2) + x1)), (0, .ref (mk 0)), (1, .int x1), (2, .int x2), (3, .int x3)]) hx hb dX7_cell_16 hl (by decide) rfl (fun ls hl => ?_)
    refine lv_iload_n hx hb dX7_cell_18 rfl (lv_at hl 4 rfl) ?_
    have K_113 : ∀ (ls : Array Slot) (hl : lv_has ls 5 [(0, .ref (mk 0)), (1, .int x1), (2, .int x2), (3, .int x3)]) (hT0 : jn_X7_cell_113 mg st x1 x2 x3 = sp_X7_cell mg st x1 x2 x3), W p l e ({ frames := 4, cells := 0, slots := 0, locals := 92 } : Room) s m args below meth c s.heap [] 0 0 Q (F0 m 113 ls []) := by
      intro ls hl hT0
      have hT := (jn_X7_cell_113_s mg st x1 x2 x3).trans hT0
      refine lv_aload_n hx hb dX7_cell_113 rfl (lv_at hl 0 rfl) ?_
      refine lv_aload_n hx hb dX7_cell_114 rfl (lv_at hl 0 rfl) ?_
      refine gX7_st C hK hP wd_3_77 dX7_cell_115 ?_
      refine lv_bipush (v := 20) hx hb dX7_cell_118 (by decide) ?_
      refine aM_st C hK hP (ix_of (by decide) (by decide)) dX7_cell_120 ?_
      refine lv_iload_n hx hb dX7_cell_121 rfl (lv_at hl 1 rfl) ?_
      refine lv_iload_n hx hb dX7_cell_122 rfl (lv_at hl 2 rfl) ?_
      refine lv_iload_n hx hb dX7_cell_123 rfl (lv_at hl 3 rfl) ?_
      refine lv_iconst (v := 3) hx hb dX7_cell_124 (by decide) ?_
      refine lv_isub hx hb dX7_cell_125 ?_
      refine vp_callSi (run_vP (As := [.int (st (20 : Int32).toNatClampNeg), .int x1, .int x2, .int (x3 - (3 : Int32))]) (rest := []) C hK hP hD hN (c_X7_isStill _) (rX7_r hK hP) ⟨wd_3_203, wd_3_205, ws_29, wd_1_8, wd_3_206⟩ ⟨rfl, rfl⟩ hv_X7_isStill ⟨Nat.le_of_ble_eq_true rfl, Nat.le_of_ble_eq_true rfl⟩ rfl hl.1 rfl (Nat.le_of_ble_eq_true rfl) dX7_cell_126 ⟨Nat.zero_le _, Nat.zero_le _⟩) (fun r_3 hr_3 => ?_)
      have hT := nm_u hr_3.1 hT
      refine lv_if_eq (tgt := 136) hx hb dX7_cell_129 (by decide) (fun c_4 => ?_) (fun c_4 => ?_)
      · have hT := it_t c_4 hT
        refine lv_iconst (v := 0) hx hb dX7_cell_136 (by decide) ?_
        exact hret _ _ _ hT dX7_cell_137
      · have hT := it_f c_4 hT
        refine lv_iconst (v := 1) hx hb dX7_cell_132 (by decide) ?_
        refine lv_goto (tgt := 137) hx hb dX7_cell_133 (by decide) ?_
        exact hret _ _ _ hT dX7_cell_137
    by_cases c_5 : x3 = (0 : Int32)
    · have hT := it_t c_5 hT
      refine lv_tableIn (tgt := 52) hx hb dX7_cell_19 (by rw [c_5]; decide) (by rw [c_5]; decide) (by rw [c_5]; rfl) (by decide) ?_
      refine lv_aload_n hx hb dX7_cell_52 rfl (lv_at hl 1 rfl) ?_
      refine gX7_st C hK hP wd_3_77 dX7_cell_53 ?_
      refine lv_iload hx hb dX7_cell_56 (lv_at hl 0 rfl) ?_
      refine aM_st C hK hP (cell_ix hw hh hr_1.1 c_2 (by decide)) dX7_cell_58 ?_
      refine lv_if_ne (tgt := 67) hx hb dX7_cell_59 (by decide) (fun c_6 => ?_) (fun c_6 => ?_)
      · have hT := it_f c_6 hT
        refine lv_aload_n hx hb dX7_cell_67 rfl (lv_at hl 1 rfl) ?_
        refine gX7_st C hK hP wd_3_77 dX7_cell_68 ?_
        refine lv_iload hx hb dX7_cell_71 (lv_at hl 0 rfl) ?_
        refine aM_st C hK hP (cell_ix hw hh hr_1.1 c_2 (by decide)) dX7_cell_73 ?_
        refine lv_iconst (v := 1) hx hb dX7_cell_74 (by decide) ?_
        refine lv_isub hx hb dX7_cell_75 ?_
        exact hret _ _ _ hT dX7_cell_76
      · have hT := it_t c_6 hT
        refine lv_bipush (v := -9) hx hb dX7_cell_62 (by decide) ?_
        refine lv_goto (tgt := 76) hx hb dX7_cell_64 (by decide) ?_
        exact hret _ _ _ hT dX7_cell_76
    · have hT := it_f c_5 hT
      by_cases c_7 : x3 = (1 : Int32)
      · have hT := it_t c_7 hT
        refine lv_tableIn (tgt := 77) hx hb dX7_cell_19 (by rw [c_7]; decide) (by rw [c_7]; decide) (by rw [c_7]; rfl) (by decide) ?_
        refine lv_aload_n hx hb dX7_cell_77 rfl (lv_at hl 1 rfl) ?_
        refine gX7_st C hK hP wd_3_77 dX7_cell_78 ?_
        refine lv_bipush (v := 20) hx hb dX7_cell_81 (by decide) ?_
        refine aM_st C hK hP (ix_of (by decide) (by decide)) dX7_cell_83 ?_
        refine lv_iload hx hb dX7_cell_84 (lv_at hl 0 rfl) ?_
        refine vp_callSi (run_sP (As := [.int (st (20 : Int32).toNatClampNeg), .int (((5 : Int32) * x2) + x1)]) (rest := []) C hN (c_X7_has) ⟨wd_3_184, wd_3_185, wd_1_8, wd_3_186⟩ ⟨rfl, rfl⟩ hd_X7_has ⟨Nat.le_of_ble_eq_true rfl, Nat.le_of_ble_eq_true rfl⟩ rfl hl.1 rfl (Nat.le_of_ble_eq_true rfl) dX7_cell_86 ⟨Nat.zero_le _, Nat.zero_le _⟩) (fun r_8 hr_8 => ?_)
        have hT := nm_u hr_8.1 hT
        refine lv_if_eq (tgt := 96) hx hb dX7_cell_89 (by decide) (fun c_9 => ?_) (fun c_9 => ?_)
        · have hT := it_t c_9 hT
          refine lv_iconst (v := 0) hx hb dX7_cell_96 (by decide) ?_
          exact hret _ _ _ hT dX7_cell_97
        · have hT := it_f c_9 hT
          refine lv_iconst (v := 1) hx hb dX7_cell_92 (by decide) ?_
          refine lv_goto (tgt := 97) hx hb dX7_cell_93 (by decide) ?_
          exact hret _ _ _ hT dX7_cell_97
      · have hT := it_f c_7 hT
        by_cases c_10 : x3 = (2 : Int32)
        · have hT := it_t c_10 hT
          refine lv_tableIn (tgt := 98) hx hb dX7_cell_19 (by rw [c_10]; decide) (by rw [c_10]; decide) (by rw [c_10]; rfl) (by decide) ?_
          refine lv_aload_n hx hb dX7_cell_98 rfl (lv_at hl 1 rfl) ?_
          refine lv_iload hx hb dX7_cell_99 (lv_at hl 0 rfl) ?_
          refine vp_callSi (run_vP (As := [.int (((5 : Int32) * x2) + x1)]) (rest := []) C hK hP hD hN (c_X7_isDry _) (rX7_r hK hP) ⟨wd_3_199, wd_3_201, ws_28, wd_1_8, wd_3_202⟩ ⟨rfl, rfl⟩ hv_X7_isDry ⟨Nat.le_of_ble_eq_true rfl, Nat.le_of_ble_eq_true rfl⟩ rfl hl.1 rfl (Nat.le_of_ble_eq_true rfl) dX7_cell_101 ⟨Nat.zero_le _, Nat.zero_le _⟩) (fun r_11 hr_11 => ?_)
          have hT := nm_u hr_11.1 hT
          refine lv_if_eq (tgt := 111) hx hb dX7_cell_104 (by decide) (fun c_12 => ?_) (fun c_12 => ?_)
          · have hT := it_t c_12 hT
            refine lv_iconst (v := 0) hx hb dX7_cell_111 (by decide) ?_
            exact hret _ _ _ hT dX7_cell_112
          · have hT := it_f c_12 hT
            refine lv_iconst (v := 1) hx hb dX7_cell_107 (by decide) ?_
            refine lv_goto (tgt := 112) hx hb dX7_cell_108 (by decide) ?_
            exact hret _ _ _ hT dX7_cell_112
        · have hT := it_f c_10 hT
          by_cases c_13 : x3 = (3 : Int32)
          · have hT := it_t c_13 hT
            refine lv_tableIn (tgt := 113) hx hb dX7_cell_19 (by rw [c_13]; decide) (by rw [c_13]; decide) (by rw [c_13]; rfl) (by decide) ?_
            exact K_113 ls (lv_sub hl [1, 2, 3, 4] rfl) hT
          · have hT := it_f c_13 hT
            by_cases c_14 : x3 = (4 : Int32)
            · have hT := it_t c_14 hT
              refine lv_tableIn (tgt := 113) hx hb dX7_cell_19 (by rw [c_14]; decide) (by rw [c_14]; decide) (by rw [c_14]; rfl) (by decide) ?_
              exact K_113 ls (lv_sub hl [1, 2, 3, 4] rfl) hT
            · have hT := it_f c_14 hT
              refine lv_tableOut (tgt := 138) hx hb dX7_cell_19 (by have h0 := lv_neT (a := 0) c_5 rfl; have h1 := lv_neT (a := 1) c_7 rfl; have h2 := lv_neT (a := 2) c_10 rfl; have h3 := lv_neT (a := 3) c_13 rfl; have h4 := lv_neT (a := 4) c_14 rfl; omega) (by decide) ?_
              refine lv_iconst (v := -1) hx hb dX7_cell_138 (by decide) ?_
              exact hret _ _ _ hT dX7_cell_139
  · have hT := it_t c_2 hT
    refine lv_iconst (v := -1) hx hb dX7_cell_9 (by decide) ?_
    exact hret _ _ _ hT dX7_cell_10
theorem hv_X7_family : yX7_family.cls = RX7 ∧ yX7_family.cls ≠ "java/lang/invoke/MethodHandle" ∧ yX7_family.cls ≠ "java/lang/invoke/VarHandle" ∧ (parseMethodDescriptor yX7_family.desc).map (fun d => d.parameters.length) = some 2 := by decide +kernel
theorem hd_X7_family : yX7_family.cls ≠ "java/lang/invoke/MethodHandle" ∧ yX7_family.cls ≠ "java/lang/invoke/VarHandle" ∧ (parseMethodDescriptor yX7_family.desc).map (fun d => d.parameters.length) = some 2 := hv_X7_family.2
def sp_X7_family (mg : Nat → Int32) (st : Nat → Int32) (x1 : Int32) (x2 : Int32) : Int32 :=
  nm (sp_X7_isFamily x1) (fun r_1 => if r_1 = 0 then (-1 : Int32) else (if x2 = (0 : Int32) then (nm (sp_X7_heldBy st x1) (fun r_4 => r_4)) else (if x2 = (1 : Int32) then (nm (sp_X7_heldBy st x1) (fun r_6 => nm (sp_X7_stillOnes mg st (st (20 : Int32).toNatClampNeg) (st (21 : Int32).toNatClampNeg)) (fun r_7 => nm (sp_X7_bits (r_6 &&& r_7)) (fun r_8 => r_8)))) else (if x2 = (2 : Int32) then (nm (sp_X7_losesOf st x1) (fun r_10 => r_10)) else (-1 : Int32)))))
theorem sp_X7_family_s (mg : Nat → Int32) (st : Nat → Int32) (x1 : Int32) (x2 : Int32) : (nm (sp_X7_isFamily x1) (fun r_1 => if r_1 = 0 then (-1 : Int32) else (if x2 = (0 : Int32) then (nm (sp_X7_heldBy st x1) (fun r_4 => r_4)) else (if x2 = (1 : Int32) then (nm (sp_X7_heldBy st x1) (fun r_6 => nm (sp_X7_stillOnes mg st (st (20 : Int32).toNatClampNeg) (st (21 : Int32).toNatClampNeg)) (fun r_7 => nm (sp_X7_bits (r_6 &&& r_7)) (fun r_8 => r_8)))) else (if x2 = (2 : Int32) then (nm (sp_X7_losesOf st x1) (fun r_10 => r_10)) else (-1 : Int32)))))) = sp_X7_family mg st x1 x2 := rfl
set_option maxHeartbeats 4000000 in
set_option maxRecDepth 100000 in
theorem c_X7_family {l : Launch} {D : va_G} {cI cZ cO : ClassId} {mk : Nat → Nat} {mg st im ke se tx sh fa : Nat → Int32} {mt : Int64} {x1 : Int32} {x2 : Int32}  (sz : Nat) : Met l yX7_family (wm yX7_family cX7_family 3 (some .int)) ({ frames := 5, cells := 0, slots := 0, locals := 117 } : Room) (GPre D (ty3 cI cZ cO) (MW cI cZ mk mg st im ke se tx sh fa mt) [.ref (mk 0), .int x1, .int x2] sz) (vp_Si (fun r => r = sp_X7_family mg st x1 x2)) 0 0 (fun _ => False) := by
  refine metP_i (post := (fun r => r = sp_X7_family mg st x1 x2)) (by decide) (Nat.le_of_ble_eq_true rfl) ?_
  intro p e s m args below meth c ls Q C hsz hP hK hD hN hl hret
  have hx := C.1
  have hb := C.2.1
  have hl : lv_has ls 3 [(0, .ref (mk 0)), (1, .int x1), (2, .int x2)] := hl
  have hT := sp_X7_family_s mg st x1 x2
  refine lv_iload_n hx hb dX7_family_0 rfl (lv_at hl 1 rfl) ?_
  refine vp_callSi (run_sP (As := [.int x1]) (rest := []) C hN (c_X7_isFamily) ⟨wd_3_215, wd_3_216, wd_1_8, wd_3_217⟩ ⟨rfl, rfl⟩ hd_X7_isFamily ⟨Nat.le_of_ble_eq_true rfl, Nat.le_of_ble_eq_true rfl⟩ rfl hl.1 rfl (Nat.le_of_ble_eq_true rfl) dX7_family_1 ⟨Nat.zero_le _, Nat.zero_le _⟩) (fun r_1 hr_1 => ?_)
  have hT := nm_u hr_1.1 hT
  refine lv_if_ne (tgt := 9) hx hb dX7_family_4 (by decide) (fun c_2 => ?_) (fun c_2 => ?_)
  · have hT := it_f c_2 hT
    refine lv_iload_n hx hb dX7_family_9 rfl (lv_at hl 2 rfl) ?_
    by_cases c_3 : x2 = (0 : Int32)
    · have hT := it_t c_3 hT
      refine lv_tableIn (tgt := 36) hx hb dX7_family_10 (by rw [c_3]; decide) (by rw [c_3]; decide) (by rw [c_3]; rfl) (by decide) ?_
      refine lv_aload_n hx hb dX7_family_36 rfl (lv_at hl 0 rfl) ?_
      refine lv_iload_n hx hb dX7_family_37 rfl (lv_at hl 1 rfl) ?_
      refine vp_callSi (run_vP (As := [.int x1]) (rest := []) C hK hP hD hN (c_X7_heldBy _) (rX7_r hK hP) ⟨wd_3_218, wd_3_220, ws_31, wd_1_8, wd_3_221⟩ ⟨rfl, rfl⟩ hv_X7_heldBy ⟨Nat.le_of_ble_eq_true rfl, Nat.le_of_ble_eq_true rfl⟩ rfl hl.1 rfl (Nat.le_of_ble_eq_true rfl) dX7_family_38 ⟨Nat.zero_le _, Nat.zero_le _⟩) (fun r_4 hr_4 => ?_)
      have hT := nm_u hr_4 hT
      exact hret _ _ _ hT dX7_family_41
    · have hT := it_f c_3 hT
      by_cases c_5 : x2 = (1 : Int32)
      · have hT := it_t c_5 hT
        refine lv_tableIn (tgt := 42) hx hb dX7_family_10 (by rw [c_5]; decide) (by rw [c_5]; decide) (by rw [c_5]; rfl) (by decide) ?_
        refine lv_aload_n hx hb dX7_family_42 rfl (lv_at hl 0 rfl) ?_
        refine lv_iload_n hx hb dX7_family_43 rfl (lv_at hl 1 rfl) ?_
        refine vp_callSi (run_vP (As := [.int x1]) (rest := []) C hK hP hD hN (c_X7_heldBy _) (rX7_r hK hP) ⟨wd_3_218, wd_3_220, ws_31, wd_1_8, wd_3_221⟩ ⟨rfl, rfl⟩ hv_X7_heldBy ⟨Nat.le_of_ble_eq_true rfl, Nat.le_of_ble_eq_true rfl⟩ rfl hl.1 rfl (Nat.le_of_ble_eq_true rfl) dX7_family_44 ⟨Nat.zero_le _, Nat.zero_le _⟩) (fun r_6 hr_6 => ?_)
        have hT := nm_u hr_6 hT
        refine lv_aload_n hx hb dX7_family_47 rfl (lv_at hl 0 rfl) ?_
        refine lv_aload_n hx hb dX7_family_48 rfl (lv_at hl 0 rfl) ?_
        refine gX7_st C hK hP wd_3_77 dX7_family_49 ?_
        refine lv_bipush (v := 20) hx hb dX7_family_52 (by decide) ?_
        refine aM_st C hK hP (ix_of (by decide) (by decide)) dX7_family_54 ?_
        refine lv_aload_n hx hb dX7_family_55 rfl (lv_at hl 0 rfl) ?_
        refine gX7_st C hK hP wd_3_77 dX7_family_56 ?_
        refine lv_bipush (v := 21) hx hb dX7_family_59 (by decide) ?_
        refine aM_st C hK hP (ix_of (by decide) (by decide)) dX7_family_61 ?_
        refine vp_callSi (run_vP (As := [.int (st (20 : Int32).toNatClampNeg), .int (st (21 : Int32).toNatClampNeg)]) (rest := [.int r_6]) C hK hP hD hN (c_X7_stillOnes _) (rX7_r hK hP) ⟨wd_3_222, wd_3_224, ws_32, wd_1_8, wd_3_225⟩ ⟨rfl, rfl⟩ hv_X7_stillOnes ⟨Nat.le_of_ble_eq_true rfl, Nat.le_of_ble_eq_true rfl⟩ rfl hl.1 rfl (Nat.le_of_ble_eq_true rfl) dX7_family_62 ⟨Nat.zero_le _, Nat.zero_le _⟩) (fun r_7 hr_7 => ?_)
        have hT := nm_u hr_7 hT
        refine lv_iand hx hb dX7_family_65 ?_
        refine vp_callSi (run_sP (As := [.int (r_6 &&& r_7)]) (rest := []) C hN (c_X7_bits) ⟨wd_3_226, wd_3_227, wd_1_8, wd_3_228⟩ ⟨rfl, rfl⟩ hd_X7_bits ⟨Nat.le_of_ble_eq_true rfl, Nat.le_of_ble_eq_true rfl⟩ rfl hl.1 rfl (Nat.le_of_ble_eq_true rfl) dX7_family_66 ⟨Nat.zero_le _, Nat.zero_le _⟩) (fun r_8 hr_8 => ?_)
        have hT := nm_u hr_8 hT
        exact hret _ _ _ hT dX7_family_69
      · have hT := it_f c_5 hT
        by_cases c_9 : x2 = (2 : Int32)
        · have hT := it_t c_9 hT
          refine lv_tableIn (tgt := 70) hx hb dX7_family_10 (by rw [c_9]; decide) (by rw [c_9]; decide) (by rw [c_9]; rfl) (by decide) ?_
          refine lv_aload_n hx hb dX7_family_70 rfl (lv_at hl 0 rfl) ?_
          refine lv_iload_n hx hb dX7_family_71 rfl (lv_at hl 1 rfl) ?_
          refine vp_callSi (run_vP (As := [.int x1]) (rest := []) C hK hP hD hN (c_X7_losesOf _) (rX7_r hK hP) ⟨wd_3_229, wd_3_231, ws_33, wd_1_8, wd_3_232⟩ ⟨rfl, rfl⟩ hv_X7_losesOf ⟨Nat.le_of_ble_eq_true rfl, Nat.le_of_ble_eq_true rfl⟩ rfl hl.1 rfl (Nat.le_of_ble_eq_true rfl) dX7_family_72 ⟨Nat.zero_le _, Nat.zero_le _⟩) (fun r_10 hr_10 => ?_)
          have hT := nm_u hr_10 hT
          exact hret _ _ _ hT dX7_family_75
        · have hT := it_f c_9 hT
          refine lv_tableOut (tgt := 76) hx hb dX7_family_10 (by have h0 := lv_neT (a := 0) c_3 rfl; have h1 := lv_neT (a := 1) c_5 rfl; have h2 := lv_neT (a := 2) c_9 rfl; omega) (by decide) ?_
          refine lv_iconst (v := -1) hx hb dX7_family_76 (by decide) ?_
          exact hret _ _ _ hT dX7_family_77
  · have hT := it_t c_2 hT
    refine lv_iconst (v := -1) hx hb dX7_family_7 (by decide) ?_
    exact hret _ _ _ hT dX7_family_8
theorem hv_X7_remembers : yX7_remembers.cls = RX7 ∧ yX7_remembers.cls ≠ "java/lang/invoke/MethodHandle" ∧ yX7_remembers.cls ≠ "java/lang/invoke/VarHandle" ∧ (parseMethodDescriptor yX7_remembers.desc).map (fun d => d.parameters.length) = some 0 := by decide +kernel
theorem hd_X7_remembers : yX7_remembers.cls ≠ "java/lang/invoke/MethodHandle" ∧ yX7_remembers.cls ≠ "java/lang/invoke/VarHandle" ∧ (parseMethodDescriptor yX7_remembers.desc).map (fun d => d.parameters.length) = some 0 := hv_X7_remembers.2
def lp_X7_remembers_70 (y_2 : Int32) : Nat → Int32 → (Nat → Int32) → (Nat → Int32)
  | 0, y_3, st_4 => st_4
  | n + 1, y_3, st_4 => if (23 : Int32) ≤ y_3 then st_4 else (lp_X7_remembers_70 y_2 n (y_3 + 1) (upd st_4 (y_2 + y_3).toNatClampNeg (st_4 y_3.toNatClampNeg)))
theorem lp_X7_remembers_70_s (y_2 : Int32) (n : Nat) (y_3 : Int32) (st_4 : Nat → Int32) : (if (23 : Int32) ≤ y_3 then st_4 else (lp_X7_remembers_70 y_2 n (y_3 + 1) (upd st_4 (y_2 + y_3).toNatClampNeg (st_4 y_3.toNatClampNeg)))) = lp_X7_remembers_70 y_2 (n + 1) y_3 st_4 := rfl
def jn_X7_remembers_54 (st_1 : Nat → Int32) : (Nat → Int32) :=
  nm ((24 : Int32) + ((23 : Int32) * (st_1 (23 : Int32).toNatClampNeg))) (fun y_2 => nm (lp_X7_remembers_70 y_2 (((23 : Int32).toInt - (0 : Int32).toInt).toNat + 1) (0 : Int32) st_1) (fun e_5 => (upd e_5 (23 : Int32).toNatClampNeg ((e_5 (23 : Int32).toNatClampNeg) + (1 : Int32)))))
theorem jn_X7_remembers_54_s (st_1 : Nat → Int32) : (nm ((24 : Int32) + ((23 : Int32) * (st_1 (23 : Int32).toNatClampNeg))) (fun y_2 => nm (lp_X7_remembers_70 y_2 (((23 : Int32).toInt - (0 : Int32).toInt).toNat + 1) (0 : Int32) st_1) (fun e_5 => (upd e_5 (23 : Int32).toNatClampNeg ((e_5 (23 : Int32).toNatClampNeg) + (1 : Int32)))))) = jn_X7_remembers_54 st_1 := rfl
def lp_X7_remembers_15 : Nat → Int32 → (Nat → Int32) → (Nat → Int32)
  | 0, y_8, st_9 => st_9
  | n + 1, y_8, st_9 => if (231 : Int32) ≤ y_8 then st_9 else (lp_X7_remembers_15 n (y_8 + 1) (upd st_9 y_8.toNatClampNeg (st_9 (y_8 + (23 : Int32)).toNatClampNeg)))
theorem lp_X7_remembers_15_s (n : Nat) (y_8 : Int32) (st_9 : Nat → Int32) : (if (231 : Int32) ≤ y_8 then st_9 else (lp_X7_remembers_15 n (y_8 + 1) (upd st_9 y_8.toNatClampNeg (st_9 (y_8 + (23 : Int32)).toNatClampNeg)))) = lp_X7_remembers_15 (n + 1) y_8 st_9 := rfl
def sp_X7_remembers (st : Nat → Int32) : (Nat → Int32) :=
  if (st (23 : Int32).toNatClampNeg) = (10 : Int32) then (nm (lp_X7_remembers_15 (((231 : Int32).toInt - (24 : Int32).toInt).toNat + 1) (24 : Int32) st) (fun e_10 => jn_X7_remembers_54 (upd e_10 (23 : Int32).toNatClampNeg ((e_10 (23 : Int32).toNatClampNeg) - (1 : Int32))))) else (jn_X7_remembers_54 st)
theorem sp_X7_remembers_s (st : Nat → Int32) : (if (st (23 : Int32).toNatClampNeg) = (10 : Int32) then (nm (lp_X7_remembers_15 (((231 : Int32).toInt - (24 : Int32).toInt).toNat + 1) (24 : Int32) st) (fun e_10 => jn_X7_remembers_54 (upd e_10 (23 : Int32).toNatClampNeg ((e_10 (23 : Int32).toNatClampNeg) - (1 : Int32))))) else (jn_X7_remembers_54 st)) = sp_X7_remembers st := rfl
set_option maxHeartbeats 4000000 in
set_option maxRecDepth 100000 in
theorem c_X7_remembers {l : Launch} {D : va_G} {cI cZ cO : ClassId} {mk : Nat → Nat} {mg st im ke se tx sh fa : Nat → Int32} {mt : Int64}  (hsu : 0 ≤ (st (23 : Int32).toNatClampNeg).toInt ∧ (st (23 : Int32).toNatClampNeg).toInt ≤ 10) (sz : Nat) : Met l yX7_remembers (wm yX7_remembers cX7_remembers 3 none) ({ frames := 0, cells := 0, slots := 0, locals := 0 } : Room) (GPre D (ty3 cI cZ cO) (MW cI cZ mk mg st im ke se tx sh fa mt) [.ref (mk 0)] sz) (va_Qv (fun (u : (Nat → Int32)) => u = sp_X7_remembers st) (fun u t => GAt D (ty3 cI cZ cO) (va_A (MW cI cZ mk mg st im ke se tx sh fa mt) sz) (MW cI cZ mk mg u im ke se tx sh fa mt) t) (va_A (MW cI cZ mk mg st im ke se tx sh fa mt) sz)) 0 0 (va_A (MW cI cZ mk mg st im ke se tx sh fa mt) sz) := by
  refine metQ_v (W1 := (fun (u : (Nat → Int32)) => MW cI cZ mk mg u im ke se tx sh fa mt)) (post := (fun (u : (Nat → Int32)) => u = sp_X7_remembers st)) (by decide) (Nat.le_of_ble_eq_true rfl) ?_
  intro p e s m args below meth c ls A Q C hsz hP hK hD hS hA hN hl hret
  have hx := C.1
  have hb := C.2.1
  have hl : lv_has ls 3 [(0, .ref (mk 0))] := hl
  have hT := sp_X7_remembers_s st
  refine lv_aload_n hx hb dX7_remembers_0 rfl (lv_at hl 0 rfl) ?_
  refine gX7_st C hK hP wd_3_77 dX7_remembers_1 ?_
  refine lv_bipush (v := 23) hx hb dX7_remembers_4 (by decide) ?_
  refine aM_st C hK hP (ix_of (by decide) (by decide)) dX7_remembers_6 ?_
  refine lv_bipush (v := 10) hx hb dX7_remembers_7 (by decide) ?_
  have K_54 : ∀ (ls : Array Slot) (st_1 : Nat → Int32) (hj : 0 ≤ (st_1 (23 : Int32).toNatClampNeg).toInt ∧ (st_1 (23 : Int32).toNatClampNeg).toInt ≤ 9) (H : Heap) (locs : List Loc) (hP : va_P D vwCl (MW cI cZ mk mg st_1 im ke se tx sh fa mt) H) (hD : va_D A (MW cI cZ mk mg st_1 im ke se tx sh fa mt)) (hS : va_S A s.heap H locs) (hl : lv_has ls 3 [(0, .ref (mk 0))]) (hT0 : jn_X7_remembers_54 st_1 = sp_X7_remembers st), W p l e ({ frames := 0, cells := 0, slots := 0, locals := 0 } : Room) s m args below meth c H locs 0 0 Q (F0 m 54 ls []) := by
    intro ls st_1 hj H locs hP hD hS hl hT0
    have hT := (jn_X7_remembers_54_s st_1).trans hT0
    refine lv_bipush (v := 24) hx hb dX7_remembers_54 (by decide) ?_
    refine lv_bipush (v := 23) hx hb dX7_remembers_56 (by decide) ?_
    refine lv_aload_n hx hb dX7_remembers_58 rfl (lv_at hl 0 rfl) ?_
    refine gX7_st C hK hP wd_3_77 dX7_remembers_59 ?_
    refine lv_bipush (v := 23) hx hb dX7_remembers_62 (by decide) ?_
    refine aM_st C hK hP (ix_of (by decide) (by decide)) dX7_remembers_64 ?_
    refine lv_imul hx hb dX7_remembers_65 ?_
    refine lv_iadd hx hb dX7_remembers_66 ?_
    refine lv_topi (fun y_2 ey_2 => ?_)
    have hT := nm_u ey_2 hT
    refine lv_istore_n (lv' := [(1, .int y_2), (0, .ref (mk 0))]) hx hb dX7_remembers_67 rfl hl (by decide) rfl (fun ls hl => ?_)
    refine lv_iconst (v := 0) hx hb dX7_remembers_68 (by decide) ?_
    refine lv_istore_n (lv' := [(2, .int (0 : Int32)), (1, .int y_2), (0, .ref (mk 0))]) hx hb dX7_remembers_69 rfl hl (by decide) rfl (fun ls hl => ?_)
    have L_70 : ∀ (n : Nat) (ls : Array Slot) (y_3 : Int32) (st_4 : Nat → Int32) (z2 : 0 ≤ y_3.toInt) (hm : ((23 : Int32).toInt - y_3.toInt).toNat < n) (H : Heap) (locs : List Loc) (hP : va_P D vwCl (MW cI cZ mk mg st_4 im ke se tx sh fa mt) H) (hD : va_D A (MW cI cZ mk mg st_4 im ke se tx sh fa mt)) (hS : va_S A s.heap H locs) (hl : lv_has ls 3 [(0, .ref (mk 0)), (1, .int y_2), (2, .int y_3)]) (kont : ∀ (ls : Array Slot) (e_5 : Nat → Int32) (H : Heap) (locs : List Loc), va_P D vwCl (MW cI cZ mk mg e_5 im ke se tx sh fa mt) H → va_D A (MW cI cZ mk mg e_5 im ke se tx sh fa mt) → va_S A s.heap H locs → lv_has ls 3 [(0, .ref (mk 0))] → e_5 = lp_X7_remembers_70 y_2 n y_3 st_4 → W p l e ({ frames := 0, cells := 0, slots := 0, locals := 0 } : Room) s m args below meth c H locs 0 0 Q (F0 m 96 ls [])), W p l e ({ frames := 0, cells := 0, slots := 0, locals := 0 } : Room) s m args below meth c H locs 0 0 Q (F0 m 70 ls []) := by
      intro n
      induction n with
      | zero => intro ls y_3 st_4 z2 hm; exact absurd hm (Nat.not_lt_zero _)
      | succ n ih =>
        intro ls y_3 st_4 z2 hm H locs hP hD hS hl kont
        have hT := lp_X7_remembers_70_s y_2 n y_3 st_4
        refine lv_iload_n hx hb dX7_remembers_70 rfl (lv_at hl 2 rfl) ?_
        refine lv_bipush (v := 23) hx hb dX7_remembers_71 (by decide) ?_
        refine lv_icmp_ge (tgt := 96) hx hb dX7_remembers_73 (by decide) (fun c_6 => ?_) (fun c_6 => ?_)
        · have hT := it_t c_6 hT
          exact kont ls st_4 H locs hP hD hS (lv_sub hl [0] rfl) hT
        · have hT := it_f c_6 hT
          refine lv_aload_n hx hb dX7_remembers_76 rfl (lv_at hl 0 rfl) ?_
          refine gX7_st C hK hP wd_3_77 dX7_remembers_77 ?_
          refine lv_iload_n hx hb dX7_remembers_80 rfl (lv_at hl 1 rfl) ?_
          refine lv_iload_n hx hb dX7_remembers_81 rfl (lv_at hl 2 rfl) ?_
          refine lv_iadd hx hb dX7_remembers_82 ?_
          refine lv_aload_n hx hb dX7_remembers_83 rfl (lv_at hl 0 rfl) ?_
          refine gX7_st C hK hP wd_3_77 dX7_remembers_84 ?_
          refine lv_iload_n hx hb dX7_remembers_87 rfl (lv_at hl 2 rfl) ?_
          refine aM_st C hK hP (ix_inv_nle z2 c_6) dX7_remembers_88 ?_
          refine sM_st C hK hP hD hS (rm_3 hj ey_2 z2 c_6) dX7_remembers_89 (fun H locs hP hD hS => ?_)
          refine lv_iinc (v := y_3 + 1) (lv' := [(2, .int (y_3 + 1)), (0, .ref (mk 0)), (1, .int y_2)]) hx hb dX7_remembers_90 hl (k := 2) rfl rfl (by decide) rfl (fun ls hl => ?_)
          refine lv_goto (tgt := 70) hx hb dX7_remembers_93 (by decide) ?_
          exact ih ls (y_3 + 1) (upd st_4 (y_2 + y_3).toNatClampNeg (st_4 y_3.toNatClampNeg)) (up0 c_6 z2) (ms_up c_6 hm) H locs hP hD hS (lv_sub hl [1, 2, 0] rfl) (fun ls z0 H locs hP hD hS hl he => kont ls z0 H locs hP hD hS hl (he.trans hT))
    refine L_70 (((23 : Int32).toInt - (0 : Int32).toInt).toNat + 1) ls (0 : Int32) st_1 (by decide) (Nat.lt_succ_self _) H locs hP hD hS (lv_sub hl [2, 1, 0] rfl) (fun ls e_5 H locs hP hD hS hl he => ?_)
    have hT := nm_u he hT
    refine lv_aload_n hx hb dX7_remembers_96 rfl (lv_at hl 0 rfl) ?_
    refine gX7_st C hK hP wd_3_77 dX7_remembers_97 ?_
    refine lv_bipush (v := 23) hx hb dX7_remembers_100 (by decide) ?_
    refine lv_dup2_11 hx hb dX7_remembers_102 rfl rfl ?_
    refine aM_st C hK hP (ix_of (by decide) (by decide)) dX7_remembers_103 ?_
    refine lv_iconst (v := 1) hx hb dX7_remembers_104 (by decide) ?_
    refine lv_iadd hx hb dX7_remembers_105 ?_
    refine sM_st C hK hP hD hS (ix_of (by decide) (by decide)) dX7_remembers_106 (fun H locs hP hD hS => ?_)
    exact hret (upd e_5 (23 : Int32).toNatClampNeg ((e_5 (23 : Int32).toNatClampNeg) + (1 : Int32))) _ _ _ _ hT hP hD hS dX7_remembers_107
  refine lv_icmp_ne (tgt := 54) hx hb dX7_remembers_9 (by decide) (fun c_7 => ?_) (fun c_7 => ?_)
  · have hT := it_f c_7 hT
    exact K_54 ls st (rm_j1 hsu c_7) s.heap [] hP hD hS (lv_sub hl [0] rfl) hT
  · have hT := it_t c_7 hT
    refine lv_bipush (v := 24) hx hb dX7_remembers_12 (by decide) ?_
    refine lv_istore_n (lv' := [(1, .int (24 : Int32)), (0, .ref (mk 0))]) hx hb dX7_remembers_14 rfl hl (by decide) rfl (fun ls hl => ?_)
    have L_15 : ∀ (n : Nat) (ls : Array Slot) (y_8 : Int32) (st_9 : Nat → Int32) (z1 : 24 ≤ y_8.toInt) (a2 : st_9 (23 : Int32).toNatClampNeg = st (23 : Int32).toNatClampNeg) (hm : ((231 : Int32).toInt - y_8.toInt).toNat < n) (H : Heap) (locs : List Loc) (hP : va_P D vwCl (MW cI cZ mk mg st_9 im ke se tx sh fa mt) H) (hD : va_D A (MW cI cZ mk mg st_9 im ke se tx sh fa mt)) (hS : va_S A s.heap H locs) (hl : lv_has ls 3 [(0, .ref (mk 0)), (1, .int y_8)]) (kont : ∀ (ls : Array Slot) (e_10 : Nat → Int32) (H : Heap) (locs : List Loc), va_P D vwCl (MW cI cZ mk mg e_10 im ke se tx sh fa mt) H → va_D A (MW cI cZ mk mg e_10 im ke se tx sh fa mt) → va_S A s.heap H locs → e_10 (23 : Int32).toNatClampNeg = st (23 : Int32).toNatClampNeg → lv_has ls 3 [(0, .ref (mk 0))] → e_10 = lp_X7_remembers_15 n y_8 st_9 → W p l e ({ frames := 0, cells := 0, slots := 0, locals := 0 } : Room) s m args below meth c H locs 0 0 Q (F0 m 43 ls [])), W p l e ({ frames := 0, cells := 0, slots := 0, locals := 0 } : Room) s m args below meth c H locs 0 0 Q (F0 m 15 ls []) := by
      intro n
      induction n with
      | zero => intro ls y_8 st_9 z1 a2 hm; exact absurd hm (Nat.not_lt_zero _)
      | succ n ih =>
        intro ls y_8 st_9 z1 a2 hm H locs hP hD hS hl kont
        have hT := lp_X7_remembers_15_s n y_8 st_9
        refine lv_iload_n hx hb dX7_remembers_15 rfl (lv_at hl 1 rfl) ?_
        refine lv_sipush (v := 231) hx hb dX7_remembers_16 (by decide) ?_
        refine lv_icmp_ge (tgt := 43) hx hb dX7_remembers_19 (by decide) (fun c_11 => ?_) (fun c_11 => ?_)
        · have hT := it_t c_11 hT
          exact kont ls st_9 H locs hP hD hS a2 (lv_sub hl [0] rfl) hT
        · have hT := it_f c_11 hT
          refine lv_aload_n hx hb dX7_remembers_22 rfl (lv_at hl 0 rfl) ?_
          refine gX7_st C hK hP wd_3_77 dX7_remembers_23 ?_
          refine lv_iload_n hx hb dX7_remembers_26 rfl (lv_at hl 1 rfl) ?_
          refine lv_aload_n hx hb dX7_remembers_27 rfl (lv_at hl 0 rfl) ?_
          refine gX7_st C hK hP wd_3_77 dX7_remembers_28 ?_
          refine lv_iload_n hx hb dX7_remembers_31 rfl (lv_at hl 1 rfl) ?_
          refine lv_bipush (v := 23) hx hb dX7_remembers_32 (by decide) ?_
          refine lv_iadd hx hb dX7_remembers_34 ?_
          refine aM_st C hK hP (rm_1 z1 c_11) dX7_remembers_35 ?_
          refine sM_st C hK hP hD hS (rm_2 z1 c_11) dX7_remembers_36 (fun H locs hP hD hS => ?_)
          refine lv_iinc (v := y_8 + 1) (lv' := [(1, .int (y_8 + 1)), (0, .ref (mk 0))]) hx hb dX7_remembers_37 hl (k := 1) rfl rfl (by decide) rfl (fun ls hl => ?_)
          refine lv_goto (tgt := 15) hx hb dX7_remembers_40 (by decide) ?_
          exact ih ls (y_8 + 1) (upd st_9 y_8.toNatClampNeg (st_9 (y_8 + (23 : Int32)).toNatClampNeg)) (up24 c_11 z1) ((rm_ne z1 c_11).trans a2) (ms_up c_11 hm) H locs hP hD hS (lv_sub hl [1, 0] rfl) (fun ls z0 H locs hP hD hS x0 hl he => kont ls z0 H locs hP hD hS x0 hl (he.trans hT))
    refine L_15 (((231 : Int32).toInt - (24 : Int32).toInt).toNat + 1) ls (24 : Int32) st (by decide) rfl (Nat.lt_succ_self _) s.heap [] hP hD hS (lv_sub hl [1, 0] rfl) (fun ls e_10 H locs hP hD hS a3 hl he => ?_)
    have hT := nm_u he hT
    refine lv_aload_n hx hb dX7_remembers_43 rfl (lv_at hl 0 rfl) ?_
    refine gX7_st C hK hP wd_3_77 dX7_remembers_44 ?_
    refine lv_bipush (v := 23) hx hb dX7_remembers_47 (by decide) ?_
    refine lv_dup2_11 hx hb dX7_remembers_49 rfl rfl ?_
    refine aM_st C hK hP (ix_of (by decide) (by decide)) dX7_remembers_50 ?_
    refine lv_iconst (v := 1) hx hb dX7_remembers_51 (by decide) ?_
    refine lv_isub hx hb dX7_remembers_52 ?_
    refine sM_st C hK hP hD hS (ix_of (by decide) (by decide)) dX7_remembers_53 (fun H locs hP hD hS => ?_)
    exact K_54 ls (upd e_10 (23 : Int32).toNatClampNeg ((e_10 (23 : Int32).toNatClampNeg) - (1 : Int32))) (rm_j2 a3 c_7) H locs hP hD hS (lv_sub hl [0] rfl) hT
theorem hv_X7_takes : yX7_takes.cls = RX7 ∧ yX7_takes.cls ≠ "java/lang/invoke/MethodHandle" ∧ yX7_takes.cls ≠ "java/lang/invoke/VarHandle" ∧ (parseMethodDescriptor yX7_takes.desc).map (fun d => d.parameters.length) = some 3 := by decide +kernel
theorem hd_X7_takes : yX7_takes.cls ≠ "java/lang/invoke/MethodHandle" ∧ yX7_takes.cls ≠ "java/lang/invoke/VarHandle" ∧ (parseMethodDescriptor yX7_takes.desc).map (fun d => d.parameters.length) = some 3 := hv_X7_takes.2
def sp_X7_takes (mg : Nat → Int32) (st : Nat → Int32) (x1 : Int32) (x2 : Int32) (x3 : Int32) : Int32 × (Nat → Int32) :=
  nm (sp_X7_isFamily x1) (fun r_1 => if r_1 = 0 then ((-1 : Int32), st) else (nm (sp_X7_isCell mg x2 x3) (fun r_3 => if r_3 = 0 then ((-1 : Int32), st) else (if 0 < (st (((5 : Int32) * x3) + x2).toNatClampNeg) then ((-2 : Int32), st) else (nm (sp_X7_isDry st (((5 : Int32) * x3) + x2)) (fun r_6 => if r_6 = 0 then ((-2 : Int32), st) else (nm (sp_X7_remembers st) (fun st_8 => nm (sp_X7_heldBy (upd st_8 (((5 : Int32) * x3) + x2).toNatClampNeg (x1 + (1 : Int32))) x1) (fun r_10 => nm (sp_X7_bits r_10) (fun r_11 => (r_11, upd st_8 (((5 : Int32) * x3) + x2).toNatClampNeg (x1 + (1 : Int32)))))))))))))
theorem sp_X7_takes_s (mg : Nat → Int32) (st : Nat → Int32) (x1 : Int32) (x2 : Int32) (x3 : Int32) : (nm (sp_X7_isFamily x1) (fun r_1 => if r_1 = 0 then ((-1 : Int32), st) else (nm (sp_X7_isCell mg x2 x3) (fun r_3 => if r_3 = 0 then ((-1 : Int32), st) else (if 0 < (st (((5 : Int32) * x3) + x2).toNatClampNeg) then ((-2 : Int32), st) else (nm (sp_X7_isDry st (((5 : Int32) * x3) + x2)) (fun r_6 => if r_6 = 0 then ((-2 : Int32), st) else (nm (sp_X7_remembers st) (fun st_8 => nm (sp_X7_heldBy (upd st_8 (((5 : Int32) * x3) + x2).toNatClampNeg (x1 + (1 : Int32))) x1) (fun r_10 => nm (sp_X7_bits r_10) (fun r_11 => (r_11, upd st_8 (((5 : Int32) * x3) + x2).toNatClampNeg (x1 + (1 : Int32)))))))))))))) = sp_X7_takes mg st x1 x2 x3 := rfl
set_option maxHeartbeats 4000000 in
set_option maxRecDepth 100000 in
theorem c_X7_takes {l : Launch} {D : va_G} {cI cZ cO : ClassId} {mk : Nat → Nat} {mg st im ke se tx sh fa : Nat → Int32} {mt : Int64} {x1 : Int32} {x2 : Int32} {x3 : Int32} (hw : 1 ≤ (mg 0).toInt ∧ (mg 0).toInt ≤ 5) (hh : 1 ≤ (mg 1).toInt ∧ (mg 1).toInt ≤ 4) (hsu : 0 ≤ (st (23 : Int32).toNatClampNeg).toInt ∧ (st (23 : Int32).toNatClampNeg).toInt ≤ 10) (sz : Nat) : Met l yX7_takes (wm yX7_takes cX7_takes 5 (some .int)) ({ frames := 2, cells := 0, slots := 0, locals := 44 } : Room) (GPre D (ty3 cI cZ cO) (MW cI cZ mk mg st im ke se tx sh fa mt) [.ref (mk 0), .int x1, .int x2, .int x3] sz) (va_Qi (fun r (u : (Nat → Int32)) => (r, u) = sp_X7_takes mg st x1 x2 x3) (fun u t => GAt D (ty3 cI cZ cO) (va_A (MW cI cZ mk mg st im ke se tx sh fa mt) sz) (MW cI cZ mk mg u im ke se tx sh fa mt) t) (va_A (MW cI cZ mk mg st im ke se tx sh fa mt) sz)) 0 0 (va_A (MW cI cZ mk mg st im ke se tx sh fa mt) sz) := by
  refine metQ_i (W1 := (fun (u : (Nat → Int32)) => MW cI cZ mk mg u im ke se tx sh fa mt)) (post := (fun r (u : (Nat → Int32)) => (r, u) = sp_X7_takes mg st x1 x2 x3)) (by decide) (Nat.le_of_ble_eq_true rfl) ?_
  intro p e s m args below meth c ls A Q C hsz hP hK hD hS hA hN hl hret
  have hx := C.1
  have hb := C.2.1
  have hl : lv_has ls 5 [(0, .ref (mk 0)), (1, .int x1), (2, .int x2), (3, .int x3)] := hl
  have hT := sp_X7_takes_s mg st x1 x2 x3
  refine lv_iload_n hx hb dX7_takes_0 rfl (lv_at hl 1 rfl) ?_
  refine vp_callSi (run_sP (As := [.int x1]) (rest := []) C hN (c_X7_isFamily) ⟨wd_3_215, wd_3_216, wd_1_8, wd_3_217⟩ ⟨rfl, rfl⟩ hd_X7_isFamily ⟨Nat.le_of_ble_eq_true rfl, Nat.le_of_ble_eq_true rfl⟩ rfl hl.1 rfl (Nat.le_of_ble_eq_true rfl) dX7_takes_1 ⟨Nat.zero_le _, Nat.zero_le _⟩) (fun r_1 hr_1 => ?_)
  have hT := nm_u hr_1.1 hT
  refine lv_if_eq (tgt := 16) hx hb dX7_takes_4 (by decide) (fun c_2 => ?_) (fun c_2 => ?_)
  · have hT := it_t c_2 hT
    refine lv_iconst (v := -1) hx hb dX7_takes_16 (by decide) ?_
    exact hret _ st _ _ _ _ hT hP hD hS dX7_takes_17
  · have hT := it_f c_2 hT
    refine lv_aload_n hx hb dX7_takes_7 rfl (lv_at hl 0 rfl) ?_
    refine lv_iload_n hx hb dX7_takes_8 rfl (lv_at hl 2 rfl) ?_
    refine lv_iload_n hx hb dX7_takes_9 rfl (lv_at hl 3 rfl) ?_
    refine vp_callSi (run_vP (As := [.int x2, .int x3]) (rest := []) C hK hP hD hN (c_X7_isCell _) (rX7_r hK hP) ⟨wd_3_195, wd_3_197, ws_27, wd_1_8, wd_3_198⟩ ⟨rfl, rfl⟩ hv_X7_isCell ⟨Nat.le_of_ble_eq_true rfl, Nat.le_of_ble_eq_true rfl⟩ rfl hl.1 rfl (Nat.le_of_ble_eq_true rfl) dX7_takes_10 ⟨Nat.zero_le _, Nat.zero_le _⟩) (fun r_3 hr_3 => ?_)
    have hT := nm_u hr_3.1 hT
    refine lv_if_ne (tgt := 18) hx hb dX7_takes_13 (by decide) (fun c_4 => ?_) (fun c_4 => ?_)
    · have hT := it_f c_4 hT
      refine lv_iconst (v := 5) hx hb dX7_takes_18 (by decide) ?_
      refine lv_iload_n hx hb dX7_takes_19 rfl (lv_at hl 3 rfl) ?_
      refine lv_imul hx hb dX7_takes_20 ?_
      refine lv_iload_n hx hb dX7_takes_21 rfl (lv_at hl 2 rfl) ?_
      refine lv_iadd hx hb dX7_takes_22 ?_
      refine lv_istore (lv' := [(4, .int (((5 : Int32) * x3) + x2)), (0, .ref (mk 0)), (1, .int x1), (2, .int x2), (3, .int x3)]) hx hb dX7_takes_23 hl (by decide) rfl (fun ls hl => ?_)
      refine lv_aload_n hx hb dX7_takes_25 rfl (lv_at hl 1 rfl) ?_
      refine gX7_st C hK hP wd_3_77 dX7_takes_26 ?_
      refine lv_iload hx hb dX7_takes_29 (lv_at hl 0 rfl) ?_
      refine aM_st C hK hP (cell_ix hw hh hr_3.1 c_4 (by decide)) dX7_takes_31 ?_
      refine lv_if_gt (tgt := 44) hx hb dX7_takes_32 (by decide) (fun c_5 => ?_) (fun c_5 => ?_)
      · have hT := it_t c_5 hT
        refine lv_bipush (v := -2) hx hb dX7_takes_44 (by decide) ?_
        exact hret _ st _ _ _ _ hT hP hD hS dX7_takes_46
      · have hT := it_f c_5 hT
        refine lv_aload_n hx hb dX7_takes_35 rfl (lv_at hl 1 rfl) ?_
        refine lv_iload hx hb dX7_takes_36 (lv_at hl 0 rfl) ?_
        refine vp_callSi (run_vP (As := [.int (((5 : Int32) * x3) + x2)]) (rest := []) C hK hP hD hN (c_X7_isDry _) (rX7_r hK hP) ⟨wd_3_199, wd_3_201, ws_28, wd_1_8, wd_3_202⟩ ⟨rfl, rfl⟩ hv_X7_isDry ⟨Nat.le_of_ble_eq_true rfl, Nat.le_of_ble_eq_true rfl⟩ rfl hl.1 rfl (Nat.le_of_ble_eq_true rfl) dX7_takes_38 ⟨Nat.zero_le _, Nat.zero_le _⟩) (fun r_6 hr_6 => ?_)
        have hT := nm_u hr_6.1 hT
        refine lv_if_ne (tgt := 47) hx hb dX7_takes_41 (by decide) (fun c_7 => ?_) (fun c_7 => ?_)
        · have hT := it_f c_7 hT
          refine lv_aload_n hx hb dX7_takes_47 rfl (lv_at hl 1 rfl) ?_
          refine on_v (run_vQ (As := []) (rest := []) C hK hP hD hN (c_X7_remembers hsu _) (rX7_r hK hP) ⟨wd_3_237, wd_3_239, ws_34, wd_1_8, wd_4_0⟩ ⟨rfl, rfl⟩ hv_X7_remembers ⟨Nat.le_of_ble_eq_true rfl, Nat.le_of_ble_eq_true rfl⟩ rfl hl.1 rfl (Nat.le_of_ble_eq_true rfl) dX7_takes_48 ⟨Nat.zero_le _, Nat.zero_le _⟩) hD hS hA (fun u H locs hp_9 hP hD hS => ?_)
          obtain ⟨st_8, rfl⟩ : ∃ z, z = u := ⟨_, rfl⟩
          have hP : va_P D vwCl (MW cI cZ mk mg st_8 im ke se tx sh fa mt) H := hP
          have hD : va_D A (MW cI cZ mk mg st_8 im ke se tx sh fa mt) := hD
          have hT := nm_u hp_9 hT
          refine lv_aload_n hx hb dX7_takes_51 rfl (lv_at hl 1 rfl) ?_
          refine gX7_st C hK hP wd_3_77 dX7_takes_52 ?_
          refine lv_iload hx hb dX7_takes_55 (lv_at hl 0 rfl) ?_
          refine lv_iload_n hx hb dX7_takes_57 rfl (lv_at hl 2 rfl) ?_
          refine lv_iconst (v := 1) hx hb dX7_takes_58 (by decide) ?_
          refine lv_iadd hx hb dX7_takes_59 ?_
          refine sM_st C hK hP hD hS (cell_ix hw hh hr_3.1 c_4 (by decide)) dX7_takes_60 (fun H locs hP hD hS => ?_)
          refine lv_aload_n hx hb dX7_takes_61 rfl (lv_at hl 1 rfl) ?_
          refine lv_iload_n hx hb dX7_takes_62 rfl (lv_at hl 2 rfl) ?_
          refine vp_callSi (run_vP (As := [.int x1]) (rest := []) C hK hP hD hN (c_X7_heldBy _) (rX7_r hK hP) ⟨wd_3_218, wd_3_220, ws_31, wd_1_8, wd_3_221⟩ ⟨rfl, rfl⟩ hv_X7_heldBy ⟨Nat.le_of_ble_eq_true rfl, Nat.le_of_ble_eq_true rfl⟩ rfl hl.1 rfl (Nat.le_of_ble_eq_true rfl) dX7_takes_63 ⟨Nat.zero_le _, Nat.zero_le _⟩) (fun r_10 hr_10 => ?_)
          have hT := nm_u hr_10 hT
          refine vp_callSi (run_sP (As := [.int r_10]) (rest := []) C hN (c_X7_bits) ⟨wd_3_226, wd_3_227, wd_1_8, wd_3_228⟩ ⟨rfl, rfl⟩ hd_X7_bits ⟨Nat.le_of_ble_eq_true rfl, Nat.le_of_ble_eq_true rfl⟩ rfl hl.1 rfl (Nat.le_of_ble_eq_true rfl) dX7_takes_66 ⟨Nat.zero_le _, Nat.zero_le _⟩) (fun r_11 hr_11 => ?_)
          have hT := nm_u hr_11 hT
          exact hret _ (upd st_8 (((5 : Int32) * x3) + x2).toNatClampNeg (x1 + (1 : Int32))) _ _ _ _ hT hP hD hS dX7_takes_69
        · have hT := it_t c_7 hT
          refine lv_bipush (v := -2) hx hb dX7_takes_44 (by decide) ?_
          exact hret _ st _ _ _ _ hT hP hD hS dX7_takes_46
    · have hT := it_t c_4 hT
      refine lv_iconst (v := -1) hx hb dX7_takes_16 (by decide) ?_
      exact hret _ st _ _ _ _ hT hP hD hS dX7_takes_17
theorem hv_X7_leaves : yX7_leaves.cls = RX7 ∧ yX7_leaves.cls ≠ "java/lang/invoke/MethodHandle" ∧ yX7_leaves.cls ≠ "java/lang/invoke/VarHandle" ∧ (parseMethodDescriptor yX7_leaves.desc).map (fun d => d.parameters.length) = some 2 := by decide +kernel
theorem hd_X7_leaves : yX7_leaves.cls ≠ "java/lang/invoke/MethodHandle" ∧ yX7_leaves.cls ≠ "java/lang/invoke/VarHandle" ∧ (parseMethodDescriptor yX7_leaves.desc).map (fun d => d.parameters.length) = some 2 := hv_X7_leaves.2
def sp_X7_leaves (mg : Nat → Int32) (st : Nat → Int32) (x1 : Int32) (x2 : Int32) : Int32 × (Nat → Int32) :=
  nm (sp_X7_isCell mg x1 x2) (fun r_1 => if r_1 = 0 then ((-1 : Int32), st) else (if (st (((5 : Int32) * x2) + x1).toNatClampNeg) = 0 then ((-2 : Int32), st) else (nm (sp_X7_remembers st) (fun st_4 => ((st (((5 : Int32) * x2) + x1).toNatClampNeg) - (1 : Int32), upd st_4 (((5 : Int32) * x2) + x1).toNatClampNeg (0 : Int32))))))
theorem sp_X7_leaves_s (mg : Nat → Int32) (st : Nat → Int32) (x1 : Int32) (x2 : Int32) : (nm (sp_X7_isCell mg x1 x2) (fun r_1 => if r_1 = 0 then ((-1 : Int32), st) else (if (st (((5 : Int32) * x2) + x1).toNatClampNeg) = 0 then ((-2 : Int32), st) else (nm (sp_X7_remembers st) (fun st_4 => ((st (((5 : Int32) * x2) + x1).toNatClampNeg) - (1 : Int32), upd st_4 (((5 : Int32) * x2) + x1).toNatClampNeg (0 : Int32))))))) = sp_X7_leaves mg st x1 x2 := rfl
set_option maxHeartbeats 4000000 in
set_option maxRecDepth 100000 in
theorem c_X7_leaves {l : Launch} {D : va_G} {cI cZ cO : ClassId} {mk : Nat → Nat} {mg st im ke se tx sh fa : Nat → Int32} {mt : Int64} {x1 : Int32} {x2 : Int32} (hw : 1 ≤ (mg 0).toInt ∧ (mg 0).toInt ≤ 5) (hh : 1 ≤ (mg 1).toInt ∧ (mg 1).toInt ≤ 4) (hsu : 0 ≤ (st (23 : Int32).toNatClampNeg).toInt ∧ (st (23 : Int32).toNatClampNeg).toInt ≤ 10) (sz : Nat) : Met l yX7_leaves (wm yX7_leaves cX7_leaves 5 (some .int)) ({ frames := 2, cells := 0, slots := 0, locals := 44 } : Room) (GPre D (ty3 cI cZ cO) (MW cI cZ mk mg st im ke se tx sh fa mt) [.ref (mk 0), .int x1, .int x2] sz) (va_Qi (fun r (u : (Nat → Int32)) => (r, u) = sp_X7_leaves mg st x1 x2) (fun u t => GAt D (ty3 cI cZ cO) (va_A (MW cI cZ mk mg st im ke se tx sh fa mt) sz) (MW cI cZ mk mg u im ke se tx sh fa mt) t) (va_A (MW cI cZ mk mg st im ke se tx sh fa mt) sz)) 0 0 (va_A (MW cI cZ mk mg st im ke se tx sh fa mt) sz) := by
  refine metQ_i (W1 := (fun (u : (Nat → Int32)) => MW cI cZ mk mg u im ke se tx sh fa mt)) (post := (fun r (u : (Nat → Int32)) => (r, u) = sp_X7_leaves mg st x1 x2)) (by decide) (Nat.le_of_ble_eq_true rfl) ?_
  intro p e s m args below meth c ls A Q C hsz hP hK hD hS hA hN hl hret
  have hx := C.1
  have hb := C.2.1
  have hl : lv_has ls 5 [(0, .ref (mk 0)), (1, .int x1), (2, .int x2)] := hl
  have hT := sp_X7_leaves_s mg st x1 x2
  refine lv_aload_n hx hb dX7_leaves_0 rfl (lv_at hl 0 rfl) ?_
  refine lv_iload_n hx hb dX7_leaves_1 rfl (lv_at hl 1 rfl) ?_
  refine lv_iload_n hx hb dX7_leaves_2 rfl (lv_at hl 2 rfl) ?_
  refine vp_callSi (run_vP (As := [.int x1, .int x2]) (rest := []) C hK hP hD hN (c_X7_isCell _) (rX7_r hK hP) ⟨wd_3_195, wd_3_197, ws_27, wd_1_8, wd_3_198⟩ ⟨rfl, rfl⟩ hv_X7_isCell ⟨Nat.le_of_ble_eq_true rfl, Nat.le_of_ble_eq_true rfl⟩ rfl hl.1 rfl (Nat.le_of_ble_eq_true rfl) dX7_leaves_3 ⟨Nat.zero_le _, Nat.zero_le _⟩) (fun r_1 hr_1 => ?_)
  have hT := nm_u hr_1.1 hT
  refine lv_if_ne (tgt := 11) hx hb dX7_leaves_6 (by decide) (fun c_2 => ?_) (fun c_2 => ?_)
  · have hT := it_f c_2 hT
    refine lv_iconst (v := 5) hx hb dX7_leaves_11 (by decide) ?_
    refine lv_iload_n hx hb dX7_leaves_12 rfl (lv_at hl 2 rfl) ?_
    refine lv_imul hx hb dX7_leaves_13 ?_
    refine lv_iload_n hx hb dX7_leaves_14 rfl (lv_at hl 1 rfl) ?_
    refine lv_iadd hx hb dX7_leaves_15 ?_
    refine lv_istore_n (lv' := [(3, .int (((5 : Int32) * x2) + x1)), (0, .ref (mk 0)), (1, .int x1), (2, .int x2)]) hx hb dX7_leaves_16 rfl hl (by decide) rfl (fun ls hl => ?_)
    refine lv_aload_n hx hb dX7_leaves_17 rfl (lv_at hl 1 rfl) ?_
    refine gX7_st C hK hP wd_3_77 dX7_leaves_18 ?_
    refine lv_iload_n hx hb dX7_leaves_21 rfl (lv_at hl 0 rfl) ?_
    refine aM_st C hK hP (cell_ix hw hh hr_1.1 c_2 (by decide)) dX7_leaves_22 ?_
    refine lv_istore (lv' := [(4, .int (st (((5 : Int32) * x2) + x1).toNatClampNeg)), (3, .int (((5 : Int32) * x2) + x1)), (0, .ref (mk 0)), (1, .int x1), (2, .int x2)]) hx hb dX7_leaves_23 hl (by decide) rfl (fun ls hl => ?_)
    refine lv_iload hx hb dX7_leaves_25 (lv_at hl 0 rfl) ?_
    refine lv_if_ne (tgt := 33) hx hb dX7_leaves_27 (by decide) (fun c_3 => ?_) (fun c_3 => ?_)
    · have hT := it_f c_3 hT
      refine lv_aload_n hx hb dX7_leaves_33 rfl (lv_at hl 2 rfl) ?_
      refine on_v (run_vQ (As := []) (rest := []) C hK hP hD hN (c_X7_remembers hsu _) (rX7_r hK hP) ⟨wd_3_237, wd_3_239, ws_34, wd_1_8, wd_4_0⟩ ⟨rfl, rfl⟩ hv_X7_remembers ⟨Nat.le_of_ble_eq_true rfl, Nat.le_of_ble_eq_true rfl⟩ rfl hl.1 rfl (Nat.le_of_ble_eq_true rfl) dX7_leaves_34 ⟨Nat.zero_le _, Nat.zero_le _⟩) hD hS hA (fun u H locs hp_5 hP hD hS => ?_)
      obtain ⟨st_4, rfl⟩ : ∃ z, z = u := ⟨_, rfl⟩
      have hP : va_P D vwCl (MW cI cZ mk mg st_4 im ke se tx sh fa mt) H := hP
      have hD : va_D A (MW cI cZ mk mg st_4 im ke se tx sh fa mt) := hD
      have hT := nm_u hp_5 hT
      refine lv_aload_n hx hb dX7_leaves_37 rfl (lv_at hl 2 rfl) ?_
      refine gX7_st C hK hP wd_3_77 dX7_leaves_38 ?_
      refine lv_iload_n hx hb dX7_leaves_41 rfl (lv_at hl 1 rfl) ?_
      refine lv_iconst (v := 0) hx hb dX7_leaves_42 (by decide) ?_
      refine sM_st C hK hP hD hS (cell_ix hw hh hr_1.1 c_2 (by decide)) dX7_leaves_43 (fun H locs hP hD hS => ?_)
      refine lv_iload hx hb dX7_leaves_44 (lv_at hl 0 rfl) ?_
      refine lv_iconst (v := 1) hx hb dX7_leaves_46 (by decide) ?_
      refine lv_isub hx hb dX7_leaves_47 ?_
      exact hret _ (upd st_4 (((5 : Int32) * x2) + x1).toNatClampNeg (0 : Int32)) _ _ _ _ hT hP hD hS dX7_leaves_48
    · have hT := it_t c_3 hT
      refine lv_bipush (v := -2) hx hb dX7_leaves_30 (by decide) ?_
      exact hret _ st _ _ _ _ hT hP hD hS dX7_leaves_32
  · have hT := it_t c_2 hT
    refine lv_iconst (v := -1) hx hb dX7_leaves_9 (by decide) ?_
    exact hret _ st _ _ _ _ hT hP hD hS dX7_leaves_10
theorem hv_X7_puts : yX7_puts.cls = RX7 ∧ yX7_puts.cls ≠ "java/lang/invoke/MethodHandle" ∧ yX7_puts.cls ≠ "java/lang/invoke/VarHandle" ∧ (parseMethodDescriptor yX7_puts.desc).map (fun d => d.parameters.length) = some 3 := by decide +kernel
theorem hd_X7_puts : yX7_puts.cls ≠ "java/lang/invoke/MethodHandle" ∧ yX7_puts.cls ≠ "java/lang/invoke/VarHandle" ∧ (parseMethodDescriptor yX7_puts.desc).map (fun d => d.parameters.length) = some 3 := hv_X7_puts.2
def jn_X7_puts_49 (st : Nat → Int32) (x1 : Int32) (x2 : Int32) (r_5 : Int32) (v_6 : Int32) : Int32 × (Nat → Int32) :=
  if r_5 = v_6 then ((-2 : Int32), st) else (nm (sp_X7_isDry st (((5 : Int32) * x2) + x1)) (fun r_8 => if r_8 = 0 then ((-2 : Int32), st) else (nm (sp_X7_remembers st) (fun st_10 => nm (sp_X7_bits ((upd st_10 (20 : Int32).toNatClampNeg ((st_10 (20 : Int32).toNatClampNeg) ^^^ ((1 : Int32) <<< ((((5 : Int32) * x2) + x1) &&& 31)))) (20 : Int32).toNatClampNeg)) (fun r_12 => (r_12, upd st_10 (20 : Int32).toNatClampNeg ((st_10 (20 : Int32).toNatClampNeg) ^^^ ((1 : Int32) <<< ((((5 : Int32) * x2) + x1) &&& 31)))))))))
theorem jn_X7_puts_49_s (st : Nat → Int32) (x1 : Int32) (x2 : Int32) (r_5 : Int32) (v_6 : Int32) : (if r_5 = v_6 then ((-2 : Int32), st) else (nm (sp_X7_isDry st (((5 : Int32) * x2) + x1)) (fun r_8 => if r_8 = 0 then ((-2 : Int32), st) else (nm (sp_X7_remembers st) (fun st_10 => nm (sp_X7_bits ((upd st_10 (20 : Int32).toNatClampNeg ((st_10 (20 : Int32).toNatClampNeg) ^^^ ((1 : Int32) <<< ((((5 : Int32) * x2) + x1) &&& 31)))) (20 : Int32).toNatClampNeg)) (fun r_12 => (r_12, upd st_10 (20 : Int32).toNatClampNeg ((st_10 (20 : Int32).toNatClampNeg) ^^^ ((1 : Int32) <<< ((((5 : Int32) * x2) + x1) &&& 31)))))))))) = jn_X7_puts_49 st x1 x2 r_5 v_6 := rfl
def sp_X7_puts (mg : Nat → Int32) (st : Nat → Int32) (x1 : Int32) (x2 : Int32) (x3 : Int32) : Int32 × (Nat → Int32) :=
  nm (sp_X7_isCell mg x1 x2) (fun r_1 => if r_1 = 0 then ((-1 : Int32), st) else (nm (sp_X7_in x3 (0 : Int32) (1 : Int32)) (fun r_3 => if r_3 = 0 then ((-1 : Int32), st) else (nm (sp_X7_has (st (20 : Int32).toNatClampNeg) (((5 : Int32) * x2) + x1)) (fun r_5 => if x3 = (1 : Int32) then (jn_X7_puts_49 st x1 x2 r_5 (1 : Int32)) else (jn_X7_puts_49 st x1 x2 r_5 (0 : Int32)))))))
theorem sp_X7_puts_s (mg : Nat → Int32) (st : Nat → Int32) (x1 : Int32) (x2 : Int32) (x3 : Int32) : (nm (sp_X7_isCell mg x1 x2) (fun r_1 => if r_1 = 0 then ((-1 : Int32), st) else (nm (sp_X7_in x3 (0 : Int32) (1 : Int32)) (fun r_3 => if r_3 = 0 then ((-1 : Int32), st) else (nm (sp_X7_has (st (20 : Int32).toNatClampNeg) (((5 : Int32) * x2) + x1)) (fun r_5 => if x3 = (1 : Int32) then (jn_X7_puts_49 st x1 x2 r_5 (1 : Int32)) else (jn_X7_puts_49 st x1 x2 r_5 (0 : Int32)))))))) = sp_X7_puts mg st x1 x2 x3 := rfl
set_option maxHeartbeats 4000000 in
set_option maxRecDepth 100000 in
theorem c_X7_puts {l : Launch} {D : va_G} {cI cZ cO : ClassId} {mk : Nat → Nat} {mg st im ke se tx sh fa : Nat → Int32} {mt : Int64} {x1 : Int32} {x2 : Int32} {x3 : Int32} (hw : 1 ≤ (mg 0).toInt ∧ (mg 0).toInt ≤ 5) (hh : 1 ≤ (mg 1).toInt ∧ (mg 1).toInt ≤ 4) (hsu : 0 ≤ (st (23 : Int32).toNatClampNeg).toInt ∧ (st (23 : Int32).toNatClampNeg).toInt ≤ 10) (sz : Nat) : Met l yX7_puts (wm yX7_puts cX7_puts 5 (some .int)) ({ frames := 2, cells := 0, slots := 0, locals := 44 } : Room) (GPre D (ty3 cI cZ cO) (MW cI cZ mk mg st im ke se tx sh fa mt) [.ref (mk 0), .int x1, .int x2, .int x3] sz) (va_Qi (fun r (u : (Nat → Int32)) => (r, u) = sp_X7_puts mg st x1 x2 x3) (fun u t => GAt D (ty3 cI cZ cO) (va_A (MW cI cZ mk mg st im ke se tx sh fa mt) sz) (MW cI cZ mk mg u im ke se tx sh fa mt) t) (va_A (MW cI cZ mk mg st im ke se tx sh fa mt) sz)) 0 0 (va_A (MW cI cZ mk mg st im ke se tx sh fa mt) sz) := by
  refine metQ_i (W1 := (fun (u : (Nat → Int32)) => MW cI cZ mk mg u im ke se tx sh fa mt)) (post := (fun r (u : (Nat → Int32)) => (r, u) = sp_X7_puts mg st x1 x2 x3)) (by decide) (Nat.le_of_ble_eq_true rfl) ?_
  intro p e s m args below meth c ls A Q C hsz hP hK hD hS hA hN hl hret
  have hx := C.1
  have hb := C.2.1
  have hl : lv_has ls 5 [(0, .ref (mk 0)), (1, .int x1), (2, .int x2), (3, .int x3)] := hl
  have hT := sp_X7_puts_s mg st x1 x2 x3
  refine lv_aload_n hx hb dX7_puts_0 rfl (lv_at hl 0 rfl) ?_
  refine lv_iload_n hx hb dX7_puts_1 rfl (lv_at hl 1 rfl) ?_
  refine lv_iload_n hx hb dX7_puts_2 rfl (lv_at hl 2 rfl) ?_
  refine vp_callSi (run_vP (As := [.int x1, .int x2]) (rest := []) C hK hP hD hN (c_X7_isCell _) (rX7_r hK hP) ⟨wd_3_195, wd_3_197, ws_27, wd_1_8, wd_3_198⟩ ⟨rfl, rfl⟩ hv_X7_isCell ⟨Nat.le_of_ble_eq_true rfl, Nat.le_of_ble_eq_true rfl⟩ rfl hl.1 rfl (Nat.le_of_ble_eq_true rfl) dX7_puts_3 ⟨Nat.zero_le _, Nat.zero_le _⟩) (fun r_1 hr_1 => ?_)
  have hT := nm_u hr_1.1 hT
  refine lv_if_eq (tgt := 18) hx hb dX7_puts_6 (by decide) (fun c_2 => ?_) (fun c_2 => ?_)
  · have hT := it_t c_2 hT
    refine lv_iconst (v := -1) hx hb dX7_puts_18 (by decide) ?_
    exact hret _ st _ _ _ _ hT hP hD hS dX7_puts_19
  · have hT := it_f c_2 hT
    refine lv_iload_n hx hb dX7_puts_9 rfl (lv_at hl 3 rfl) ?_
    refine lv_iconst (v := 0) hx hb dX7_puts_10 (by decide) ?_
    refine lv_iconst (v := 1) hx hb dX7_puts_11 (by decide) ?_
    refine vp_callSi (run_sP (As := [.int x3, .int (0 : Int32), .int (1 : Int32)]) (rest := []) C hN (c_X7_in) ⟨wd_3_147, wd_3_148, wd_1_8, wd_3_149⟩ ⟨rfl, rfl⟩ hd_X7_in ⟨Nat.le_of_ble_eq_true rfl, Nat.le_of_ble_eq_true rfl⟩ rfl hl.1 rfl (Nat.le_of_ble_eq_true rfl) dX7_puts_12 ⟨Nat.zero_le _, Nat.zero_le _⟩) (fun r_3 hr_3 => ?_)
    have hT := nm_u hr_3.1 hT
    refine lv_if_ne (tgt := 20) hx hb dX7_puts_15 (by decide) (fun c_4 => ?_) (fun c_4 => ?_)
    · have hT := it_f c_4 hT
      refine lv_iconst (v := 5) hx hb dX7_puts_20 (by decide) ?_
      refine lv_iload_n hx hb dX7_puts_21 rfl (lv_at hl 2 rfl) ?_
      refine lv_imul hx hb dX7_puts_22 ?_
      refine lv_iload_n hx hb dX7_puts_23 rfl (lv_at hl 1 rfl) ?_
      refine lv_iadd hx hb dX7_puts_24 ?_
      refine lv_istore (lv' := [(4, .int (((5 : Int32) * x2) + x1)), (0, .ref (mk 0)), (1, .int x1), (2, .int x2), (3, .int x3)]) hx hb dX7_puts_25 hl (by decide) rfl (fun ls hl => ?_)
      refine lv_aload_n hx hb dX7_puts_27 rfl (lv_at hl 1 rfl) ?_
      refine gX7_st C hK hP wd_3_77 dX7_puts_28 ?_
      refine lv_bipush (v := 20) hx hb dX7_puts_31 (by decide) ?_
      refine aM_st C hK hP (ix_of (by decide) (by decide)) dX7_puts_33 ?_
      refine lv_iload hx hb dX7_puts_34 (lv_at hl 0 rfl) ?_
      refine vp_callSi (run_sP (As := [.int (st (20 : Int32).toNatClampNeg), .int (((5 : Int32) * x2) + x1)]) (rest := []) C hN (c_X7_has) ⟨wd_3_184, wd_3_185, wd_1_8, wd_3_186⟩ ⟨rfl, rfl⟩ hd_X7_has ⟨Nat.le_of_ble_eq_true rfl, Nat.le_of_ble_eq_true rfl⟩ rfl hl.1 rfl (Nat.le_of_ble_eq_true rfl) dX7_puts_36 ⟨Nat.zero_le _, Nat.zero_le _⟩) (fun r_5 hr_5 => ?_)
      have hT := nm_u hr_5.1 hT
      refine lv_iload_n hx hb dX7_puts_39 rfl (lv_at hl 4 rfl) ?_
      refine lv_iconst (v := 1) hx hb dX7_puts_40 (by decide) ?_
      have K_49 : ∀ (ls : Array Slot) (v_6 : Int32) (bo_v_6 : v_6 = 0 ∨ v_6 = 1) (hl : lv_has ls 5 [(0, .ref (mk 0)), (4, .int (((5 : Int32) * x2) + x1))]) (hT0 : jn_X7_puts_49 st x1 x2 r_5 v_6 = sp_X7_puts mg st x1 x2 x3), W p l e ({ frames := 2, cells := 0, slots := 0, locals := 44 } : Room) s m args below meth c s.heap [] 0 0 Q (F0 m 49 ls [.int v_6, .int r_5]) := by
        intro ls v_6 bo_v_6 hl hT0
        have hT := (jn_X7_puts_49_s st x1 x2 r_5 v_6).trans hT0
        refine lv_icmp_eq (tgt := 61) hx hb dX7_puts_49 (by decide) (fun c_7 => ?_) (fun c_7 => ?_)
        · have hT := it_t c_7 hT
          refine lv_bipush (v := -2) hx hb dX7_puts_61 (by decide) ?_
          exact hret _ st _ _ _ _ hT hP hD hS dX7_puts_63
        · have hT := it_f c_7 hT
          refine lv_aload_n hx hb dX7_puts_52 rfl (lv_at hl 0 rfl) ?_
          refine lv_iload hx hb dX7_puts_53 (lv_at hl 1 rfl) ?_
          refine vp_callSi (run_vP (As := [.int (((5 : Int32) * x2) + x1)]) (rest := []) C hK hP hD hN (c_X7_isDry _) (rX7_r hK hP) ⟨wd_3_199, wd_3_201, ws_28, wd_1_8, wd_3_202⟩ ⟨rfl, rfl⟩ hv_X7_isDry ⟨Nat.le_of_ble_eq_true rfl, Nat.le_of_ble_eq_true rfl⟩ rfl hl.1 rfl (Nat.le_of_ble_eq_true rfl) dX7_puts_55 ⟨Nat.zero_le _, Nat.zero_le _⟩) (fun r_8 hr_8 => ?_)
          have hT := nm_u hr_8.1 hT
          refine lv_if_ne (tgt := 64) hx hb dX7_puts_58 (by decide) (fun c_9 => ?_) (fun c_9 => ?_)
          · have hT := it_f c_9 hT
            refine lv_aload_n hx hb dX7_puts_64 rfl (lv_at hl 0 rfl) ?_
            refine on_v (run_vQ (As := []) (rest := []) C hK hP hD hN (c_X7_remembers hsu _) (rX7_r hK hP) ⟨wd_3_237, wd_3_239, ws_34, wd_1_8, wd_4_0⟩ ⟨rfl, rfl⟩ hv_X7_remembers ⟨Nat.le_of_ble_eq_true rfl, Nat.le_of_ble_eq_true rfl⟩ rfl hl.1 rfl (Nat.le_of_ble_eq_true rfl) dX7_puts_65 ⟨Nat.zero_le _, Nat.zero_le _⟩) hD hS hA (fun u H locs hp_11 hP hD hS => ?_)
            obtain ⟨st_10, rfl⟩ : ∃ z, z = u := ⟨_, rfl⟩
            have hP : va_P D vwCl (MW cI cZ mk mg st_10 im ke se tx sh fa mt) H := hP
            have hD : va_D A (MW cI cZ mk mg st_10 im ke se tx sh fa mt) := hD
            have hT := nm_u hp_11 hT
            refine lv_aload_n hx hb dX7_puts_68 rfl (lv_at hl 0 rfl) ?_
            refine gX7_st C hK hP wd_3_77 dX7_puts_69 ?_
            refine lv_bipush (v := 20) hx hb dX7_puts_72 (by decide) ?_
            refine lv_dup2_11 hx hb dX7_puts_74 rfl rfl ?_
            refine aM_st C hK hP (ix_of (by decide) (by decide)) dX7_puts_75 ?_
            refine lv_iconst (v := 1) hx hb dX7_puts_76 (by decide) ?_
            refine lv_iload hx hb dX7_puts_77 (lv_at hl 1 rfl) ?_
            refine lv_ishl hx hb dX7_puts_79 ?_
            refine lv_ixor hx hb dX7_puts_80 ?_
            refine sM_st C hK hP hD hS (ix_of (by decide) (by decide)) dX7_puts_81 (fun H locs hP hD hS => ?_)
            refine lv_aload_n hx hb dX7_puts_82 rfl (lv_at hl 0 rfl) ?_
            refine gX7_st C hK hP wd_3_77 dX7_puts_83 ?_
            refine lv_bipush (v := 20) hx hb dX7_puts_86 (by decide) ?_
            refine aM_st C hK hP (ix_of (by decide) (by decide)) dX7_puts_88 ?_
            refine vp_callSi (run_sP (As := [.int ((upd st_10 (20 : Int32).toNatClampNeg ((st_10 (20 : Int32).toNatClampNeg) ^^^ ((1 : Int32) <<< ((((5 : Int32) * x2) + x1) &&& 31)))) (20 : Int32).toNatClampNeg)]) (rest := []) C hN (c_X7_bits) ⟨wd_3_226, wd_3_227, wd_1_8, wd_3_228⟩ ⟨rfl, rfl⟩ hd_X7_bits ⟨Nat.le_of_ble_eq_true rfl, Nat.le_of_ble_eq_true rfl⟩ rfl hl.1 rfl (Nat.le_of_ble_eq_true rfl) dX7_puts_89 ⟨Nat.zero_le _, Nat.zero_le _⟩) (fun r_12 hr_12 => ?_)
            have hT := nm_u hr_12 hT
            exact hret _ (upd st_10 (20 : Int32).toNatClampNeg ((st_10 (20 : Int32).toNatClampNeg) ^^^ ((1 : Int32) <<< ((((5 : Int32) * x2) + x1) &&& 31)))) _ _ _ _ hT hP hD hS dX7_puts_92
          · have hT := it_t c_9 hT
            refine lv_bipush (v := -2) hx hb dX7_puts_61 (by decide) ?_
            exact hret _ st _ _ _ _ hT hP hD hS dX7_puts_63
      refine lv_icmp_ne (tgt := 48) hx hb dX7_puts_41 (by decide) (fun c_13 => ?_) (fun c_13 => ?_)
      · have hT := it_f c_13 hT
        refine lv_iconst (v := 0) hx hb dX7_puts_48 (by decide) ?_
        exact K_49 ls (0 : Int32) (Or.inl rfl) (lv_sub hl [1, 0] rfl) hT
      · have hT := it_t c_13 hT
        refine lv_iconst (v := 1) hx hb dX7_puts_44 (by decide) ?_
        refine lv_goto (tgt := 49) hx hb dX7_puts_45 (by decide) ?_
        exact K_49 ls (1 : Int32) (Or.inr rfl) (lv_sub hl [1, 0] rfl) hT
    · have hT := it_t c_4 hT
      refine lv_iconst (v := -1) hx hb dX7_puts_18 (by decide) ?_
      exact hret _ st _ _ _ _ hT hP hD hS dX7_puts_19
theorem hv_X7_veers : yX7_veers.cls = RX7 ∧ yX7_veers.cls ≠ "java/lang/invoke/MethodHandle" ∧ yX7_veers.cls ≠ "java/lang/invoke/VarHandle" ∧ (parseMethodDescriptor yX7_veers.desc).map (fun d => d.parameters.length) = some 0 := by decide +kernel
theorem hd_X7_veers : yX7_veers.cls ≠ "java/lang/invoke/MethodHandle" ∧ yX7_veers.cls ≠ "java/lang/invoke/VarHandle" ∧ (parseMethodDescriptor yX7_veers.desc).map (fun d => d.parameters.length) = some 0 := hv_X7_veers.2
def sp_X7_veers (st : Nat → Int32) : Int32 × (Nat → Int32) :=
  nm (sp_X7_remembers st) (fun st_1 => ((upd st_1 (21 : Int32).toNatClampNeg ((1 : Int32) - (st_1 (21 : Int32).toNatClampNeg))) (21 : Int32).toNatClampNeg, upd st_1 (21 : Int32).toNatClampNeg ((1 : Int32) - (st_1 (21 : Int32).toNatClampNeg))))
theorem sp_X7_veers_s (st : Nat → Int32) : (nm (sp_X7_remembers st) (fun st_1 => ((upd st_1 (21 : Int32).toNatClampNeg ((1 : Int32) - (st_1 (21 : Int32).toNatClampNeg))) (21 : Int32).toNatClampNeg, upd st_1 (21 : Int32).toNatClampNeg ((1 : Int32) - (st_1 (21 : Int32).toNatClampNeg))))) = sp_X7_veers st := rfl
set_option maxHeartbeats 4000000 in
set_option maxRecDepth 100000 in
theorem c_X7_veers {l : Launch} {D : va_G} {cI cZ cO : ClassId} {mk : Nat → Nat} {mg st im ke se tx sh fa : Nat → Int32} {mt : Int64}  (hsu : 0 ≤ (st (23 : Int32).toNatClampNeg).toInt ∧ (st (23 : Int32).toNatClampNeg).toInt ≤ 10) (sz : Nat) : Met l yX7_veers (wm yX7_veers cX7_veers 1 (some .int)) ({ frames := 1, cells := 0, slots := 0, locals := 22 } : Room) (GPre D (ty3 cI cZ cO) (MW cI cZ mk mg st im ke se tx sh fa mt) [.ref (mk 0)] sz) (va_Qi (fun r (u : (Nat → Int32)) => (r, u) = sp_X7_veers st) (fun u t => GAt D (ty3 cI cZ cO) (va_A (MW cI cZ mk mg st im ke se tx sh fa mt) sz) (MW cI cZ mk mg u im ke se tx sh fa mt) t) (va_A (MW cI cZ mk mg st im ke se tx sh fa mt) sz)) 0 0 (va_A (MW cI cZ mk mg st im ke se tx sh fa mt) sz) := by
  refine metQ_i (W1 := (fun (u : (Nat → Int32)) => MW cI cZ mk mg u im ke se tx sh fa mt)) (post := (fun r (u : (Nat → Int32)) => (r, u) = sp_X7_veers st)) (by decide) (Nat.le_of_ble_eq_true rfl) ?_
  intro p e s m args below meth c ls A Q C hsz hP hK hD hS hA hN hl hret
  have hx := C.1
  have hb := C.2.1
  have hl : lv_has ls 1 [(0, .ref (mk 0))] := hl
  have hT := sp_X7_veers_s st
  refine lv_aload_n hx hb dX7_veers_0 rfl (lv_at hl 0 rfl) ?_
  refine on_v (run_vQ (As := []) (rest := []) C hK hP hD hN (c_X7_remembers hsu _) (rX7_r hK hP) ⟨wd_3_237, wd_3_239, ws_34, wd_1_8, wd_4_0⟩ ⟨rfl, rfl⟩ hv_X7_remembers ⟨Nat.le_of_ble_eq_true rfl, Nat.le_of_ble_eq_true rfl⟩ rfl hl.1 rfl (Nat.le_of_ble_eq_true rfl) dX7_veers_1 ⟨Nat.zero_le _, Nat.zero_le _⟩) hD hS hA (fun u H locs hp_2 hP hD hS => ?_)
  obtain ⟨st_1, rfl⟩ : ∃ z, z = u := ⟨_, rfl⟩
  have hP : va_P D vwCl (MW cI cZ mk mg st_1 im ke se tx sh fa mt) H := hP
  have hD : va_D A (MW cI cZ mk mg st_1 im ke se tx sh fa mt) := hD
  have hT := nm_u hp_2 hT
  refine lv_aload_n hx hb dX7_veers_4 rfl (lv_at hl 0 rfl) ?_
  refine gX7_st C hK hP wd_3_77 dX7_veers_5 ?_
  refine lv_bipush (v := 21) hx hb dX7_veers_8 (by decide) ?_
  refine lv_iconst (v := 1) hx hb dX7_veers_10 (by decide) ?_
  refine lv_aload_n hx hb dX7_veers_11 rfl (lv_at hl 0 rfl) ?_
  refine gX7_st C hK hP wd_3_77 dX7_veers_12 ?_
  refine lv_bipush (v := 21) hx hb dX7_veers_15 (by decide) ?_
  refine aM_st C hK hP (ix_of (by decide) (by decide)) dX7_veers_17 ?_
  refine lv_isub hx hb dX7_veers_18 ?_
  refine sM_st C hK hP hD hS (ix_of (by decide) (by decide)) dX7_veers_19 (fun H locs hP hD hS => ?_)
  refine lv_aload_n hx hb dX7_veers_20 rfl (lv_at hl 0 rfl) ?_
  refine gX7_st C hK hP wd_3_77 dX7_veers_21 ?_
  refine lv_bipush (v := 21) hx hb dX7_veers_24 (by decide) ?_
  refine aM_st C hK hP (ix_of (by decide) (by decide)) dX7_veers_26 ?_
  exact hret _ (upd st_1 (21 : Int32).toNatClampNeg ((1 : Int32) - (st_1 (21 : Int32).toNatClampNeg))) _ _ _ _ hT hP hD hS dX7_veers_27
theorem hv_X7_tide : yX7_tide.cls = RX7 ∧ yX7_tide.cls ≠ "java/lang/invoke/MethodHandle" ∧ yX7_tide.cls ≠ "java/lang/invoke/VarHandle" ∧ (parseMethodDescriptor yX7_tide.desc).map (fun d => d.parameters.length) = some 1 := by decide +kernel
theorem hd_X7_tide : yX7_tide.cls ≠ "java/lang/invoke/MethodHandle" ∧ yX7_tide.cls ≠ "java/lang/invoke/VarHandle" ∧ (parseMethodDescriptor yX7_tide.desc).map (fun d => d.parameters.length) = some 1 := hv_X7_tide.2
def lp_X7_tide_63 : Nat → Int32 → (Nat → Int32) → (Nat → Int32)
  | 0, y_8, st_9 => st_9
  | n + 1, y_8, st_9 => if (20 : Int32) ≤ y_8 then st_9 else (nm (sp_X7_isDry st_9 y_8) (fun r_12 => if r_12 = 0 then (lp_X7_tide_63 n (y_8 + 1) (upd (upd st_9 y_8.toNatClampNeg (0 : Int32)) (20 : Int32).toNatClampNeg (((upd st_9 y_8.toNatClampNeg (0 : Int32)) (20 : Int32).toNatClampNeg) &&& (((1 : Int32) <<< (y_8 &&& 31)) ^^^ (-1 : Int32))))) else (lp_X7_tide_63 n (y_8 + 1) st_9)))
theorem lp_X7_tide_63_s (n : Nat) (y_8 : Int32) (st_9 : Nat → Int32) : (if (20 : Int32) ≤ y_8 then st_9 else (nm (sp_X7_isDry st_9 y_8) (fun r_12 => if r_12 = 0 then (lp_X7_tide_63 n (y_8 + 1) (upd (upd st_9 y_8.toNatClampNeg (0 : Int32)) (20 : Int32).toNatClampNeg (((upd st_9 y_8.toNatClampNeg (0 : Int32)) (20 : Int32).toNatClampNeg) &&& (((1 : Int32) <<< (y_8 &&& 31)) ^^^ (-1 : Int32))))) else (lp_X7_tide_63 n (y_8 + 1) st_9)))) = lp_X7_tide_63 (n + 1) y_8 st_9 := rfl
def jn_X7_tide_59 (st_5 : Nat → Int32) (v_7 : Int32) : Int32 × (Nat → Int32) :=
  nm (lp_X7_tide_63 (((20 : Int32).toInt - (0 : Int32).toInt).toNat + 1) (0 : Int32) (upd st_5 (22 : Int32).toNatClampNeg ((st_5 (22 : Int32).toNatClampNeg) + v_7))) (fun e_10 => (e_10 (22 : Int32).toNatClampNeg, e_10))
theorem jn_X7_tide_59_s (st_5 : Nat → Int32) (v_7 : Int32) : (nm (lp_X7_tide_63 (((20 : Int32).toInt - (0 : Int32).toInt).toNat + 1) (0 : Int32) (upd st_5 (22 : Int32).toNatClampNeg ((st_5 (22 : Int32).toNatClampNeg) + v_7))) (fun e_10 => (e_10 (22 : Int32).toNatClampNeg, e_10))) = jn_X7_tide_59 st_5 v_7 := rfl
def jn_X7_tide_31 (st : Nat → Int32) (x1 : Int32) (v_3 : Int32) : Int32 × (Nat → Int32) :=
  if (st (22 : Int32).toNatClampNeg) = v_3 then ((-2 : Int32), st) else (nm (sp_X7_remembers st) (fun st_5 => if x1 = (1 : Int32) then (jn_X7_tide_59 st_5 (1 : Int32)) else (jn_X7_tide_59 st_5 (-1 : Int32))))
theorem jn_X7_tide_31_s (st : Nat → Int32) (x1 : Int32) (v_3 : Int32) : (if (st (22 : Int32).toNatClampNeg) = v_3 then ((-2 : Int32), st) else (nm (sp_X7_remembers st) (fun st_5 => if x1 = (1 : Int32) then (jn_X7_tide_59 st_5 (1 : Int32)) else (jn_X7_tide_59 st_5 (-1 : Int32))))) = jn_X7_tide_31 st x1 v_3 := rfl
def sp_X7_tide (mg : Nat → Int32) (st : Nat → Int32) (x1 : Int32) : Int32 × (Nat → Int32) :=
  nm (sp_X7_in x1 (0 : Int32) (1 : Int32)) (fun r_1 => if r_1 = 0 then ((-1 : Int32), st) else (if x1 = (1 : Int32) then (jn_X7_tide_31 st x1 (mg 1)) else (jn_X7_tide_31 st x1 (0 : Int32))))
theorem sp_X7_tide_s (mg : Nat → Int32) (st : Nat → Int32) (x1 : Int32) : (nm (sp_X7_in x1 (0 : Int32) (1 : Int32)) (fun r_1 => if r_1 = 0 then ((-1 : Int32), st) else (if x1 = (1 : Int32) then (jn_X7_tide_31 st x1 (mg 1)) else (jn_X7_tide_31 st x1 (0 : Int32))))) = sp_X7_tide mg st x1 := rfl
set_option maxHeartbeats 4000000 in
set_option maxRecDepth 100000 in
theorem c_X7_tide {l : Launch} {D : va_G} {cI cZ cO : ClassId} {mk : Nat → Nat} {mg st im ke se tx sh fa : Nat → Int32} {mt : Int64} {x1 : Int32} (hsu : 0 ≤ (st (23 : Int32).toNatClampNeg).toInt ∧ (st (23 : Int32).toNatClampNeg).toInt ≤ 10) (sz : Nat) : Met l yX7_tide (wm yX7_tide cX7_tide 3 (some .int)) ({ frames := 1, cells := 0, slots := 0, locals := 22 } : Room) (GPre D (ty3 cI cZ cO) (MW cI cZ mk mg st im ke se tx sh fa mt) [.ref (mk 0), .int x1] sz) (va_Qi (fun r (u : (Nat → Int32)) => (r, u) = sp_X7_tide mg st x1) (fun u t => GAt D (ty3 cI cZ cO) (va_A (MW cI cZ mk mg st im ke se tx sh fa mt) sz) (MW cI cZ mk mg u im ke se tx sh fa mt) t) (va_A (MW cI cZ mk mg st im ke se tx sh fa mt) sz)) 0 0 (va_A (MW cI cZ mk mg st im ke se tx sh fa mt) sz) := by
  refine metQ_i (W1 := (fun (u : (Nat → Int32)) => MW cI cZ mk mg u im ke se tx sh fa mt)) (post := (fun r (u : (Nat → Int32)) => (r, u) = sp_X7_tide mg st x1)) (by decide) (Nat.le_of_ble_eq_true rfl) ?_
  intro p e s m args below meth c ls A Q C hsz hP hK hD hS hA hN hl hret
  have hx := C.1
  have hb := C.2.1
  have hl : lv_has ls 3 [(0, .ref (mk 0)), (1, .int x1)] := hl
  have hT := sp_X7_tide_s mg st x1
  refine lv_iload_n hx hb dX7_tide_0 rfl (lv_at hl 1 rfl) ?_
  refine lv_iconst (v := 0) hx hb dX7_tide_1 (by decide) ?_
  refine lv_iconst (v := 1) hx hb dX7_tide_2 (by decide) ?_
  refine vp_callSi (run_sP (As := [.int x1, .int (0 : Int32), .int (1 : Int32)]) (rest := []) C hN (c_X7_in) ⟨wd_3_147, wd_3_148, wd_1_8, wd_3_149⟩ ⟨rfl, rfl⟩ hd_X7_in ⟨Nat.le_of_ble_eq_true rfl, Nat.le_of_ble_eq_true rfl⟩ rfl hl.1 rfl (Nat.le_of_ble_eq_true rfl) dX7_tide_3 ⟨Nat.zero_le _, Nat.zero_le _⟩) (fun r_1 hr_1 => ?_)
  have hT := nm_u hr_1.1 hT
  refine lv_if_ne (tgt := 11) hx hb dX7_tide_6 (by decide) (fun c_2 => ?_) (fun c_2 => ?_)
  · have hT := it_f c_2 hT
    refine lv_aload_n hx hb dX7_tide_11 rfl (lv_at hl 0 rfl) ?_
    refine gX7_st C hK hP wd_3_77 dX7_tide_12 ?_
    refine lv_bipush (v := 22) hx hb dX7_tide_15 (by decide) ?_
    refine aM_st C hK hP (ix_of (by decide) (by decide)) dX7_tide_17 ?_
    refine lv_iload_n hx hb dX7_tide_18 rfl (lv_at hl 1 rfl) ?_
    refine lv_iconst (v := 1) hx hb dX7_tide_19 (by decide) ?_
    have K_31 : ∀ (ls : Array Slot) (v_3 : Int32) (hl : lv_has ls 3 [(0, .ref (mk 0)), (1, .int x1)]) (hT0 : jn_X7_tide_31 st x1 v_3 = sp_X7_tide mg st x1), W p l e ({ frames := 1, cells := 0, slots := 0, locals := 22 } : Room) s m args below meth c s.heap [] 0 0 Q (F0 m 31 ls [.int v_3, .int (st (22 : Int32).toNatClampNeg)]) := by
      intro ls v_3 hl hT0
      have hT := (jn_X7_tide_31_s st x1 v_3).trans hT0
      refine lv_icmp_ne (tgt := 37) hx hb dX7_tide_31 (by decide) (fun c_4 => ?_) (fun c_4 => ?_)
      · have hT := it_f c_4 hT
        refine lv_aload_n hx hb dX7_tide_37 rfl (lv_at hl 0 rfl) ?_
        refine on_v (run_vQ (As := []) (rest := []) C hK hP hD hN (c_X7_remembers hsu _) (rX7_r hK hP) ⟨wd_3_237, wd_3_239, ws_34, wd_1_8, wd_4_0⟩ ⟨rfl, rfl⟩ hv_X7_remembers ⟨Nat.le_of_ble_eq_true rfl, Nat.le_of_ble_eq_true rfl⟩ rfl hl.1 rfl (Nat.le_of_ble_eq_true rfl) dX7_tide_38 ⟨Nat.zero_le _, Nat.zero_le _⟩) hD hS hA (fun u H locs hp_6 hP hD hS => ?_)
        obtain ⟨st_5, rfl⟩ : ∃ z, z = u := ⟨_, rfl⟩
        have hP : va_P D vwCl (MW cI cZ mk mg st_5 im ke se tx sh fa mt) H := hP
        have hD : va_D A (MW cI cZ mk mg st_5 im ke se tx sh fa mt) := hD
        have hT := nm_u hp_6 hT
        refine lv_aload_n hx hb dX7_tide_41 rfl (lv_at hl 0 rfl) ?_
        refine gX7_st C hK hP wd_3_77 dX7_tide_42 ?_
        refine lv_bipush (v := 22) hx hb dX7_tide_45 (by decide) ?_
        refine lv_dup2_11 hx hb dX7_tide_47 rfl rfl ?_
        refine aM_st C hK hP (ix_of (by decide) (by decide)) dX7_tide_48 ?_
        refine lv_iload_n hx hb dX7_tide_49 rfl (lv_at hl 1 rfl) ?_
        refine lv_iconst (v := 1) hx hb dX7_tide_50 (by decide) ?_
        have K_59 : ∀ (ls : Array Slot) (v_7 : Int32) (hl : lv_has ls 3 [(0, .ref (mk 0))]) (hT0 : jn_X7_tide_59 st_5 v_7 = sp_X7_tide mg st x1), W p l e ({ frames := 1, cells := 0, slots := 0, locals := 22 } : Room) s m args below meth c H locs 0 0 Q (F0 m 59 ls [.int v_7, .int (st_5 (22 : Int32).toNatClampNeg), .int (22 : Int32), .ref (mk 1)]) := by
          intro ls v_7 hl hT0
          have hT := (jn_X7_tide_59_s st_5 v_7).trans hT0
          refine lv_iadd hx hb dX7_tide_59 ?_
          refine sM_st C hK hP hD hS (ix_of (by decide) (by decide)) dX7_tide_60 (fun H locs hP hD hS => ?_)
          refine lv_iconst (v := 0) hx hb dX7_tide_61 (by decide) ?_
          refine lv_istore_n (lv' := [(2, .int (0 : Int32)), (0, .ref (mk 0))]) hx hb dX7_tide_62 rfl hl (by decide) rfl (fun ls hl => ?_)
          have L_63 : ∀ (n : Nat) (ls : Array Slot) (y_8 : Int32) (st_9 : Nat → Int32) (z2 : 0 ≤ y_8.toInt) (hm : ((20 : Int32).toInt - y_8.toInt).toNat < n) (H : Heap) (locs : List Loc) (hP : va_P D vwCl (MW cI cZ mk mg st_9 im ke se tx sh fa mt) H) (hD : va_D A (MW cI cZ mk mg st_9 im ke se tx sh fa mt)) (hS : va_S A s.heap H locs) (hl : lv_has ls 3 [(0, .ref (mk 0)), (2, .int y_8)]) (kont : ∀ (ls : Array Slot) (e_10 : Nat → Int32) (H : Heap) (locs : List Loc), va_P D vwCl (MW cI cZ mk mg e_10 im ke se tx sh fa mt) H → va_D A (MW cI cZ mk mg e_10 im ke se tx sh fa mt) → va_S A s.heap H locs → lv_has ls 3 [(0, .ref (mk 0))] → e_10 = lp_X7_tide_63 n y_8 st_9 → W p l e ({ frames := 1, cells := 0, slots := 0, locals := 22 } : Room) s m args below meth c H locs 0 0 Q (F0 m 105 ls [])), W p l e ({ frames := 1, cells := 0, slots := 0, locals := 22 } : Room) s m args below meth c H locs 0 0 Q (F0 m 63 ls []) := by
            intro n
            induction n with
            | zero => intro ls y_8 st_9 z2 hm; exact absurd hm (Nat.not_lt_zero _)
            | succ n ih =>
              intro ls y_8 st_9 z2 hm H locs hP hD hS hl kont
              have hT := lp_X7_tide_63_s n y_8 st_9
              refine lv_iload_n hx hb dX7_tide_63 rfl (lv_at hl 1 rfl) ?_
              refine lv_bipush (v := 20) hx hb dX7_tide_64 (by decide) ?_
              refine lv_icmp_ge (tgt := 105) hx hb dX7_tide_66 (by decide) (fun c_11 => ?_) (fun c_11 => ?_)
              · have hT := it_t c_11 hT
                exact kont ls st_9 H locs hP hD hS (lv_sub hl [0] rfl) hT
              · have hT := it_f c_11 hT
                refine lv_aload_n hx hb dX7_tide_69 rfl (lv_at hl 0 rfl) ?_
                refine lv_iload_n hx hb dX7_tide_70 rfl (lv_at hl 1 rfl) ?_
                refine vp_callSi (run_vP (As := [.int y_8]) (rest := []) C hK hP hD hN (c_X7_isDry _) (rX7_r hK hP) ⟨wd_3_199, wd_3_201, ws_28, wd_1_8, wd_3_202⟩ ⟨rfl, rfl⟩ hv_X7_isDry ⟨Nat.le_of_ble_eq_true rfl, Nat.le_of_ble_eq_true rfl⟩ rfl hl.1 rfl (Nat.le_of_ble_eq_true rfl) dX7_tide_71 ⟨Nat.zero_le _, Nat.zero_le _⟩) (fun r_12 hr_12 => ?_)
                have hT := nm_u hr_12.1 hT
                refine lv_if_ne (tgt := 99) hx hb dX7_tide_74 (by decide) (fun c_13 => ?_) (fun c_13 => ?_)
                · have hT := it_f c_13 hT
                  refine lv_iinc (v := y_8 + 1) (lv' := [(2, .int (y_8 + 1)), (0, .ref (mk 0))]) hx hb dX7_tide_99 hl (k := 1) rfl rfl (by decide) rfl (fun ls hl => ?_)
                  refine lv_goto (tgt := 63) hx hb dX7_tide_102 (by decide) ?_
                  exact ih ls (y_8 + 1) st_9 (up0 c_11 z2) (ms_up c_11 hm) H locs hP hD hS (lv_sub hl [1, 0] rfl) (fun ls z0 H locs hP hD hS hl he => kont ls z0 H locs hP hD hS hl (he.trans hT))
                · have hT := it_t c_13 hT
                  refine lv_aload_n hx hb dX7_tide_77 rfl (lv_at hl 0 rfl) ?_
                  refine gX7_st C hK hP wd_3_77 dX7_tide_78 ?_
                  refine lv_iload_n hx hb dX7_tide_81 rfl (lv_at hl 1 rfl) ?_
                  refine lv_iconst (v := 0) hx hb dX7_tide_82 (by decide) ?_
                  refine sM_st C hK hP hD hS (ix_inv_nle z2 c_11) dX7_tide_83 (fun H locs hP hD hS => ?_)
                  refine lv_aload_n hx hb dX7_tide_84 rfl (lv_at hl 0 rfl) ?_
                  refine gX7_st C hK hP wd_3_77 dX7_tide_85 ?_
                  refine lv_bipush (v := 20) hx hb dX7_tide_88 (by decide) ?_
                  refine lv_dup2_11 hx hb dX7_tide_90 rfl rfl ?_
                  refine aM_st C hK hP (ix_of (by decide) (by decide)) dX7_tide_91 ?_
                  refine lv_iconst (v := 1) hx hb dX7_tide_92 (by decide) ?_
                  refine lv_iload_n hx hb dX7_tide_93 rfl (lv_at hl 1 rfl) ?_
                  refine lv_ishl hx hb dX7_tide_94 ?_
                  refine lv_iconst (v := -1) hx hb dX7_tide_95 (by decide) ?_
                  refine lv_ixor hx hb dX7_tide_96 ?_
                  refine lv_iand hx hb dX7_tide_97 ?_
                  refine sM_st C hK hP hD hS (ix_of (by decide) (by decide)) dX7_tide_98 (fun H locs hP hD hS => ?_)
                  refine lv_iinc (v := y_8 + 1) (lv' := [(2, .int (y_8 + 1)), (0, .ref (mk 0))]) hx hb dX7_tide_99 hl (k := 1) rfl rfl (by decide) rfl (fun ls hl => ?_)
                  refine lv_goto (tgt := 63) hx hb dX7_tide_102 (by decide) ?_
                  exact ih ls (y_8 + 1) (upd (upd st_9 y_8.toNatClampNeg (0 : Int32)) (20 : Int32).toNatClampNeg (((upd st_9 y_8.toNatClampNeg (0 : Int32)) (20 : Int32).toNatClampNeg) &&& (((1 : Int32) <<< (y_8 &&& 31)) ^^^ (-1 : Int32)))) (up0 c_11 z2) (ms_up c_11 hm) H locs hP hD hS (lv_sub hl [1, 0] rfl) (fun ls z0 H locs hP hD hS hl he => kont ls z0 H locs hP hD hS hl (he.trans hT))
          refine L_63 (((20 : Int32).toInt - (0 : Int32).toInt).toNat + 1) ls (0 : Int32) (upd st_5 (22 : Int32).toNatClampNeg ((st_5 (22 : Int32).toNatClampNeg) + v_7)) (by decide) (Nat.lt_succ_self _) H locs hP hD hS (lv_sub hl [1, 0] rfl) (fun ls e_10 H locs hP hD hS hl he => ?_)
          have hT := nm_u he hT
          refine lv_aload_n hx hb dX7_tide_105 rfl (lv_at hl 0 rfl) ?_
          refine gX7_st C hK hP wd_3_77 dX7_tide_106 ?_
          refine lv_bipush (v := 22) hx hb dX7_tide_109 (by decide) ?_
          refine aM_st C hK hP (ix_of (by decide) (by decide)) dX7_tide_111 ?_
          exact hret _ e_10 _ _ _ _ hT hP hD hS dX7_tide_112
        refine lv_icmp_ne (tgt := 58) hx hb dX7_tide_51 (by decide) (fun c_14 => ?_) (fun c_14 => ?_)
        · have hT := it_f c_14 hT
          refine lv_iconst (v := -1) hx hb dX7_tide_58 (by decide) ?_
          exact K_59 ls (-1 : Int32) (lv_sub hl [0] rfl) hT
        · have hT := it_t c_14 hT
          refine lv_iconst (v := 1) hx hb dX7_tide_54 (by decide) ?_
          refine lv_goto (tgt := 59) hx hb dX7_tide_55 (by decide) ?_
          exact K_59 ls (1 : Int32) (lv_sub hl [0] rfl) hT
      · have hT := it_t c_4 hT
        refine lv_bipush (v := -2) hx hb dX7_tide_34 (by decide) ?_
        exact hret _ st _ _ _ _ hT hP hD hS dX7_tide_36
    refine lv_icmp_ne (tgt := 30) hx hb dX7_tide_20 (by decide) (fun c_15 => ?_) (fun c_15 => ?_)
    · have hT := it_f c_15 hT
      refine lv_iconst (v := 0) hx hb dX7_tide_30 (by decide) ?_
      exact K_31 ls (0 : Int32) (lv_sub hl [0, 1] rfl) hT
    · have hT := it_t c_15 hT
      refine lv_aload_n hx hb dX7_tide_23 rfl (lv_at hl 0 rfl) ?_
      refine gX7_rows C hK hP wd_3_76 dX7_tide_24 ?_
      refine lv_goto (tgt := 31) hx hb dX7_tide_27 (by decide) ?_
      exact K_31 ls (mg 1) (lv_sub hl [0, 1] rfl) hT
  · have hT := it_t c_2 hT
    refine lv_iconst (v := -1) hx hb dX7_tide_9 (by decide) ?_
    exact hret _ st _ _ _ _ hT hP hD hS dX7_tide_10
theorem hv_X7_undo : yX7_undo.cls = RX7 ∧ yX7_undo.cls ≠ "java/lang/invoke/MethodHandle" ∧ yX7_undo.cls ≠ "java/lang/invoke/VarHandle" ∧ (parseMethodDescriptor yX7_undo.desc).map (fun d => d.parameters.length) = some 0 := by decide +kernel
theorem hd_X7_undo : yX7_undo.cls ≠ "java/lang/invoke/MethodHandle" ∧ yX7_undo.cls ≠ "java/lang/invoke/VarHandle" ∧ (parseMethodDescriptor yX7_undo.desc).map (fun d => d.parameters.length) = some 0 := hv_X7_undo.2
def lp_X7_undo_40 (y_2 : Int32) : Nat → Int32 → (Nat → Int32) → (Nat → Int32)
  | 0, y_3, st_4 => st_4
  | n + 1, y_3, st_4 => if (23 : Int32) ≤ y_3 then st_4 else (lp_X7_undo_40 y_2 n (y_3 + 1) (upd st_4 y_3.toNatClampNeg (st_4 (y_2 + y_3).toNatClampNeg)))
theorem lp_X7_undo_40_s (y_2 : Int32) (n : Nat) (y_3 : Int32) (st_4 : Nat → Int32) : (if (23 : Int32) ≤ y_3 then st_4 else (lp_X7_undo_40 y_2 n (y_3 + 1) (upd st_4 y_3.toNatClampNeg (st_4 (y_2 + y_3).toNatClampNeg)))) = lp_X7_undo_40 y_2 (n + 1) y_3 st_4 := rfl
def sp_X7_undo (st : Nat → Int32) : Int32 × (Nat → Int32) :=
  if (st (23 : Int32).toNatClampNeg) = 0 then ((-2 : Int32), st) else (nm ((24 : Int32) + ((23 : Int32) * ((upd st (23 : Int32).toNatClampNeg ((st (23 : Int32).toNatClampNeg) - (1 : Int32))) (23 : Int32).toNatClampNeg))) (fun y_2 => nm (lp_X7_undo_40 y_2 (((23 : Int32).toInt - (0 : Int32).toInt).toNat + 1) (0 : Int32) (upd st (23 : Int32).toNatClampNeg ((st (23 : Int32).toNatClampNeg) - (1 : Int32)))) (fun e_5 => (e_5 (23 : Int32).toNatClampNeg, e_5))))
theorem sp_X7_undo_s (st : Nat → Int32) : (if (st (23 : Int32).toNatClampNeg) = 0 then ((-2 : Int32), st) else (nm ((24 : Int32) + ((23 : Int32) * ((upd st (23 : Int32).toNatClampNeg ((st (23 : Int32).toNatClampNeg) - (1 : Int32))) (23 : Int32).toNatClampNeg))) (fun y_2 => nm (lp_X7_undo_40 y_2 (((23 : Int32).toInt - (0 : Int32).toInt).toNat + 1) (0 : Int32) (upd st (23 : Int32).toNatClampNeg ((st (23 : Int32).toNatClampNeg) - (1 : Int32)))) (fun e_5 => (e_5 (23 : Int32).toNatClampNeg, e_5))))) = sp_X7_undo st := rfl
set_option maxHeartbeats 4000000 in
set_option maxRecDepth 100000 in
theorem c_X7_undo {l : Launch} {D : va_G} {cI cZ cO : ClassId} {mk : Nat → Nat} {mg st im ke se tx sh fa : Nat → Int32} {mt : Int64}  (hsu : 0 ≤ (st (23 : Int32).toNatClampNeg).toInt ∧ (st (23 : Int32).toNatClampNeg).toInt ≤ 10) (sz : Nat) : Met l yX7_undo (wm yX7_undo cX7_undo 3 (some .int)) ({ frames := 0, cells := 0, slots := 0, locals := 0 } : Room) (GPre D (ty3 cI cZ cO) (MW cI cZ mk mg st im ke se tx sh fa mt) [.ref (mk 0)] sz) (va_Qi (fun r (u : (Nat → Int32)) => (r, u) = sp_X7_undo st) (fun u t => GAt D (ty3 cI cZ cO) (va_A (MW cI cZ mk mg st im ke se tx sh fa mt) sz) (MW cI cZ mk mg u im ke se tx sh fa mt) t) (va_A (MW cI cZ mk mg st im ke se tx sh fa mt) sz)) 0 0 (va_A (MW cI cZ mk mg st im ke se tx sh fa mt) sz) := by
  refine metQ_i (W1 := (fun (u : (Nat → Int32)) => MW cI cZ mk mg u im ke se tx sh fa mt)) (post := (fun r (u : (Nat → Int32)) => (r, u) = sp_X7_undo st)) (by decide) (Nat.le_of_ble_eq_true rfl) ?_
  intro p e s m args below meth c ls A Q C hsz hP hK hD hS hA hN hl hret
  have hx := C.1
  have hb := C.2.1
  have hl : lv_has ls 3 [(0, .ref (mk 0))] := hl
  have hT := sp_X7_undo_s st
  refine lv_aload_n hx hb dX7_undo_0 rfl (lv_at hl 0 rfl) ?_
  refine gX7_st C hK hP wd_3_77 dX7_undo_1 ?_
  refine lv_bipush (v := 23) hx hb dX7_undo_4 (by decide) ?_
  refine aM_st C hK hP (ix_of (by decide) (by decide)) dX7_undo_6 ?_
  refine lv_if_ne (tgt := 13) hx hb dX7_undo_7 (by decide) (fun c_1 => ?_) (fun c_1 => ?_)
  · have hT := it_f c_1 hT
    refine lv_aload_n hx hb dX7_undo_13 rfl (lv_at hl 0 rfl) ?_
    refine gX7_st C hK hP wd_3_77 dX7_undo_14 ?_
    refine lv_bipush (v := 23) hx hb dX7_undo_17 (by decide) ?_
    refine lv_dup2_11 hx hb dX7_undo_19 rfl rfl ?_
    refine aM_st C hK hP (ix_of (by decide) (by decide)) dX7_undo_20 ?_
    refine lv_iconst (v := 1) hx hb dX7_undo_21 (by decide) ?_
    refine lv_isub hx hb dX7_undo_22 ?_
    refine sM_st C hK hP hD hS (ix_of (by decide) (by decide)) dX7_undo_23 (fun H locs hP hD hS => ?_)
    refine lv_bipush (v := 24) hx hb dX7_undo_24 (by decide) ?_
    refine lv_bipush (v := 23) hx hb dX7_undo_26 (by decide) ?_
    refine lv_aload_n hx hb dX7_undo_28 rfl (lv_at hl 0 rfl) ?_
    refine gX7_st C hK hP wd_3_77 dX7_undo_29 ?_
    refine lv_bipush (v := 23) hx hb dX7_undo_32 (by decide) ?_
    refine aM_st C hK hP (ix_of (by decide) (by decide)) dX7_undo_34 ?_
    refine lv_imul hx hb dX7_undo_35 ?_
    refine lv_iadd hx hb dX7_undo_36 ?_
    refine lv_topi (fun y_2 ey_2 => ?_)
    have hT := nm_u ey_2 hT
    refine lv_istore_n (lv' := [(1, .int y_2), (0, .ref (mk 0))]) hx hb dX7_undo_37 rfl hl (by decide) rfl (fun ls hl => ?_)
    refine lv_iconst (v := 0) hx hb dX7_undo_38 (by decide) ?_
    refine lv_istore_n (lv' := [(2, .int (0 : Int32)), (1, .int y_2), (0, .ref (mk 0))]) hx hb dX7_undo_39 rfl hl (by decide) rfl (fun ls hl => ?_)
    have L_40 : ∀ (n : Nat) (ls : Array Slot) (y_3 : Int32) (st_4 : Nat → Int32) (z2 : 0 ≤ y_3.toInt) (hm : ((23 : Int32).toInt - y_3.toInt).toNat < n) (H : Heap) (locs : List Loc) (hP : va_P D vwCl (MW cI cZ mk mg st_4 im ke se tx sh fa mt) H) (hD : va_D A (MW cI cZ mk mg st_4 im ke se tx sh fa mt)) (hS : va_S A s.heap H locs) (hl : lv_has ls 3 [(0, .ref (mk 0)), (1, .int y_2), (2, .int y_3)]) (kont : ∀ (ls : Array Slot) (e_5 : Nat → Int32) (H : Heap) (locs : List Loc), va_P D vwCl (MW cI cZ mk mg e_5 im ke se tx sh fa mt) H → va_D A (MW cI cZ mk mg e_5 im ke se tx sh fa mt) → va_S A s.heap H locs → lv_has ls 3 [(0, .ref (mk 0))] → e_5 = lp_X7_undo_40 y_2 n y_3 st_4 → W p l e ({ frames := 0, cells := 0, slots := 0, locals := 0 } : Room) s m args below meth c H locs 0 0 Q (F0 m 66 ls [])), W p l e ({ frames := 0, cells := 0, slots := 0, locals := 0 } : Room) s m args below meth c H locs 0 0 Q (F0 m 40 ls []) := by
      intro n
      induction n with
      | zero => intro ls y_3 st_4 z2 hm; exact absurd hm (Nat.not_lt_zero _)
      | succ n ih =>
        intro ls y_3 st_4 z2 hm H locs hP hD hS hl kont
        have hT := lp_X7_undo_40_s y_2 n y_3 st_4
        refine lv_iload_n hx hb dX7_undo_40 rfl (lv_at hl 2 rfl) ?_
        refine lv_bipush (v := 23) hx hb dX7_undo_41 (by decide) ?_
        refine lv_icmp_ge (tgt := 66) hx hb dX7_undo_43 (by decide) (fun c_6 => ?_) (fun c_6 => ?_)
        · have hT := it_t c_6 hT
          exact kont ls st_4 H locs hP hD hS (lv_sub hl [0] rfl) hT
        · have hT := it_f c_6 hT
          refine lv_aload_n hx hb dX7_undo_46 rfl (lv_at hl 0 rfl) ?_
          refine gX7_st C hK hP wd_3_77 dX7_undo_47 ?_
          refine lv_iload_n hx hb dX7_undo_50 rfl (lv_at hl 2 rfl) ?_
          refine lv_aload_n hx hb dX7_undo_51 rfl (lv_at hl 0 rfl) ?_
          refine gX7_st C hK hP wd_3_77 dX7_undo_52 ?_
          refine lv_iload_n hx hb dX7_undo_55 rfl (lv_at hl 1 rfl) ?_
          refine lv_iload_n hx hb dX7_undo_56 rfl (lv_at hl 2 rfl) ?_
          refine lv_iadd hx hb dX7_undo_57 ?_
          refine aM_st C hK hP (rm_4 hsu c_1 ey_2 z2 c_6) dX7_undo_58 ?_
          refine sM_st C hK hP hD hS (ix_inv_nle z2 c_6) dX7_undo_59 (fun H locs hP hD hS => ?_)
          refine lv_iinc (v := y_3 + 1) (lv' := [(2, .int (y_3 + 1)), (0, .ref (mk 0)), (1, .int y_2)]) hx hb dX7_undo_60 hl (k := 2) rfl rfl (by decide) rfl (fun ls hl => ?_)
          refine lv_goto (tgt := 40) hx hb dX7_undo_63 (by decide) ?_
          exact ih ls (y_3 + 1) (upd st_4 y_3.toNatClampNeg (st_4 (y_2 + y_3).toNatClampNeg)) (up0 c_6 z2) (ms_up c_6 hm) H locs hP hD hS (lv_sub hl [1, 2, 0] rfl) (fun ls z0 H locs hP hD hS hl he => kont ls z0 H locs hP hD hS hl (he.trans hT))
    refine L_40 (((23 : Int32).toInt - (0 : Int32).toInt).toNat + 1) ls (0 : Int32) (upd st (23 : Int32).toNatClampNeg ((st (23 : Int32).toNatClampNeg) - (1 : Int32))) (by decide) (Nat.lt_succ_self _) H locs hP hD hS (lv_sub hl [2, 1, 0] rfl) (fun ls e_5 H locs hP hD hS hl he => ?_)
    have hT := nm_u he hT
    refine lv_aload_n hx hb dX7_undo_66 rfl (lv_at hl 0 rfl) ?_
    refine gX7_st C hK hP wd_3_77 dX7_undo_67 ?_
    refine lv_bipush (v := 23) hx hb dX7_undo_70 (by decide) ?_
    refine aM_st C hK hP (ix_of (by decide) (by decide)) dX7_undo_72 ?_
    exact hret _ e_5 _ _ _ _ hT hP hD hS dX7_undo_73
  · have hT := it_t c_1 hT
    refine lv_bipush (v := -2) hx hb dX7_undo_10 (by decide) ?_
    exact hret _ st _ _ _ _ hT hP hD hS dX7_undo_12
theorem hv_X7_isBorder : yX7_isBorder.cls = RX7 ∧ yX7_isBorder.cls ≠ "java/lang/invoke/MethodHandle" ∧ yX7_isBorder.cls ≠ "java/lang/invoke/VarHandle" ∧ (parseMethodDescriptor yX7_isBorder.desc).map (fun d => d.parameters.length) = some 4 := by decide +kernel
theorem hd_X7_isBorder : yX7_isBorder.cls ≠ "java/lang/invoke/MethodHandle" ∧ yX7_isBorder.cls ≠ "java/lang/invoke/VarHandle" ∧ (parseMethodDescriptor yX7_isBorder.desc).map (fun d => d.parameters.length) = some 4 := hv_X7_isBorder.2
def sp_X7_isBorder (mg : Nat → Int32) (st : Nat → Int32) (x1 : Int32) (x2 : Int32) (x3 : Int32) (x4 : Int32) : Int32 :=
  nm (sp_X7_isCell mg x1 x2) (fun r_1 => if r_1 = 0 then (0 : Int32) else (nm (sp_X7_isCell mg x3 x4) (fun r_3 => if r_3 = 0 then (0 : Int32) else (nm (sp_X7_isDry st (((5 : Int32) * x2) + x1)) (fun r_5 => if r_5 = 0 then (0 : Int32) else (nm (sp_X7_isDry st (((5 : Int32) * x4) + x3)) (fun r_7 => if r_7 = 0 then (0 : Int32) else (if (st (((5 : Int32) * x2) + x1).toNatClampNeg) = (st (((5 : Int32) * x4) + x3).toNatClampNeg) then (0 : Int32) else (1 : Int32)))))))))
theorem sp_X7_isBorder_s (mg : Nat → Int32) (st : Nat → Int32) (x1 : Int32) (x2 : Int32) (x3 : Int32) (x4 : Int32) : (nm (sp_X7_isCell mg x1 x2) (fun r_1 => if r_1 = 0 then (0 : Int32) else (nm (sp_X7_isCell mg x3 x4) (fun r_3 => if r_3 = 0 then (0 : Int32) else (nm (sp_X7_isDry st (((5 : Int32) * x2) + x1)) (fun r_5 => if r_5 = 0 then (0 : Int32) else (nm (sp_X7_isDry st (((5 : Int32) * x4) + x3)) (fun r_7 => if r_7 = 0 then (0 : Int32) else (if (st (((5 : Int32) * x2) + x1).toNatClampNeg) = (st (((5 : Int32) * x4) + x3).toNatClampNeg) then (0 : Int32) else (1 : Int32)))))))))) = sp_X7_isBorder mg st x1 x2 x3 x4 := rfl
set_option maxHeartbeats 4000000 in
set_option maxRecDepth 100000 in
theorem c_X7_isBorder {l : Launch} {D : va_G} {cI cZ cO : ClassId} {mk : Nat → Nat} {mg st im ke se tx sh fa : Nat → Int32} {mt : Int64} {x1 : Int32} {x2 : Int32} {x3 : Int32} {x4 : Int32} (hw : 1 ≤ (mg 0).toInt ∧ (mg 0).toInt ≤ 5) (hh : 1 ≤ (mg 1).toInt ∧ (mg 1).toInt ≤ 4) (sz : Nat) : Met l yX7_isBorder (wm yX7_isBorder cX7_isBorder 5 (some .boolean)) ({ frames := 2, cells := 0, slots := 0, locals := 44 } : Room) (GPre D (ty3 cI cZ cO) (MW cI cZ mk mg st im ke se tx sh fa mt) [.ref (mk 0), .int x1, .int x2, .int x3, .int x4] sz) (vp_Si (fun r => r = sp_X7_isBorder mg st x1 x2 x3 x4 ∧ (r = 0 ∨ r = 1))) 0 0 (fun _ => False) := by
  refine metP_z (post := (fun r => r = sp_X7_isBorder mg st x1 x2 x3 x4)) (by decide) (Nat.le_of_ble_eq_true rfl) ?_
  intro p e s m args below meth c ls Q C hsz hP hK hD hN hl hret
  have hx := C.1
  have hb := C.2.1
  have hl : lv_has ls 5 [(0, .ref (mk 0)), (1, .int x1), (2, .int x2), (3, .int x3), (4, .int x4)] := hl
  have hT := sp_X7_isBorder_s mg st x1 x2 x3 x4
  refine lv_aload_n hx hb dX7_isBorder_0 rfl (lv_at hl 0 rfl) ?_
  refine lv_iload_n hx hb dX7_isBorder_1 rfl (lv_at hl 1 rfl) ?_
  refine lv_iload_n hx hb dX7_isBorder_2 rfl (lv_at hl 2 rfl) ?_
  refine vp_callSi (run_vP (As := [.int x1, .int x2]) (rest := []) C hK hP hD hN (c_X7_isCell _) (rX7_r hK hP) ⟨wd_3_195, wd_3_197, ws_27, wd_1_8, wd_3_198⟩ ⟨rfl, rfl⟩ hv_X7_isCell ⟨Nat.le_of_ble_eq_true rfl, Nat.le_of_ble_eq_true rfl⟩ rfl hl.1 rfl (Nat.le_of_ble_eq_true rfl) dX7_isBorder_3 ⟨Nat.zero_le _, Nat.zero_le _⟩) (fun r_1 hr_1 => ?_)
  have hT := nm_u hr_1.1 hT
  refine lv_if_eq (tgt := 72) hx hb dX7_isBorder_6 (by decide) (fun c_2 => ?_) (fun c_2 => ?_)
  · have hT := it_t c_2 hT
    refine lv_iconst (v := 0) hx hb dX7_isBorder_72 (by decide) ?_
    exact hret _ _ _ ⟨hT, (Or.inl rfl)⟩ dX7_isBorder_73
  · have hT := it_f c_2 hT
    refine lv_aload_n hx hb dX7_isBorder_9 rfl (lv_at hl 0 rfl) ?_
    refine lv_iload_n hx hb dX7_isBorder_10 rfl (lv_at hl 3 rfl) ?_
    refine lv_iload hx hb dX7_isBorder_11 (lv_at hl 4 rfl) ?_
    refine vp_callSi (run_vP (As := [.int x3, .int x4]) (rest := []) C hK hP hD hN (c_X7_isCell _) (rX7_r hK hP) ⟨wd_3_195, wd_3_197, ws_27, wd_1_8, wd_3_198⟩ ⟨rfl, rfl⟩ hv_X7_isCell ⟨Nat.le_of_ble_eq_true rfl, Nat.le_of_ble_eq_true rfl⟩ rfl hl.1 rfl (Nat.le_of_ble_eq_true rfl) dX7_isBorder_13 ⟨Nat.zero_le _, Nat.zero_le _⟩) (fun r_3 hr_3 => ?_)
    have hT := nm_u hr_3.1 hT
    refine lv_if_eq (tgt := 72) hx hb dX7_isBorder_16 (by decide) (fun c_4 => ?_) (fun c_4 => ?_)
    · have hT := it_t c_4 hT
      refine lv_iconst (v := 0) hx hb dX7_isBorder_72 (by decide) ?_
      exact hret _ _ _ ⟨hT, (Or.inl rfl)⟩ dX7_isBorder_73
    · have hT := it_f c_4 hT
      refine lv_aload_n hx hb dX7_isBorder_19 rfl (lv_at hl 0 rfl) ?_
      refine lv_iconst (v := 5) hx hb dX7_isBorder_20 (by decide) ?_
      refine lv_iload_n hx hb dX7_isBorder_21 rfl (lv_at hl 2 rfl) ?_
      refine lv_imul hx hb dX7_isBorder_22 ?_
      refine lv_iload_n hx hb dX7_isBorder_23 rfl (lv_at hl 1 rfl) ?_
      refine lv_iadd hx hb dX7_isBorder_24 ?_
      refine vp_callSi (run_vP (As := [.int (((5 : Int32) * x2) + x1)]) (rest := []) C hK hP hD hN (c_X7_isDry _) (rX7_r hK hP) ⟨wd_3_199, wd_3_201, ws_28, wd_1_8, wd_3_202⟩ ⟨rfl, rfl⟩ hv_X7_isDry ⟨Nat.le_of_ble_eq_true rfl, Nat.le_of_ble_eq_true rfl⟩ rfl hl.1 rfl (Nat.le_of_ble_eq_true rfl) dX7_isBorder_25 ⟨Nat.zero_le _, Nat.zero_le _⟩) (fun r_5 hr_5 => ?_)
      have hT := nm_u hr_5.1 hT
      refine lv_if_eq (tgt := 72) hx hb dX7_isBorder_28 (by decide) (fun c_6 => ?_) (fun c_6 => ?_)
      · have hT := it_t c_6 hT
        refine lv_iconst (v := 0) hx hb dX7_isBorder_72 (by decide) ?_
        exact hret _ _ _ ⟨hT, (Or.inl rfl)⟩ dX7_isBorder_73
      · have hT := it_f c_6 hT
        refine lv_aload_n hx hb dX7_isBorder_31 rfl (lv_at hl 0 rfl) ?_
        refine lv_iconst (v := 5) hx hb dX7_isBorder_32 (by decide) ?_
        refine lv_iload hx hb dX7_isBorder_33 (lv_at hl 4 rfl) ?_
        refine lv_imul hx hb dX7_isBorder_35 ?_
        refine lv_iload_n hx hb dX7_isBorder_36 rfl (lv_at hl 3 rfl) ?_
        refine lv_iadd hx hb dX7_isBorder_37 ?_
        refine vp_callSi (run_vP (As := [.int (((5 : Int32) * x4) + x3)]) (rest := []) C hK hP hD hN (c_X7_isDry _) (rX7_r hK hP) ⟨wd_3_199, wd_3_201, ws_28, wd_1_8, wd_3_202⟩ ⟨rfl, rfl⟩ hv_X7_isDry ⟨Nat.le_of_ble_eq_true rfl, Nat.le_of_ble_eq_true rfl⟩ rfl hl.1 rfl (Nat.le_of_ble_eq_true rfl) dX7_isBorder_38 ⟨Nat.zero_le _, Nat.zero_le _⟩) (fun r_7 hr_7 => ?_)
        have hT := nm_u hr_7.1 hT
        refine lv_if_eq (tgt := 72) hx hb dX7_isBorder_41 (by decide) (fun c_8 => ?_) (fun c_8 => ?_)
        · have hT := it_t c_8 hT
          refine lv_iconst (v := 0) hx hb dX7_isBorder_72 (by decide) ?_
          exact hret _ _ _ ⟨hT, (Or.inl rfl)⟩ dX7_isBorder_73
        · have hT := it_f c_8 hT
          refine lv_aload_n hx hb dX7_isBorder_44 rfl (lv_at hl 0 rfl) ?_
          refine gX7_st C hK hP wd_3_77 dX7_isBorder_45 ?_
          refine lv_iconst (v := 5) hx hb dX7_isBorder_48 (by decide) ?_
          refine lv_iload_n hx hb dX7_isBorder_49 rfl (lv_at hl 2 rfl) ?_
          refine lv_imul hx hb dX7_isBorder_50 ?_
          refine lv_iload_n hx hb dX7_isBorder_51 rfl (lv_at hl 1 rfl) ?_
          refine lv_iadd hx hb dX7_isBorder_52 ?_
          refine aM_st C hK hP (cell_ix hw hh hr_1.1 c_2 (by decide)) dX7_isBorder_53 ?_
          refine lv_aload_n hx hb dX7_isBorder_54 rfl (lv_at hl 0 rfl) ?_
          refine gX7_st C hK hP wd_3_77 dX7_isBorder_55 ?_
          refine lv_iconst (v := 5) hx hb dX7_isBorder_58 (by decide) ?_
          refine lv_iload hx hb dX7_isBorder_59 (lv_at hl 4 rfl) ?_
          refine lv_imul hx hb dX7_isBorder_61 ?_
          refine lv_iload_n hx hb dX7_isBorder_62 rfl (lv_at hl 3 rfl) ?_
          refine lv_iadd hx hb dX7_isBorder_63 ?_
          refine aM_st C hK hP (cell_ix hw hh hr_3.1 c_4 (by decide)) dX7_isBorder_64 ?_
          refine lv_icmp_eq (tgt := 72) hx hb dX7_isBorder_65 (by decide) (fun c_9 => ?_) (fun c_9 => ?_)
          · have hT := it_t c_9 hT
            refine lv_iconst (v := 0) hx hb dX7_isBorder_72 (by decide) ?_
            exact hret _ _ _ ⟨hT, (Or.inl rfl)⟩ dX7_isBorder_73
          · have hT := it_f c_9 hT
            refine lv_iconst (v := 1) hx hb dX7_isBorder_68 (by decide) ?_
            refine lv_goto (tgt := 73) hx hb dX7_isBorder_69 (by decide) ?_
            exact hret _ _ _ ⟨hT, (Or.inr rfl)⟩ dX7_isBorder_73
theorem hv_X7_border : yX7_border.cls = RX7 ∧ yX7_border.cls ≠ "java/lang/invoke/MethodHandle" ∧ yX7_border.cls ≠ "java/lang/invoke/VarHandle" ∧ (parseMethodDescriptor yX7_border.desc).map (fun d => d.parameters.length) = some 0 := by decide +kernel
theorem hd_X7_border : yX7_border.cls ≠ "java/lang/invoke/MethodHandle" ∧ yX7_border.cls ≠ "java/lang/invoke/VarHandle" ∧ (parseMethodDescriptor yX7_border.desc).map (fun d => d.parameters.length) = some 0 := hv_X7_border.2
def jn_X7_border_41 (rec_14 : Int32 → Int32 → Int32) (mg : Nat → Int32) (st : Nat → Int32) (y_2 : Int32) (y_5 : Int32) (y_6 : Int32) (v_10 : Int32) : Int32 :=
  nm (sp_X7_isBorder mg st y_6 y_2 y_6 (y_2 + (1 : Int32))) (fun r_11 => if r_11 = 0 then (rec_14 ((y_5 + v_10) + (0 : Int32)) (y_6 + 1)) else (rec_14 ((y_5 + v_10) + (1 : Int32)) (y_6 + 1)))
theorem jn_X7_border_41_s (rec_14 : Int32 → Int32 → Int32) (mg : Nat → Int32) (st : Nat → Int32) (y_2 : Int32) (y_5 : Int32) (y_6 : Int32) (v_10 : Int32) : (nm (sp_X7_isBorder mg st y_6 y_2 y_6 (y_2 + (1 : Int32))) (fun r_11 => if r_11 = 0 then (rec_14 ((y_5 + v_10) + (0 : Int32)) (y_6 + 1)) else (rec_14 ((y_5 + v_10) + (1 : Int32)) (y_6 + 1)))) = jn_X7_border_41 rec_14 mg st y_2 y_5 y_6 v_10 := rfl
def lp_X7_border_14 (mg : Nat → Int32) (st : Nat → Int32) (y_2 : Int32) : Nat → Int32 → Int32 → Int32
  | 0, y_5, y_6 => y_5
  | n + 1, y_5, y_6 => if (mg 0) ≤ y_6 then y_5 else (nm (sp_X7_isBorder mg st y_6 y_2 (y_6 + (1 : Int32)) y_2) (fun r_9 => if r_9 = 0 then (jn_X7_border_41 (lp_X7_border_14 mg st y_2 n) mg st y_2 y_5 y_6 (0 : Int32)) else (jn_X7_border_41 (lp_X7_border_14 mg st y_2 n) mg st y_2 y_5 y_6 (1 : Int32))))
theorem lp_X7_border_14_s (mg : Nat → Int32) (st : Nat → Int32) (y_2 : Int32) (n : Nat) (y_5 : Int32) (y_6 : Int32) : (if (mg 0) ≤ y_6 then y_5 else (nm (sp_X7_isBorder mg st y_6 y_2 (y_6 + (1 : Int32)) y_2) (fun r_9 => if r_9 = 0 then (jn_X7_border_41 (lp_X7_border_14 mg st y_2 n) mg st y_2 y_5 y_6 (0 : Int32)) else (jn_X7_border_41 (lp_X7_border_14 mg st y_2 n) mg st y_2 y_5 y_6 (1 : Int32))))) = lp_X7_border_14 mg st y_2 (n + 1) y_5 y_6 := rfl
def lp_X7_border_4 (mg : Nat → Int32) (st : Nat → Int32) : Nat → Int32 → Int32 → Int32
  | 0, y_1, y_2 => y_1
  | n + 1, y_1, y_2 => if (mg 1) ≤ y_2 then y_1 else (nm (lp_X7_border_14 mg st y_2 (((mg 0).toInt - (0 : Int32).toInt).toNat + 1) y_1 (0 : Int32)) (fun e_7 => lp_X7_border_4 mg st n e_7 (y_2 + 1)))
theorem lp_X7_border_4_s (mg : Nat → Int32) (st : Nat → Int32) (n : Nat) (y_1 : Int32) (y_2 : Int32) : (if (mg 1) ≤ y_2 then y_1 else (nm (lp_X7_border_14 mg st y_2 (((mg 0).toInt - (0 : Int32).toInt).toNat + 1) y_1 (0 : Int32)) (fun e_7 => lp_X7_border_4 mg st n e_7 (y_2 + 1)))) = lp_X7_border_4 mg st (n + 1) y_1 y_2 := rfl
def sp_X7_border (mg : Nat → Int32) (st : Nat → Int32) : Int32 :=
  nm (lp_X7_border_4 mg st (((mg 1).toInt - (0 : Int32).toInt).toNat + 1) (0 : Int32) (0 : Int32)) (fun e_3 => e_3)
theorem sp_X7_border_s (mg : Nat → Int32) (st : Nat → Int32) : (nm (lp_X7_border_4 mg st (((mg 1).toInt - (0 : Int32).toInt).toNat + 1) (0 : Int32) (0 : Int32)) (fun e_3 => e_3)) = sp_X7_border mg st := rfl
set_option maxHeartbeats 4000000 in
set_option maxRecDepth 100000 in
theorem c_X7_border {l : Launch} {D : va_G} {cI cZ cO : ClassId} {mk : Nat → Nat} {mg st im ke se tx sh fa : Nat → Int32} {mt : Int64}  (hw : 1 ≤ (mg 0).toInt ∧ (mg 0).toInt ≤ 5) (hh : 1 ≤ (mg 1).toInt ∧ (mg 1).toInt ≤ 4) (sz : Nat) : Met l yX7_border (wm yX7_border cX7_border 4 (some .int)) ({ frames := 3, cells := 0, slots := 0, locals := 68 } : Room) (GPre D (ty3 cI cZ cO) (MW cI cZ mk mg st im ke se tx sh fa mt) [.ref (mk 0)] sz) (vp_Si (fun r => r = sp_X7_border mg st)) 0 0 (fun _ => False) := by
  refine metP_i (post := (fun r => r = sp_X7_border mg st)) (by decide) (Nat.le_of_ble_eq_true rfl) ?_
  intro p e s m args below meth c ls Q C hsz hP hK hD hN hl hret
  have hx := C.1
  have hb := C.2.1
  have hl : lv_has ls 4 [(0, .ref (mk 0))] := hl
  have hT := sp_X7_border_s mg st
  refine lv_iconst (v := 0) hx hb dX7_border_0 (by decide) ?_
  refine lv_istore_n (lv' := [(1, .int (0 : Int32)), (0, .ref (mk 0))]) hx hb dX7_border_1 rfl hl (by decide) rfl (fun ls hl => ?_)
  refine lv_iconst (v := 0) hx hb dX7_border_2 (by decide) ?_
  refine lv_istore_n (lv' := [(2, .int (0 : Int32)), (1, .int (0 : Int32)), (0, .ref (mk 0))]) hx hb dX7_border_3 rfl hl (by decide) rfl (fun ls hl => ?_)
  have L_4 : ∀ (n : Nat) (ls : Array Slot) (y_1 : Int32) (y_2 : Int32) (hm : ((mg 1).toInt - y_2.toInt).toNat < n) (hl : lv_has ls 4 [(0, .ref (mk 0)), (1, .int y_1), (2, .int y_2)]) (kont : ∀ (ls : Array Slot) (e_3 : Int32), lv_has ls 4 [(1, .int e_3)] → e_3 = lp_X7_border_4 mg st n y_1 y_2 → W p l e ({ frames := 3, cells := 0, slots := 0, locals := 68 } : Room) s m args below meth c s.heap [] 0 0 Q (F0 m 76 ls [])), W p l e ({ frames := 3, cells := 0, slots := 0, locals := 68 } : Room) s m args below meth c s.heap [] 0 0 Q (F0 m 4 ls []) := by
    intro n
    induction n with
    | zero => intro ls y_1 y_2 hm; exact absurd hm (Nat.not_lt_zero _)
    | succ n ih =>
      intro ls y_1 y_2 hm hl kont
      have hT := lp_X7_border_4_s mg st n y_1 y_2
      refine lv_iload_n hx hb dX7_border_4 rfl (lv_at hl 2 rfl) ?_
      refine lv_aload_n hx hb dX7_border_5 rfl (lv_at hl 0 rfl) ?_
      refine gX7_rows C hK hP wd_3_76 dX7_border_6 ?_
      refine lv_icmp_ge (tgt := 76) hx hb dX7_border_9 (by decide) (fun c_4 => ?_) (fun c_4 => ?_)
      · have hT := it_t c_4 hT
        exact kont ls y_1 (lv_sub hl [1] rfl) hT
      · have hT := it_f c_4 hT
        refine lv_iconst (v := 0) hx hb dX7_border_12 (by decide) ?_
        refine lv_istore_n (lv' := [(3, .int (0 : Int32)), (0, .ref (mk 0)), (1, .int y_1), (2, .int y_2)]) hx hb dX7_border_13 rfl hl (by decide) rfl (fun ls hl => ?_)
        have L_14 : ∀ (n : Nat) (ls : Array Slot) (y_5 : Int32) (y_6 : Int32) (hm : ((mg 0).toInt - y_6.toInt).toNat < n) (hl : lv_has ls 4 [(0, .ref (mk 0)), (1, .int y_5), (2, .int y_2), (3, .int y_6)]) (kont : ∀ (ls : Array Slot) (e_7 : Int32), lv_has ls 4 [(0, .ref (mk 0)), (1, .int e_7), (2, .int y_2)] → e_7 = lp_X7_border_14 mg st y_2 n y_5 y_6 → W p l e ({ frames := 3, cells := 0, slots := 0, locals := 68 } : Room) s m args below meth c s.heap [] 0 0 Q (F0 m 70 ls [])), W p l e ({ frames := 3, cells := 0, slots := 0, locals := 68 } : Room) s m args below meth c s.heap [] 0 0 Q (F0 m 14 ls []) := by
          intro n
          induction n with
          | zero => intro ls y_5 y_6 hm; exact absurd hm (Nat.not_lt_zero _)
          | succ n ih =>
            intro ls y_5 y_6 hm hl kont
            have hT := lp_X7_border_14_s mg st y_2 n y_5 y_6
            refine lv_iload_n hx hb dX7_border_14 rfl (lv_at hl 3 rfl) ?_
            refine lv_aload_n hx hb dX7_border_15 rfl (lv_at hl 0 rfl) ?_
            refine gX7_wide C hK hP wd_3_75 dX7_border_16 ?_
            refine lv_icmp_ge (tgt := 70) hx hb dX7_border_19 (by decide) (fun c_8 => ?_) (fun c_8 => ?_)
            · have hT := it_t c_8 hT
              exact kont ls y_5 (lv_sub hl [0, 1, 2] rfl) hT
            · have hT := it_f c_8 hT
              refine lv_iload_n hx hb dX7_border_22 rfl (lv_at hl 1 rfl) ?_
              refine lv_aload_n hx hb dX7_border_23 rfl (lv_at hl 0 rfl) ?_
              refine lv_iload_n hx hb dX7_border_24 rfl (lv_at hl 3 rfl) ?_
              refine lv_iload_n hx hb dX7_border_25 rfl (lv_at hl 2 rfl) ?_
              refine lv_iload_n hx hb dX7_border_26 rfl (lv_at hl 3 rfl) ?_
              refine lv_iconst (v := 1) hx hb dX7_border_27 (by decide) ?_
              refine lv_iadd hx hb dX7_border_28 ?_
              refine lv_iload_n hx hb dX7_border_29 rfl (lv_at hl 2 rfl) ?_
              refine vp_callSi (run_vP (As := [.int y_6, .int y_2, .int (y_6 + (1 : Int32)), .int y_2]) (rest := [.int y_5]) C hK hP hD hN (c_X7_isBorder hw hh _) (rX7_r hK hP) ⟨wd_4_29, wd_4_31, ws_36, wd_1_8, wd_4_32⟩ ⟨rfl, rfl⟩ hv_X7_isBorder ⟨Nat.le_of_ble_eq_true rfl, Nat.le_of_ble_eq_true rfl⟩ rfl hl.1 rfl (Nat.le_of_ble_eq_true rfl) dX7_border_30 ⟨Nat.zero_le _, Nat.zero_le _⟩) (fun r_9 hr_9 => ?_)
              have hT := nm_u hr_9.1 hT
              have K_41 : ∀ (ls : Array Slot) (v_10 : Int32) (bo_v_10 : v_10 = 0 ∨ v_10 = 1) (hl : lv_has ls 4 [(0, .ref (mk 0)), (2, .int y_2), (3, .int y_6)]) (hT0 : jn_X7_border_41 (lp_X7_border_14 mg st y_2 n) mg st y_2 y_5 y_6 v_10 = (lp_X7_border_14 mg st y_2 (n + 1) y_5 y_6)), W p l e ({ frames := 3, cells := 0, slots := 0, locals := 68 } : Room) s m args below meth c s.heap [] 0 0 Q (F0 m 41 ls [.int v_10, .int y_5]) := by
                intro ls v_10 bo_v_10 hl hT0
                have hT := (jn_X7_border_41_s (lp_X7_border_14 mg st y_2 n) mg st y_2 y_5 y_6 v_10).trans hT0
                refine lv_iadd hx hb dX7_border_41 ?_
                refine lv_istore_n (lv' := [(1, .int (y_5 + v_10)), (0, .ref (mk 0)), (2, .int y_2), (3, .int y_6)]) hx hb dX7_border_42 rfl hl (by decide) rfl (fun ls hl => ?_)
                refine lv_iload_n hx hb dX7_border_43 rfl (lv_at hl 0 rfl) ?_
                refine lv_aload_n hx hb dX7_border_44 rfl (lv_at hl 1 rfl) ?_
                refine lv_iload_n hx hb dX7_border_45 rfl (lv_at hl 3 rfl) ?_
                refine lv_iload_n hx hb dX7_border_46 rfl (lv_at hl 2 rfl) ?_
                refine lv_iload_n hx hb dX7_border_47 rfl (lv_at hl 3 rfl) ?_
                refine lv_iload_n hx hb dX7_border_48 rfl (lv_at hl 2 rfl) ?_
                refine lv_iconst (v := 1) hx hb dX7_border_49 (by decide) ?_
                refine lv_iadd hx hb dX7_border_50 ?_
                refine vp_callSi (run_vP (As := [.int y_6, .int y_2, .int y_6, .int (y_2 + (1 : Int32))]) (rest := [.int (y_5 + v_10)]) C hK hP hD hN (c_X7_isBorder hw hh _) (rX7_r hK hP) ⟨wd_4_29, wd_4_31, ws_36, wd_1_8, wd_4_32⟩ ⟨rfl, rfl⟩ hv_X7_isBorder ⟨Nat.le_of_ble_eq_true rfl, Nat.le_of_ble_eq_true rfl⟩ rfl hl.1 rfl (Nat.le_of_ble_eq_true rfl) dX7_border_51 ⟨Nat.zero_le _, Nat.zero_le _⟩) (fun r_11 hr_11 => ?_)
                have hT := nm_u hr_11.1 hT
                refine lv_if_eq (tgt := 61) hx hb dX7_border_54 (by decide) (fun c_12 => ?_) (fun c_12 => ?_)
                · have hT := it_t c_12 hT
                  refine lv_iconst (v := 0) hx hb dX7_border_61 (by decide) ?_
                  refine lv_iadd hx hb dX7_border_62 ?_
                  refine lv_istore_n (lv' := [(1, .int ((y_5 + v_10) + (0 : Int32))), (0, .ref (mk 0)), (2, .int y_2), (3, .int y_6)]) hx hb dX7_border_63 rfl hl (by decide) rfl (fun ls hl => ?_)
                  refine lv_iinc (v := y_6 + 1) (lv' := [(3, .int (y_6 + 1)), (1, .int ((y_5 + v_10) + (0 : Int32))), (0, .ref (mk 0)), (2, .int y_2)]) hx hb dX7_border_64 hl (k := 3) rfl rfl (by decide) rfl (fun ls hl => ?_)
                  refine lv_goto (tgt := 14) hx hb dX7_border_67 (by decide) ?_
                  exact ih ls ((y_5 + v_10) + (0 : Int32)) (y_6 + 1) (ms_up c_8 hm) (lv_sub hl [2, 1, 3, 0] rfl) (fun ls z0 hl he => kont ls z0 hl (he.trans hT))
                · have hT := it_f c_12 hT
                  refine lv_iconst (v := 1) hx hb dX7_border_57 (by decide) ?_
                  refine lv_goto (tgt := 62) hx hb dX7_border_58 (by decide) ?_
                  refine lv_iadd hx hb dX7_border_62 ?_
                  refine lv_istore_n (lv' := [(1, .int ((y_5 + v_10) + (1 : Int32))), (0, .ref (mk 0)), (2, .int y_2), (3, .int y_6)]) hx hb dX7_border_63 rfl hl (by decide) rfl (fun ls hl => ?_)
                  refine lv_iinc (v := y_6 + 1) (lv' := [(3, .int (y_6 + 1)), (1, .int ((y_5 + v_10) + (1 : Int32))), (0, .ref (mk 0)), (2, .int y_2)]) hx hb dX7_border_64 hl (k := 3) rfl rfl (by decide) rfl (fun ls hl => ?_)
                  refine lv_goto (tgt := 14) hx hb dX7_border_67 (by decide) ?_
                  exact ih ls ((y_5 + v_10) + (1 : Int32)) (y_6 + 1) (ms_up c_8 hm) (lv_sub hl [2, 1, 3, 0] rfl) (fun ls z0 hl he => kont ls z0 hl (he.trans hT))
              refine lv_if_eq (tgt := 40) hx hb dX7_border_33 (by decide) (fun c_13 => ?_) (fun c_13 => ?_)
              · have hT := it_t c_13 hT
                refine lv_iconst (v := 0) hx hb dX7_border_40 (by decide) ?_
                exact K_41 ls (0 : Int32) (Or.inl rfl) (lv_sub hl [0, 2, 3] rfl) hT
              · have hT := it_f c_13 hT
                refine lv_iconst (v := 1) hx hb dX7_border_36 (by decide) ?_
                refine lv_goto (tgt := 41) hx hb dX7_border_37 (by decide) ?_
                exact K_41 ls (1 : Int32) (Or.inr rfl) (lv_sub hl [0, 2, 3] rfl) hT
        refine L_14 (((mg 0).toInt - (0 : Int32).toInt).toNat + 1) ls y_1 (0 : Int32) (Nat.lt_succ_self _) (lv_sub hl [1, 2, 3, 0] rfl) (fun ls e_7 hl he => ?_)
        have hT := nm_u he hT
        refine lv_iinc (v := y_2 + 1) (lv' := [(2, .int (y_2 + 1)), (0, .ref (mk 0)), (1, .int e_7)]) hx hb dX7_border_70 hl (k := 2) rfl rfl (by decide) rfl (fun ls hl => ?_)
        refine lv_goto (tgt := 4) hx hb dX7_border_73 (by decide) ?_
        exact ih ls e_7 (y_2 + 1) (ms_up c_4 hm) (lv_sub hl [1, 2, 0] rfl) (fun ls z0 hl he => kont ls z0 hl (he.trans hT))
  refine L_4 (((mg 1).toInt - (0 : Int32).toInt).toNat + 1) ls (0 : Int32) (0 : Int32) (Nat.lt_succ_self _) (lv_sub hl [2, 1, 0] rfl) (fun ls e_3 hl he => ?_)
  have hT := nm_u he hT
  refine lv_iload_n hx hb dX7_border_76 rfl (lv_at hl 0 rfl) ?_
  exact hret _ _ _ hT dX7_border_77
theorem hv_X7_now : yX7_now.cls = RX7 ∧ yX7_now.cls ≠ "java/lang/invoke/MethodHandle" ∧ yX7_now.cls ≠ "java/lang/invoke/VarHandle" ∧ (parseMethodDescriptor yX7_now.desc).map (fun d => d.parameters.length) = some 1 := by decide +kernel
theorem hd_X7_now : yX7_now.cls ≠ "java/lang/invoke/MethodHandle" ∧ yX7_now.cls ≠ "java/lang/invoke/VarHandle" ∧ (parseMethodDescriptor yX7_now.desc).map (fun d => d.parameters.length) = some 1 := hv_X7_now.2
def lp_X7_now_4 (st : Nat → Int32) : Nat → Int32 → Int32 → Int32
  | 0, y_1, y_2 => y_1
  | n + 1, y_1, y_2 => if (20 : Int32) ≤ y_2 then y_1 else (if (st y_2.toNatClampNeg) ≤ 0 then (lp_X7_now_4 st n (y_1 ||| (0 : Int32)) (y_2 + 1)) else (lp_X7_now_4 st n (y_1 ||| ((1 : Int32) <<< (y_2 &&& 31))) (y_2 + 1)))
theorem lp_X7_now_4_s (st : Nat → Int32) (n : Nat) (y_1 : Int32) (y_2 : Int32) : (if (20 : Int32) ≤ y_2 then y_1 else (if (st y_2.toNatClampNeg) ≤ 0 then (lp_X7_now_4 st n (y_1 ||| (0 : Int32)) (y_2 + 1)) else (lp_X7_now_4 st n (y_1 ||| ((1 : Int32) <<< (y_2 &&& 31))) (y_2 + 1)))) = lp_X7_now_4 st (n + 1) y_1 y_2 := rfl
def sp_X7_now (mg : Nat → Int32) (st : Nat → Int32) (x1 : Int32) : Int32 :=
  nm (lp_X7_now_4 st (((20 : Int32).toInt - (0 : Int32).toInt).toNat + 1) (0 : Int32) (0 : Int32)) (fun e_3 => if x1 = (0 : Int32) then (st (21 : Int32).toNatClampNeg) else (if x1 = (1 : Int32) then (st (22 : Int32).toNatClampNeg) else (if x1 = (2 : Int32) then (st (20 : Int32).toNatClampNeg) else (if x1 = (3 : Int32) then e_3 else (if x1 = (4 : Int32) then (nm (sp_X7_stillOnes mg st (st (20 : Int32).toNatClampNeg) (st (21 : Int32).toNatClampNeg)) (fun r_11 => r_11)) else (if x1 = (5 : Int32) then (nm (sp_X7_border mg st) (fun r_13 => r_13)) else (-1 : Int32)))))))
theorem sp_X7_now_s (mg : Nat → Int32) (st : Nat → Int32) (x1 : Int32) : (nm (lp_X7_now_4 st (((20 : Int32).toInt - (0 : Int32).toInt).toNat + 1) (0 : Int32) (0 : Int32)) (fun e_3 => if x1 = (0 : Int32) then (st (21 : Int32).toNatClampNeg) else (if x1 = (1 : Int32) then (st (22 : Int32).toNatClampNeg) else (if x1 = (2 : Int32) then (st (20 : Int32).toNatClampNeg) else (if x1 = (3 : Int32) then e_3 else (if x1 = (4 : Int32) then (nm (sp_X7_stillOnes mg st (st (20 : Int32).toNatClampNeg) (st (21 : Int32).toNatClampNeg)) (fun r_11 => r_11)) else (if x1 = (5 : Int32) then (nm (sp_X7_border mg st) (fun r_13 => r_13)) else (-1 : Int32)))))))) = sp_X7_now mg st x1 := rfl
set_option maxHeartbeats 4000000 in
set_option maxRecDepth 100000 in
theorem c_X7_now {l : Launch} {D : va_G} {cI cZ cO : ClassId} {mk : Nat → Nat} {mg st im ke se tx sh fa : Nat → Int32} {mt : Int64} {x1 : Int32} (hw : 1 ≤ (mg 0).toInt ∧ (mg 0).toInt ≤ 5) (hh : 1 ≤ (mg 1).toInt ∧ (mg 1).toInt ≤ 4) (sz : Nat) : Met l yX7_now (wm yX7_now cX7_now 4 (some .int)) ({ frames := 5, cells := 0, slots := 0, locals := 117 } : Room) (GPre D (ty3 cI cZ cO) (MW cI cZ mk mg st im ke se tx sh fa mt) [.ref (mk 0), .int x1] sz) (vp_Si (fun r => r = sp_X7_now mg st x1)) 0 0 (fun _ => False) := by
  refine metP_i (post := (fun r => r = sp_X7_now mg st x1)) (by decide) (Nat.le_of_ble_eq_true rfl) ?_
  intro p e s m args below meth c ls Q C hsz hP hK hD hN hl hret
  have hx := C.1
  have hb := C.2.1
  have hl : lv_has ls 4 [(0, .ref (mk 0)), (1, .int x1)] := hl
  have hT := sp_X7_now_s mg st x1
  refine lv_iconst (v := 0) hx hb dX7_now_0 (by decide) ?_
  refine lv_istore_n (lv' := [(2, .int (0 : Int32)), (0, .ref (mk 0)), (1, .int x1)]) hx hb dX7_now_1 rfl hl (by decide) rfl (fun ls hl => ?_)
  refine lv_iconst (v := 0) hx hb dX7_now_2 (by decide) ?_
  refine lv_istore_n (lv' := [(3, .int (0 : Int32)), (2, .int (0 : Int32)), (0, .ref (mk 0)), (1, .int x1)]) hx hb dX7_now_3 rfl hl (by decide) rfl (fun ls hl => ?_)
  have L_4 : ∀ (n : Nat) (ls : Array Slot) (y_1 : Int32) (y_2 : Int32) (z3 : 0 ≤ y_2.toInt) (hm : ((20 : Int32).toInt - y_2.toInt).toNat < n) (hl : lv_has ls 4 [(0, .ref (mk 0)), (1, .int x1), (2, .int y_1), (3, .int y_2)]) (kont : ∀ (ls : Array Slot) (e_3 : Int32), lv_has ls 4 [(0, .ref (mk 0)), (1, .int x1), (2, .int e_3)] → e_3 = lp_X7_now_4 st n y_1 y_2 → W p l e ({ frames := 5, cells := 0, slots := 0, locals := 117 } : Room) s m args below meth c s.heap [] 0 0 Q (F0 m 35 ls [])), W p l e ({ frames := 5, cells := 0, slots := 0, locals := 117 } : Room) s m args below meth c s.heap [] 0 0 Q (F0 m 4 ls []) := by
    intro n
    induction n with
    | zero => intro ls y_1 y_2 z3 hm; exact absurd hm (Nat.not_lt_zero _)
    | succ n ih =>
      intro ls y_1 y_2 z3 hm hl kont
      have hT := lp_X7_now_4_s st n y_1 y_2
      refine lv_iload_n hx hb dX7_now_4 rfl (lv_at hl 3 rfl) ?_
      refine lv_bipush (v := 20) hx hb dX7_now_5 (by decide) ?_
      refine lv_icmp_ge (tgt := 35) hx hb dX7_now_7 (by decide) (fun c_4 => ?_) (fun c_4 => ?_)
      · have hT := it_t c_4 hT
        exact kont ls y_1 (lv_sub hl [0, 1, 2] rfl) hT
      · have hT := it_f c_4 hT
        refine lv_iload_n hx hb dX7_now_10 rfl (lv_at hl 2 rfl) ?_
        refine lv_aload_n hx hb dX7_now_11 rfl (lv_at hl 0 rfl) ?_
        refine gX7_st C hK hP wd_3_77 dX7_now_12 ?_
        refine lv_iload_n hx hb dX7_now_15 rfl (lv_at hl 3 rfl) ?_
        refine aM_st C hK hP (ix_inv_nle z3 c_4) dX7_now_16 ?_
        refine lv_if_le (tgt := 26) hx hb dX7_now_17 (by decide) (fun c_5 => ?_) (fun c_5 => ?_)
        · have hT := it_t c_5 hT
          refine lv_iconst (v := 0) hx hb dX7_now_26 (by decide) ?_
          refine lv_ior hx hb dX7_now_27 ?_
          refine lv_istore_n (lv' := [(2, .int (y_1 ||| (0 : Int32))), (0, .ref (mk 0)), (1, .int x1), (3, .int y_2)]) hx hb dX7_now_28 rfl hl (by decide) rfl (fun ls hl => ?_)
          refine lv_iinc (v := y_2 + 1) (lv' := [(3, .int (y_2 + 1)), (2, .int (y_1 ||| (0 : Int32))), (0, .ref (mk 0)), (1, .int x1)]) hx hb dX7_now_29 hl (k := 3) rfl rfl (by decide) rfl (fun ls hl => ?_)
          refine lv_goto (tgt := 4) hx hb dX7_now_32 (by decide) ?_
          exact ih ls (y_1 ||| (0 : Int32)) (y_2 + 1) (up0 c_4 z3) (ms_up c_4 hm) (lv_sub hl [2, 3, 1, 0] rfl) (fun ls z0 hl he => kont ls z0 hl (he.trans hT))
        · have hT := it_f c_5 hT
          refine lv_iconst (v := 1) hx hb dX7_now_20 (by decide) ?_
          refine lv_iload_n hx hb dX7_now_21 rfl (lv_at hl 3 rfl) ?_
          refine lv_ishl hx hb dX7_now_22 ?_
          refine lv_goto (tgt := 27) hx hb dX7_now_23 (by decide) ?_
          refine lv_ior hx hb dX7_now_27 ?_
          refine lv_istore_n (lv' := [(2, .int (y_1 ||| ((1 : Int32) <<< (y_2 &&& 31)))), (0, .ref (mk 0)), (1, .int x1), (3, .int y_2)]) hx hb dX7_now_28 rfl hl (by decide) rfl (fun ls hl => ?_)
          refine lv_iinc (v := y_2 + 1) (lv' := [(3, .int (y_2 + 1)), (2, .int (y_1 ||| ((1 : Int32) <<< (y_2 &&& 31)))), (0, .ref (mk 0)), (1, .int x1)]) hx hb dX7_now_29 hl (k := 3) rfl rfl (by decide) rfl (fun ls hl => ?_)
          refine lv_goto (tgt := 4) hx hb dX7_now_32 (by decide) ?_
          exact ih ls (y_1 ||| ((1 : Int32) <<< (y_2 &&& 31))) (y_2 + 1) (up0 c_4 z3) (ms_up c_4 hm) (lv_sub hl [2, 3, 1, 0] rfl) (fun ls z0 hl he => kont ls z0 hl (he.trans hT))
  refine L_4 (((20 : Int32).toInt - (0 : Int32).toInt).toNat + 1) ls (0 : Int32) (0 : Int32) (by decide) (Nat.lt_succ_self _) (lv_sub hl [2, 3, 1, 0] rfl) (fun ls e_3 hl he => ?_)
  have hT := nm_u he hT
  refine lv_iload_n hx hb dX7_now_35 rfl (lv_at hl 1 rfl) ?_
  by_cases c_6 : x1 = (0 : Int32)
  · have hT := it_t c_6 hT
    refine lv_tableIn (tgt := 76) hx hb dX7_now_36 (by rw [c_6]; decide) (by rw [c_6]; decide) (by rw [c_6]; rfl) (by decide) ?_
    refine lv_aload_n hx hb dX7_now_76 rfl (lv_at hl 0 rfl) ?_
    refine gX7_st C hK hP wd_3_77 dX7_now_77 ?_
    refine lv_bipush (v := 21) hx hb dX7_now_80 (by decide) ?_
    refine aM_st C hK hP (ix_of (by decide) (by decide)) dX7_now_82 ?_
    exact hret _ _ _ hT dX7_now_83
  · have hT := it_f c_6 hT
    by_cases c_7 : x1 = (1 : Int32)
    · have hT := it_t c_7 hT
      refine lv_tableIn (tgt := 84) hx hb dX7_now_36 (by rw [c_7]; decide) (by rw [c_7]; decide) (by rw [c_7]; rfl) (by decide) ?_
      refine lv_aload_n hx hb dX7_now_84 rfl (lv_at hl 0 rfl) ?_
      refine gX7_st C hK hP wd_3_77 dX7_now_85 ?_
      refine lv_bipush (v := 22) hx hb dX7_now_88 (by decide) ?_
      refine aM_st C hK hP (ix_of (by decide) (by decide)) dX7_now_90 ?_
      exact hret _ _ _ hT dX7_now_91
    · have hT := it_f c_7 hT
      by_cases c_8 : x1 = (2 : Int32)
      · have hT := it_t c_8 hT
        refine lv_tableIn (tgt := 92) hx hb dX7_now_36 (by rw [c_8]; decide) (by rw [c_8]; decide) (by rw [c_8]; rfl) (by decide) ?_
        refine lv_aload_n hx hb dX7_now_92 rfl (lv_at hl 0 rfl) ?_
        refine gX7_st C hK hP wd_3_77 dX7_now_93 ?_
        refine lv_bipush (v := 20) hx hb dX7_now_96 (by decide) ?_
        refine aM_st C hK hP (ix_of (by decide) (by decide)) dX7_now_98 ?_
        exact hret _ _ _ hT dX7_now_99
      · have hT := it_f c_8 hT
        by_cases c_9 : x1 = (3 : Int32)
        · have hT := it_t c_9 hT
          refine lv_tableIn (tgt := 100) hx hb dX7_now_36 (by rw [c_9]; decide) (by rw [c_9]; decide) (by rw [c_9]; rfl) (by decide) ?_
          refine lv_iload_n hx hb dX7_now_100 rfl (lv_at hl 2 rfl) ?_
          exact hret _ _ _ hT dX7_now_101
        · have hT := it_f c_9 hT
          by_cases c_10 : x1 = (4 : Int32)
          · have hT := it_t c_10 hT
            refine lv_tableIn (tgt := 102) hx hb dX7_now_36 (by rw [c_10]; decide) (by rw [c_10]; decide) (by rw [c_10]; rfl) (by decide) ?_
            refine lv_aload_n hx hb dX7_now_102 rfl (lv_at hl 0 rfl) ?_
            refine lv_aload_n hx hb dX7_now_103 rfl (lv_at hl 0 rfl) ?_
            refine gX7_st C hK hP wd_3_77 dX7_now_104 ?_
            refine lv_bipush (v := 20) hx hb dX7_now_107 (by decide) ?_
            refine aM_st C hK hP (ix_of (by decide) (by decide)) dX7_now_109 ?_
            refine lv_aload_n hx hb dX7_now_110 rfl (lv_at hl 0 rfl) ?_
            refine gX7_st C hK hP wd_3_77 dX7_now_111 ?_
            refine lv_bipush (v := 21) hx hb dX7_now_114 (by decide) ?_
            refine aM_st C hK hP (ix_of (by decide) (by decide)) dX7_now_116 ?_
            refine vp_callSi (run_vP (As := [.int (st (20 : Int32).toNatClampNeg), .int (st (21 : Int32).toNatClampNeg)]) (rest := []) C hK hP hD hN (c_X7_stillOnes _) (rX7_r hK hP) ⟨wd_3_222, wd_3_224, ws_32, wd_1_8, wd_3_225⟩ ⟨rfl, rfl⟩ hv_X7_stillOnes ⟨Nat.le_of_ble_eq_true rfl, Nat.le_of_ble_eq_true rfl⟩ rfl hl.1 rfl (Nat.le_of_ble_eq_true rfl) dX7_now_117 ⟨Nat.zero_le _, Nat.zero_le _⟩) (fun r_11 hr_11 => ?_)
            have hT := nm_u hr_11 hT
            exact hret _ _ _ hT dX7_now_120
          · have hT := it_f c_10 hT
            by_cases c_12 : x1 = (5 : Int32)
            · have hT := it_t c_12 hT
              refine lv_tableIn (tgt := 121) hx hb dX7_now_36 (by rw [c_12]; decide) (by rw [c_12]; decide) (by rw [c_12]; rfl) (by decide) ?_
              refine lv_aload_n hx hb dX7_now_121 rfl (lv_at hl 0 rfl) ?_
              refine vp_callSi (run_vP (As := []) (rest := []) C hK hP hD hN (c_X7_border hw hh _) (rX7_r hK hP) ⟨wd_4_25, wd_4_27, ws_35, wd_1_8, wd_4_28⟩ ⟨rfl, rfl⟩ hv_X7_border ⟨Nat.le_of_ble_eq_true rfl, Nat.le_of_ble_eq_true rfl⟩ rfl hl.1 rfl (Nat.le_of_ble_eq_true rfl) dX7_now_122 ⟨Nat.zero_le _, Nat.zero_le _⟩) (fun r_13 hr_13 => ?_)
              have hT := nm_u hr_13 hT
              exact hret _ _ _ hT dX7_now_125
            · have hT := it_f c_12 hT
              refine lv_tableOut (tgt := 126) hx hb dX7_now_36 (by have h0 := lv_neT (a := 0) c_6 rfl; have h1 := lv_neT (a := 1) c_7 rfl; have h2 := lv_neT (a := 2) c_8 rfl; have h3 := lv_neT (a := 3) c_9 rfl; have h4 := lv_neT (a := 4) c_10 rfl; have h5 := lv_neT (a := 5) c_12 rfl; omega) (by decide) ?_
              refine lv_iconst (v := -1) hx hb dX7_now_126 (by decide) ?_
              exact hret _ _ _ hT dX7_now_127
theorem hv_X7_costOf : yX7_costOf.cls = RX7 ∧ yX7_costOf.cls ≠ "java/lang/invoke/MethodHandle" ∧ yX7_costOf.cls ≠ "java/lang/invoke/VarHandle" ∧ (parseMethodDescriptor yX7_costOf.desc).map (fun d => d.parameters.length) = some 2 := by decide +kernel
theorem hd_X7_costOf : yX7_costOf.cls ≠ "java/lang/invoke/MethodHandle" ∧ yX7_costOf.cls ≠ "java/lang/invoke/VarHandle" ∧ (parseMethodDescriptor yX7_costOf.desc).map (fun d => d.parameters.length) = some 2 := hv_X7_costOf.2
def sp_X7_costOf (st : Nat → Int32) (x1 : Int32) (x2 : Int32) : Int32 :=
  if (st x2.toNatClampNeg) = 0 then (0 : Int32) else (if (st x2.toNatClampNeg) = (x1 + (1 : Int32)) then (0 : Int32) else (1 : Int32))
theorem sp_X7_costOf_s (st : Nat → Int32) (x1 : Int32) (x2 : Int32) : (if (st x2.toNatClampNeg) = 0 then (0 : Int32) else (if (st x2.toNatClampNeg) = (x1 + (1 : Int32)) then (0 : Int32) else (1 : Int32))) = sp_X7_costOf st x1 x2 := rfl
set_option maxHeartbeats 4000000 in
set_option maxRecDepth 100000 in
theorem c_X7_costOf {l : Launch} {D : va_G} {cI cZ cO : ClassId} {mk : Nat → Nat} {mg st im ke se tx sh fa : Nat → Int32} {mt : Int64} {x1 : Int32} {x2 : Int32} (hk : vp_in x2 20) (sz : Nat) : Met l yX7_costOf (wm yX7_costOf cX7_costOf 3 (some .int)) ({ frames := 0, cells := 0, slots := 0, locals := 0 } : Room) (GPre D (ty3 cI cZ cO) (MW cI cZ mk mg st im ke se tx sh fa mt) [.ref (mk 0), .int x1, .int x2] sz) (vp_Si (fun r => r = sp_X7_costOf st x1 x2)) 0 0 (fun _ => False) := by
  refine metP_i (post := (fun r => r = sp_X7_costOf st x1 x2)) (by decide) (Nat.le_of_ble_eq_true rfl) ?_
  intro p e s m args below meth c ls Q C hsz hP hK hD hN hl hret
  have hx := C.1
  have hb := C.2.1
  have hl : lv_has ls 3 [(0, .ref (mk 0)), (1, .int x1), (2, .int x2)] := hl
  have hT := sp_X7_costOf_s st x1 x2
  refine lv_aload_n hx hb dX7_costOf_0 rfl (lv_at hl 0 rfl) ?_
  refine gX7_st C hK hP wd_3_77 dX7_costOf_1 ?_
  refine lv_iload_n hx hb dX7_costOf_4 rfl (lv_at hl 2 rfl) ?_
  refine aM_st C hK hP (vp_le hk (by decide)) dX7_costOf_5 ?_
  refine lv_if_eq (tgt := 21) hx hb dX7_costOf_6 (by decide) (fun c_1 => ?_) (fun c_1 => ?_)
  · have hT := it_t c_1 hT
    refine lv_iconst (v := 0) hx hb dX7_costOf_21 (by decide) ?_
    refine lv_goto (tgt := 26) hx hb dX7_costOf_22 (by decide) ?_
    exact hret _ _ _ hT dX7_costOf_26
  · have hT := it_f c_1 hT
    refine lv_aload_n hx hb dX7_costOf_9 rfl (lv_at hl 0 rfl) ?_
    refine gX7_st C hK hP wd_3_77 dX7_costOf_10 ?_
    refine lv_iload_n hx hb dX7_costOf_13 rfl (lv_at hl 2 rfl) ?_
    refine aM_st C hK hP (vp_le hk (by decide)) dX7_costOf_14 ?_
    refine lv_iload_n hx hb dX7_costOf_15 rfl (lv_at hl 1 rfl) ?_
    refine lv_iconst (v := 1) hx hb dX7_costOf_16 (by decide) ?_
    refine lv_iadd hx hb dX7_costOf_17 ?_
    refine lv_icmp_ne (tgt := 25) hx hb dX7_costOf_18 (by decide) (fun c_2 => ?_) (fun c_2 => ?_)
    · have hT := it_f c_2 hT
      refine lv_iconst (v := 1) hx hb dX7_costOf_25 (by decide) ?_
      exact hret _ _ _ hT dX7_costOf_26
    · have hT := it_t c_2 hT
      refine lv_iconst (v := 0) hx hb dX7_costOf_21 (by decide) ?_
      refine lv_goto (tgt := 26) hx hb dX7_costOf_22 (by decide) ?_
      exact hret _ _ _ hT dX7_costOf_26
theorem hv_X7_leastBeside : yX7_leastBeside.cls = RX7 ∧ yX7_leastBeside.cls ≠ "java/lang/invoke/MethodHandle" ∧ yX7_leastBeside.cls ≠ "java/lang/invoke/VarHandle" ∧ (parseMethodDescriptor yX7_leastBeside.desc).map (fun d => d.parameters.length) = some 2 := by decide +kernel
theorem hd_X7_leastBeside : yX7_leastBeside.cls ≠ "java/lang/invoke/MethodHandle" ∧ yX7_leastBeside.cls ≠ "java/lang/invoke/VarHandle" ∧ (parseMethodDescriptor yX7_leastBeside.desc).map (fun d => d.parameters.length) = some 2 := hv_X7_leastBeside.2
def jn_X7_leastBeside_93 (rec_6 : Int32 → Int32 → Int32) (fa : Nat → Int32) (x1 : Int32) (x2 : Int32) (y_1 : Int32) (y_2 : Int32) (v_5 : Int32) (v_6 : Int32) (v_8 : Int32) : Int32 :=
  if v_8 = 0 then (rec_6 y_1 (y_2 + 1)) else (nm (fa (((5 : Int32) * (x2 + v_6)) + (x1 + v_5)).toNatClampNeg) (fun y_10 => rec_6 y_10 (y_2 + 1)))
theorem jn_X7_leastBeside_93_s (rec_6 : Int32 → Int32 → Int32) (fa : Nat → Int32) (x1 : Int32) (x2 : Int32) (y_1 : Int32) (y_2 : Int32) (v_5 : Int32) (v_6 : Int32) (v_8 : Int32) : (if v_8 = 0 then (rec_6 y_1 (y_2 + 1)) else (nm (fa (((5 : Int32) * (x2 + v_6)) + (x1 + v_5)).toNatClampNeg) (fun y_10 => rec_6 y_10 (y_2 + 1)))) = jn_X7_leastBeside_93 rec_6 fa x1 x2 y_1 y_2 v_5 v_6 v_8 := rfl
def jn_X7_leastBeside_58 (rec_6 : Int32 → Int32 → Int32) (mg : Nat → Int32) (fa : Nat → Int32) (x1 : Int32) (x2 : Int32) (y_1 : Int32) (y_2 : Int32) (v_5 : Int32) (v_6 : Int32) : Int32 :=
  nm (sp_X7_isCell mg (x1 + v_5) (x2 + v_6)) (fun r_7 => if r_7 = 0 then (jn_X7_leastBeside_93 rec_6 fa x1 x2 y_1 y_2 v_5 v_6 (0 : Int32)) else (if y_1 ≤ (fa (((5 : Int32) * (x2 + v_6)) + (x1 + v_5)).toNatClampNeg) then (jn_X7_leastBeside_93 rec_6 fa x1 x2 y_1 y_2 v_5 v_6 (0 : Int32)) else (jn_X7_leastBeside_93 rec_6 fa x1 x2 y_1 y_2 v_5 v_6 (1 : Int32))))
theorem jn_X7_leastBeside_58_s (rec_6 : Int32 → Int32 → Int32) (mg : Nat → Int32) (fa : Nat → Int32) (x1 : Int32) (x2 : Int32) (y_1 : Int32) (y_2 : Int32) (v_5 : Int32) (v_6 : Int32) : (nm (sp_X7_isCell mg (x1 + v_5) (x2 + v_6)) (fun r_7 => if r_7 = 0 then (jn_X7_leastBeside_93 rec_6 fa x1 x2 y_1 y_2 v_5 v_6 (0 : Int32)) else (if y_1 ≤ (fa (((5 : Int32) * (x2 + v_6)) + (x1 + v_5)).toNatClampNeg) then (jn_X7_leastBeside_93 rec_6 fa x1 x2 y_1 y_2 v_5 v_6 (0 : Int32)) else (jn_X7_leastBeside_93 rec_6 fa x1 x2 y_1 y_2 v_5 v_6 (1 : Int32))))) = jn_X7_leastBeside_58 rec_6 mg fa x1 x2 y_1 y_2 v_5 v_6 := rfl
def jn_X7_leastBeside_33 (rec_6 : Int32 → Int32 → Int32) (mg : Nat → Int32) (fa : Nat → Int32) (x1 : Int32) (x2 : Int32) (y_1 : Int32) (y_2 : Int32) (v_5 : Int32) : Int32 :=
  if y_2 = (2 : Int32) then (jn_X7_leastBeside_58 rec_6 mg fa x1 x2 y_1 y_2 v_5 (1 : Int32)) else (if y_2 = (3 : Int32) then (jn_X7_leastBeside_58 rec_6 mg fa x1 x2 y_1 y_2 v_5 (-1 : Int32)) else (jn_X7_leastBeside_58 rec_6 mg fa x1 x2 y_1 y_2 v_5 (0 : Int32)))
theorem jn_X7_leastBeside_33_s (rec_6 : Int32 → Int32 → Int32) (mg : Nat → Int32) (fa : Nat → Int32) (x1 : Int32) (x2 : Int32) (y_1 : Int32) (y_2 : Int32) (v_5 : Int32) : (if y_2 = (2 : Int32) then (jn_X7_leastBeside_58 rec_6 mg fa x1 x2 y_1 y_2 v_5 (1 : Int32)) else (if y_2 = (3 : Int32) then (jn_X7_leastBeside_58 rec_6 mg fa x1 x2 y_1 y_2 v_5 (-1 : Int32)) else (jn_X7_leastBeside_58 rec_6 mg fa x1 x2 y_1 y_2 v_5 (0 : Int32)))) = jn_X7_leastBeside_33 rec_6 mg fa x1 x2 y_1 y_2 v_5 := rfl
def lp_X7_leastBeside_6 (mg : Nat → Int32) (fa : Nat → Int32) (x1 : Int32) (x2 : Int32) : Nat → Int32 → Int32 → Int32
  | 0, y_1, y_2 => y_1
  | n + 1, y_1, y_2 => if (4 : Int32) ≤ y_2 then y_1 else (if y_2 = 0 then (jn_X7_leastBeside_33 (lp_X7_leastBeside_6 mg fa x1 x2 n) mg fa x1 x2 y_1 y_2 (1 : Int32)) else (if y_2 = (1 : Int32) then (jn_X7_leastBeside_33 (lp_X7_leastBeside_6 mg fa x1 x2 n) mg fa x1 x2 y_1 y_2 (-1 : Int32)) else (jn_X7_leastBeside_33 (lp_X7_leastBeside_6 mg fa x1 x2 n) mg fa x1 x2 y_1 y_2 (0 : Int32))))
theorem lp_X7_leastBeside_6_s (mg : Nat → Int32) (fa : Nat → Int32) (x1 : Int32) (x2 : Int32) (n : Nat) (y_1 : Int32) (y_2 : Int32) : (if (4 : Int32) ≤ y_2 then y_1 else (if y_2 = 0 then (jn_X7_leastBeside_33 (lp_X7_leastBeside_6 mg fa x1 x2 n) mg fa x1 x2 y_1 y_2 (1 : Int32)) else (if y_2 = (1 : Int32) then (jn_X7_leastBeside_33 (lp_X7_leastBeside_6 mg fa x1 x2 n) mg fa x1 x2 y_1 y_2 (-1 : Int32)) else (jn_X7_leastBeside_33 (lp_X7_leastBeside_6 mg fa x1 x2 n) mg fa x1 x2 y_1 y_2 (0 : Int32))))) = lp_X7_leastBeside_6 mg fa x1 x2 (n + 1) y_1 y_2 := rfl
def sp_X7_leastBeside (mg : Nat → Int32) (fa : Nat → Int32) (x1 : Int32) (x2 : Int32) : Int32 :=
  nm (lp_X7_leastBeside_6 mg fa x1 x2 (((4 : Int32).toInt - (0 : Int32).toInt).toNat + 1) (100 : Int32) (0 : Int32)) (fun e_3 => e_3)
theorem sp_X7_leastBeside_s (mg : Nat → Int32) (fa : Nat → Int32) (x1 : Int32) (x2 : Int32) : (nm (lp_X7_leastBeside_6 mg fa x1 x2 (((4 : Int32).toInt - (0 : Int32).toInt).toNat + 1) (100 : Int32) (0 : Int32)) (fun e_3 => e_3)) = sp_X7_leastBeside mg fa x1 x2 := rfl
set_option maxHeartbeats 4000000 in
set_option maxRecDepth 100000 in
theorem c_X7_leastBeside {l : Launch} {D : va_G} {cI cZ cO : ClassId} {mk : Nat → Nat} {mg st im ke se tx sh fa : Nat → Int32} {mt : Int64} {x1 : Int32} {x2 : Int32} (hw : 1 ≤ (mg 0).toInt ∧ (mg 0).toInt ≤ 5) (hh : 1 ≤ (mg 1).toInt ∧ (mg 1).toInt ≤ 4) (sz : Nat) : Met l yX7_leastBeside (wm yX7_leastBeside cX7_leastBeside 8 (some .int)) ({ frames := 2, cells := 0, slots := 0, locals := 44 } : Room) (GPre D (ty3 cI cZ cO) (MW cI cZ mk mg st im ke se tx sh fa mt) [.ref (mk 0), .int x1, .int x2] sz) (vp_Si (fun r => r = sp_X7_leastBeside mg fa x1 x2)) 0 0 (fun _ => False) := by
  refine metP_i (post := (fun r => r = sp_X7_leastBeside mg fa x1 x2)) (by decide) (Nat.le_of_ble_eq_true rfl) ?_
  intro p e s m args below meth c ls Q C hsz hP hK hD hN hl hret
  have hx := C.1
  have hb := C.2.1
  have hl : lv_has ls 8 [(0, .ref (mk 0)), (1, .int x1), (2, .int x2)] := hl
  have hT := sp_X7_leastBeside_s mg fa x1 x2
  refine lv_bipush (v := 100) hx hb dX7_leastBeside_0 (by decide) ?_
  refine lv_istore_n (lv' := [(3, .int (100 : Int32)), (0, .ref (mk 0)), (1, .int x1), (2, .int x2)]) hx hb dX7_leastBeside_2 rfl hl (by decide) rfl (fun ls hl => ?_)
  refine lv_iconst (v := 0) hx hb dX7_leastBeside_3 (by decide) ?_
  refine lv_istore (lv' := [(4, .int (0 : Int32)), (3, .int (100 : Int32)), (0, .ref (mk 0)), (1, .int x1), (2, .int x2)]) hx hb dX7_leastBeside_4 hl (by decide) rfl (fun ls hl => ?_)
  have L_6 : ∀ (n : Nat) (ls : Array Slot) (y_1 : Int32) (y_2 : Int32) (hm : ((4 : Int32).toInt - y_2.toInt).toNat < n) (hl : lv_has ls 8 [(0, .ref (mk 0)), (1, .int x1), (2, .int x2), (3, .int y_1), (4, .int y_2)]) (kont : ∀ (ls : Array Slot) (e_3 : Int32), lv_has ls 8 [(3, .int e_3)] → e_3 = lp_X7_leastBeside_6 mg fa x1 x2 n y_1 y_2 → W p l e ({ frames := 2, cells := 0, slots := 0, locals := 44 } : Room) s m args below meth c s.heap [] 0 0 Q (F0 m 123 ls [])), W p l e ({ frames := 2, cells := 0, slots := 0, locals := 44 } : Room) s m args below meth c s.heap [] 0 0 Q (F0 m 6 ls []) := by
    intro n
    induction n with
    | zero => intro ls y_1 y_2 hm; exact absurd hm (Nat.not_lt_zero _)
    | succ n ih =>
      intro ls y_1 y_2 hm hl kont
      have hT := lp_X7_leastBeside_6_s mg fa x1 x2 n y_1 y_2
      refine lv_iload hx hb dX7_leastBeside_6 (lv_at hl 4 rfl) ?_
      refine lv_iconst (v := 4) hx hb dX7_leastBeside_8 (by decide) ?_
      refine lv_icmp_ge (tgt := 123) hx hb dX7_leastBeside_9 (by decide) (fun c_4 => ?_) (fun c_4 => ?_)
      · have hT := it_t c_4 hT
        exact kont ls y_1 (lv_sub hl [3] rfl) hT
      · have hT := it_f c_4 hT
        refine lv_iload_n hx hb dX7_leastBeside_12 rfl (lv_at hl 1 rfl) ?_
        refine lv_iload hx hb dX7_leastBeside_13 (lv_at hl 4 rfl) ?_
        have K_33 : ∀ (ls : Array Slot) (v_5 : Int32) (hl : lv_has ls 8 [(0, .ref (mk 0)), (1, .int x1), (2, .int x2), (3, .int y_1), (4, .int y_2)]) (hT0 : jn_X7_leastBeside_33 (lp_X7_leastBeside_6 mg fa x1 x2 n) mg fa x1 x2 y_1 y_2 v_5 = (lp_X7_leastBeside_6 mg fa x1 x2 (n + 1) y_1 y_2)), W p l e ({ frames := 2, cells := 0, slots := 0, locals := 44 } : Room) s m args below meth c s.heap [] 0 0 Q (F0 m 33 ls [.int v_5, .int x1]) := by
          intro ls v_5 hl hT0
          have hT := (jn_X7_leastBeside_33_s (lp_X7_leastBeside_6 mg fa x1 x2 n) mg fa x1 x2 y_1 y_2 v_5).trans hT0
          refine lv_iadd hx hb dX7_leastBeside_33 ?_
          refine lv_istore (lv' := [(5, .int (x1 + v_5)), (0, .ref (mk 0)), (1, .int x1), (2, .int x2), (3, .int y_1), (4, .int y_2)]) hx hb dX7_leastBeside_34 hl (by decide) rfl (fun ls hl => ?_)
          refine lv_iload_n hx hb dX7_leastBeside_36 rfl (lv_at hl 3 rfl) ?_
          refine lv_iload hx hb dX7_leastBeside_37 (lv_at hl 5 rfl) ?_
          refine lv_iconst (v := 2) hx hb dX7_leastBeside_39 (by decide) ?_
          have K_58 : ∀ (ls : Array Slot) (v_6 : Int32) (hl : lv_has ls 8 [(0, .ref (mk 0)), (1, .int x1), (2, .int x2), (3, .int y_1), (4, .int y_2), (5, .int (x1 + v_5))]) (hT0 : jn_X7_leastBeside_58 (lp_X7_leastBeside_6 mg fa x1 x2 n) mg fa x1 x2 y_1 y_2 v_5 v_6 = (lp_X7_leastBeside_6 mg fa x1 x2 (n + 1) y_1 y_2)), W p l e ({ frames := 2, cells := 0, slots := 0, locals := 44 } : Room) s m args below meth c s.heap [] 0 0 Q (F0 m 58 ls [.int v_6, .int x2]) := by
            intro ls v_6 hl hT0
            have hT := (jn_X7_leastBeside_58_s (lp_X7_leastBeside_6 mg fa x1 x2 n) mg fa x1 x2 y_1 y_2 v_5 v_6).trans hT0
            refine lv_iadd hx hb dX7_leastBeside_58 ?_
            refine lv_istore (lv' := [(6, .int (x2 + v_6)), (0, .ref (mk 0)), (1, .int x1), (2, .int x2), (3, .int y_1), (4, .int y_2), (5, .int (x1 + v_5))]) hx hb dX7_leastBeside_59 hl (by decide) rfl (fun ls hl => ?_)
            refine lv_aload_n hx hb dX7_leastBeside_61 rfl (lv_at hl 1 rfl) ?_
            refine lv_iload hx hb dX7_leastBeside_62 (lv_at hl 6 rfl) ?_
            refine lv_iload hx hb dX7_leastBeside_64 (lv_at hl 0 rfl) ?_
            refine vp_callSi (run_vP (As := [.int (x1 + v_5), .int (x2 + v_6)]) (rest := []) C hK hP hD hN (c_X7_isCell _) (rX7_r hK hP) ⟨wd_3_195, wd_3_197, ws_27, wd_1_8, wd_3_198⟩ ⟨rfl, rfl⟩ hv_X7_isCell ⟨Nat.le_of_ble_eq_true rfl, Nat.le_of_ble_eq_true rfl⟩ rfl hl.1 rfl (Nat.le_of_ble_eq_true rfl) dX7_leastBeside_66 ⟨Nat.zero_le _, Nat.zero_le _⟩) (fun r_7 hr_7 => ?_)
            have hT := nm_u hr_7.1 hT
            have K_93 : ∀ (ls : Array Slot) (v_8 : Int32) (bo_v_8 : v_8 = 0 ∨ v_8 = 1) (hi : v_8 = 0 ∨ vp_in (((5 : Int32) * (x2 + v_6)) + (x1 + v_5)) 20) (hl : lv_has ls 8 [(0, .ref (mk 0)), (1, .int x1), (2, .int x2), (3, .int y_1), (4, .int y_2), (5, .int (x1 + v_5)), (6, .int (x2 + v_6))]) (hT0 : jn_X7_leastBeside_93 (lp_X7_leastBeside_6 mg fa x1 x2 n) fa x1 x2 y_1 y_2 v_5 v_6 v_8 = (lp_X7_leastBeside_6 mg fa x1 x2 (n + 1) y_1 y_2)), W p l e ({ frames := 2, cells := 0, slots := 0, locals := 44 } : Room) s m args below meth c s.heap [] 0 0 Q (F0 m 93 ls [.int v_8]) := by
              intro ls v_8 bo_v_8 hi hl hT0
              have hT := (jn_X7_leastBeside_93_s (lp_X7_leastBeside_6 mg fa x1 x2 n) fa x1 x2 y_1 y_2 v_5 v_6 v_8).trans hT0
              refine lv_istore (lv' := [(7, .int v_8), (0, .ref (mk 0)), (1, .int x1), (2, .int x2), (3, .int y_1), (4, .int y_2), (5, .int (x1 + v_5)), (6, .int (x2 + v_6))]) hx hb dX7_leastBeside_93 hl (by decide) rfl (fun ls hl => ?_)
              refine lv_iload hx hb dX7_leastBeside_95 (lv_at hl 0 rfl) ?_
              refine lv_if_eq (tgt := 115) hx hb dX7_leastBeside_97 (by decide) (fun c_9 => ?_) (fun c_9 => ?_)
              · have hT := it_t c_9 hT
                refine lv_iload_n hx hb dX7_leastBeside_115 rfl (lv_at hl 4 rfl) ?_
                refine lv_istore_n (lv' := [(3, .int y_1), (7, .int v_8), (0, .ref (mk 0)), (1, .int x1), (2, .int x2), (4, .int y_2), (5, .int (x1 + v_5)), (6, .int (x2 + v_6))]) hx hb dX7_leastBeside_116 rfl hl (by decide) rfl (fun ls hl => ?_)
                refine lv_iinc (v := y_2 + 1) (lv' := [(4, .int (y_2 + 1)), (3, .int y_1), (7, .int v_8), (0, .ref (mk 0)), (1, .int x1), (2, .int x2), (5, .int (x1 + v_5)), (6, .int (x2 + v_6))]) hx hb dX7_leastBeside_117 hl (k := 5) rfl rfl (by decide) rfl (fun ls hl => ?_)
                refine lv_goto (tgt := 6) hx hb dX7_leastBeside_120 (by decide) ?_
                exact ih ls y_1 (y_2 + 1) (ms_up c_4 hm) (lv_sub hl [3, 4, 5, 1, 0] rfl) (fun ls z0 hl he => kont ls z0 hl (he.trans hT))
              · have hT := it_f c_9 hT
                refine lv_aload_n hx hb dX7_leastBeside_100 rfl (lv_at hl 1 rfl) ?_
                refine gX7_far C hK hP wd_3_96 dX7_leastBeside_101 ?_
                refine lv_iconst (v := 5) hx hb dX7_leastBeside_104 (by decide) ?_
                refine lv_iload hx hb dX7_leastBeside_105 (lv_at hl 7 rfl) ?_
                refine lv_imul hx hb dX7_leastBeside_107 ?_
                refine lv_iload hx hb dX7_leastBeside_108 (lv_at hl 6 rfl) ?_
                refine lv_iadd hx hb dX7_leastBeside_110 ?_
                refine aM_far C hK hP (hi.resolve_left c_9) dX7_leastBeside_111 ?_
                refine lv_goto (tgt := 116) hx hb dX7_leastBeside_112 (by decide) ?_
                refine lv_topi (fun y_10 ey_10 => ?_)
                have hT := nm_u ey_10 hT
                refine lv_istore_n (lv' := [(3, .int y_10), (7, .int v_8), (0, .ref (mk 0)), (1, .int x1), (2, .int x2), (4, .int y_2), (5, .int (x1 + v_5)), (6, .int (x2 + v_6))]) hx hb dX7_leastBeside_116 rfl hl (by decide) rfl (fun ls hl => ?_)
                refine lv_iinc (v := y_2 + 1) (lv' := [(4, .int (y_2 + 1)), (3, .int y_10), (7, .int v_8), (0, .ref (mk 0)), (1, .int x1), (2, .int x2), (5, .int (x1 + v_5)), (6, .int (x2 + v_6))]) hx hb dX7_leastBeside_117 hl (k := 5) rfl rfl (by decide) rfl (fun ls hl => ?_)
                refine lv_goto (tgt := 6) hx hb dX7_leastBeside_120 (by decide) ?_
                exact ih ls y_10 (y_2 + 1) (ms_up c_4 hm) (lv_sub hl [3, 4, 5, 1, 0] rfl) (fun ls z0 hl he => kont ls z0 hl (he.trans hT))
            refine lv_if_eq (tgt := 92) hx hb dX7_leastBeside_69 (by decide) (fun c_11 => ?_) (fun c_11 => ?_)
            · have hT := it_t c_11 hT
              refine lv_iconst (v := 0) hx hb dX7_leastBeside_92 (by decide) ?_
              exact K_93 ls (0 : Int32) (Or.inl rfl) (Or.inl rfl) (lv_sub hl [1, 2, 3, 4, 5, 6, 0] rfl) hT
            · have hT := it_f c_11 hT
              refine lv_aload_n hx hb dX7_leastBeside_72 rfl (lv_at hl 1 rfl) ?_
              refine gX7_far C hK hP wd_3_96 dX7_leastBeside_73 ?_
              refine lv_iconst (v := 5) hx hb dX7_leastBeside_76 (by decide) ?_
              refine lv_iload hx hb dX7_leastBeside_77 (lv_at hl 0 rfl) ?_
              refine lv_imul hx hb dX7_leastBeside_79 ?_
              refine lv_iload hx hb dX7_leastBeside_80 (lv_at hl 6 rfl) ?_
              refine lv_iadd hx hb dX7_leastBeside_82 ?_
              refine aM_far C hK hP (cell_ix hw hh hr_7.1 c_11 (by decide)) dX7_leastBeside_83 ?_
              refine lv_iload_n hx hb dX7_leastBeside_84 rfl (lv_at hl 4 rfl) ?_
              refine lv_icmp_ge (tgt := 92) hx hb dX7_leastBeside_85 (by decide) (fun c_12 => ?_) (fun c_12 => ?_)
              · have hT := it_t c_12 hT
                refine lv_iconst (v := 0) hx hb dX7_leastBeside_92 (by decide) ?_
                exact K_93 ls (0 : Int32) (Or.inl rfl) (Or.inl rfl) (lv_sub hl [1, 2, 3, 4, 5, 6, 0] rfl) hT
              · have hT := it_f c_12 hT
                refine lv_iconst (v := 1) hx hb dX7_leastBeside_88 (by decide) ?_
                refine lv_goto (tgt := 93) hx hb dX7_leastBeside_89 (by decide) ?_
                exact K_93 ls (1 : Int32) (Or.inr rfl) (Or.inr (cell_ix hw hh hr_7.1 c_11 (by decide))) (lv_sub hl [1, 2, 3, 4, 5, 6, 0] rfl) hT
          refine lv_icmp_ne (tgt := 47) hx hb dX7_leastBeside_40 (by decide) (fun c_13 => ?_) (fun c_13 => ?_)
          · have hT := it_f c_13 hT
            refine lv_iload hx hb dX7_leastBeside_47 (lv_at hl 5 rfl) ?_
            refine lv_iconst (v := 3) hx hb dX7_leastBeside_49 (by decide) ?_
            refine lv_icmp_ne (tgt := 57) hx hb dX7_leastBeside_50 (by decide) (fun c_14 => ?_) (fun c_14 => ?_)
            · have hT := it_f c_14 hT
              refine lv_iconst (v := 0) hx hb dX7_leastBeside_57 (by decide) ?_
              exact K_58 ls (0 : Int32) (lv_sub hl [1, 2, 3, 4, 5, 0] rfl) hT
            · have hT := it_t c_14 hT
              refine lv_iconst (v := -1) hx hb dX7_leastBeside_53 (by decide) ?_
              refine lv_goto (tgt := 58) hx hb dX7_leastBeside_54 (by decide) ?_
              exact K_58 ls (-1 : Int32) (lv_sub hl [1, 2, 3, 4, 5, 0] rfl) hT
          · have hT := it_t c_13 hT
            refine lv_iconst (v := 1) hx hb dX7_leastBeside_43 (by decide) ?_
            refine lv_goto (tgt := 58) hx hb dX7_leastBeside_44 (by decide) ?_
            exact K_58 ls (1 : Int32) (lv_sub hl [1, 2, 3, 4, 5, 0] rfl) hT
        refine lv_if_ne (tgt := 22) hx hb dX7_leastBeside_15 (by decide) (fun c_15 => ?_) (fun c_15 => ?_)
        · have hT := it_f c_15 hT
          refine lv_iload hx hb dX7_leastBeside_22 (lv_at hl 4 rfl) ?_
          refine lv_iconst (v := 1) hx hb dX7_leastBeside_24 (by decide) ?_
          refine lv_icmp_ne (tgt := 32) hx hb dX7_leastBeside_25 (by decide) (fun c_16 => ?_) (fun c_16 => ?_)
          · have hT := it_f c_16 hT
            refine lv_iconst (v := 0) hx hb dX7_leastBeside_32 (by decide) ?_
            exact K_33 ls (0 : Int32) (lv_sub hl [0, 1, 2, 3, 4] rfl) hT
          · have hT := it_t c_16 hT
            refine lv_iconst (v := -1) hx hb dX7_leastBeside_28 (by decide) ?_
            refine lv_goto (tgt := 33) hx hb dX7_leastBeside_29 (by decide) ?_
            exact K_33 ls (-1 : Int32) (lv_sub hl [0, 1, 2, 3, 4] rfl) hT
        · have hT := it_t c_15 hT
          refine lv_iconst (v := 1) hx hb dX7_leastBeside_18 (by decide) ?_
          refine lv_goto (tgt := 33) hx hb dX7_leastBeside_19 (by decide) ?_
          exact K_33 ls (1 : Int32) (lv_sub hl [0, 1, 2, 3, 4] rfl) hT
  refine L_6 (((4 : Int32).toInt - (0 : Int32).toInt).toNat + 1) ls (100 : Int32) (0 : Int32) (Nat.lt_succ_self _) (lv_sub hl [2, 3, 4, 1, 0] rfl) (fun ls e_3 hl he => ?_)
  have hT := nm_u he hT
  refine lv_iload_n hx hb dX7_leastBeside_123 rfl (lv_at hl 0 rfl) ?_
  exact hret _ _ _ hT dX7_leastBeside_124
theorem hv_X7_findFar : yX7_findFar.cls = RX7 ∧ yX7_findFar.cls ≠ "java/lang/invoke/MethodHandle" ∧ yX7_findFar.cls ≠ "java/lang/invoke/VarHandle" ∧ (parseMethodDescriptor yX7_findFar.desc).map (fun d => d.parameters.length) = some 1 := by decide +kernel
theorem hd_X7_findFar : yX7_findFar.cls ≠ "java/lang/invoke/MethodHandle" ∧ yX7_findFar.cls ≠ "java/lang/invoke/VarHandle" ∧ (parseMethodDescriptor yX7_findFar.desc).map (fun d => d.parameters.length) = some 1 := hv_X7_findFar.2
def lp_X7_findFar_2 (mg : Nat → Int32) (st : Nat → Int32) (x1 : Int32) : Nat → Int32 → (Nat → Int32) → (Nat → Int32)
  | 0, y_1, fa_2 => fa_2
  | n + 1, y_1, fa_2 => if (20 : Int32) ≤ y_1 then fa_2 else (nm (sp_X7_isCell mg (rem y_1 (5 : Int32)) (y_1 / (5 : Int32))) (fun r_5 => if r_5 = 0 then (lp_X7_findFar_2 mg st x1 n (y_1 + 1) (upd fa_2 y_1.toNatClampNeg (100 : Int32))) else (if (y_1 / (5 : Int32)) = (st (22 : Int32).toNatClampNeg) then (nm (sp_X7_costOf st x1 y_1) (fun r_8 => lp_X7_findFar_2 mg st x1 n (y_1 + 1) (upd fa_2 y_1.toNatClampNeg r_8))) else (lp_X7_findFar_2 mg st x1 n (y_1 + 1) (upd fa_2 y_1.toNatClampNeg (100 : Int32))))))
theorem lp_X7_findFar_2_s (mg : Nat → Int32) (st : Nat → Int32) (x1 : Int32) (n : Nat) (y_1 : Int32) (fa_2 : Nat → Int32) : (if (20 : Int32) ≤ y_1 then fa_2 else (nm (sp_X7_isCell mg (rem y_1 (5 : Int32)) (y_1 / (5 : Int32))) (fun r_5 => if r_5 = 0 then (lp_X7_findFar_2 mg st x1 n (y_1 + 1) (upd fa_2 y_1.toNatClampNeg (100 : Int32))) else (if (y_1 / (5 : Int32)) = (st (22 : Int32).toNatClampNeg) then (nm (sp_X7_costOf st x1 y_1) (fun r_8 => lp_X7_findFar_2 mg st x1 n (y_1 + 1) (upd fa_2 y_1.toNatClampNeg r_8))) else (lp_X7_findFar_2 mg st x1 n (y_1 + 1) (upd fa_2 y_1.toNatClampNeg (100 : Int32))))))) = lp_X7_findFar_2 mg st x1 (n + 1) y_1 fa_2 := rfl
def lp_X7_findFar_67 (mg : Nat → Int32) (st : Nat → Int32) (x1 : Int32) : Nat → Int32 → (Nat → Int32) → (Nat → Int32)
  | 0, y_13, fa_14 => fa_14
  | n + 1, y_13, fa_14 => if (20 : Int32) ≤ y_13 then fa_14 else (nm (sp_X7_isCell mg (rem y_13 (5 : Int32)) (y_13 / (5 : Int32))) (fun r_17 => if r_17 = 0 then (lp_X7_findFar_67 mg st x1 n (y_13 + 1) fa_14) else (nm (sp_X7_isDry st y_13) (fun r_19 => if r_19 = 0 then (lp_X7_findFar_67 mg st x1 n (y_13 + 1) fa_14) else (nm (sp_X7_leastBeside mg fa_14 (rem y_13 (5 : Int32)) (y_13 / (5 : Int32))) (fun r_21 => nm (sp_X7_costOf st x1 y_13) (fun r_22 => if (fa_14 y_13.toNatClampNeg) ≤ (r_21 + r_22) then (lp_X7_findFar_67 mg st x1 n (y_13 + 1) (upd fa_14 y_13.toNatClampNeg (fa_14 y_13.toNatClampNeg))) else (lp_X7_findFar_67 mg st x1 n (y_13 + 1) (upd fa_14 y_13.toNatClampNeg (r_21 + r_22))))))))))
theorem lp_X7_findFar_67_s (mg : Nat → Int32) (st : Nat → Int32) (x1 : Int32) (n : Nat) (y_13 : Int32) (fa_14 : Nat → Int32) : (if (20 : Int32) ≤ y_13 then fa_14 else (nm (sp_X7_isCell mg (rem y_13 (5 : Int32)) (y_13 / (5 : Int32))) (fun r_17 => if r_17 = 0 then (lp_X7_findFar_67 mg st x1 n (y_13 + 1) fa_14) else (nm (sp_X7_isDry st y_13) (fun r_19 => if r_19 = 0 then (lp_X7_findFar_67 mg st x1 n (y_13 + 1) fa_14) else (nm (sp_X7_leastBeside mg fa_14 (rem y_13 (5 : Int32)) (y_13 / (5 : Int32))) (fun r_21 => nm (sp_X7_costOf st x1 y_13) (fun r_22 => if (fa_14 y_13.toNatClampNeg) ≤ (r_21 + r_22) then (lp_X7_findFar_67 mg st x1 n (y_13 + 1) (upd fa_14 y_13.toNatClampNeg (fa_14 y_13.toNatClampNeg))) else (lp_X7_findFar_67 mg st x1 n (y_13 + 1) (upd fa_14 y_13.toNatClampNeg (r_21 + r_22))))))))))) = lp_X7_findFar_67 mg st x1 (n + 1) y_13 fa_14 := rfl
def lp_X7_findFar_59 (mg : Nat → Int32) (st : Nat → Int32) (x1 : Int32) : Nat → Int32 → (Nat → Int32) → (Nat → Int32)
  | 0, y_9, fa_10 => fa_10
  | n + 1, y_9, fa_10 => if (20 : Int32) ≤ y_9 then fa_10 else (nm (lp_X7_findFar_67 mg st x1 (((20 : Int32).toInt - (0 : Int32).toInt).toNat + 1) (0 : Int32) fa_10) (fun e_15 => lp_X7_findFar_59 mg st x1 n (y_9 + 1) e_15))
theorem lp_X7_findFar_59_s (mg : Nat → Int32) (st : Nat → Int32) (x1 : Int32) (n : Nat) (y_9 : Int32) (fa_10 : Nat → Int32) : (if (20 : Int32) ≤ y_9 then fa_10 else (nm (lp_X7_findFar_67 mg st x1 (((20 : Int32).toInt - (0 : Int32).toInt).toNat + 1) (0 : Int32) fa_10) (fun e_15 => lp_X7_findFar_59 mg st x1 n (y_9 + 1) e_15))) = lp_X7_findFar_59 mg st x1 (n + 1) y_9 fa_10 := rfl
def sp_X7_findFar (mg : Nat → Int32) (st : Nat → Int32) (fa : Nat → Int32) (x1 : Int32) : (Nat → Int32) :=
  nm (lp_X7_findFar_2 mg st x1 (((20 : Int32).toInt - (0 : Int32).toInt).toNat + 1) (0 : Int32) fa) (fun e_3 => nm (lp_X7_findFar_59 mg st x1 (((20 : Int32).toInt - (0 : Int32).toInt).toNat + 1) (0 : Int32) e_3) (fun e_11 => e_11))
theorem sp_X7_findFar_s (mg : Nat → Int32) (st : Nat → Int32) (fa : Nat → Int32) (x1 : Int32) : (nm (lp_X7_findFar_2 mg st x1 (((20 : Int32).toInt - (0 : Int32).toInt).toNat + 1) (0 : Int32) fa) (fun e_3 => nm (lp_X7_findFar_59 mg st x1 (((20 : Int32).toInt - (0 : Int32).toInt).toNat + 1) (0 : Int32) e_3) (fun e_11 => e_11))) = sp_X7_findFar mg st fa x1 := rfl
set_option maxHeartbeats 4000000 in
set_option maxRecDepth 100000 in
theorem c_X7_findFar {l : Launch} {D : va_G} {cI cZ cO : ClassId} {mk : Nat → Nat} {mg st im ke se tx sh fa : Nat → Int32} {mt : Int64} {x1 : Int32} (hw : 1 ≤ (mg 0).toInt ∧ (mg 0).toInt ≤ 5) (hh : 1 ≤ (mg 1).toInt ∧ (mg 1).toInt ≤ 4) (sz : Nat) : Met l yX7_findFar (wm yX7_findFar cX7_findFar 5 none) ({ frames := 3, cells := 0, slots := 0, locals := 71 } : Room) (GPre D (ty3 cI cZ cO) (MW cI cZ mk mg st im ke se tx sh fa mt) [.ref (mk 0), .int x1] sz) (va_Qv (fun (u : (Nat → Int32)) => u = sp_X7_findFar mg st fa x1) (fun u t => GAt D (ty3 cI cZ cO) (va_A (MW cI cZ mk mg st im ke se tx sh fa mt) sz) (MW cI cZ mk mg st im ke se tx sh u mt) t) (va_A (MW cI cZ mk mg st im ke se tx sh fa mt) sz)) 0 0 (va_A (MW cI cZ mk mg st im ke se tx sh fa mt) sz) := by
  refine metQ_v (W1 := (fun (u : (Nat → Int32)) => MW cI cZ mk mg st im ke se tx sh u mt)) (post := (fun (u : (Nat → Int32)) => u = sp_X7_findFar mg st fa x1)) (by decide) (Nat.le_of_ble_eq_true rfl) ?_
  intro p e s m args below meth c ls A Q C hsz hP hK hD hS hA hN hl hret
  have hx := C.1
  have hb := C.2.1
  have hl : lv_has ls 5 [(0, .ref (mk 0)), (1, .int x1)] := hl
  have hT := sp_X7_findFar_s mg st fa x1
  refine lv_iconst (v := 0) hx hb dX7_findFar_0 (by decide) ?_
  refine lv_istore_n (lv' := [(2, .int (0 : Int32)), (0, .ref (mk 0)), (1, .int x1)]) hx hb dX7_findFar_1 rfl hl (by decide) rfl (fun ls hl => ?_)
  have L_2 : ∀ (n : Nat) (ls : Array Slot) (y_1 : Int32) (fa_2 : Nat → Int32) (z2 : 0 ≤ y_1.toInt) (hm : ((20 : Int32).toInt - y_1.toInt).toNat < n) (H : Heap) (locs : List Loc) (hP : va_P D vwCl (MW cI cZ mk mg st im ke se tx sh fa_2 mt) H) (hD : va_D A (MW cI cZ mk mg st im ke se tx sh fa_2 mt)) (hS : va_S A s.heap H locs) (hl : lv_has ls 5 [(0, .ref (mk 0)), (1, .int x1), (2, .int y_1)]) (kont : ∀ (ls : Array Slot) (e_3 : Nat → Int32) (H : Heap) (locs : List Loc), va_P D vwCl (MW cI cZ mk mg st im ke se tx sh e_3 mt) H → va_D A (MW cI cZ mk mg st im ke se tx sh e_3 mt) → va_S A s.heap H locs → lv_has ls 5 [(0, .ref (mk 0)), (1, .int x1)] → e_3 = lp_X7_findFar_2 mg st x1 n y_1 fa_2 → W p l e ({ frames := 3, cells := 0, slots := 0, locals := 71 } : Room) s m args below meth c H locs 0 0 Q (F0 m 57 ls [])), W p l e ({ frames := 3, cells := 0, slots := 0, locals := 71 } : Room) s m args below meth c H locs 0 0 Q (F0 m 2 ls []) := by
    intro n
    induction n with
    | zero => intro ls y_1 fa_2 z2 hm; exact absurd hm (Nat.not_lt_zero _)
    | succ n ih =>
      intro ls y_1 fa_2 z2 hm H locs hP hD hS hl kont
      have hT := lp_X7_findFar_2_s mg st x1 n y_1 fa_2
      refine lv_iload_n hx hb dX7_findFar_2 rfl (lv_at hl 2 rfl) ?_
      refine lv_bipush (v := 20) hx hb dX7_findFar_3 (by decide) ?_
      refine lv_icmp_ge (tgt := 57) hx hb dX7_findFar_5 (by decide) (fun c_4 => ?_) (fun c_4 => ?_)
      · have hT := it_t c_4 hT
        exact kont ls fa_2 H locs hP hD hS (lv_sub hl [0, 1] rfl) hT
      · have hT := it_f c_4 hT
        refine lv_aload_n hx hb dX7_findFar_8 rfl (lv_at hl 0 rfl) ?_
        refine gX7_far C hK hP wd_3_96 dX7_findFar_9 ?_
        refine lv_iload_n hx hb dX7_findFar_12 rfl (lv_at hl 2 rfl) ?_
        refine lv_aload_n hx hb dX7_findFar_13 rfl (lv_at hl 0 rfl) ?_
        refine lv_iload_n hx hb dX7_findFar_14 rfl (lv_at hl 2 rfl) ?_
        refine lv_iconst (v := 5) hx hb dX7_findFar_15 (by decide) ?_
        refine lv_rem hx hb dX7_findFar_16 (by decide) ?_
        refine lv_iload_n hx hb dX7_findFar_17 rfl (lv_at hl 2 rfl) ?_
        refine lv_iconst (v := 5) hx hb dX7_findFar_18 (by decide) ?_
        refine lv_idiv hx hb dX7_findFar_19 (by decide) ?_
        refine vp_callSi (run_vP (As := [.int (rem y_1 (5 : Int32)), .int (y_1 / (5 : Int32))]) (rest := [.int y_1, .ref (mk 7)]) C hK hP hD hN (c_X7_isCell _) (rX7_r hK hP) ⟨wd_3_195, wd_3_197, ws_27, wd_1_8, wd_3_198⟩ ⟨rfl, rfl⟩ hv_X7_isCell ⟨Nat.le_of_ble_eq_true rfl, Nat.le_of_ble_eq_true rfl⟩ rfl hl.1 rfl (Nat.le_of_ble_eq_true rfl) dX7_findFar_20 ⟨Nat.zero_le _, Nat.zero_le _⟩) (fun r_5 hr_5 => ?_)
        have hT := nm_u hr_5.1 hT
        refine lv_if_eq (tgt := 48) hx hb dX7_findFar_23 (by decide) (fun c_6 => ?_) (fun c_6 => ?_)
        · have hT := it_t c_6 hT
          refine lv_bipush (v := 100) hx hb dX7_findFar_48 (by decide) ?_
          refine sM_far C hK hP hD hS (ix_inv_nle z2 c_4) dX7_findFar_50 (fun H locs hP hD hS => ?_)
          refine lv_iinc (v := y_1 + 1) (lv' := [(2, .int (y_1 + 1)), (0, .ref (mk 0)), (1, .int x1)]) hx hb dX7_findFar_51 hl (k := 2) rfl rfl (by decide) rfl (fun ls hl => ?_)
          refine lv_goto (tgt := 2) hx hb dX7_findFar_54 (by decide) ?_
          exact ih ls (y_1 + 1) (upd fa_2 y_1.toNatClampNeg (100 : Int32)) (up0 c_4 z2) (ms_up c_4 hm) H locs hP hD hS (lv_sub hl [1, 2, 0] rfl) (fun ls z0 H locs hP hD hS hl he => kont ls z0 H locs hP hD hS hl (he.trans hT))
        · have hT := it_f c_6 hT
          refine lv_iload_n hx hb dX7_findFar_26 rfl (lv_at hl 2 rfl) ?_
          refine lv_iconst (v := 5) hx hb dX7_findFar_27 (by decide) ?_
          refine lv_idiv hx hb dX7_findFar_28 (by decide) ?_
          refine lv_aload_n hx hb dX7_findFar_29 rfl (lv_at hl 0 rfl) ?_
          refine gX7_st C hK hP wd_3_77 dX7_findFar_30 ?_
          refine lv_bipush (v := 22) hx hb dX7_findFar_33 (by decide) ?_
          refine aM_st C hK hP (ix_of (by decide) (by decide)) dX7_findFar_35 ?_
          refine lv_icmp_ne (tgt := 48) hx hb dX7_findFar_36 (by decide) (fun c_7 => ?_) (fun c_7 => ?_)
          · have hT := it_f c_7 hT
            refine lv_bipush (v := 100) hx hb dX7_findFar_48 (by decide) ?_
            refine sM_far C hK hP hD hS (ix_inv_nle z2 c_4) dX7_findFar_50 (fun H locs hP hD hS => ?_)
            refine lv_iinc (v := y_1 + 1) (lv' := [(2, .int (y_1 + 1)), (0, .ref (mk 0)), (1, .int x1)]) hx hb dX7_findFar_51 hl (k := 2) rfl rfl (by decide) rfl (fun ls hl => ?_)
            refine lv_goto (tgt := 2) hx hb dX7_findFar_54 (by decide) ?_
            exact ih ls (y_1 + 1) (upd fa_2 y_1.toNatClampNeg (100 : Int32)) (up0 c_4 z2) (ms_up c_4 hm) H locs hP hD hS (lv_sub hl [1, 2, 0] rfl) (fun ls z0 H locs hP hD hS hl he => kont ls z0 H locs hP hD hS hl (he.trans hT))
          · have hT := it_t c_7 hT
            refine lv_aload_n hx hb dX7_findFar_39 rfl (lv_at hl 0 rfl) ?_
            refine lv_iload_n hx hb dX7_findFar_40 rfl (lv_at hl 1 rfl) ?_
            refine lv_iload_n hx hb dX7_findFar_41 rfl (lv_at hl 2 rfl) ?_
            refine vp_callSi (run_vP (As := [.int x1, .int y_1]) (rest := [.int y_1, .ref (mk 7)]) C hK hP hD hN (c_X7_costOf (ix_inv_nle z2 c_4) _) (rX7_r hK hP) ⟨wd_4_41, wd_4_43, ws_38, wd_1_8, wd_4_44⟩ ⟨rfl, rfl⟩ hv_X7_costOf ⟨Nat.le_of_ble_eq_true rfl, Nat.le_of_ble_eq_true rfl⟩ rfl hl.1 rfl (Nat.le_of_ble_eq_true rfl) dX7_findFar_42 ⟨Nat.zero_le _, Nat.zero_le _⟩) (fun r_8 hr_8 => ?_)
            have hT := nm_u hr_8 hT
            refine lv_goto (tgt := 50) hx hb dX7_findFar_45 (by decide) ?_
            refine sM_far C hK hP hD hS (ix_inv_nle z2 c_4) dX7_findFar_50 (fun H locs hP hD hS => ?_)
            refine lv_iinc (v := y_1 + 1) (lv' := [(2, .int (y_1 + 1)), (0, .ref (mk 0)), (1, .int x1)]) hx hb dX7_findFar_51 hl (k := 2) rfl rfl (by decide) rfl (fun ls hl => ?_)
            refine lv_goto (tgt := 2) hx hb dX7_findFar_54 (by decide) ?_
            exact ih ls (y_1 + 1) (upd fa_2 y_1.toNatClampNeg r_8) (up0 c_4 z2) (ms_up c_4 hm) H locs hP hD hS (lv_sub hl [1, 2, 0] rfl) (fun ls z0 H locs hP hD hS hl he => kont ls z0 H locs hP hD hS hl (he.trans hT))
  refine L_2 (((20 : Int32).toInt - (0 : Int32).toInt).toNat + 1) ls (0 : Int32) fa (by decide) (Nat.lt_succ_self _) s.heap [] hP hD hS (lv_sub hl [1, 2, 0] rfl) (fun ls e_3 H locs hP hD hS hl he => ?_)
  have hT := nm_u he hT
  refine lv_iconst (v := 0) hx hb dX7_findFar_57 (by decide) ?_
  refine lv_istore_n (lv' := [(2, .int (0 : Int32)), (0, .ref (mk 0)), (1, .int x1)]) hx hb dX7_findFar_58 rfl hl (by decide) rfl (fun ls hl => ?_)
  have L_59 : ∀ (n : Nat) (ls : Array Slot) (y_9 : Int32) (fa_10 : Nat → Int32) (hm : ((20 : Int32).toInt - y_9.toInt).toNat < n) (H : Heap) (locs : List Loc) (hP : va_P D vwCl (MW cI cZ mk mg st im ke se tx sh fa_10 mt) H) (hD : va_D A (MW cI cZ mk mg st im ke se tx sh fa_10 mt)) (hS : va_S A s.heap H locs) (hl : lv_has ls 5 [(0, .ref (mk 0)), (1, .int x1), (2, .int y_9)]) (kont : ∀ (ls : Array Slot) (e_11 : Nat → Int32) (H : Heap) (locs : List Loc), va_P D vwCl (MW cI cZ mk mg st im ke se tx sh e_11 mt) H → va_D A (MW cI cZ mk mg st im ke se tx sh e_11 mt) → va_S A s.heap H locs → lv_has ls 5 [] → e_11 = lp_X7_findFar_59 mg st x1 n y_9 fa_10 → W p l e ({ frames := 3, cells := 0, slots := 0, locals := 71 } : Room) s m args below meth c H locs 0 0 Q (F0 m 153 ls [])), W p l e ({ frames := 3, cells := 0, slots := 0, locals := 71 } : Room) s m args below meth c H locs 0 0 Q (F0 m 59 ls []) := by
    intro n
    induction n with
    | zero => intro ls y_9 fa_10 hm; exact absurd hm (Nat.not_lt_zero _)
    | succ n ih =>
      intro ls y_9 fa_10 hm H locs hP hD hS hl kont
      have hT := lp_X7_findFar_59_s mg st x1 n y_9 fa_10
      refine lv_iload_n hx hb dX7_findFar_59 rfl (lv_at hl 2 rfl) ?_
      refine lv_bipush (v := 20) hx hb dX7_findFar_60 (by decide) ?_
      refine lv_icmp_ge (tgt := 153) hx hb dX7_findFar_62 (by decide) (fun c_12 => ?_) (fun c_12 => ?_)
      · have hT := it_t c_12 hT
        exact kont ls fa_10 H locs hP hD hS (lv_sub hl [] rfl) hT
      · have hT := it_f c_12 hT
        refine lv_iconst (v := 0) hx hb dX7_findFar_65 (by decide) ?_
        refine lv_istore_n (lv' := [(3, .int (0 : Int32)), (0, .ref (mk 0)), (1, .int x1), (2, .int y_9)]) hx hb dX7_findFar_66 rfl hl (by decide) rfl (fun ls hl => ?_)
        have L_67 : ∀ (n : Nat) (ls : Array Slot) (y_13 : Int32) (fa_14 : Nat → Int32) (z3 : 0 ≤ y_13.toInt) (hm : ((20 : Int32).toInt - y_13.toInt).toNat < n) (H : Heap) (locs : List Loc) (hP : va_P D vwCl (MW cI cZ mk mg st im ke se tx sh fa_14 mt) H) (hD : va_D A (MW cI cZ mk mg st im ke se tx sh fa_14 mt)) (hS : va_S A s.heap H locs) (hl : lv_has ls 5 [(0, .ref (mk 0)), (1, .int x1), (2, .int y_9), (3, .int y_13)]) (kont : ∀ (ls : Array Slot) (e_15 : Nat → Int32) (H : Heap) (locs : List Loc), va_P D vwCl (MW cI cZ mk mg st im ke se tx sh e_15 mt) H → va_D A (MW cI cZ mk mg st im ke se tx sh e_15 mt) → va_S A s.heap H locs → lv_has ls 5 [(0, .ref (mk 0)), (1, .int x1), (2, .int y_9)] → e_15 = lp_X7_findFar_67 mg st x1 n y_13 fa_14 → W p l e ({ frames := 3, cells := 0, slots := 0, locals := 71 } : Room) s m args below meth c H locs 0 0 Q (F0 m 147 ls [])), W p l e ({ frames := 3, cells := 0, slots := 0, locals := 71 } : Room) s m args below meth c H locs 0 0 Q (F0 m 67 ls []) := by
          intro n
          induction n with
          | zero => intro ls y_13 fa_14 z3 hm; exact absurd hm (Nat.not_lt_zero _)
          | succ n ih =>
            intro ls y_13 fa_14 z3 hm H locs hP hD hS hl kont
            have hT := lp_X7_findFar_67_s mg st x1 n y_13 fa_14
            refine lv_iload_n hx hb dX7_findFar_67 rfl (lv_at hl 3 rfl) ?_
            refine lv_bipush (v := 20) hx hb dX7_findFar_68 (by decide) ?_
            refine lv_icmp_ge (tgt := 147) hx hb dX7_findFar_70 (by decide) (fun c_16 => ?_) (fun c_16 => ?_)
            · have hT := it_t c_16 hT
              exact kont ls fa_14 H locs hP hD hS (lv_sub hl [0, 1, 2] rfl) hT
            · have hT := it_f c_16 hT
              refine lv_aload_n hx hb dX7_findFar_73 rfl (lv_at hl 0 rfl) ?_
              refine lv_iload_n hx hb dX7_findFar_74 rfl (lv_at hl 3 rfl) ?_
              refine lv_iconst (v := 5) hx hb dX7_findFar_75 (by decide) ?_
              refine lv_rem hx hb dX7_findFar_76 (by decide) ?_
              refine lv_iload_n hx hb dX7_findFar_77 rfl (lv_at hl 3 rfl) ?_
              refine lv_iconst (v := 5) hx hb dX7_findFar_78 (by decide) ?_
              refine lv_idiv hx hb dX7_findFar_79 (by decide) ?_
              refine vp_callSi (run_vP (As := [.int (rem y_13 (5 : Int32)), .int (y_13 / (5 : Int32))]) (rest := []) C hK hP hD hN (c_X7_isCell _) (rX7_r hK hP) ⟨wd_3_195, wd_3_197, ws_27, wd_1_8, wd_3_198⟩ ⟨rfl, rfl⟩ hv_X7_isCell ⟨Nat.le_of_ble_eq_true rfl, Nat.le_of_ble_eq_true rfl⟩ rfl hl.1 rfl (Nat.le_of_ble_eq_true rfl) dX7_findFar_80 ⟨Nat.zero_le _, Nat.zero_le _⟩) (fun r_17 hr_17 => ?_)
              have hT := nm_u hr_17.1 hT
              refine lv_if_eq (tgt := 141) hx hb dX7_findFar_83 (by decide) (fun c_18 => ?_) (fun c_18 => ?_)
              · have hT := it_t c_18 hT
                refine lv_iinc (v := y_13 + 1) (lv' := [(3, .int (y_13 + 1)), (0, .ref (mk 0)), (1, .int x1), (2, .int y_9)]) hx hb dX7_findFar_141 hl (k := 3) rfl rfl (by decide) rfl (fun ls hl => ?_)
                refine lv_goto (tgt := 67) hx hb dX7_findFar_144 (by decide) ?_
                exact ih ls (y_13 + 1) fa_14 (up0 c_16 z3) (ms_up c_16 hm) H locs hP hD hS (lv_sub hl [1, 2, 3, 0] rfl) (fun ls z0 H locs hP hD hS hl he => kont ls z0 H locs hP hD hS hl (he.trans hT))
              · have hT := it_f c_18 hT
                refine lv_aload_n hx hb dX7_findFar_86 rfl (lv_at hl 0 rfl) ?_
                refine lv_iload_n hx hb dX7_findFar_87 rfl (lv_at hl 3 rfl) ?_
                refine vp_callSi (run_vP (As := [.int y_13]) (rest := []) C hK hP hD hN (c_X7_isDry _) (rX7_r hK hP) ⟨wd_3_199, wd_3_201, ws_28, wd_1_8, wd_3_202⟩ ⟨rfl, rfl⟩ hv_X7_isDry ⟨Nat.le_of_ble_eq_true rfl, Nat.le_of_ble_eq_true rfl⟩ rfl hl.1 rfl (Nat.le_of_ble_eq_true rfl) dX7_findFar_88 ⟨Nat.zero_le _, Nat.zero_le _⟩) (fun r_19 hr_19 => ?_)
                have hT := nm_u hr_19.1 hT
                refine lv_if_eq (tgt := 141) hx hb dX7_findFar_91 (by decide) (fun c_20 => ?_) (fun c_20 => ?_)
                · have hT := it_t c_20 hT
                  refine lv_iinc (v := y_13 + 1) (lv' := [(3, .int (y_13 + 1)), (0, .ref (mk 0)), (1, .int x1), (2, .int y_9)]) hx hb dX7_findFar_141 hl (k := 3) rfl rfl (by decide) rfl (fun ls hl => ?_)
                  refine lv_goto (tgt := 67) hx hb dX7_findFar_144 (by decide) ?_
                  exact ih ls (y_13 + 1) fa_14 (up0 c_16 z3) (ms_up c_16 hm) H locs hP hD hS (lv_sub hl [1, 2, 3, 0] rfl) (fun ls z0 H locs hP hD hS hl he => kont ls z0 H locs hP hD hS hl (he.trans hT))
                · have hT := it_f c_20 hT
                  refine lv_aload_n hx hb dX7_findFar_94 rfl (lv_at hl 0 rfl) ?_
                  refine lv_iload_n hx hb dX7_findFar_95 rfl (lv_at hl 3 rfl) ?_
                  refine lv_iconst (v := 5) hx hb dX7_findFar_96 (by decide) ?_
                  refine lv_rem hx hb dX7_findFar_97 (by decide) ?_
                  refine lv_iload_n hx hb dX7_findFar_98 rfl (lv_at hl 3 rfl) ?_
                  refine lv_iconst (v := 5) hx hb dX7_findFar_99 (by decide) ?_
                  refine lv_idiv hx hb dX7_findFar_100 (by decide) ?_
                  refine vp_callSi (run_vP (As := [.int (rem y_13 (5 : Int32)), .int (y_13 / (5 : Int32))]) (rest := []) C hK hP hD hN (c_X7_leastBeside hw hh _) (rX7_r hK hP) ⟨wd_4_45, wd_4_47, ws_39, wd_1_8, wd_4_48⟩ ⟨rfl, rfl⟩ hv_X7_leastBeside ⟨Nat.le_of_ble_eq_true rfl, Nat.le_of_ble_eq_true rfl⟩ rfl hl.1 rfl (Nat.le_of_ble_eq_true rfl) dX7_findFar_101 ⟨Nat.zero_le _, Nat.zero_le _⟩) (fun r_21 hr_21 => ?_)
                  have hT := nm_u hr_21 hT
                  refine lv_aload_n hx hb dX7_findFar_104 rfl (lv_at hl 0 rfl) ?_
                  refine lv_iload_n hx hb dX7_findFar_105 rfl (lv_at hl 1 rfl) ?_
                  refine lv_iload_n hx hb dX7_findFar_106 rfl (lv_at hl 3 rfl) ?_
                  refine vp_callSi (run_vP (As := [.int x1, .int y_13]) (rest := [.int r_21]) C hK hP hD hN (c_X7_costOf (ix_inv_nle z3 c_16) _) (rX7_r hK hP) ⟨wd_4_41, wd_4_43, ws_38, wd_1_8, wd_4_44⟩ ⟨rfl, rfl⟩ hv_X7_costOf ⟨Nat.le_of_ble_eq_true rfl, Nat.le_of_ble_eq_true rfl⟩ rfl hl.1 rfl (Nat.le_of_ble_eq_true rfl) dX7_findFar_107 ⟨Nat.zero_le _, Nat.zero_le _⟩) (fun r_22 hr_22 => ?_)
                  have hT := nm_u hr_22 hT
                  refine lv_iadd hx hb dX7_findFar_110 ?_
                  refine lv_istore (lv' := [(4, .int (r_21 + r_22)), (0, .ref (mk 0)), (1, .int x1), (2, .int y_9), (3, .int y_13)]) hx hb dX7_findFar_111 hl (by decide) rfl (fun ls hl => ?_)
                  refine lv_aload_n hx hb dX7_findFar_113 rfl (lv_at hl 1 rfl) ?_
                  refine gX7_far C hK hP wd_3_96 dX7_findFar_114 ?_
                  refine lv_iload_n hx hb dX7_findFar_117 rfl (lv_at hl 4 rfl) ?_
                  refine lv_iload hx hb dX7_findFar_118 (lv_at hl 0 rfl) ?_
                  refine lv_aload_n hx hb dX7_findFar_120 rfl (lv_at hl 1 rfl) ?_
                  refine gX7_far C hK hP wd_3_96 dX7_findFar_121 ?_
                  refine lv_iload_n hx hb dX7_findFar_124 rfl (lv_at hl 4 rfl) ?_
                  refine aM_far C hK hP (ix_inv_nle z3 c_16) dX7_findFar_125 ?_
                  refine lv_icmp_ge (tgt := 134) hx hb dX7_findFar_126 (by decide) (fun c_23 => ?_) (fun c_23 => ?_)
                  · have hT := it_t c_23 hT
                    refine lv_aload_n hx hb dX7_findFar_134 rfl (lv_at hl 1 rfl) ?_
                    refine gX7_far C hK hP wd_3_96 dX7_findFar_135 ?_
                    refine lv_iload_n hx hb dX7_findFar_138 rfl (lv_at hl 4 rfl) ?_
                    refine aM_far C hK hP (ix_inv_nle z3 c_16) dX7_findFar_139 ?_
                    refine sM_far C hK hP hD hS (ix_inv_nle z3 c_16) dX7_findFar_140 (fun H locs hP hD hS => ?_)
                    refine lv_iinc (v := y_13 + 1) (lv' := [(3, .int (y_13 + 1)), (4, .int (r_21 + r_22)), (0, .ref (mk 0)), (1, .int x1), (2, .int y_9)]) hx hb dX7_findFar_141 hl (k := 4) rfl rfl (by decide) rfl (fun ls hl => ?_)
                    refine lv_goto (tgt := 67) hx hb dX7_findFar_144 (by decide) ?_
                    exact ih ls (y_13 + 1) (upd fa_14 y_13.toNatClampNeg (fa_14 y_13.toNatClampNeg)) (up0 c_16 z3) (ms_up c_16 hm) H locs hP hD hS (lv_sub hl [2, 3, 4, 0] rfl) (fun ls z0 H locs hP hD hS hl he => kont ls z0 H locs hP hD hS hl (he.trans hT))
                  · have hT := it_f c_23 hT
                    refine lv_iload hx hb dX7_findFar_129 (lv_at hl 0 rfl) ?_
                    refine lv_goto (tgt := 140) hx hb dX7_findFar_131 (by decide) ?_
                    refine sM_far C hK hP hD hS (ix_inv_nle z3 c_16) dX7_findFar_140 (fun H locs hP hD hS => ?_)
                    refine lv_iinc (v := y_13 + 1) (lv' := [(3, .int (y_13 + 1)), (4, .int (r_21 + r_22)), (0, .ref (mk 0)), (1, .int x1), (2, .int y_9)]) hx hb dX7_findFar_141 hl (k := 4) rfl rfl (by decide) rfl (fun ls hl => ?_)
                    refine lv_goto (tgt := 67) hx hb dX7_findFar_144 (by decide) ?_
                    exact ih ls (y_13 + 1) (upd fa_14 y_13.toNatClampNeg (r_21 + r_22)) (up0 c_16 z3) (ms_up c_16 hm) H locs hP hD hS (lv_sub hl [2, 3, 4, 0] rfl) (fun ls z0 H locs hP hD hS hl he => kont ls z0 H locs hP hD hS hl (he.trans hT))
        refine L_67 (((20 : Int32).toInt - (0 : Int32).toInt).toNat + 1) ls (0 : Int32) fa_10 (by decide) (Nat.lt_succ_self _) H locs hP hD hS (lv_sub hl [1, 2, 3, 0] rfl) (fun ls e_15 H locs hP hD hS hl he => ?_)
        have hT := nm_u he hT
        refine lv_iinc (v := y_9 + 1) (lv' := [(2, .int (y_9 + 1)), (0, .ref (mk 0)), (1, .int x1)]) hx hb dX7_findFar_147 hl (k := 2) rfl rfl (by decide) rfl (fun ls hl => ?_)
        refine lv_goto (tgt := 59) hx hb dX7_findFar_150 (by decide) ?_
        exact ih ls (y_9 + 1) e_15 (ms_up c_12 hm) H locs hP hD hS (lv_sub hl [1, 2, 0] rfl) (fun ls z0 H locs hP hD hS hl he => kont ls z0 H locs hP hD hS hl (he.trans hT))
  refine L_59 (((20 : Int32).toInt - (0 : Int32).toInt).toNat + 1) ls (0 : Int32) e_3 (Nat.lt_succ_self _) H locs hP hD hS (lv_sub hl [1, 2, 0] rfl) (fun ls e_11 H locs hP hD hS hl he => ?_)
  have hT := nm_u he hT
  exact hret e_11 _ _ _ _ hT hP hD hS dX7_findFar_153
theorem hv_X7_water : yX7_water.cls = RX7 ∧ yX7_water.cls ≠ "java/lang/invoke/MethodHandle" ∧ yX7_water.cls ≠ "java/lang/invoke/VarHandle" ∧ (parseMethodDescriptor yX7_water.desc).map (fun d => d.parameters.length) = some 3 := by decide +kernel
theorem hd_X7_water : yX7_water.cls ≠ "java/lang/invoke/MethodHandle" ∧ yX7_water.cls ≠ "java/lang/invoke/VarHandle" ∧ (parseMethodDescriptor yX7_water.desc).map (fun d => d.parameters.length) = some 3 := hv_X7_water.2
def sp_X7_water (mg : Nat → Int32) (st : Nat → Int32) (fa : Nat → Int32) (x1 : Int32) (x2 : Int32) (x3 : Int32) : Int32 × (Nat → Int32) :=
  nm (sp_X7_isFamily x1) (fun r_1 => if r_1 = 0 then ((-1 : Int32), fa) else (nm (sp_X7_isCell mg x2 x3) (fun r_3 => if r_3 = 0 then ((-1 : Int32), fa) else (nm (sp_X7_isDry st (((5 : Int32) * x3) + x2)) (fun r_5 => if r_5 = 0 then ((-1 : Int32), fa) else (nm (sp_X7_findFar mg st fa x1) (fun fa_7 => (fa_7 (((5 : Int32) * x3) + x2).toNatClampNeg, fa_7))))))))
theorem sp_X7_water_s (mg : Nat → Int32) (st : Nat → Int32) (fa : Nat → Int32) (x1 : Int32) (x2 : Int32) (x3 : Int32) : (nm (sp_X7_isFamily x1) (fun r_1 => if r_1 = 0 then ((-1 : Int32), fa) else (nm (sp_X7_isCell mg x2 x3) (fun r_3 => if r_3 = 0 then ((-1 : Int32), fa) else (nm (sp_X7_isDry st (((5 : Int32) * x3) + x2)) (fun r_5 => if r_5 = 0 then ((-1 : Int32), fa) else (nm (sp_X7_findFar mg st fa x1) (fun fa_7 => (fa_7 (((5 : Int32) * x3) + x2).toNatClampNeg, fa_7))))))))) = sp_X7_water mg st fa x1 x2 x3 := rfl
set_option maxHeartbeats 4000000 in
set_option maxRecDepth 100000 in
theorem c_X7_water {l : Launch} {D : va_G} {cI cZ cO : ClassId} {mk : Nat → Nat} {mg st im ke se tx sh fa : Nat → Int32} {mt : Int64} {x1 : Int32} {x2 : Int32} {x3 : Int32} (hw : 1 ≤ (mg 0).toInt ∧ (mg 0).toInt ≤ 5) (hh : 1 ≤ (mg 1).toInt ∧ (mg 1).toInt ≤ 4) (sz : Nat) : Met l yX7_water (wm yX7_water cX7_water 4 (some .int)) ({ frames := 4, cells := 0, slots := 0, locals := 95 } : Room) (GPre D (ty3 cI cZ cO) (MW cI cZ mk mg st im ke se tx sh fa mt) [.ref (mk 0), .int x1, .int x2, .int x3] sz) (va_Qi (fun r (u : (Nat → Int32)) => (r, u) = sp_X7_water mg st fa x1 x2 x3) (fun u t => GAt D (ty3 cI cZ cO) (va_A (MW cI cZ mk mg st im ke se tx sh fa mt) sz) (MW cI cZ mk mg st im ke se tx sh u mt) t) (va_A (MW cI cZ mk mg st im ke se tx sh fa mt) sz)) 0 0 (va_A (MW cI cZ mk mg st im ke se tx sh fa mt) sz) := by
  refine metQ_i (W1 := (fun (u : (Nat → Int32)) => MW cI cZ mk mg st im ke se tx sh u mt)) (post := (fun r (u : (Nat → Int32)) => (r, u) = sp_X7_water mg st fa x1 x2 x3)) (by decide) (Nat.le_of_ble_eq_true rfl) ?_
  intro p e s m args below meth c ls A Q C hsz hP hK hD hS hA hN hl hret
  have hx := C.1
  have hb := C.2.1
  have hl : lv_has ls 4 [(0, .ref (mk 0)), (1, .int x1), (2, .int x2), (3, .int x3)] := hl
  have hT := sp_X7_water_s mg st fa x1 x2 x3
  refine lv_iload_n hx hb dX7_water_0 rfl (lv_at hl 1 rfl) ?_
  refine vp_callSi (run_sP (As := [.int x1]) (rest := []) C hN (c_X7_isFamily) ⟨wd_3_215, wd_3_216, wd_1_8, wd_3_217⟩ ⟨rfl, rfl⟩ hd_X7_isFamily ⟨Nat.le_of_ble_eq_true rfl, Nat.le_of_ble_eq_true rfl⟩ rfl hl.1 rfl (Nat.le_of_ble_eq_true rfl) dX7_water_1 ⟨Nat.zero_le _, Nat.zero_le _⟩) (fun r_1 hr_1 => ?_)
  have hT := nm_u hr_1.1 hT
  refine lv_if_eq (tgt := 28) hx hb dX7_water_4 (by decide) (fun c_2 => ?_) (fun c_2 => ?_)
  · have hT := it_t c_2 hT
    refine lv_iconst (v := -1) hx hb dX7_water_28 (by decide) ?_
    exact hret _ fa _ _ _ _ hT hP hD hS dX7_water_29
  · have hT := it_f c_2 hT
    refine lv_aload_n hx hb dX7_water_7 rfl (lv_at hl 0 rfl) ?_
    refine lv_iload_n hx hb dX7_water_8 rfl (lv_at hl 2 rfl) ?_
    refine lv_iload_n hx hb dX7_water_9 rfl (lv_at hl 3 rfl) ?_
    refine vp_callSi (run_vP (As := [.int x2, .int x3]) (rest := []) C hK hP hD hN (c_X7_isCell _) (rX7_r hK hP) ⟨wd_3_195, wd_3_197, ws_27, wd_1_8, wd_3_198⟩ ⟨rfl, rfl⟩ hv_X7_isCell ⟨Nat.le_of_ble_eq_true rfl, Nat.le_of_ble_eq_true rfl⟩ rfl hl.1 rfl (Nat.le_of_ble_eq_true rfl) dX7_water_10 ⟨Nat.zero_le _, Nat.zero_le _⟩) (fun r_3 hr_3 => ?_)
    have hT := nm_u hr_3.1 hT
    refine lv_if_eq (tgt := 28) hx hb dX7_water_13 (by decide) (fun c_4 => ?_) (fun c_4 => ?_)
    · have hT := it_t c_4 hT
      refine lv_iconst (v := -1) hx hb dX7_water_28 (by decide) ?_
      exact hret _ fa _ _ _ _ hT hP hD hS dX7_water_29
    · have hT := it_f c_4 hT
      refine lv_aload_n hx hb dX7_water_16 rfl (lv_at hl 0 rfl) ?_
      refine lv_iconst (v := 5) hx hb dX7_water_17 (by decide) ?_
      refine lv_iload_n hx hb dX7_water_18 rfl (lv_at hl 3 rfl) ?_
      refine lv_imul hx hb dX7_water_19 ?_
      refine lv_iload_n hx hb dX7_water_20 rfl (lv_at hl 2 rfl) ?_
      refine lv_iadd hx hb dX7_water_21 ?_
      refine vp_callSi (run_vP (As := [.int (((5 : Int32) * x3) + x2)]) (rest := []) C hK hP hD hN (c_X7_isDry _) (rX7_r hK hP) ⟨wd_3_199, wd_3_201, ws_28, wd_1_8, wd_3_202⟩ ⟨rfl, rfl⟩ hv_X7_isDry ⟨Nat.le_of_ble_eq_true rfl, Nat.le_of_ble_eq_true rfl⟩ rfl hl.1 rfl (Nat.le_of_ble_eq_true rfl) dX7_water_22 ⟨Nat.zero_le _, Nat.zero_le _⟩) (fun r_5 hr_5 => ?_)
      have hT := nm_u hr_5.1 hT
      refine lv_if_ne (tgt := 30) hx hb dX7_water_25 (by decide) (fun c_6 => ?_) (fun c_6 => ?_)
      · have hT := it_f c_6 hT
        refine lv_aload_n hx hb dX7_water_30 rfl (lv_at hl 0 rfl) ?_
        refine lv_iload_n hx hb dX7_water_31 rfl (lv_at hl 1 rfl) ?_
        refine on_v (run_vQ (As := [.int x1]) (rest := []) C hK hP hD hN (c_X7_findFar hw hh _) (rX7_r hK hP) ⟨wd_4_37, wd_4_39, ws_37, wd_1_8, wd_4_40⟩ ⟨rfl, rfl⟩ hv_X7_findFar ⟨Nat.le_of_ble_eq_true rfl, Nat.le_of_ble_eq_true rfl⟩ rfl hl.1 rfl (Nat.le_of_ble_eq_true rfl) dX7_water_32 ⟨Nat.zero_le _, Nat.zero_le _⟩) hD hS hA (fun u H locs hp_8 hP hD hS => ?_)
        obtain ⟨fa_7, rfl⟩ : ∃ z, z = u := ⟨_, rfl⟩
        have hP : va_P D vwCl (MW cI cZ mk mg st im ke se tx sh fa_7 mt) H := hP
        have hD : va_D A (MW cI cZ mk mg st im ke se tx sh fa_7 mt) := hD
        have hT := nm_u hp_8 hT
        refine lv_aload_n hx hb dX7_water_35 rfl (lv_at hl 0 rfl) ?_
        refine gX7_far C hK hP wd_3_96 dX7_water_36 ?_
        refine lv_iconst (v := 5) hx hb dX7_water_39 (by decide) ?_
        refine lv_iload_n hx hb dX7_water_40 rfl (lv_at hl 3 rfl) ?_
        refine lv_imul hx hb dX7_water_41 ?_
        refine lv_iload_n hx hb dX7_water_42 rfl (lv_at hl 2 rfl) ?_
        refine lv_iadd hx hb dX7_water_43 ?_
        refine aM_far C hK hP (cell_ix hw hh hr_3.1 c_4 (by decide)) dX7_water_44 ?_
        exact hret _ fa_7 _ _ _ _ hT hP hD hS dX7_water_45
      · have hT := it_t c_6 hT
        refine lv_iconst (v := -1) hx hb dX7_water_28 (by decide) ?_
        exact hret _ fa _ _ _ _ hT hP hD hS dX7_water_29
theorem hv_X7_help : yX7_help.cls = RX7 ∧ yX7_help.cls ≠ "java/lang/invoke/MethodHandle" ∧ yX7_help.cls ≠ "java/lang/invoke/VarHandle" ∧ (parseMethodDescriptor yX7_help.desc).map (fun d => d.parameters.length) = some 2 := by decide +kernel
theorem hd_X7_help : yX7_help.cls ≠ "java/lang/invoke/MethodHandle" ∧ yX7_help.cls ≠ "java/lang/invoke/VarHandle" ∧ (parseMethodDescriptor yX7_help.desc).map (fun d => d.parameters.length) = some 2 := hv_X7_help.2
def jn_X7_help_152 (rec_59 : Int32 → Int32 → Int32 → Int32 × Int32) (r_7 : Int32) (y_9 : Int32) (y_10 : Int32) (r_21 : Int32) (v_22 : Int32) : Int32 × Int32 :=
  if (r_21 - r_7) ≤ y_9 then (rec_59 v_22 y_9 (y_10 + 1)) else (rec_59 v_22 (r_21 - r_7) (y_10 + 1))
theorem jn_X7_help_152_s (rec_59 : Int32 → Int32 → Int32 → Int32 × Int32) (r_7 : Int32) (y_9 : Int32) (y_10 : Int32) (r_21 : Int32) (v_22 : Int32) : (if (r_21 - r_7) ≤ y_9 then (rec_59 v_22 y_9 (y_10 + 1)) else (rec_59 v_22 (r_21 - r_7) (y_10 + 1))) = jn_X7_help_152 rec_59 r_7 y_9 y_10 r_21 v_22 := rfl
def lp_X7_help_59 (mg : Nat → Int32) (st : Nat → Int32) (r_5 : Int32) (r_7 : Int32) : Nat → Int32 → Int32 → Int32 → Int32 × Int32
  | 0, y_8, y_9, y_10 => (y_8, y_9)
  | n + 1, y_8, y_9, y_10 => if (20 : Int32) ≤ y_10 then (y_8, y_9) else (nm (sp_X7_isCell mg (rem y_10 (5 : Int32)) (y_10 / (5 : Int32))) (fun r_14 => if r_14 = 0 then (lp_X7_help_59 mg st r_5 r_7 n y_8 y_9 (y_10 + 1)) else (nm (sp_X7_isDry st y_10) (fun r_16 => if r_16 = 0 then (lp_X7_help_59 mg st r_5 r_7 n y_8 y_9 (y_10 + 1)) else (nm (sp_X7_has (st (20 : Int32).toNatClampNeg) y_10) (fun r_18 => if r_18 = 0 then (nm (sp_X7_stillOnes mg st ((st (20 : Int32).toNatClampNeg) ||| ((1 : Int32) <<< (y_10 &&& 31))) (st (21 : Int32).toNatClampNeg)) (fun r_20 => nm (sp_X7_bits (r_5 &&& r_20)) (fun r_21 => if (r_21 - r_7) ≤ y_9 then (jn_X7_help_152 (lp_X7_help_59 mg st r_5 r_7 n) r_7 y_9 y_10 r_21 y_8) else (jn_X7_help_152 (lp_X7_help_59 mg st r_5 r_7 n) r_7 y_9 y_10 r_21 y_10)))) else (lp_X7_help_59 mg st r_5 r_7 n y_8 y_9 (y_10 + 1))))))))
theorem lp_X7_help_59_s (mg : Nat → Int32) (st : Nat → Int32) (r_5 : Int32) (r_7 : Int32) (n : Nat) (y_8 : Int32) (y_9 : Int32) (y_10 : Int32) : (if (20 : Int32) ≤ y_10 then (y_8, y_9) else (nm (sp_X7_isCell mg (rem y_10 (5 : Int32)) (y_10 / (5 : Int32))) (fun r_14 => if r_14 = 0 then (lp_X7_help_59 mg st r_5 r_7 n y_8 y_9 (y_10 + 1)) else (nm (sp_X7_isDry st y_10) (fun r_16 => if r_16 = 0 then (lp_X7_help_59 mg st r_5 r_7 n y_8 y_9 (y_10 + 1)) else (nm (sp_X7_has (st (20 : Int32).toNatClampNeg) y_10) (fun r_18 => if r_18 = 0 then (nm (sp_X7_stillOnes mg st ((st (20 : Int32).toNatClampNeg) ||| ((1 : Int32) <<< (y_10 &&& 31))) (st (21 : Int32).toNatClampNeg)) (fun r_20 => nm (sp_X7_bits (r_5 &&& r_20)) (fun r_21 => if (r_21 - r_7) ≤ y_9 then (jn_X7_help_152 (lp_X7_help_59 mg st r_5 r_7 n) r_7 y_9 y_10 r_21 y_8) else (jn_X7_help_152 (lp_X7_help_59 mg st r_5 r_7 n) r_7 y_9 y_10 r_21 y_10)))) else (lp_X7_help_59 mg st r_5 r_7 n y_8 y_9 (y_10 + 1))))))))) = lp_X7_help_59 mg st r_5 r_7 (n + 1) y_8 y_9 y_10 := rfl
def sp_X7_help (mg : Nat → Int32) (st : Nat → Int32) (x1 : Int32) (x2 : Int32) : Int32 :=
  nm (sp_X7_isFamily x1) (fun r_1 => if r_1 = 0 then (-1 : Int32) else (nm (sp_X7_in x2 (0 : Int32) (1 : Int32)) (fun r_3 => if r_3 = 0 then (-1 : Int32) else (nm (sp_X7_heldBy st x1) (fun r_5 => nm (sp_X7_stillOnes mg st (st (20 : Int32).toNatClampNeg) (st (21 : Int32).toNatClampNeg)) (fun r_6 => nm (sp_X7_bits (r_5 &&& r_6)) (fun r_7 => nm2 (lp_X7_help_59 mg st r_5 r_7 (((20 : Int32).toInt - (0 : Int32).toInt).toNat + 1) (-9 : Int32) (-1 : Int32) (0 : Int32)) (fun e_11 e_12 => if e_11 < 0 then e_11 else (if x2 = 0 then e_11 else e_12)))))))))
theorem sp_X7_help_s (mg : Nat → Int32) (st : Nat → Int32) (x1 : Int32) (x2 : Int32) : (nm (sp_X7_isFamily x1) (fun r_1 => if r_1 = 0 then (-1 : Int32) else (nm (sp_X7_in x2 (0 : Int32) (1 : Int32)) (fun r_3 => if r_3 = 0 then (-1 : Int32) else (nm (sp_X7_heldBy st x1) (fun r_5 => nm (sp_X7_stillOnes mg st (st (20 : Int32).toNatClampNeg) (st (21 : Int32).toNatClampNeg)) (fun r_6 => nm (sp_X7_bits (r_5 &&& r_6)) (fun r_7 => nm2 (lp_X7_help_59 mg st r_5 r_7 (((20 : Int32).toInt - (0 : Int32).toInt).toNat + 1) (-9 : Int32) (-1 : Int32) (0 : Int32)) (fun e_11 e_12 => if e_11 < 0 then e_11 else (if x2 = 0 then e_11 else e_12)))))))))) = sp_X7_help mg st x1 x2 := rfl
set_option maxHeartbeats 4000000 in
set_option maxRecDepth 100000 in
theorem c_X7_help {l : Launch} {D : va_G} {cI cZ cO : ClassId} {mk : Nat → Nat} {mg st im ke se tx sh fa : Nat → Int32} {mt : Int64} {x1 : Int32} {x2 : Int32}  (sz : Nat) : Met l yX7_help (wm yX7_help cX7_help 9 (some .int)) ({ frames := 5, cells := 0, slots := 0, locals := 117 } : Room) (GPre D (ty3 cI cZ cO) (MW cI cZ mk mg st im ke se tx sh fa mt) [.ref (mk 0), .int x1, .int x2] sz) (vp_Si (fun r => r = sp_X7_help mg st x1 x2)) 0 0 (fun _ => False) := by
  refine metP_i (post := (fun r => r = sp_X7_help mg st x1 x2)) (by decide) (Nat.le_of_ble_eq_true rfl) ?_
  intro p e s m args below meth c ls Q C hsz hP hK hD hN hl hret
  have hx := C.1
  have hb := C.2.1
  have hl : lv_has ls 9 [(0, .ref (mk 0)), (1, .int x1), (2, .int x2)] := hl
  have hT := sp_X7_help_s mg st x1 x2
  refine lv_iload_n hx hb dX7_help_0 rfl (lv_at hl 1 rfl) ?_
  refine vp_callSi (run_sP (As := [.int x1]) (rest := []) C hN (c_X7_isFamily) ⟨wd_3_215, wd_3_216, wd_1_8, wd_3_217⟩ ⟨rfl, rfl⟩ hd_X7_isFamily ⟨Nat.le_of_ble_eq_true rfl, Nat.le_of_ble_eq_true rfl⟩ rfl hl.1 rfl (Nat.le_of_ble_eq_true rfl) dX7_help_1 ⟨Nat.zero_le _, Nat.zero_le _⟩) (fun r_1 hr_1 => ?_)
  have hT := nm_u hr_1.1 hT
  refine lv_if_eq (tgt := 16) hx hb dX7_help_4 (by decide) (fun c_2 => ?_) (fun c_2 => ?_)
  · have hT := it_t c_2 hT
    refine lv_iconst (v := -1) hx hb dX7_help_16 (by decide) ?_
    exact hret _ _ _ hT dX7_help_17
  · have hT := it_f c_2 hT
    refine lv_iload_n hx hb dX7_help_7 rfl (lv_at hl 2 rfl) ?_
    refine lv_iconst (v := 0) hx hb dX7_help_8 (by decide) ?_
    refine lv_iconst (v := 1) hx hb dX7_help_9 (by decide) ?_
    refine vp_callSi (run_sP (As := [.int x2, .int (0 : Int32), .int (1 : Int32)]) (rest := []) C hN (c_X7_in) ⟨wd_3_147, wd_3_148, wd_1_8, wd_3_149⟩ ⟨rfl, rfl⟩ hd_X7_in ⟨Nat.le_of_ble_eq_true rfl, Nat.le_of_ble_eq_true rfl⟩ rfl hl.1 rfl (Nat.le_of_ble_eq_true rfl) dX7_help_10 ⟨Nat.zero_le _, Nat.zero_le _⟩) (fun r_3 hr_3 => ?_)
    have hT := nm_u hr_3.1 hT
    refine lv_if_ne (tgt := 18) hx hb dX7_help_13 (by decide) (fun c_4 => ?_) (fun c_4 => ?_)
    · have hT := it_f c_4 hT
      refine lv_aload_n hx hb dX7_help_18 rfl (lv_at hl 0 rfl) ?_
      refine lv_iload_n hx hb dX7_help_19 rfl (lv_at hl 1 rfl) ?_
      refine vp_callSi (run_vP (As := [.int x1]) (rest := []) C hK hP hD hN (c_X7_heldBy _) (rX7_r hK hP) ⟨wd_3_218, wd_3_220, ws_31, wd_1_8, wd_3_221⟩ ⟨rfl, rfl⟩ hv_X7_heldBy ⟨Nat.le_of_ble_eq_true rfl, Nat.le_of_ble_eq_true rfl⟩ rfl hl.1 rfl (Nat.le_of_ble_eq_true rfl) dX7_help_20 ⟨Nat.zero_le _, Nat.zero_le _⟩) (fun r_5 hr_5 => ?_)
      have hT := nm_u hr_5 hT
      refine lv_istore_n (lv' := [(3, .int r_5), (0, .ref (mk 0)), (1, .int x1), (2, .int x2)]) hx hb dX7_help_23 rfl hl (by decide) rfl (fun ls hl => ?_)
      refine lv_iload_n hx hb dX7_help_24 rfl (lv_at hl 0 rfl) ?_
      refine lv_aload_n hx hb dX7_help_25 rfl (lv_at hl 1 rfl) ?_
      refine lv_aload_n hx hb dX7_help_26 rfl (lv_at hl 1 rfl) ?_
      refine gX7_st C hK hP wd_3_77 dX7_help_27 ?_
      refine lv_bipush (v := 20) hx hb dX7_help_30 (by decide) ?_
      refine aM_st C hK hP (ix_of (by decide) (by decide)) dX7_help_32 ?_
      refine lv_aload_n hx hb dX7_help_33 rfl (lv_at hl 1 rfl) ?_
      refine gX7_st C hK hP wd_3_77 dX7_help_34 ?_
      refine lv_bipush (v := 21) hx hb dX7_help_37 (by decide) ?_
      refine aM_st C hK hP (ix_of (by decide) (by decide)) dX7_help_39 ?_
      refine vp_callSi (run_vP (As := [.int (st (20 : Int32).toNatClampNeg), .int (st (21 : Int32).toNatClampNeg)]) (rest := [.int r_5]) C hK hP hD hN (c_X7_stillOnes _) (rX7_r hK hP) ⟨wd_3_222, wd_3_224, ws_32, wd_1_8, wd_3_225⟩ ⟨rfl, rfl⟩ hv_X7_stillOnes ⟨Nat.le_of_ble_eq_true rfl, Nat.le_of_ble_eq_true rfl⟩ rfl hl.1 rfl (Nat.le_of_ble_eq_true rfl) dX7_help_40 ⟨Nat.zero_le _, Nat.zero_le _⟩) (fun r_6 hr_6 => ?_)
      have hT := nm_u hr_6 hT
      refine lv_iand hx hb dX7_help_43 ?_
      refine vp_callSi (run_sP (As := [.int (r_5 &&& r_6)]) (rest := []) C hN (c_X7_bits) ⟨wd_3_226, wd_3_227, wd_1_8, wd_3_228⟩ ⟨rfl, rfl⟩ hd_X7_bits ⟨Nat.le_of_ble_eq_true rfl, Nat.le_of_ble_eq_true rfl⟩ rfl hl.1 rfl (Nat.le_of_ble_eq_true rfl) dX7_help_44 ⟨Nat.zero_le _, Nat.zero_le _⟩) (fun r_7 hr_7 => ?_)
      have hT := nm_u hr_7 hT
      refine lv_istore (lv' := [(4, .int r_7), (3, .int r_5), (0, .ref (mk 0)), (1, .int x1), (2, .int x2)]) hx hb dX7_help_47 hl (by decide) rfl (fun ls hl => ?_)
      refine lv_bipush (v := -9) hx hb dX7_help_49 (by decide) ?_
      refine lv_istore (lv' := [(5, .int (-9 : Int32)), (4, .int r_7), (3, .int r_5), (0, .ref (mk 0)), (1, .int x1), (2, .int x2)]) hx hb dX7_help_51 hl (by decide) rfl (fun ls hl => ?_)
      refine lv_iconst (v := -1) hx hb dX7_help_53 (by decide) ?_
      refine lv_istore (lv' := [(6, .int (-1 : Int32)), (5, .int (-9 : Int32)), (4, .int r_7), (3, .int r_5), (0, .ref (mk 0)), (1, .int x1), (2, .int x2)]) hx hb dX7_help_54 hl (by decide) rfl (fun ls hl => ?_)
      refine lv_iconst (v := 0) hx hb dX7_help_56 (by decide) ?_
      refine lv_istore (lv' := [(7, .int (0 : Int32)), (6, .int (-1 : Int32)), (5, .int (-9 : Int32)), (4, .int r_7), (3, .int r_5), (0, .ref (mk 0)), (1, .int x1), (2, .int x2)]) hx hb dX7_help_57 hl (by decide) rfl (fun ls hl => ?_)
      have L_59 : ∀ (n : Nat) (ls : Array Slot) (y_8 : Int32) (y_9 : Int32) (y_10 : Int32) (hm : ((20 : Int32).toInt - y_10.toInt).toNat < n) (hl : lv_has ls 9 [(0, .ref (mk 0)), (2, .int x2), (3, .int r_5), (4, .int r_7), (5, .int y_8), (6, .int y_9), (7, .int y_10)]) (kont : ∀ (ls : Array Slot) (e_11 : Int32) (e_12 : Int32), lv_has ls 9 [(2, .int x2), (5, .int e_11), (6, .int e_12)] → (e_11, e_12) = lp_X7_help_59 mg st r_5 r_7 n y_8 y_9 y_10 → W p l e ({ frames := 5, cells := 0, slots := 0, locals := 117 } : Room) s m args below meth c s.heap [] 0 0 Q (F0 m 176 ls [])), W p l e ({ frames := 5, cells := 0, slots := 0, locals := 117 } : Room) s m args below meth c s.heap [] 0 0 Q (F0 m 59 ls []) := by
        intro n
        induction n with
        | zero => intro ls y_8 y_9 y_10 hm; exact absurd hm (Nat.not_lt_zero _)
        | succ n ih =>
          intro ls y_8 y_9 y_10 hm hl kont
          have hT := lp_X7_help_59_s mg st r_5 r_7 n y_8 y_9 y_10
          refine lv_iload hx hb dX7_help_59 (lv_at hl 6 rfl) ?_
          refine lv_bipush (v := 20) hx hb dX7_help_61 (by decide) ?_
          refine lv_icmp_ge (tgt := 176) hx hb dX7_help_63 (by decide) (fun c_13 => ?_) (fun c_13 => ?_)
          · have hT := it_t c_13 hT
            exact kont ls y_8 y_9 (lv_sub hl [1, 4, 5] rfl) hT
          · have hT := it_f c_13 hT
            refine lv_aload_n hx hb dX7_help_66 rfl (lv_at hl 0 rfl) ?_
            refine lv_iload hx hb dX7_help_67 (lv_at hl 6 rfl) ?_
            refine lv_iconst (v := 5) hx hb dX7_help_69 (by decide) ?_
            refine lv_rem hx hb dX7_help_70 (by decide) ?_
            refine lv_iload hx hb dX7_help_71 (lv_at hl 6 rfl) ?_
            refine lv_iconst (v := 5) hx hb dX7_help_73 (by decide) ?_
            refine lv_idiv hx hb dX7_help_74 (by decide) ?_
            refine vp_callSi (run_vP (As := [.int (rem y_10 (5 : Int32)), .int (y_10 / (5 : Int32))]) (rest := []) C hK hP hD hN (c_X7_isCell _) (rX7_r hK hP) ⟨wd_3_195, wd_3_197, ws_27, wd_1_8, wd_3_198⟩ ⟨rfl, rfl⟩ hv_X7_isCell ⟨Nat.le_of_ble_eq_true rfl, Nat.le_of_ble_eq_true rfl⟩ rfl hl.1 rfl (Nat.le_of_ble_eq_true rfl) dX7_help_75 ⟨Nat.zero_le _, Nat.zero_le _⟩) (fun r_14 hr_14 => ?_)
            have hT := nm_u hr_14.1 hT
            refine lv_if_eq (tgt := 170) hx hb dX7_help_78 (by decide) (fun c_15 => ?_) (fun c_15 => ?_)
            · have hT := it_t c_15 hT
              refine lv_iinc (v := y_10 + 1) (lv' := [(7, .int (y_10 + 1)), (0, .ref (mk 0)), (2, .int x2), (3, .int r_5), (4, .int r_7), (5, .int y_8), (6, .int y_9)]) hx hb dX7_help_170 hl (k := 6) rfl rfl (by decide) rfl (fun ls hl => ?_)
              refine lv_goto (tgt := 59) hx hb dX7_help_173 (by decide) ?_
              exact ih ls y_8 y_9 (y_10 + 1) (ms_up c_13 hm) (lv_sub hl [1, 2, 3, 4, 5, 6, 0] rfl) (fun ls z0 z1 hl he => kont ls z0 z1 hl (he.trans hT))
            · have hT := it_f c_15 hT
              refine lv_aload_n hx hb dX7_help_81 rfl (lv_at hl 0 rfl) ?_
              refine lv_iload hx hb dX7_help_82 (lv_at hl 6 rfl) ?_
              refine vp_callSi (run_vP (As := [.int y_10]) (rest := []) C hK hP hD hN (c_X7_isDry _) (rX7_r hK hP) ⟨wd_3_199, wd_3_201, ws_28, wd_1_8, wd_3_202⟩ ⟨rfl, rfl⟩ hv_X7_isDry ⟨Nat.le_of_ble_eq_true rfl, Nat.le_of_ble_eq_true rfl⟩ rfl hl.1 rfl (Nat.le_of_ble_eq_true rfl) dX7_help_84 ⟨Nat.zero_le _, Nat.zero_le _⟩) (fun r_16 hr_16 => ?_)
              have hT := nm_u hr_16.1 hT
              refine lv_if_eq (tgt := 170) hx hb dX7_help_87 (by decide) (fun c_17 => ?_) (fun c_17 => ?_)
              · have hT := it_t c_17 hT
                refine lv_iinc (v := y_10 + 1) (lv' := [(7, .int (y_10 + 1)), (0, .ref (mk 0)), (2, .int x2), (3, .int r_5), (4, .int r_7), (5, .int y_8), (6, .int y_9)]) hx hb dX7_help_170 hl (k := 6) rfl rfl (by decide) rfl (fun ls hl => ?_)
                refine lv_goto (tgt := 59) hx hb dX7_help_173 (by decide) ?_
                exact ih ls y_8 y_9 (y_10 + 1) (ms_up c_13 hm) (lv_sub hl [1, 2, 3, 4, 5, 6, 0] rfl) (fun ls z0 z1 hl he => kont ls z0 z1 hl (he.trans hT))
              · have hT := it_f c_17 hT
                refine lv_aload_n hx hb dX7_help_90 rfl (lv_at hl 0 rfl) ?_
                refine gX7_st C hK hP wd_3_77 dX7_help_91 ?_
                refine lv_bipush (v := 20) hx hb dX7_help_94 (by decide) ?_
                refine aM_st C hK hP (ix_of (by decide) (by decide)) dX7_help_96 ?_
                refine lv_iload hx hb dX7_help_97 (lv_at hl 6 rfl) ?_
                refine vp_callSi (run_sP (As := [.int (st (20 : Int32).toNatClampNeg), .int y_10]) (rest := []) C hN (c_X7_has) ⟨wd_3_184, wd_3_185, wd_1_8, wd_3_186⟩ ⟨rfl, rfl⟩ hd_X7_has ⟨Nat.le_of_ble_eq_true rfl, Nat.le_of_ble_eq_true rfl⟩ rfl hl.1 rfl (Nat.le_of_ble_eq_true rfl) dX7_help_99 ⟨Nat.zero_le _, Nat.zero_le _⟩) (fun r_18 hr_18 => ?_)
                have hT := nm_u hr_18.1 hT
                refine lv_if_ne (tgt := 170) hx hb dX7_help_102 (by decide) (fun c_19 => ?_) (fun c_19 => ?_)
                · have hT := it_f c_19 hT
                  refine lv_iinc (v := y_10 + 1) (lv' := [(7, .int (y_10 + 1)), (0, .ref (mk 0)), (2, .int x2), (3, .int r_5), (4, .int r_7), (5, .int y_8), (6, .int y_9)]) hx hb dX7_help_170 hl (k := 6) rfl rfl (by decide) rfl (fun ls hl => ?_)
                  refine lv_goto (tgt := 59) hx hb dX7_help_173 (by decide) ?_
                  exact ih ls y_8 y_9 (y_10 + 1) (ms_up c_13 hm) (lv_sub hl [1, 2, 3, 4, 5, 6, 0] rfl) (fun ls z0 z1 hl he => kont ls z0 z1 hl (he.trans hT))
                · have hT := it_t c_19 hT
                  refine lv_iload_n hx hb dX7_help_105 rfl (lv_at hl 2 rfl) ?_
                  refine lv_aload_n hx hb dX7_help_106 rfl (lv_at hl 0 rfl) ?_
                  refine lv_aload_n hx hb dX7_help_107 rfl (lv_at hl 0 rfl) ?_
                  refine gX7_st C hK hP wd_3_77 dX7_help_108 ?_
                  refine lv_bipush (v := 20) hx hb dX7_help_111 (by decide) ?_
                  refine aM_st C hK hP (ix_of (by decide) (by decide)) dX7_help_113 ?_
                  refine lv_iconst (v := 1) hx hb dX7_help_114 (by decide) ?_
                  refine lv_iload hx hb dX7_help_115 (lv_at hl 6 rfl) ?_
                  refine lv_ishl hx hb dX7_help_117 ?_
                  refine lv_ior hx hb dX7_help_118 ?_
                  refine lv_aload_n hx hb dX7_help_119 rfl (lv_at hl 0 rfl) ?_
                  refine gX7_st C hK hP wd_3_77 dX7_help_120 ?_
                  refine lv_bipush (v := 21) hx hb dX7_help_123 (by decide) ?_
                  refine aM_st C hK hP (ix_of (by decide) (by decide)) dX7_help_125 ?_
                  refine vp_callSi (run_vP (As := [.int ((st (20 : Int32).toNatClampNeg) ||| ((1 : Int32) <<< (y_10 &&& 31))), .int (st (21 : Int32).toNatClampNeg)]) (rest := [.int r_5]) C hK hP hD hN (c_X7_stillOnes _) (rX7_r hK hP) ⟨wd_3_222, wd_3_224, ws_32, wd_1_8, wd_3_225⟩ ⟨rfl, rfl⟩ hv_X7_stillOnes ⟨Nat.le_of_ble_eq_true rfl, Nat.le_of_ble_eq_true rfl⟩ rfl hl.1 rfl (Nat.le_of_ble_eq_true rfl) dX7_help_126 ⟨Nat.zero_le _, Nat.zero_le _⟩) (fun r_20 hr_20 => ?_)
                  have hT := nm_u hr_20 hT
                  refine lv_iand hx hb dX7_help_129 ?_
                  refine vp_callSi (run_sP (As := [.int (r_5 &&& r_20)]) (rest := []) C hN (c_X7_bits) ⟨wd_3_226, wd_3_227, wd_1_8, wd_3_228⟩ ⟨rfl, rfl⟩ hd_X7_bits ⟨Nat.le_of_ble_eq_true rfl, Nat.le_of_ble_eq_true rfl⟩ rfl hl.1 rfl (Nat.le_of_ble_eq_true rfl) dX7_help_130 ⟨Nat.zero_le _, Nat.zero_le _⟩) (fun r_21 hr_21 => ?_)
                  have hT := nm_u hr_21 hT
                  refine lv_iload hx hb dX7_help_133 (lv_at hl 3 rfl) ?_
                  refine lv_isub hx hb dX7_help_135 ?_
                  refine lv_istore (lv' := [(8, .int (r_21 - r_7)), (0, .ref (mk 0)), (2, .int x2), (3, .int r_5), (4, .int r_7), (5, .int y_8), (6, .int y_9), (7, .int y_10)]) hx hb dX7_help_136 hl (by decide) rfl (fun ls hl => ?_)
                  refine lv_iload hx hb dX7_help_138 (lv_at hl 0 rfl) ?_
                  refine lv_iload hx hb dX7_help_140 (lv_at hl 6 rfl) ?_
                  have K_152 : ∀ (ls : Array Slot) (v_22 : Int32) (hl : lv_has ls 9 [(0, .ref (mk 0)), (2, .int x2), (3, .int r_5), (4, .int r_7), (6, .int y_9), (7, .int y_10), (8, .int (r_21 - r_7))]) (hT0 : jn_X7_help_152 (lp_X7_help_59 mg st r_5 r_7 n) r_7 y_9 y_10 r_21 v_22 = (lp_X7_help_59 mg st r_5 r_7 (n + 1) y_8 y_9 y_10)), W p l e ({ frames := 5, cells := 0, slots := 0, locals := 117 } : Room) s m args below meth c s.heap [] 0 0 Q (F0 m 152 ls [.int v_22]) := by
                    intro ls v_22 hl hT0
                    have hT := (jn_X7_help_152_s (lp_X7_help_59 mg st r_5 r_7 n) r_7 y_9 y_10 r_21 v_22).trans hT0
                    refine lv_istore (lv' := [(5, .int v_22), (0, .ref (mk 0)), (2, .int x2), (3, .int r_5), (4, .int r_7), (6, .int y_9), (7, .int y_10), (8, .int (r_21 - r_7))]) hx hb dX7_help_152 hl (by decide) rfl (fun ls hl => ?_)
                    refine lv_iload hx hb dX7_help_154 (lv_at hl 7 rfl) ?_
                    refine lv_iload hx hb dX7_help_156 (lv_at hl 5 rfl) ?_
                    refine lv_icmp_le (tgt := 166) hx hb dX7_help_158 (by decide) (fun c_23 => ?_) (fun c_23 => ?_)
                    · have hT := it_t c_23 hT
                      refine lv_iload hx hb dX7_help_166 (lv_at hl 5 rfl) ?_
                      refine lv_istore (lv' := [(6, .int y_9), (5, .int v_22), (0, .ref (mk 0)), (2, .int x2), (3, .int r_5), (4, .int r_7), (7, .int y_10), (8, .int (r_21 - r_7))]) hx hb dX7_help_168 hl (by decide) rfl (fun ls hl => ?_)
                      refine lv_iinc (v := y_10 + 1) (lv' := [(7, .int (y_10 + 1)), (6, .int y_9), (5, .int v_22), (0, .ref (mk 0)), (2, .int x2), (3, .int r_5), (4, .int r_7), (8, .int (r_21 - r_7))]) hx hb dX7_help_170 hl (k := 6) rfl rfl (by decide) rfl (fun ls hl => ?_)
                      refine lv_goto (tgt := 59) hx hb dX7_help_173 (by decide) ?_
                      exact ih ls v_22 y_9 (y_10 + 1) (ms_up c_13 hm) (lv_sub hl [3, 4, 5, 6, 2, 1, 0] rfl) (fun ls z0 z1 hl he => kont ls z0 z1 hl (he.trans hT))
                    · have hT := it_f c_23 hT
                      refine lv_iload hx hb dX7_help_161 (lv_at hl 7 rfl) ?_
                      refine lv_goto (tgt := 168) hx hb dX7_help_163 (by decide) ?_
                      refine lv_istore (lv' := [(6, .int (r_21 - r_7)), (5, .int v_22), (0, .ref (mk 0)), (2, .int x2), (3, .int r_5), (4, .int r_7), (7, .int y_10), (8, .int (r_21 - r_7))]) hx hb dX7_help_168 hl (by decide) rfl (fun ls hl => ?_)
                      refine lv_iinc (v := y_10 + 1) (lv' := [(7, .int (y_10 + 1)), (6, .int (r_21 - r_7)), (5, .int v_22), (0, .ref (mk 0)), (2, .int x2), (3, .int r_5), (4, .int r_7), (8, .int (r_21 - r_7))]) hx hb dX7_help_170 hl (k := 6) rfl rfl (by decide) rfl (fun ls hl => ?_)
                      refine lv_goto (tgt := 59) hx hb dX7_help_173 (by decide) ?_
                      exact ih ls v_22 (r_21 - r_7) (y_10 + 1) (ms_up c_13 hm) (lv_sub hl [3, 4, 5, 6, 2, 1, 0] rfl) (fun ls z0 z1 hl he => kont ls z0 z1 hl (he.trans hT))
                  refine lv_icmp_le (tgt := 150) hx hb dX7_help_142 (by decide) (fun c_24 => ?_) (fun c_24 => ?_)
                  · have hT := it_t c_24 hT
                    refine lv_iload hx hb dX7_help_150 (lv_at hl 5 rfl) ?_
                    exact K_152 ls y_8 (lv_sub hl [1, 2, 3, 4, 6, 7, 0] rfl) hT
                  · have hT := it_f c_24 hT
                    refine lv_iload hx hb dX7_help_145 (lv_at hl 7 rfl) ?_
                    refine lv_goto (tgt := 152) hx hb dX7_help_147 (by decide) ?_
                    exact K_152 ls y_10 (lv_sub hl [1, 2, 3, 4, 6, 7, 0] rfl) hT
      refine L_59 (((20 : Int32).toInt - (0 : Int32).toInt).toNat + 1) ls (-9 : Int32) (-1 : Int32) (0 : Int32) (Nat.lt_succ_self _) (lv_sub hl [5, 7, 4, 3, 2, 1, 0] rfl) (fun ls e_11 e_12 hl he => ?_)
      have hT := nm2_u he hT
      refine lv_iload hx hb dX7_help_176 (lv_at hl 1 rfl) ?_
      refine lv_if_lt (tgt := 185) hx hb dX7_help_178 (by decide) (fun c_25 => ?_) (fun c_25 => ?_)
      · have hT := it_t c_25 hT
        refine lv_iload hx hb dX7_help_185 (lv_at hl 1 rfl) ?_
        refine lv_goto (tgt := 192) hx hb dX7_help_187 (by decide) ?_
        exact hret _ _ _ hT dX7_help_192
      · have hT := it_f c_25 hT
        refine lv_iload_n hx hb dX7_help_181 rfl (lv_at hl 0 rfl) ?_
        refine lv_if_ne (tgt := 190) hx hb dX7_help_182 (by decide) (fun c_26 => ?_) (fun c_26 => ?_)
        · have hT := it_f c_26 hT
          refine lv_iload hx hb dX7_help_190 (lv_at hl 2 rfl) ?_
          exact hret _ _ _ hT dX7_help_192
        · have hT := it_t c_26 hT
          refine lv_iload hx hb dX7_help_185 (lv_at hl 1 rfl) ?_
          refine lv_goto (tgt := 192) hx hb dX7_help_187 (by decide) ?_
          exact hret _ _ _ hT dX7_help_192
    · have hT := it_t c_4 hT
      refine lv_iconst (v := -1) hx hb dX7_help_16 (by decide) ?_
      exact hret _ _ _ hT dX7_help_17
theorem hv_X7_odds : yX7_odds.cls = RX7 ∧ yX7_odds.cls ≠ "java/lang/invoke/MethodHandle" ∧ yX7_odds.cls ≠ "java/lang/invoke/VarHandle" ∧ (parseMethodDescriptor yX7_odds.desc).map (fun d => d.parameters.length) = some 5 := by decide +kernel
theorem hd_X7_odds : yX7_odds.cls ≠ "java/lang/invoke/MethodHandle" ∧ yX7_odds.cls ≠ "java/lang/invoke/VarHandle" ∧ (parseMethodDescriptor yX7_odds.desc).map (fun d => d.parameters.length) = some 5 := hv_X7_odds.2
def lp_X7_odds_51 (x4 : Int32) : Nat → Int32 → Int32 → Int32
  | 0, y_9, y_10 => y_9
  | n + 1, y_9, y_10 => if x4 ≤ y_10 then y_9 else (lp_X7_odds_51 x4 n (y_9 * (10 : Int32)) (y_10 + 1))
theorem lp_X7_odds_51_s (x4 : Int32) (n : Nat) (y_9 : Int32) (y_10 : Int32) : (if x4 ≤ y_10 then y_9 else (lp_X7_odds_51 x4 n (y_9 * (10 : Int32)) (y_10 + 1))) = lp_X7_odds_51 x4 (n + 1) y_9 y_10 := rfl
def jn_X7_odds_125 (rec_98 : Int32 → Int32 → Int32 → Int32 × Int32) (y_14 : Int32) (y_17 : Int32) (y_18 : Int32) (y_19 : Int32) (v_24 : Int32) : Int32 × Int32 :=
  nm (sp_X7_has y_14 y_19) (fun r_25 => if r_25 = 0 then (rec_98 y_17 (y_18 * v_24) (y_19 + 1)) else (rec_98 ((1 : Int32) - y_17) (y_18 * v_24) (y_19 + 1)))
theorem jn_X7_odds_125_s (rec_98 : Int32 → Int32 → Int32 → Int32 × Int32) (y_14 : Int32) (y_17 : Int32) (y_18 : Int32) (y_19 : Int32) (v_24 : Int32) : (nm (sp_X7_has y_14 y_19) (fun r_25 => if r_25 = 0 then (rec_98 y_17 (y_18 * v_24) (y_19 + 1)) else (rec_98 ((1 : Int32) - y_17) (y_18 * v_24) (y_19 + 1)))) = jn_X7_odds_125 rec_98 y_14 y_17 y_18 y_19 v_24 := rfl
def lp_X7_odds_98 (x3 : Int32) (x4 : Int32) (y_14 : Int32) : Nat → Int32 → Int32 → Int32 → Int32 × Int32
  | 0, y_17, y_18, y_19 => (y_17, y_18)
  | n + 1, y_17, y_18, y_19 => if x4 ≤ y_19 then (y_17, y_18) else (nm (sp_X7_has y_14 y_19) (fun r_23 => if r_23 = 0 then (jn_X7_odds_125 (lp_X7_odds_98 x3 x4 y_14 n) y_14 y_17 y_18 y_19 ((10 : Int32) - x3)) else (jn_X7_odds_125 (lp_X7_odds_98 x3 x4 y_14 n) y_14 y_17 y_18 y_19 x3)))
theorem lp_X7_odds_98_s (x3 : Int32) (x4 : Int32) (y_14 : Int32) (n : Nat) (y_17 : Int32) (y_18 : Int32) (y_19 : Int32) : (if x4 ≤ y_19 then (y_17, y_18) else (nm (sp_X7_has y_14 y_19) (fun r_23 => if r_23 = 0 then (jn_X7_odds_125 (lp_X7_odds_98 x3 x4 y_14 n) y_14 y_17 y_18 y_19 ((10 : Int32) - x3)) else (jn_X7_odds_125 (lp_X7_odds_98 x3 x4 y_14 n) y_14 y_17 y_18 y_19 x3)))) = lp_X7_odds_98 x3 x4 y_14 (n + 1) y_17 y_18 y_19 := rfl
def lp_X7_odds_74 (mg : Nat → Int32) (st : Nat → Int32) (x1 : Int32) (x2 : Int32) (x3 : Int32) (x4 : Int32) : Nat → Int32 → Int32 → Int32
  | 0, y_13, y_14 => y_13
  | n + 1, y_13, y_14 => if ((1 : Int32) <<< (x4 &&& 31)) ≤ y_14 then y_13 else (nm2 (lp_X7_odds_98 x3 x4 y_14 ((x4.toInt - (0 : Int32).toInt).toNat + 1) (st (21 : Int32).toNatClampNeg) (1 : Int32) (0 : Int32)) (fun e_20 e_21 => nm (sp_X7_isStill mg st (st (20 : Int32).toNatClampNeg) x1 x2 e_20) (fun r_28 => if r_28 = 0 then (lp_X7_odds_74 mg st x1 x2 x3 x4 n (y_13 + (0 : Int32)) (y_14 + 1)) else (lp_X7_odds_74 mg st x1 x2 x3 x4 n (y_13 + e_21) (y_14 + 1)))))
theorem lp_X7_odds_74_s (mg : Nat → Int32) (st : Nat → Int32) (x1 : Int32) (x2 : Int32) (x3 : Int32) (x4 : Int32) (n : Nat) (y_13 : Int32) (y_14 : Int32) : (if ((1 : Int32) <<< (x4 &&& 31)) ≤ y_14 then y_13 else (nm2 (lp_X7_odds_98 x3 x4 y_14 ((x4.toInt - (0 : Int32).toInt).toNat + 1) (st (21 : Int32).toNatClampNeg) (1 : Int32) (0 : Int32)) (fun e_20 e_21 => nm (sp_X7_isStill mg st (st (20 : Int32).toNatClampNeg) x1 x2 e_20) (fun r_28 => if r_28 = 0 then (lp_X7_odds_74 mg st x1 x2 x3 x4 n (y_13 + (0 : Int32)) (y_14 + 1)) else (lp_X7_odds_74 mg st x1 x2 x3 x4 n (y_13 + e_21) (y_14 + 1)))))) = lp_X7_odds_74 mg st x1 x2 x3 x4 (n + 1) y_13 y_14 := rfl
def lp_X7_odds_198 : Nat → Int32 → Int32 → Int32
  | 0, y_30, y_31 => y_30
  | n + 1, y_30, y_31 => if y_31 ≤ 0 then y_30 else (lp_X7_odds_198 n y_31 (rem y_30 y_31))
theorem lp_X7_odds_198_s (n : Nat) (y_30 : Int32) (y_31 : Int32) : (if y_31 ≤ 0 then y_30 else (lp_X7_odds_198 n y_31 (rem y_30 y_31))) = lp_X7_odds_198 (n + 1) y_30 y_31 := rfl
def sp_X7_odds (mg : Nat → Int32) (st : Nat → Int32) (x1 : Int32) (x2 : Int32) (x3 : Int32) (x4 : Int32) (x5 : Int32) : Int32 :=
  nm (sp_X7_isCell mg x1 x2) (fun r_1 => if r_1 = 0 then (-1 : Int32) else (nm (sp_X7_in x3 (0 : Int32) (10 : Int32)) (fun r_3 => if r_3 = 0 then (-1 : Int32) else (nm (sp_X7_in x4 (0 : Int32) (6 : Int32)) (fun r_5 => if r_5 = 0 then (-1 : Int32) else (nm (sp_X7_in x5 (0 : Int32) (1 : Int32)) (fun r_7 => if r_7 = 0 then (-1 : Int32) else (nm (lp_X7_odds_51 x4 ((x4.toInt - (0 : Int32).toInt).toNat + 1) (1 : Int32) (0 : Int32)) (fun e_11 => nm (lp_X7_odds_74 mg st x1 x2 x3 x4 ((((1 : Int32) <<< (x4 &&& 31)).toInt - (0 : Int32).toInt).toNat + 1) (0 : Int32) (0 : Int32)) (fun e_15 => nm (lp_X7_odds_198 (e_11.toInt.toNat + 1) e_15 e_11) (fun e_32 => if x5 = 0 then (e_15 / e_32) else (e_11 / e_32))))))))))))
theorem sp_X7_odds_s (mg : Nat → Int32) (st : Nat → Int32) (x1 : Int32) (x2 : Int32) (x3 : Int32) (x4 : Int32) (x5 : Int32) : (nm (sp_X7_isCell mg x1 x2) (fun r_1 => if r_1 = 0 then (-1 : Int32) else (nm (sp_X7_in x3 (0 : Int32) (10 : Int32)) (fun r_3 => if r_3 = 0 then (-1 : Int32) else (nm (sp_X7_in x4 (0 : Int32) (6 : Int32)) (fun r_5 => if r_5 = 0 then (-1 : Int32) else (nm (sp_X7_in x5 (0 : Int32) (1 : Int32)) (fun r_7 => if r_7 = 0 then (-1 : Int32) else (nm (lp_X7_odds_51 x4 ((x4.toInt - (0 : Int32).toInt).toNat + 1) (1 : Int32) (0 : Int32)) (fun e_11 => nm (lp_X7_odds_74 mg st x1 x2 x3 x4 ((((1 : Int32) <<< (x4 &&& 31)).toInt - (0 : Int32).toInt).toNat + 1) (0 : Int32) (0 : Int32)) (fun e_15 => nm (lp_X7_odds_198 (e_11.toInt.toNat + 1) e_15 e_11) (fun e_32 => if x5 = 0 then (e_15 / e_32) else (e_11 / e_32))))))))))))) = sp_X7_odds mg st x1 x2 x3 x4 x5 := rfl
set_option maxHeartbeats 4000000 in
set_option maxRecDepth 100000 in
theorem c_X7_odds {l : Launch} {D : va_G} {cI cZ cO : ClassId} {mk : Nat → Nat} {mg st im ke se tx sh fa : Nat → Int32} {mt : Int64} {x1 : Int32} {x2 : Int32} {x3 : Int32} {x4 : Int32} {x5 : Int32}  (sz : Nat) : Met l yX7_odds (wm yX7_odds cX7_odds 12 (some .int)) ({ frames := 4, cells := 0, slots := 0, locals := 92 } : Room) (GPre D (ty3 cI cZ cO) (MW cI cZ mk mg st im ke se tx sh fa mt) [.ref (mk 0), .int x1, .int x2, .int x3, .int x4, .int x5] sz) (vp_Si (fun r => r = sp_X7_odds mg st x1 x2 x3 x4 x5)) 0 0 (fun _ => False) := by
  refine metP_i (post := (fun r => r = sp_X7_odds mg st x1 x2 x3 x4 x5)) (by decide) (Nat.le_of_ble_eq_true rfl) ?_
  intro p e s m args below meth c ls Q C hsz hP hK hD hN hl hret
  have hx := C.1
  have hb := C.2.1
  have hl : lv_has ls 12 [(0, .ref (mk 0)), (1, .int x1), (2, .int x2), (3, .int x3), (4, .int x4), (5, .int x5)] := hl
  have hT := sp_X7_odds_s mg st x1 x2 x3 x4 x5
  refine lv_aload_n hx hb dX7_odds_0 rfl (lv_at hl 0 rfl) ?_
  refine lv_iload_n hx hb dX7_odds_1 rfl (lv_at hl 1 rfl) ?_
  refine lv_iload_n hx hb dX7_odds_2 rfl (lv_at hl 2 rfl) ?_
  refine vp_callSi (run_vP (As := [.int x1, .int x2]) (rest := []) C hK hP hD hN (c_X7_isCell _) (rX7_r hK hP) ⟨wd_3_195, wd_3_197, ws_27, wd_1_8, wd_3_198⟩ ⟨rfl, rfl⟩ hv_X7_isCell ⟨Nat.le_of_ble_eq_true rfl, Nat.le_of_ble_eq_true rfl⟩ rfl hl.1 rfl (Nat.le_of_ble_eq_true rfl) dX7_odds_3 ⟨Nat.zero_le _, Nat.zero_le _⟩) (fun r_1 hr_1 => ?_)
  have hT := nm_u hr_1.1 hT
  refine lv_if_eq (tgt := 40) hx hb dX7_odds_6 (by decide) (fun c_2 => ?_) (fun c_2 => ?_)
  · have hT := it_t c_2 hT
    refine lv_iconst (v := -1) hx hb dX7_odds_40 (by decide) ?_
    exact hret _ _ _ hT dX7_odds_41
  · have hT := it_f c_2 hT
    refine lv_iload_n hx hb dX7_odds_9 rfl (lv_at hl 3 rfl) ?_
    refine lv_iconst (v := 0) hx hb dX7_odds_10 (by decide) ?_
    refine lv_bipush (v := 10) hx hb dX7_odds_11 (by decide) ?_
    refine vp_callSi (run_sP (As := [.int x3, .int (0 : Int32), .int (10 : Int32)]) (rest := []) C hN (c_X7_in) ⟨wd_3_147, wd_3_148, wd_1_8, wd_3_149⟩ ⟨rfl, rfl⟩ hd_X7_in ⟨Nat.le_of_ble_eq_true rfl, Nat.le_of_ble_eq_true rfl⟩ rfl hl.1 rfl (Nat.le_of_ble_eq_true rfl) dX7_odds_13 ⟨Nat.zero_le _, Nat.zero_le _⟩) (fun r_3 hr_3 => ?_)
    have hT := nm_u hr_3.1 hT
    refine lv_if_eq (tgt := 40) hx hb dX7_odds_16 (by decide) (fun c_4 => ?_) (fun c_4 => ?_)
    · have hT := it_t c_4 hT
      refine lv_iconst (v := -1) hx hb dX7_odds_40 (by decide) ?_
      exact hret _ _ _ hT dX7_odds_41
    · have hT := it_f c_4 hT
      refine lv_iload hx hb dX7_odds_19 (lv_at hl 4 rfl) ?_
      refine lv_iconst (v := 0) hx hb dX7_odds_21 (by decide) ?_
      refine lv_bipush (v := 6) hx hb dX7_odds_22 (by decide) ?_
      refine vp_callSi (run_sP (As := [.int x4, .int (0 : Int32), .int (6 : Int32)]) (rest := []) C hN (c_X7_in) ⟨wd_3_147, wd_3_148, wd_1_8, wd_3_149⟩ ⟨rfl, rfl⟩ hd_X7_in ⟨Nat.le_of_ble_eq_true rfl, Nat.le_of_ble_eq_true rfl⟩ rfl hl.1 rfl (Nat.le_of_ble_eq_true rfl) dX7_odds_24 ⟨Nat.zero_le _, Nat.zero_le _⟩) (fun r_5 hr_5 => ?_)
      have hT := nm_u hr_5.1 hT
      refine lv_if_eq (tgt := 40) hx hb dX7_odds_27 (by decide) (fun c_6 => ?_) (fun c_6 => ?_)
      · have hT := it_t c_6 hT
        refine lv_iconst (v := -1) hx hb dX7_odds_40 (by decide) ?_
        exact hret _ _ _ hT dX7_odds_41
      · have hT := it_f c_6 hT
        refine lv_iload hx hb dX7_odds_30 (lv_at hl 5 rfl) ?_
        refine lv_iconst (v := 0) hx hb dX7_odds_32 (by decide) ?_
        refine lv_iconst (v := 1) hx hb dX7_odds_33 (by decide) ?_
        refine vp_callSi (run_sP (As := [.int x5, .int (0 : Int32), .int (1 : Int32)]) (rest := []) C hN (c_X7_in) ⟨wd_3_147, wd_3_148, wd_1_8, wd_3_149⟩ ⟨rfl, rfl⟩ hd_X7_in ⟨Nat.le_of_ble_eq_true rfl, Nat.le_of_ble_eq_true rfl⟩ rfl hl.1 rfl (Nat.le_of_ble_eq_true rfl) dX7_odds_34 ⟨Nat.zero_le _, Nat.zero_le _⟩) (fun r_7 hr_7 => ?_)
        have hT := nm_u hr_7.1 hT
        refine lv_if_ne (tgt := 42) hx hb dX7_odds_37 (by decide) (fun c_8 => ?_) (fun c_8 => ?_)
        · have hT := it_f c_8 hT
          refine lv_iconst (v := 1) hx hb dX7_odds_42 (by decide) ?_
          refine lv_istore (lv' := [(6, .int (1 : Int32)), (0, .ref (mk 0)), (1, .int x1), (2, .int x2), (3, .int x3), (4, .int x4), (5, .int x5)]) hx hb dX7_odds_43 hl (by decide) rfl (fun ls hl => ?_)
          refine lv_iconst (v := 0) hx hb dX7_odds_45 (by decide) ?_
          refine lv_istore (lv' := [(7, .int (0 : Int32)), (6, .int (1 : Int32)), (0, .ref (mk 0)), (1, .int x1), (2, .int x2), (3, .int x3), (4, .int x4), (5, .int x5)]) hx hb dX7_odds_46 hl (by decide) rfl (fun ls hl => ?_)
          refine lv_iconst (v := 0) hx hb dX7_odds_48 (by decide) ?_
          refine lv_istore (lv' := [(8, .int (0 : Int32)), (7, .int (0 : Int32)), (6, .int (1 : Int32)), (0, .ref (mk 0)), (1, .int x1), (2, .int x2), (3, .int x3), (4, .int x4), (5, .int x5)]) hx hb dX7_odds_49 hl (by decide) rfl (fun ls hl => ?_)
          have L_51 : ∀ (n : Nat) (ls : Array Slot) (y_9 : Int32) (y_10 : Int32) (b1 : 0 ≤ y_10.toInt) (b2 : y_9 = nI (10 ^ y_10.toInt.toNat)) (b3 : y_10.toInt ≤ 6) (hm : (x4.toInt - y_10.toInt).toNat < n) (hl : lv_has ls 12 [(0, .ref (mk 0)), (1, .int x1), (2, .int x2), (3, .int x3), (4, .int x4), (5, .int x5), (6, .int y_9), (7, .int (0 : Int32)), (8, .int y_10)]) (kont : ∀ (ls : Array Slot) (e_11 : Int32), ¬ e_11 ≤ 0 → lv_has ls 12 [(0, .ref (mk 0)), (1, .int x1), (2, .int x2), (3, .int x3), (4, .int x4), (5, .int x5), (6, .int e_11), (7, .int (0 : Int32))] → e_11 = lp_X7_odds_51 x4 n y_9 y_10 → W p l e ({ frames := 4, cells := 0, slots := 0, locals := 92 } : Room) s m args below meth c s.heap [] 0 0 Q (F0 m 71 ls [])), W p l e ({ frames := 4, cells := 0, slots := 0, locals := 92 } : Room) s m args below meth c s.heap [] 0 0 Q (F0 m 51 ls []) := by
            intro n
            induction n with
            | zero => intro ls y_9 y_10 b1 b2 b3 hm; exact absurd hm (Nat.not_lt_zero _)
            | succ n ih =>
              intro ls y_9 y_10 b1 b2 b3 hm hl kont
              have hT := lp_X7_odds_51_s x4 n y_9 y_10
              refine lv_iload hx hb dX7_odds_51 (lv_at hl 8 rfl) ?_
              refine lv_iload hx hb dX7_odds_53 (lv_at hl 4 rfl) ?_
              refine lv_icmp_ge (tgt := 71) hx hb dX7_odds_55 (by decide) (fun c_12 => ?_) (fun c_12 => ?_)
              · have hT := it_t c_12 hT
                exact kont ls y_9 (od_4 b2 b3) (lv_sub hl [0, 1, 2, 3, 4, 5, 6, 7] rfl) hT
              · have hT := it_f c_12 hT
                refine lv_iload hx hb dX7_odds_58 (lv_at hl 6 rfl) ?_
                refine lv_bipush (v := 10) hx hb dX7_odds_60 (by decide) ?_
                refine lv_imul hx hb dX7_odds_62 ?_
                refine lv_istore (lv' := [(6, .int (y_9 * (10 : Int32))), (0, .ref (mk 0)), (1, .int x1), (2, .int x2), (3, .int x3), (4, .int x4), (5, .int x5), (7, .int (0 : Int32)), (8, .int y_10)]) hx hb dX7_odds_63 hl (by decide) rfl (fun ls hl => ?_)
                refine lv_iinc (v := y_10 + 1) (lv' := [(8, .int (y_10 + 1)), (6, .int (y_9 * (10 : Int32))), (0, .ref (mk 0)), (1, .int x1), (2, .int x2), (3, .int x3), (4, .int x4), (5, .int x5), (7, .int (0 : Int32))]) hx hb dX7_odds_65 hl (k := 8) rfl rfl (by decide) rfl (fun ls hl => ?_)
                refine lv_goto (tgt := 51) hx hb dX7_odds_68 (by decide) ?_
                exact ih ls (y_9 * (10 : Int32)) (y_10 + 1) (up0 c_12 b1) (od_2 c_12 b1 b2) (od_3 c_12 (in_of hr_5.1 c_6)) (ms_up c_12 hm) (lv_sub hl [2, 3, 4, 5, 6, 7, 1, 8, 0] rfl) (fun ls z0 x0 hl he => kont ls z0 x0 hl (he.trans hT))
          refine L_51 ((x4.toInt - (0 : Int32).toInt).toNat + 1) ls (1 : Int32) (0 : Int32) (by decide) (by decide) (by decide) (Nat.lt_succ_self _) (lv_sub hl [3, 4, 5, 6, 7, 8, 2, 1, 0] rfl) (fun ls e_11 b4 hl he => ?_)
          have hT := nm_u he hT
          refine lv_iconst (v := 0) hx hb dX7_odds_71 (by decide) ?_
          refine lv_istore (lv' := [(8, .int (0 : Int32)), (0, .ref (mk 0)), (1, .int x1), (2, .int x2), (3, .int x3), (4, .int x4), (5, .int x5), (6, .int e_11), (7, .int (0 : Int32))]) hx hb dX7_odds_72 hl (by decide) rfl (fun ls hl => ?_)
          have L_74 : ∀ (n : Nat) (ls : Array Slot) (y_13 : Int32) (y_14 : Int32) (hm : (((1 : Int32) <<< (x4 &&& 31)).toInt - y_14.toInt).toNat < n) (hl : lv_has ls 12 [(0, .ref (mk 0)), (1, .int x1), (2, .int x2), (3, .int x3), (4, .int x4), (5, .int x5), (6, .int e_11), (7, .int y_13), (8, .int y_14)]) (kont : ∀ (ls : Array Slot) (e_15 : Int32), lv_has ls 12 [(5, .int x5), (6, .int e_11), (7, .int e_15)] → e_15 = lp_X7_odds_74 mg st x1 x2 x3 x4 n y_13 y_14 → W p l e ({ frames := 4, cells := 0, slots := 0, locals := 92 } : Room) s m args below meth c s.heap [] 0 0 Q (F0 m 190 ls [])), W p l e ({ frames := 4, cells := 0, slots := 0, locals := 92 } : Room) s m args below meth c s.heap [] 0 0 Q (F0 m 74 ls []) := by
            intro n
            induction n with
            | zero => intro ls y_13 y_14 hm; exact absurd hm (Nat.not_lt_zero _)
            | succ n ih =>
              intro ls y_13 y_14 hm hl kont
              have hT := lp_X7_odds_74_s mg st x1 x2 x3 x4 n y_13 y_14
              refine lv_iload hx hb dX7_odds_74 (lv_at hl 8 rfl) ?_
              refine lv_iconst (v := 1) hx hb dX7_odds_76 (by decide) ?_
              refine lv_iload hx hb dX7_odds_77 (lv_at hl 4 rfl) ?_
              refine lv_ishl hx hb dX7_odds_79 ?_
              refine lv_icmp_ge (tgt := 190) hx hb dX7_odds_80 (by decide) (fun c_16 => ?_) (fun c_16 => ?_)
              · have hT := it_t c_16 hT
                exact kont ls y_13 (lv_sub hl [5, 6, 7] rfl) hT
              · have hT := it_f c_16 hT
                refine lv_aload_n hx hb dX7_odds_83 rfl (lv_at hl 0 rfl) ?_
                refine gX7_st C hK hP wd_3_77 dX7_odds_84 ?_
                refine lv_bipush (v := 21) hx hb dX7_odds_87 (by decide) ?_
                refine aM_st C hK hP (ix_of (by decide) (by decide)) dX7_odds_89 ?_
                refine lv_istore (lv' := [(9, .int (st (21 : Int32).toNatClampNeg)), (0, .ref (mk 0)), (1, .int x1), (2, .int x2), (3, .int x3), (4, .int x4), (5, .int x5), (6, .int e_11), (7, .int y_13), (8, .int y_14)]) hx hb dX7_odds_90 hl (by decide) rfl (fun ls hl => ?_)
                refine lv_iconst (v := 1) hx hb dX7_odds_92 (by decide) ?_
                refine lv_istore (lv' := [(10, .int (1 : Int32)), (9, .int (st (21 : Int32).toNatClampNeg)), (0, .ref (mk 0)), (1, .int x1), (2, .int x2), (3, .int x3), (4, .int x4), (5, .int x5), (6, .int e_11), (7, .int y_13), (8, .int y_14)]) hx hb dX7_odds_93 hl (by decide) rfl (fun ls hl => ?_)
                refine lv_iconst (v := 0) hx hb dX7_odds_95 (by decide) ?_
                refine lv_istore (lv' := [(11, .int (0 : Int32)), (10, .int (1 : Int32)), (9, .int (st (21 : Int32).toNatClampNeg)), (0, .ref (mk 0)), (1, .int x1), (2, .int x2), (3, .int x3), (4, .int x4), (5, .int x5), (6, .int e_11), (7, .int y_13), (8, .int y_14)]) hx hb dX7_odds_96 hl (by decide) rfl (fun ls hl => ?_)
                have L_98 : ∀ (n : Nat) (ls : Array Slot) (y_17 : Int32) (y_18 : Int32) (y_19 : Int32) (hm : (x4.toInt - y_19.toInt).toNat < n) (hl : lv_has ls 12 [(0, .ref (mk 0)), (1, .int x1), (2, .int x2), (3, .int x3), (4, .int x4), (5, .int x5), (6, .int e_11), (7, .int y_13), (8, .int y_14), (9, .int y_17), (10, .int y_18), (11, .int y_19)]) (kont : ∀ (ls : Array Slot) (e_20 : Int32) (e_21 : Int32), lv_has ls 12 [(0, .ref (mk 0)), (1, .int x1), (2, .int x2), (3, .int x3), (4, .int x4), (5, .int x5), (6, .int e_11), (7, .int y_13), (8, .int y_14), (9, .int e_20), (10, .int e_21)] → (e_20, e_21) = lp_X7_odds_98 x3 x4 y_14 n y_17 y_18 y_19 → W p l e ({ frames := 4, cells := 0, slots := 0, locals := 92 } : Room) s m args below meth c s.heap [] 0 0 Q (F0 m 155 ls [])), W p l e ({ frames := 4, cells := 0, slots := 0, locals := 92 } : Room) s m args below meth c s.heap [] 0 0 Q (F0 m 98 ls []) := by
                  intro n
                  induction n with
                  | zero => intro ls y_17 y_18 y_19 hm; exact absurd hm (Nat.not_lt_zero _)
                  | succ n ih =>
                    intro ls y_17 y_18 y_19 hm hl kont
                    have hT := lp_X7_odds_98_s x3 x4 y_14 n y_17 y_18 y_19
                    refine lv_iload hx hb dX7_odds_98 (lv_at hl 11 rfl) ?_
                    refine lv_iload hx hb dX7_odds_100 (lv_at hl 4 rfl) ?_
                    refine lv_icmp_ge (tgt := 155) hx hb dX7_odds_102 (by decide) (fun c_22 => ?_) (fun c_22 => ?_)
                    · have hT := it_t c_22 hT
                      exact kont ls y_17 y_18 (lv_sub hl [0, 1, 2, 3, 4, 5, 6, 7, 8, 9, 10] rfl) hT
                    · have hT := it_f c_22 hT
                      refine lv_iload hx hb dX7_odds_105 (lv_at hl 10 rfl) ?_
                      refine lv_iload hx hb dX7_odds_107 (lv_at hl 8 rfl) ?_
                      refine lv_iload hx hb dX7_odds_109 (lv_at hl 11 rfl) ?_
                      refine vp_callSi (run_sP (As := [.int y_14, .int y_19]) (rest := [.int y_18]) C hN (c_X7_has) ⟨wd_3_184, wd_3_185, wd_1_8, wd_3_186⟩ ⟨rfl, rfl⟩ hd_X7_has ⟨Nat.le_of_ble_eq_true rfl, Nat.le_of_ble_eq_true rfl⟩ rfl hl.1 rfl (Nat.le_of_ble_eq_true rfl) dX7_odds_111 ⟨Nat.zero_le _, Nat.zero_le _⟩) (fun r_23 hr_23 => ?_)
                      have hT := nm_u hr_23.1 hT
                      have K_125 : ∀ (ls : Array Slot) (v_24 : Int32) (hl : lv_has ls 12 [(0, .ref (mk 0)), (1, .int x1), (2, .int x2), (3, .int x3), (4, .int x4), (5, .int x5), (6, .int e_11), (7, .int y_13), (8, .int y_14), (9, .int y_17), (11, .int y_19)]) (hT0 : jn_X7_odds_125 (lp_X7_odds_98 x3 x4 y_14 n) y_14 y_17 y_18 y_19 v_24 = (lp_X7_odds_98 x3 x4 y_14 (n + 1) y_17 y_18 y_19)), W p l e ({ frames := 4, cells := 0, slots := 0, locals := 92 } : Room) s m args below meth c s.heap [] 0 0 Q (F0 m 125 ls [.int v_24, .int y_18]) := by
                        intro ls v_24 hl hT0
                        have hT := (jn_X7_odds_125_s (lp_X7_odds_98 x3 x4 y_14 n) y_14 y_17 y_18 y_19 v_24).trans hT0
                        refine lv_imul hx hb dX7_odds_125 ?_
                        refine lv_istore (lv' := [(10, .int (y_18 * v_24)), (0, .ref (mk 0)), (1, .int x1), (2, .int x2), (3, .int x3), (4, .int x4), (5, .int x5), (6, .int e_11), (7, .int y_13), (8, .int y_14), (9, .int y_17), (11, .int y_19)]) hx hb dX7_odds_126 hl (by decide) rfl (fun ls hl => ?_)
                        refine lv_iload hx hb dX7_odds_128 (lv_at hl 9 rfl) ?_
                        refine lv_iload hx hb dX7_odds_130 (lv_at hl 11 rfl) ?_
                        refine vp_callSi (run_sP (As := [.int y_14, .int y_19]) (rest := []) C hN (c_X7_has) ⟨wd_3_184, wd_3_185, wd_1_8, wd_3_186⟩ ⟨rfl, rfl⟩ hd_X7_has ⟨Nat.le_of_ble_eq_true rfl, Nat.le_of_ble_eq_true rfl⟩ rfl hl.1 rfl (Nat.le_of_ble_eq_true rfl) dX7_odds_132 ⟨Nat.zero_le _, Nat.zero_le _⟩) (fun r_25 hr_25 => ?_)
                        have hT := nm_u hr_25.1 hT
                        refine lv_if_eq (tgt := 145) hx hb dX7_odds_135 (by decide) (fun c_26 => ?_) (fun c_26 => ?_)
                        · have hT := it_t c_26 hT
                          refine lv_iload hx hb dX7_odds_145 (lv_at hl 10 rfl) ?_
                          refine lv_istore (lv' := [(9, .int y_17), (10, .int (y_18 * v_24)), (0, .ref (mk 0)), (1, .int x1), (2, .int x2), (3, .int x3), (4, .int x4), (5, .int x5), (6, .int e_11), (7, .int y_13), (8, .int y_14), (11, .int y_19)]) hx hb dX7_odds_147 hl (by decide) rfl (fun ls hl => ?_)
                          refine lv_iinc (v := y_19 + 1) (lv' := [(11, .int (y_19 + 1)), (9, .int y_17), (10, .int (y_18 * v_24)), (0, .ref (mk 0)), (1, .int x1), (2, .int x2), (3, .int x3), (4, .int x4), (5, .int x5), (6, .int e_11), (7, .int y_13), (8, .int y_14)]) hx hb dX7_odds_149 hl (k := 11) rfl rfl (by decide) rfl (fun ls hl => ?_)
                          refine lv_goto (tgt := 98) hx hb dX7_odds_152 (by decide) ?_
                          exact ih ls y_17 (y_18 * v_24) (y_19 + 1) (ms_up c_22 hm) (lv_sub hl [3, 4, 5, 6, 7, 8, 9, 10, 11, 1, 2, 0] rfl) (fun ls z0 z1 hl he => kont ls z0 z1 hl (he.trans hT))
                        · have hT := it_f c_26 hT
                          refine lv_iconst (v := 1) hx hb dX7_odds_138 (by decide) ?_
                          refine lv_iload hx hb dX7_odds_139 (lv_at hl 10 rfl) ?_
                          refine lv_isub hx hb dX7_odds_141 ?_
                          refine lv_goto (tgt := 147) hx hb dX7_odds_142 (by decide) ?_
                          refine lv_istore (lv' := [(9, .int ((1 : Int32) - y_17)), (10, .int (y_18 * v_24)), (0, .ref (mk 0)), (1, .int x1), (2, .int x2), (3, .int x3), (4, .int x4), (5, .int x5), (6, .int e_11), (7, .int y_13), (8, .int y_14), (11, .int y_19)]) hx hb dX7_odds_147 hl (by decide) rfl (fun ls hl => ?_)
                          refine lv_iinc (v := y_19 + 1) (lv' := [(11, .int (y_19 + 1)), (9, .int ((1 : Int32) - y_17)), (10, .int (y_18 * v_24)), (0, .ref (mk 0)), (1, .int x1), (2, .int x2), (3, .int x3), (4, .int x4), (5, .int x5), (6, .int e_11), (7, .int y_13), (8, .int y_14)]) hx hb dX7_odds_149 hl (k := 11) rfl rfl (by decide) rfl (fun ls hl => ?_)
                          refine lv_goto (tgt := 98) hx hb dX7_odds_152 (by decide) ?_
                          exact ih ls ((1 : Int32) - y_17) (y_18 * v_24) (y_19 + 1) (ms_up c_22 hm) (lv_sub hl [3, 4, 5, 6, 7, 8, 9, 10, 11, 1, 2, 0] rfl) (fun ls z0 z1 hl he => kont ls z0 z1 hl (he.trans hT))
                      refine lv_if_eq (tgt := 121) hx hb dX7_odds_114 (by decide) (fun c_27 => ?_) (fun c_27 => ?_)
                      · have hT := it_t c_27 hT
                        refine lv_bipush (v := 10) hx hb dX7_odds_121 (by decide) ?_
                        refine lv_iload_n hx hb dX7_odds_123 rfl (lv_at hl 3 rfl) ?_
                        refine lv_isub hx hb dX7_odds_124 ?_
                        exact K_125 ls ((10 : Int32) - x3) (lv_sub hl [0, 1, 2, 3, 4, 5, 6, 7, 8, 9, 11] rfl) hT
                      · have hT := it_f c_27 hT
                        refine lv_iload_n hx hb dX7_odds_117 rfl (lv_at hl 3 rfl) ?_
                        refine lv_goto (tgt := 125) hx hb dX7_odds_118 (by decide) ?_
                        exact K_125 ls x3 (lv_sub hl [0, 1, 2, 3, 4, 5, 6, 7, 8, 9, 11] rfl) hT
                refine L_98 ((x4.toInt - (0 : Int32).toInt).toNat + 1) ls (st (21 : Int32).toNatClampNeg) (1 : Int32) (0 : Int32) (Nat.lt_succ_self _) (lv_sub hl [3, 4, 5, 6, 7, 8, 9, 10, 11, 2, 1, 0] rfl) (fun ls e_20 e_21 hl he => ?_)
                have hT := nm2_u he hT
                refine lv_iload hx hb dX7_odds_155 (lv_at hl 7 rfl) ?_
                refine lv_aload_n hx hb dX7_odds_157 rfl (lv_at hl 0 rfl) ?_
                refine lv_aload_n hx hb dX7_odds_158 rfl (lv_at hl 0 rfl) ?_
                refine gX7_st C hK hP wd_3_77 dX7_odds_159 ?_
                refine lv_bipush (v := 20) hx hb dX7_odds_162 (by decide) ?_
                refine aM_st C hK hP (ix_of (by decide) (by decide)) dX7_odds_164 ?_
                refine lv_iload_n hx hb dX7_odds_165 rfl (lv_at hl 1 rfl) ?_
                refine lv_iload_n hx hb dX7_odds_166 rfl (lv_at hl 2 rfl) ?_
                refine lv_iload hx hb dX7_odds_167 (lv_at hl 9 rfl) ?_
                refine vp_callSi (run_vP (As := [.int (st (20 : Int32).toNatClampNeg), .int x1, .int x2, .int e_20]) (rest := [.int y_13]) C hK hP hD hN (c_X7_isStill _) (rX7_r hK hP) ⟨wd_3_203, wd_3_205, ws_29, wd_1_8, wd_3_206⟩ ⟨rfl, rfl⟩ hv_X7_isStill ⟨Nat.le_of_ble_eq_true rfl, Nat.le_of_ble_eq_true rfl⟩ rfl hl.1 rfl (Nat.le_of_ble_eq_true rfl) dX7_odds_169 ⟨Nat.zero_le _, Nat.zero_le _⟩) (fun r_28 hr_28 => ?_)
                have hT := nm_u hr_28.1 hT
                refine lv_if_eq (tgt := 180) hx hb dX7_odds_172 (by decide) (fun c_29 => ?_) (fun c_29 => ?_)
                · have hT := it_t c_29 hT
                  refine lv_iconst (v := 0) hx hb dX7_odds_180 (by decide) ?_
                  refine lv_iadd hx hb dX7_odds_181 ?_
                  refine lv_istore (lv' := [(7, .int (y_13 + (0 : Int32))), (0, .ref (mk 0)), (1, .int x1), (2, .int x2), (3, .int x3), (4, .int x4), (5, .int x5), (6, .int e_11), (8, .int y_14), (9, .int e_20), (10, .int e_21)]) hx hb dX7_odds_182 hl (by decide) rfl (fun ls hl => ?_)
                  refine lv_iinc (v := y_14 + 1) (lv' := [(8, .int (y_14 + 1)), (7, .int (y_13 + (0 : Int32))), (0, .ref (mk 0)), (1, .int x1), (2, .int x2), (3, .int x3), (4, .int x4), (5, .int x5), (6, .int e_11), (9, .int e_20), (10, .int e_21)]) hx hb dX7_odds_184 hl (k := 8) rfl rfl (by decide) rfl (fun ls hl => ?_)
                  refine lv_goto (tgt := 74) hx hb dX7_odds_187 (by decide) ?_
                  exact ih ls (y_13 + (0 : Int32)) (y_14 + 1) (ms_up c_16 hm) (lv_sub hl [2, 3, 4, 5, 6, 7, 8, 1, 0] rfl) (fun ls z0 hl he => kont ls z0 hl (he.trans hT))
                · have hT := it_f c_29 hT
                  refine lv_iload hx hb dX7_odds_175 (lv_at hl 10 rfl) ?_
                  refine lv_goto (tgt := 181) hx hb dX7_odds_177 (by decide) ?_
                  refine lv_iadd hx hb dX7_odds_181 ?_
                  refine lv_istore (lv' := [(7, .int (y_13 + e_21)), (0, .ref (mk 0)), (1, .int x1), (2, .int x2), (3, .int x3), (4, .int x4), (5, .int x5), (6, .int e_11), (8, .int y_14), (9, .int e_20), (10, .int e_21)]) hx hb dX7_odds_182 hl (by decide) rfl (fun ls hl => ?_)
                  refine lv_iinc (v := y_14 + 1) (lv' := [(8, .int (y_14 + 1)), (7, .int (y_13 + e_21)), (0, .ref (mk 0)), (1, .int x1), (2, .int x2), (3, .int x3), (4, .int x4), (5, .int x5), (6, .int e_11), (9, .int e_20), (10, .int e_21)]) hx hb dX7_odds_184 hl (k := 8) rfl rfl (by decide) rfl (fun ls hl => ?_)
                  refine lv_goto (tgt := 74) hx hb dX7_odds_187 (by decide) ?_
                  exact ih ls (y_13 + e_21) (y_14 + 1) (ms_up c_16 hm) (lv_sub hl [2, 3, 4, 5, 6, 7, 8, 1, 0] rfl) (fun ls z0 hl he => kont ls z0 hl (he.trans hT))
          refine L_74 ((((1 : Int32) <<< (x4 &&& 31)).toInt - (0 : Int32).toInt).toNat + 1) ls (0 : Int32) (0 : Int32) (Nat.lt_succ_self _) (lv_sub hl [1, 2, 3, 4, 5, 6, 7, 8, 0] rfl) (fun ls e_15 hl he => ?_)
          have hT := nm_u he hT
          refine lv_iload hx hb dX7_odds_190 (lv_at hl 2 rfl) ?_
          refine lv_istore (lv' := [(8, .int e_15), (5, .int x5), (6, .int e_11), (7, .int e_15)]) hx hb dX7_odds_192 hl (by decide) rfl (fun ls hl => ?_)
          refine lv_iload hx hb dX7_odds_194 (lv_at hl 2 rfl) ?_
          refine lv_istore (lv' := [(9, .int e_11), (8, .int e_15), (5, .int x5), (6, .int e_11), (7, .int e_15)]) hx hb dX7_odds_196 hl (by decide) rfl (fun ls hl => ?_)
          have L_198 : ∀ (n : Nat) (ls : Array Slot) (y_30 : Int32) (y_31 : Int32) (ga : ¬ y_30 = 0 ∨ ¬ y_31 ≤ 0) (hm : y_31.toInt.toNat < n) (hl : lv_has ls 12 [(5, .int x5), (6, .int e_11), (7, .int e_15), (8, .int y_30), (9, .int y_31)]) (kont : ∀ (ls : Array Slot) (e_32 : Int32), ¬ e_32 = 0 → lv_has ls 12 [(5, .int x5), (6, .int e_11), (7, .int e_15), (8, .int e_32)] → e_32 = lp_X7_odds_198 n y_30 y_31 → W p l e ({ frames := 4, cells := 0, slots := 0, locals := 92 } : Room) s m args below meth c s.heap [] 0 0 Q (F0 m 221 ls [])), W p l e ({ frames := 4, cells := 0, slots := 0, locals := 92 } : Room) s m args below meth c s.heap [] 0 0 Q (F0 m 198 ls []) := by
            intro n
            induction n with
            | zero => intro ls y_30 y_31 ga hm; exact absurd hm (Nat.not_lt_zero _)
            | succ n ih =>
              intro ls y_30 y_31 ga hm hl kont
              have hT := lp_X7_odds_198_s n y_30 y_31
              refine lv_iload hx hb dX7_odds_198 (lv_at hl 4 rfl) ?_
              refine lv_if_le (tgt := 221) hx hb dX7_odds_200 (by decide) (fun c_33 => ?_) (fun c_33 => ?_)
              · have hT := it_t c_33 hT
                exact kont ls y_30 (ga.resolve_right (fun q => q c_33)) (lv_sub hl [0, 1, 2, 3] rfl) hT
              · have hT := it_f c_33 hT
                refine lv_iload hx hb dX7_odds_203 (lv_at hl 3 rfl) ?_
                refine lv_iload hx hb dX7_odds_205 (lv_at hl 4 rfl) ?_
                refine lv_rem hx hb dX7_odds_207 (ne_of_nle0 c_33) ?_
                refine lv_istore (lv' := [(10, .int (rem y_30 y_31)), (5, .int x5), (6, .int e_11), (7, .int e_15), (8, .int y_30), (9, .int y_31)]) hx hb dX7_odds_208 hl (by decide) rfl (fun ls hl => ?_)
                refine lv_iload hx hb dX7_odds_210 (lv_at hl 5 rfl) ?_
                refine lv_istore (lv' := [(8, .int y_31), (10, .int (rem y_30 y_31)), (5, .int x5), (6, .int e_11), (7, .int e_15), (9, .int y_31)]) hx hb dX7_odds_212 hl (by decide) rfl (fun ls hl => ?_)
                refine lv_iload hx hb dX7_odds_214 (lv_at hl 1 rfl) ?_
                refine lv_istore (lv' := [(9, .int (rem y_30 y_31)), (8, .int y_31), (10, .int (rem y_30 y_31)), (5, .int x5), (6, .int e_11), (7, .int e_15)]) hx hb dX7_odds_216 hl (by decide) rfl (fun ls hl => ?_)
                refine lv_goto (tgt := 198) hx hb dX7_odds_218 (by decide) ?_
                exact ih ls y_31 (rem y_30 y_31) (Or.inl (ne_of_nle0 c_33)) (gc_lt c_33 hm) (lv_sub hl [3, 4, 5, 1, 0] rfl) (fun ls z0 x0 hl he => kont ls z0 x0 hl (he.trans hT))
          refine L_198 (e_11.toInt.toNat + 1) ls e_15 e_11 (Or.inr b4) (Nat.lt_succ_self _) (lv_sub hl [2, 3, 4, 1, 0] rfl) (fun ls e_32 ge hl he => ?_)
          have hT := nm_u he hT
          refine lv_iload hx hb dX7_odds_221 (lv_at hl 0 rfl) ?_
          refine lv_if_ne (tgt := 231) hx hb dX7_odds_223 (by decide) (fun c_34 => ?_) (fun c_34 => ?_)
          · have hT := it_f c_34 hT
            refine lv_iload hx hb dX7_odds_231 (lv_at hl 1 rfl) ?_
            refine lv_iload hx hb dX7_odds_233 (lv_at hl 3 rfl) ?_
            refine lv_idiv hx hb dX7_odds_235 ge ?_
            exact hret _ _ _ hT dX7_odds_236
          · have hT := it_t c_34 hT
            refine lv_iload hx hb dX7_odds_226 (lv_at hl 2 rfl) ?_
            refine lv_goto (tgt := 233) hx hb dX7_odds_228 (by decide) ?_
            refine lv_iload hx hb dX7_odds_233 (lv_at hl 3 rfl) ?_
            refine lv_idiv hx hb dX7_odds_235 ge ?_
            exact hret _ _ _ hT dX7_odds_236
        · have hT := it_t c_8 hT
          refine lv_iconst (v := -1) hx hb dX7_odds_40 (by decide) ?_
          exact hret _ _ _ hT dX7_odds_41
theorem hv_X7_saw : yX7_saw.cls = RX7 ∧ yX7_saw.cls ≠ "java/lang/invoke/MethodHandle" ∧ yX7_saw.cls ≠ "java/lang/invoke/VarHandle" ∧ (parseMethodDescriptor yX7_saw.desc).map (fun d => d.parameters.length) = some 4 := by decide +kernel
theorem hd_X7_saw : yX7_saw.cls ≠ "java/lang/invoke/MethodHandle" ∧ yX7_saw.cls ≠ "java/lang/invoke/VarHandle" ∧ (parseMethodDescriptor yX7_saw.desc).map (fun d => d.parameters.length) = some 4 := hv_X7_saw.2
def sp_X7_saw (mg : Nat → Int32) (se : Nat → Int32) (x1 : Int32) (x2 : Int32) (x3 : Int32) (x4 : Int32) : Int32 × (Nat → Int32) × (Nat → Int32) :=
  nm (sp_X7_isCell mg x1 x2) (fun r_1 => if r_1 = 0 then ((-1 : Int32), mg, se) else (nm (sp_X7_in x3 (0 : Int32) (1 : Int32)) (fun r_3 => if r_3 = 0 then ((-1 : Int32), mg, se) else (nm (sp_X7_in x4 (0 : Int32) (1 : Int32)) (fun r_5 => if r_5 = 0 then ((-1 : Int32), mg, se) else (if (mg 2) = (6 : Int32) then ((-3 : Int32), mg, se) else ((upd mg 2 ((mg 2) + (1 : Int32))) 2, upd mg 2 ((mg 2) + (1 : Int32)), upd (upd (upd se ((3 : Int32) * (mg 2)).toNatClampNeg (((5 : Int32) * x2) + x1)) (((3 : Int32) * (mg 2)) + (1 : Int32)).toNatClampNeg x3) (((3 : Int32) * (mg 2)) + (2 : Int32)).toNatClampNeg x4)))))))
theorem sp_X7_saw_s (mg : Nat → Int32) (se : Nat → Int32) (x1 : Int32) (x2 : Int32) (x3 : Int32) (x4 : Int32) : (nm (sp_X7_isCell mg x1 x2) (fun r_1 => if r_1 = 0 then ((-1 : Int32), mg, se) else (nm (sp_X7_in x3 (0 : Int32) (1 : Int32)) (fun r_3 => if r_3 = 0 then ((-1 : Int32), mg, se) else (nm (sp_X7_in x4 (0 : Int32) (1 : Int32)) (fun r_5 => if r_5 = 0 then ((-1 : Int32), mg, se) else (if (mg 2) = (6 : Int32) then ((-3 : Int32), mg, se) else ((upd mg 2 ((mg 2) + (1 : Int32))) 2, upd mg 2 ((mg 2) + (1 : Int32)), upd (upd (upd se ((3 : Int32) * (mg 2)).toNatClampNeg (((5 : Int32) * x2) + x1)) (((3 : Int32) * (mg 2)) + (1 : Int32)).toNatClampNeg x3) (((3 : Int32) * (mg 2)) + (2 : Int32)).toNatClampNeg x4)))))))) = sp_X7_saw mg se x1 x2 x3 x4 := rfl
set_option maxHeartbeats 4000000 in
set_option maxRecDepth 100000 in
theorem c_X7_saw {l : Launch} {D : va_G} {cI cZ cO : ClassId} {mk : Nat → Nat} {mg st im ke se tx sh fa : Nat → Int32} {mt : Int64} {x1 : Int32} {x2 : Int32} {x3 : Int32} {x4 : Int32} (hsn : 0 ≤ (mg 2).toInt ∧ (mg 2).toInt ≤ 6) (sz : Nat) : Met l yX7_saw (wm yX7_saw cX7_saw 5 (some .int)) ({ frames := 2, cells := 0, slots := 0, locals := 44 } : Room) (GPre D (ty3 cI cZ cO) (MW cI cZ mk mg st im ke se tx sh fa mt) [.ref (mk 0), .int x1, .int x2, .int x3, .int x4] sz) (va_Qi (fun r (u : (Nat → Int32) × (Nat → Int32)) => (r, u) = sp_X7_saw mg se x1 x2 x3 x4) (fun u t => GAt D (ty3 cI cZ cO) (va_A (MW cI cZ mk mg st im ke se tx sh fa mt) sz) (MW cI cZ mk u.1 st im ke u.2 tx sh fa mt) t) (va_A (MW cI cZ mk mg st im ke se tx sh fa mt) sz)) 0 0 (va_A (MW cI cZ mk mg st im ke se tx sh fa mt) sz) := by
  refine metQ_i (W1 := (fun (u : (Nat → Int32) × (Nat → Int32)) => MW cI cZ mk u.1 st im ke u.2 tx sh fa mt)) (post := (fun r (u : (Nat → Int32) × (Nat → Int32)) => (r, u) = sp_X7_saw mg se x1 x2 x3 x4)) (by decide) (Nat.le_of_ble_eq_true rfl) ?_
  intro p e s m args below meth c ls A Q C hsz hP hK hD hS hA hN hl hret
  have hx := C.1
  have hb := C.2.1
  have hl : lv_has ls 5 [(0, .ref (mk 0)), (1, .int x1), (2, .int x2), (3, .int x3), (4, .int x4)] := hl
  have hT := sp_X7_saw_s mg se x1 x2 x3 x4
  refine lv_aload_n hx hb dX7_saw_0 rfl (lv_at hl 0 rfl) ?_
  refine lv_iload_n hx hb dX7_saw_1 rfl (lv_at hl 1 rfl) ?_
  refine lv_iload_n hx hb dX7_saw_2 rfl (lv_at hl 2 rfl) ?_
  refine vp_callSi (run_vP (As := [.int x1, .int x2]) (rest := []) C hK hP hD hN (c_X7_isCell _) (rX7_r hK hP) ⟨wd_3_195, wd_3_197, ws_27, wd_1_8, wd_3_198⟩ ⟨rfl, rfl⟩ hv_X7_isCell ⟨Nat.le_of_ble_eq_true rfl, Nat.le_of_ble_eq_true rfl⟩ rfl hl.1 rfl (Nat.le_of_ble_eq_true rfl) dX7_saw_3 ⟨Nat.zero_le _, Nat.zero_le _⟩) (fun r_1 hr_1 => ?_)
  have hT := nm_u hr_1.1 hT
  refine lv_if_eq (tgt := 28) hx hb dX7_saw_6 (by decide) (fun c_2 => ?_) (fun c_2 => ?_)
  · have hT := it_t c_2 hT
    refine lv_iconst (v := -1) hx hb dX7_saw_28 (by decide) ?_
    exact hret _ (mg, se) _ _ _ _ hT hP hD hS dX7_saw_29
  · have hT := it_f c_2 hT
    refine lv_iload_n hx hb dX7_saw_9 rfl (lv_at hl 3 rfl) ?_
    refine lv_iconst (v := 0) hx hb dX7_saw_10 (by decide) ?_
    refine lv_iconst (v := 1) hx hb dX7_saw_11 (by decide) ?_
    refine vp_callSi (run_sP (As := [.int x3, .int (0 : Int32), .int (1 : Int32)]) (rest := []) C hN (c_X7_in) ⟨wd_3_147, wd_3_148, wd_1_8, wd_3_149⟩ ⟨rfl, rfl⟩ hd_X7_in ⟨Nat.le_of_ble_eq_true rfl, Nat.le_of_ble_eq_true rfl⟩ rfl hl.1 rfl (Nat.le_of_ble_eq_true rfl) dX7_saw_12 ⟨Nat.zero_le _, Nat.zero_le _⟩) (fun r_3 hr_3 => ?_)
    have hT := nm_u hr_3.1 hT
    refine lv_if_eq (tgt := 28) hx hb dX7_saw_15 (by decide) (fun c_4 => ?_) (fun c_4 => ?_)
    · have hT := it_t c_4 hT
      refine lv_iconst (v := -1) hx hb dX7_saw_28 (by decide) ?_
      exact hret _ (mg, se) _ _ _ _ hT hP hD hS dX7_saw_29
    · have hT := it_f c_4 hT
      refine lv_iload hx hb dX7_saw_18 (lv_at hl 4 rfl) ?_
      refine lv_iconst (v := 0) hx hb dX7_saw_20 (by decide) ?_
      refine lv_iconst (v := 1) hx hb dX7_saw_21 (by decide) ?_
      refine vp_callSi (run_sP (As := [.int x4, .int (0 : Int32), .int (1 : Int32)]) (rest := []) C hN (c_X7_in) ⟨wd_3_147, wd_3_148, wd_1_8, wd_3_149⟩ ⟨rfl, rfl⟩ hd_X7_in ⟨Nat.le_of_ble_eq_true rfl, Nat.le_of_ble_eq_true rfl⟩ rfl hl.1 rfl (Nat.le_of_ble_eq_true rfl) dX7_saw_22 ⟨Nat.zero_le _, Nat.zero_le _⟩) (fun r_5 hr_5 => ?_)
      have hT := nm_u hr_5.1 hT
      refine lv_if_ne (tgt := 30) hx hb dX7_saw_25 (by decide) (fun c_6 => ?_) (fun c_6 => ?_)
      · have hT := it_f c_6 hT
        refine lv_aload_n hx hb dX7_saw_30 rfl (lv_at hl 0 rfl) ?_
        refine gX7_seenMany C hK hP wd_3_80 dX7_saw_31 ?_
        refine lv_bipush (v := 6) hx hb dX7_saw_34 (by decide) ?_
        refine lv_icmp_ne (tgt := 42) hx hb dX7_saw_36 (by decide) (fun c_7 => ?_) (fun c_7 => ?_)
        · have hT := it_f c_7 hT
          refine lv_aload_n hx hb dX7_saw_42 rfl (lv_at hl 0 rfl) ?_
          refine gX7_seen C hK hP wd_3_81 dX7_saw_43 ?_
          refine lv_iconst (v := 3) hx hb dX7_saw_46 (by decide) ?_
          refine lv_aload_n hx hb dX7_saw_47 rfl (lv_at hl 0 rfl) ?_
          refine gX7_seenMany C hK hP wd_3_80 dX7_saw_48 ?_
          refine lv_imul hx hb dX7_saw_51 ?_
          refine lv_iconst (v := 5) hx hb dX7_saw_52 (by decide) ?_
          refine lv_iload_n hx hb dX7_saw_53 rfl (lv_at hl 2 rfl) ?_
          refine lv_imul hx hb dX7_saw_54 ?_
          refine lv_iload_n hx hb dX7_saw_55 rfl (lv_at hl 1 rfl) ?_
          refine lv_iadd hx hb dX7_saw_56 ?_
          refine sM_seen C hK hP hD hS (sw_0 hsn c_7) dX7_saw_57 (fun H locs hP hD hS => ?_)
          refine lv_aload_n hx hb dX7_saw_58 rfl (lv_at hl 0 rfl) ?_
          refine gX7_seen C hK hP wd_3_81 dX7_saw_59 ?_
          refine lv_iconst (v := 3) hx hb dX7_saw_62 (by decide) ?_
          refine lv_aload_n hx hb dX7_saw_63 rfl (lv_at hl 0 rfl) ?_
          refine gX7_seenMany C hK hP wd_3_80 dX7_saw_64 ?_
          refine lv_imul hx hb dX7_saw_67 ?_
          refine lv_iconst (v := 1) hx hb dX7_saw_68 (by decide) ?_
          refine lv_iadd hx hb dX7_saw_69 ?_
          refine lv_iload_n hx hb dX7_saw_70 rfl (lv_at hl 3 rfl) ?_
          refine sM_seen C hK hP hD hS (sw_1 hsn c_7) dX7_saw_71 (fun H locs hP hD hS => ?_)
          refine lv_aload_n hx hb dX7_saw_72 rfl (lv_at hl 0 rfl) ?_
          refine gX7_seen C hK hP wd_3_81 dX7_saw_73 ?_
          refine lv_iconst (v := 3) hx hb dX7_saw_76 (by decide) ?_
          refine lv_aload_n hx hb dX7_saw_77 rfl (lv_at hl 0 rfl) ?_
          refine gX7_seenMany C hK hP wd_3_80 dX7_saw_78 ?_
          refine lv_imul hx hb dX7_saw_81 ?_
          refine lv_iconst (v := 2) hx hb dX7_saw_82 (by decide) ?_
          refine lv_iadd hx hb dX7_saw_83 ?_
          refine lv_iload hx hb dX7_saw_84 (lv_at hl 4 rfl) ?_
          refine sM_seen C hK hP hD hS (sw_2 hsn c_7) dX7_saw_86 (fun H locs hP hD hS => ?_)
          refine lv_aload_n hx hb dX7_saw_87 rfl (lv_at hl 0 rfl) ?_
          refine lv_dup hx hb dX7_saw_88 rfl ?_
          refine gX7_seenMany C hK hP wd_3_80 dX7_saw_89 ?_
          refine lv_iconst (v := 1) hx hb dX7_saw_92 (by decide) ?_
          refine lv_iadd hx hb dX7_saw_93 ?_
          refine pX7_seenMany C hK hP hD hS wd_3_80 dX7_saw_94 (fun H locs hP hD hS => ?_)
          refine lv_aload_n hx hb dX7_saw_97 rfl (lv_at hl 0 rfl) ?_
          refine gX7_seenMany C hK hP wd_3_80 dX7_saw_98 ?_
          exact hret _ (upd mg 2 ((mg 2) + (1 : Int32)), upd (upd (upd se ((3 : Int32) * (mg 2)).toNatClampNeg (((5 : Int32) * x2) + x1)) (((3 : Int32) * (mg 2)) + (1 : Int32)).toNatClampNeg x3) (((3 : Int32) * (mg 2)) + (2 : Int32)).toNatClampNeg x4) _ _ _ _ hT hP hD hS dX7_saw_101
        · have hT := it_t c_7 hT
          refine lv_bipush (v := -3) hx hb dX7_saw_39 (by decide) ?_
          exact hret _ (mg, se) _ _ _ _ hT hP hD hS dX7_saw_41
      · have hT := it_t c_6 hT
        refine lv_iconst (v := -1) hx hb dX7_saw_28 (by decide) ?_
        exact hret _ (mg, se) _ _ _ _ hT hP hD hS dX7_saw_29
theorem hv_X7_forget : yX7_forget.cls = RX7 ∧ yX7_forget.cls ≠ "java/lang/invoke/MethodHandle" ∧ yX7_forget.cls ≠ "java/lang/invoke/VarHandle" ∧ (parseMethodDescriptor yX7_forget.desc).map (fun d => d.parameters.length) = some 0 := by decide +kernel
theorem hd_X7_forget : yX7_forget.cls ≠ "java/lang/invoke/MethodHandle" ∧ yX7_forget.cls ≠ "java/lang/invoke/VarHandle" ∧ (parseMethodDescriptor yX7_forget.desc).map (fun d => d.parameters.length) = some 0 := hv_X7_forget.2
def sp_X7_forget (mg : Nat → Int32) : Int32 × (Nat → Int32) :=
  (mg 2, upd mg 2 (0 : Int32))
theorem sp_X7_forget_s (mg : Nat → Int32) : ((mg 2, upd mg 2 (0 : Int32))) = sp_X7_forget mg := rfl
set_option maxHeartbeats 4000000 in
set_option maxRecDepth 100000 in
theorem c_X7_forget {l : Launch} {D : va_G} {cI cZ cO : ClassId} {mk : Nat → Nat} {mg st im ke se tx sh fa : Nat → Int32} {mt : Int64}   (sz : Nat) : Met l yX7_forget (wm yX7_forget cX7_forget 2 (some .int)) ({ frames := 0, cells := 0, slots := 0, locals := 0 } : Room) (GPre D (ty3 cI cZ cO) (MW cI cZ mk mg st im ke se tx sh fa mt) [.ref (mk 0)] sz) (va_Qi (fun r (u : (Nat → Int32)) => (r, u) = sp_X7_forget mg) (fun u t => GAt D (ty3 cI cZ cO) (va_A (MW cI cZ mk mg st im ke se tx sh fa mt) sz) (MW cI cZ mk u st im ke se tx sh fa mt) t) (va_A (MW cI cZ mk mg st im ke se tx sh fa mt) sz)) 0 0 (va_A (MW cI cZ mk mg st im ke se tx sh fa mt) sz) := by
  refine metQ_i (W1 := (fun (u : (Nat → Int32)) => MW cI cZ mk u st im ke se tx sh fa mt)) (post := (fun r (u : (Nat → Int32)) => (r, u) = sp_X7_forget mg)) (by decide) (Nat.le_of_ble_eq_true rfl) ?_
  intro p e s m args below meth c ls A Q C hsz hP hK hD hS hA hN hl hret
  have hx := C.1
  have hb := C.2.1
  have hl : lv_has ls 2 [(0, .ref (mk 0))] := hl
  have hT := sp_X7_forget_s mg
  refine lv_aload_n hx hb dX7_forget_0 rfl (lv_at hl 0 rfl) ?_
  refine gX7_seenMany C hK hP wd_3_80 dX7_forget_1 ?_
  refine lv_istore_n (lv' := [(1, .int (mg 2)), (0, .ref (mk 0))]) hx hb dX7_forget_4 rfl hl (by decide) rfl (fun ls hl => ?_)
  refine lv_aload_n hx hb dX7_forget_5 rfl (lv_at hl 1 rfl) ?_
  refine lv_iconst (v := 0) hx hb dX7_forget_6 (by decide) ?_
  refine pX7_seenMany C hK hP hD hS wd_3_80 dX7_forget_7 (fun H locs hP hD hS => ?_)
  refine lv_iload_n hx hb dX7_forget_10 rfl (lv_at hl 0 rfl) ?_
  exact hret _ (upd mg 2 (0 : Int32)) _ _ _ _ hT hP hD hS dX7_forget_11
theorem hv_X7_isSo : yX7_isSo.cls = RX7 ∧ yX7_isSo.cls ≠ "java/lang/invoke/MethodHandle" ∧ yX7_isSo.cls ≠ "java/lang/invoke/VarHandle" ∧ (parseMethodDescriptor yX7_isSo.desc).map (fun d => d.parameters.length) = some 1 := by decide +kernel
theorem hd_X7_isSo : yX7_isSo.cls ≠ "java/lang/invoke/MethodHandle" ∧ yX7_isSo.cls ≠ "java/lang/invoke/VarHandle" ∧ (parseMethodDescriptor yX7_isSo.desc).map (fun d => d.parameters.length) = some 1 := hv_X7_isSo.2
def jn_X7_isSo_68 (rec_4 : Int32 → Int32 → Int32) (y_2 : Int32) (r_6 : Int32) (v_7 : Int32) : Int32 :=
  if r_6 = v_7 then (rec_4 (1 : Int32) (y_2 + 1)) else (rec_4 (0 : Int32) (y_2 + 1))
theorem jn_X7_isSo_68_s (rec_4 : Int32 → Int32 → Int32) (y_2 : Int32) (r_6 : Int32) (v_7 : Int32) : (if r_6 = v_7 then (rec_4 (1 : Int32) (y_2 + 1)) else (rec_4 (0 : Int32) (y_2 + 1))) = jn_X7_isSo_68 rec_4 y_2 r_6 v_7 := rfl
def lp_X7_isSo_4 (mg : Nat → Int32) (st : Nat → Int32) (se : Nat → Int32) (x1 : Int32) : Nat → Int32 → Int32 → Int32
  | 0, y_1, y_2 => y_1
  | n + 1, y_1, y_2 => if (mg 2) ≤ y_2 then y_1 else (if y_1 = 0 then (lp_X7_isSo_4 mg st se x1 n (0 : Int32) (y_2 + 1)) else (nm (sp_X7_isStill mg st x1 (rem (se ((3 : Int32) * y_2).toNatClampNeg) (5 : Int32)) ((se ((3 : Int32) * y_2).toNatClampNeg) / (5 : Int32)) (se (((3 : Int32) * y_2) + (1 : Int32)).toNatClampNeg)) (fun r_6 => if (se (((3 : Int32) * y_2) + (2 : Int32)).toNatClampNeg) = (1 : Int32) then (jn_X7_isSo_68 (lp_X7_isSo_4 mg st se x1 n) y_2 r_6 (1 : Int32)) else (jn_X7_isSo_68 (lp_X7_isSo_4 mg st se x1 n) y_2 r_6 (0 : Int32)))))
theorem lp_X7_isSo_4_s (mg : Nat → Int32) (st : Nat → Int32) (se : Nat → Int32) (x1 : Int32) (n : Nat) (y_1 : Int32) (y_2 : Int32) : (if (mg 2) ≤ y_2 then y_1 else (if y_1 = 0 then (lp_X7_isSo_4 mg st se x1 n (0 : Int32) (y_2 + 1)) else (nm (sp_X7_isStill mg st x1 (rem (se ((3 : Int32) * y_2).toNatClampNeg) (5 : Int32)) ((se ((3 : Int32) * y_2).toNatClampNeg) / (5 : Int32)) (se (((3 : Int32) * y_2) + (1 : Int32)).toNatClampNeg)) (fun r_6 => if (se (((3 : Int32) * y_2) + (2 : Int32)).toNatClampNeg) = (1 : Int32) then (jn_X7_isSo_68 (lp_X7_isSo_4 mg st se x1 n) y_2 r_6 (1 : Int32)) else (jn_X7_isSo_68 (lp_X7_isSo_4 mg st se x1 n) y_2 r_6 (0 : Int32)))))) = lp_X7_isSo_4 mg st se x1 (n + 1) y_1 y_2 := rfl
def sp_X7_isSo (mg : Nat → Int32) (st : Nat → Int32) (se : Nat → Int32) (x1 : Int32) : Int32 :=
  nm (lp_X7_isSo_4 mg st se x1 (((mg 2).toInt - (0 : Int32).toInt).toNat + 1) (1 : Int32) (0 : Int32)) (fun e_3 => e_3)
theorem sp_X7_isSo_s (mg : Nat → Int32) (st : Nat → Int32) (se : Nat → Int32) (x1 : Int32) : (nm (lp_X7_isSo_4 mg st se x1 (((mg 2).toInt - (0 : Int32).toInt).toNat + 1) (1 : Int32) (0 : Int32)) (fun e_3 => e_3)) = sp_X7_isSo mg st se x1 := rfl
set_option maxHeartbeats 4000000 in
set_option maxRecDepth 100000 in
theorem c_X7_isSo {l : Launch} {D : va_G} {cI cZ cO : ClassId} {mk : Nat → Nat} {mg st im ke se tx sh fa : Nat → Int32} {mt : Int64} {x1 : Int32} (hsn : 0 ≤ (mg 2).toInt ∧ (mg 2).toInt ≤ 6) (sz : Nat) : Met l yX7_isSo (wm yX7_isSo cX7_isSo 5 (some .boolean)) ({ frames := 4, cells := 0, slots := 0, locals := 92 } : Room) (GPre D (ty3 cI cZ cO) (MW cI cZ mk mg st im ke se tx sh fa mt) [.ref (mk 0), .int x1] sz) (vp_Si (fun r => r = sp_X7_isSo mg st se x1 ∧ (r = 0 ∨ r = 1))) 0 0 (fun _ => False) := by
  refine metP_z (post := (fun r => r = sp_X7_isSo mg st se x1)) (by decide) (Nat.le_of_ble_eq_true rfl) ?_
  intro p e s m args below meth c ls Q C hsz hP hK hD hN hl hret
  have hx := C.1
  have hb := C.2.1
  have hl : lv_has ls 5 [(0, .ref (mk 0)), (1, .int x1)] := hl
  have hT := sp_X7_isSo_s mg st se x1
  refine lv_iconst (v := 1) hx hb dX7_isSo_0 (by decide) ?_
  refine lv_istore_n (lv' := [(2, .int (1 : Int32)), (0, .ref (mk 0)), (1, .int x1)]) hx hb dX7_isSo_1 rfl hl (by decide) rfl (fun ls hl => ?_)
  refine lv_iconst (v := 0) hx hb dX7_isSo_2 (by decide) ?_
  refine lv_istore_n (lv' := [(3, .int (0 : Int32)), (2, .int (1 : Int32)), (0, .ref (mk 0)), (1, .int x1)]) hx hb dX7_isSo_3 rfl hl (by decide) rfl (fun ls hl => ?_)
  have L_4 : ∀ (n : Nat) (ls : Array Slot) (y_1 : Int32) (y_2 : Int32) (bo_y_1 : y_1 = 0 ∨ y_1 = 1) (z3 : 0 ≤ y_2.toInt) (hm : ((mg 2).toInt - y_2.toInt).toNat < n) (hl : lv_has ls 5 [(0, .ref (mk 0)), (1, .int x1), (2, .int y_1), (3, .int y_2)]) (kont : ∀ (ls : Array Slot) (e_3 : Int32), e_3 = 0 ∨ e_3 = 1 → lv_has ls 5 [(2, .int e_3)] → e_3 = lp_X7_isSo_4 mg st se x1 n y_1 y_2 → W p l e ({ frames := 4, cells := 0, slots := 0, locals := 92 } : Room) s m args below meth c s.heap [] 0 0 Q (F0 m 83 ls [])), W p l e ({ frames := 4, cells := 0, slots := 0, locals := 92 } : Room) s m args below meth c s.heap [] 0 0 Q (F0 m 4 ls []) := by
    intro n
    induction n with
    | zero => intro ls y_1 y_2 bo_y_1 z3 hm; exact absurd hm (Nat.not_lt_zero _)
    | succ n ih =>
      intro ls y_1 y_2 bo_y_1 z3 hm hl kont
      have hT := lp_X7_isSo_4_s mg st se x1 n y_1 y_2
      refine lv_iload_n hx hb dX7_isSo_4 rfl (lv_at hl 3 rfl) ?_
      refine lv_aload_n hx hb dX7_isSo_5 rfl (lv_at hl 0 rfl) ?_
      refine gX7_seenMany C hK hP wd_3_80 dX7_isSo_6 ?_
      refine lv_icmp_ge (tgt := 83) hx hb dX7_isSo_9 (by decide) (fun c_4 => ?_) (fun c_4 => ?_)
      · have hT := it_t c_4 hT
        exact kont ls y_1 bo_y_1 (lv_sub hl [2] rfl) hT
      · have hT := it_f c_4 hT
        refine lv_aload_n hx hb dX7_isSo_12 rfl (lv_at hl 0 rfl) ?_
        refine gX7_seen C hK hP wd_3_81 dX7_isSo_13 ?_
        refine lv_iconst (v := 3) hx hb dX7_isSo_16 (by decide) ?_
        refine lv_iload_n hx hb dX7_isSo_17 rfl (lv_at hl 3 rfl) ?_
        refine lv_imul hx hb dX7_isSo_18 ?_
        refine aM_seen C hK hP (so_0 z3 c_4 hsn) dX7_isSo_19 ?_
        refine lv_istore (lv' := [(4, .int (se ((3 : Int32) * y_2).toNatClampNeg)), (0, .ref (mk 0)), (1, .int x1), (2, .int y_1), (3, .int y_2)]) hx hb dX7_isSo_20 hl (by decide) rfl (fun ls hl => ?_)
        refine lv_iload_n hx hb dX7_isSo_22 rfl (lv_at hl 3 rfl) ?_
        refine lv_if_eq (tgt := 75) hx hb dX7_isSo_23 (by decide) (fun c_5 => ?_) (fun c_5 => ?_)
        · have hT := it_t c_5 hT
          refine lv_iconst (v := 0) hx hb dX7_isSo_75 (by decide) ?_
          refine lv_istore_n (lv' := [(2, .int (0 : Int32)), (4, .int (se ((3 : Int32) * y_2).toNatClampNeg)), (0, .ref (mk 0)), (1, .int x1), (3, .int y_2)]) hx hb dX7_isSo_76 rfl hl (by decide) rfl (fun ls hl => ?_)
          refine lv_iinc (v := y_2 + 1) (lv' := [(3, .int (y_2 + 1)), (2, .int (0 : Int32)), (4, .int (se ((3 : Int32) * y_2).toNatClampNeg)), (0, .ref (mk 0)), (1, .int x1)]) hx hb dX7_isSo_77 hl (k := 4) rfl rfl (by decide) rfl (fun ls hl => ?_)
          refine lv_goto (tgt := 4) hx hb dX7_isSo_80 (by decide) ?_
          exact ih ls (0 : Int32) (y_2 + 1) (Or.inl rfl) (up0 c_4 z3) (ms_up c_4 hm) (lv_sub hl [3, 4, 1, 0] rfl) (fun ls z0 x0 hl he => kont ls z0 x0 hl (he.trans hT))
        · have hT := it_f c_5 hT
          refine lv_aload_n hx hb dX7_isSo_26 rfl (lv_at hl 1 rfl) ?_
          refine lv_iload_n hx hb dX7_isSo_27 rfl (lv_at hl 2 rfl) ?_
          refine lv_iload hx hb dX7_isSo_28 (lv_at hl 0 rfl) ?_
          refine lv_iconst (v := 5) hx hb dX7_isSo_30 (by decide) ?_
          refine lv_rem hx hb dX7_isSo_31 (by decide) ?_
          refine lv_iload hx hb dX7_isSo_32 (lv_at hl 0 rfl) ?_
          refine lv_iconst (v := 5) hx hb dX7_isSo_34 (by decide) ?_
          refine lv_idiv hx hb dX7_isSo_35 (by decide) ?_
          refine lv_aload_n hx hb dX7_isSo_36 rfl (lv_at hl 1 rfl) ?_
          refine gX7_seen C hK hP wd_3_81 dX7_isSo_37 ?_
          refine lv_iconst (v := 3) hx hb dX7_isSo_40 (by decide) ?_
          refine lv_iload_n hx hb dX7_isSo_41 rfl (lv_at hl 4 rfl) ?_
          refine lv_imul hx hb dX7_isSo_42 ?_
          refine lv_iconst (v := 1) hx hb dX7_isSo_43 (by decide) ?_
          refine lv_iadd hx hb dX7_isSo_44 ?_
          refine aM_seen C hK hP (so_1 z3 c_4 hsn) dX7_isSo_45 ?_
          refine vp_callSi (run_vP (As := [.int x1, .int (rem (se ((3 : Int32) * y_2).toNatClampNeg) (5 : Int32)), .int ((se ((3 : Int32) * y_2).toNatClampNeg) / (5 : Int32)), .int (se (((3 : Int32) * y_2) + (1 : Int32)).toNatClampNeg)]) (rest := []) C hK hP hD hN (c_X7_isStill _) (rX7_r hK hP) ⟨wd_3_203, wd_3_205, ws_29, wd_1_8, wd_3_206⟩ ⟨rfl, rfl⟩ hv_X7_isStill ⟨Nat.le_of_ble_eq_true rfl, Nat.le_of_ble_eq_true rfl⟩ rfl hl.1 rfl (Nat.le_of_ble_eq_true rfl) dX7_isSo_46 ⟨Nat.zero_le _, Nat.zero_le _⟩) (fun r_6 hr_6 => ?_)
          have hT := nm_u hr_6.1 hT
          refine lv_aload_n hx hb dX7_isSo_49 rfl (lv_at hl 1 rfl) ?_
          refine gX7_seen C hK hP wd_3_81 dX7_isSo_50 ?_
          refine lv_iconst (v := 3) hx hb dX7_isSo_53 (by decide) ?_
          refine lv_iload_n hx hb dX7_isSo_54 rfl (lv_at hl 4 rfl) ?_
          refine lv_imul hx hb dX7_isSo_55 ?_
          refine lv_iconst (v := 2) hx hb dX7_isSo_56 (by decide) ?_
          refine lv_iadd hx hb dX7_isSo_57 ?_
          refine aM_seen C hK hP (so_2 z3 c_4 hsn) dX7_isSo_58 ?_
          refine lv_iconst (v := 1) hx hb dX7_isSo_59 (by decide) ?_
          have K_68 : ∀ (ls : Array Slot) (v_7 : Int32) (bo_v_7 : v_7 = 0 ∨ v_7 = 1) (hl : lv_has ls 5 [(0, .ref (mk 0)), (1, .int x1), (3, .int y_2)]) (hT0 : jn_X7_isSo_68 (lp_X7_isSo_4 mg st se x1 n) y_2 r_6 v_7 = (lp_X7_isSo_4 mg st se x1 (n + 1) y_1 y_2)), W p l e ({ frames := 4, cells := 0, slots := 0, locals := 92 } : Room) s m args below meth c s.heap [] 0 0 Q (F0 m 68 ls [.int v_7, .int r_6]) := by
            intro ls v_7 bo_v_7 hl hT0
            have hT := (jn_X7_isSo_68_s (lp_X7_isSo_4 mg st se x1 n) y_2 r_6 v_7).trans hT0
            refine lv_icmp_ne (tgt := 75) hx hb dX7_isSo_68 (by decide) (fun c_8 => ?_) (fun c_8 => ?_)
            · have hT := it_f c_8 hT
              refine lv_iconst (v := 0) hx hb dX7_isSo_75 (by decide) ?_
              refine lv_istore_n (lv' := [(2, .int (0 : Int32)), (0, .ref (mk 0)), (1, .int x1), (3, .int y_2)]) hx hb dX7_isSo_76 rfl hl (by decide) rfl (fun ls hl => ?_)
              refine lv_iinc (v := y_2 + 1) (lv' := [(3, .int (y_2 + 1)), (2, .int (0 : Int32)), (0, .ref (mk 0)), (1, .int x1)]) hx hb dX7_isSo_77 hl (k := 3) rfl rfl (by decide) rfl (fun ls hl => ?_)
              refine lv_goto (tgt := 4) hx hb dX7_isSo_80 (by decide) ?_
              exact ih ls (0 : Int32) (y_2 + 1) (Or.inl rfl) (up0 c_4 z3) (ms_up c_4 hm) (lv_sub hl [2, 3, 1, 0] rfl) (fun ls z0 x0 hl he => kont ls z0 x0 hl (he.trans hT))
            · have hT := it_t c_8 hT
              refine lv_iconst (v := 1) hx hb dX7_isSo_71 (by decide) ?_
              refine lv_goto (tgt := 76) hx hb dX7_isSo_72 (by decide) ?_
              refine lv_istore_n (lv' := [(2, .int (1 : Int32)), (0, .ref (mk 0)), (1, .int x1), (3, .int y_2)]) hx hb dX7_isSo_76 rfl hl (by decide) rfl (fun ls hl => ?_)
              refine lv_iinc (v := y_2 + 1) (lv' := [(3, .int (y_2 + 1)), (2, .int (1 : Int32)), (0, .ref (mk 0)), (1, .int x1)]) hx hb dX7_isSo_77 hl (k := 3) rfl rfl (by decide) rfl (fun ls hl => ?_)
              refine lv_goto (tgt := 4) hx hb dX7_isSo_80 (by decide) ?_
              exact ih ls (1 : Int32) (y_2 + 1) (Or.inr rfl) (up0 c_4 z3) (ms_up c_4 hm) (lv_sub hl [2, 3, 1, 0] rfl) (fun ls z0 x0 hl he => kont ls z0 x0 hl (he.trans hT))
          refine lv_icmp_ne (tgt := 67) hx hb dX7_isSo_60 (by decide) (fun c_9 => ?_) (fun c_9 => ?_)
          · have hT := it_f c_9 hT
            refine lv_iconst (v := 0) hx hb dX7_isSo_67 (by decide) ?_
            exact K_68 ls (0 : Int32) (Or.inl rfl) (lv_sub hl [1, 2, 4] rfl) hT
          · have hT := it_t c_9 hT
            refine lv_iconst (v := 1) hx hb dX7_isSo_63 (by decide) ?_
            refine lv_goto (tgt := 68) hx hb dX7_isSo_64 (by decide) ?_
            exact K_68 ls (1 : Int32) (Or.inr rfl) (lv_sub hl [1, 2, 4] rfl) hT
  refine L_4 (((mg 2).toInt - (0 : Int32).toInt).toNat + 1) ls (1 : Int32) (0 : Int32) (Or.inr rfl) (by decide) (Nat.lt_succ_self _) (lv_sub hl [2, 3, 1, 0] rfl) (fun ls e_3 bo_e_3 hl he => ?_)
  have hT := nm_u he hT
  refine lv_iload_n hx hb dX7_isSo_83 rfl (lv_at hl 0 rfl) ?_
  exact hret _ _ _ ⟨hT, bo_e_3⟩ dX7_isSo_84
theorem hv_X7_moved : yX7_moved.cls = RX7 ∧ yX7_moved.cls ≠ "java/lang/invoke/MethodHandle" ∧ yX7_moved.cls ≠ "java/lang/invoke/VarHandle" ∧ (parseMethodDescriptor yX7_moved.desc).map (fun d => d.parameters.length) = some 1 := by decide +kernel
theorem hd_X7_moved : yX7_moved.cls ≠ "java/lang/invoke/MethodHandle" ∧ yX7_moved.cls ≠ "java/lang/invoke/VarHandle" ∧ (parseMethodDescriptor yX7_moved.desc).map (fun d => d.parameters.length) = some 1 := hv_X7_moved.2
def jn_X7_moved_95 (rec_29 : Int32 → Int32 → Int32 → Int32 × Int32) (mg : Nat → Int32) (st : Nat → Int32) (se : Nat → Int32) (y_5 : Int32) (y_9 : Int32) (y_10 : Int32) (y_11 : Int32) (v_16 : Int32) : Int32 × Int32 :=
  if v_16 = 0 then (rec_29 y_9 y_10 (y_11 + 1)) else (nm (sp_X7_isSo mg st se ((st (20 : Int32).toNatClampNeg) ^^^ (((1 : Int32) <<< (y_5 &&& 31)) ||| ((1 : Int32) <<< (y_11 &&& 31))))) (fun r_18 => if r_18 = 0 then (rec_29 y_9 y_10 (y_11 + 1)) else (if y_9 = 0 then (rec_29 (y_9 + 1) (((100 : Int32) * y_5) + y_11) (y_11 + 1)) else (rec_29 (y_9 + 1) y_10 (y_11 + 1)))))
theorem jn_X7_moved_95_s (rec_29 : Int32 → Int32 → Int32 → Int32 × Int32) (mg : Nat → Int32) (st : Nat → Int32) (se : Nat → Int32) (y_5 : Int32) (y_9 : Int32) (y_10 : Int32) (y_11 : Int32) (v_16 : Int32) : (if v_16 = 0 then (rec_29 y_9 y_10 (y_11 + 1)) else (nm (sp_X7_isSo mg st se ((st (20 : Int32).toNatClampNeg) ^^^ (((1 : Int32) <<< (y_5 &&& 31)) ||| ((1 : Int32) <<< (y_11 &&& 31))))) (fun r_18 => if r_18 = 0 then (rec_29 y_9 y_10 (y_11 + 1)) else (if y_9 = 0 then (rec_29 (y_9 + 1) (((100 : Int32) * y_5) + y_11) (y_11 + 1)) else (rec_29 (y_9 + 1) y_10 (y_11 + 1)))))) = jn_X7_moved_95 rec_29 mg st se y_5 y_9 y_10 y_11 v_16 := rfl
def lp_X7_moved_29 (mg : Nat → Int32) (st : Nat → Int32) (se : Nat → Int32) (y_5 : Int32) : Nat → Int32 → Int32 → Int32 → Int32 × Int32
  | 0, y_9, y_10, y_11 => (y_9, y_10)
  | n + 1, y_9, y_10, y_11 => if (20 : Int32) ≤ y_11 then (y_9, y_10) else (nm (sp_X7_has (st (20 : Int32).toNatClampNeg) y_5) (fun r_15 => if r_15 = 0 then (jn_X7_moved_95 (lp_X7_moved_29 mg st se y_5 n) mg st se y_5 y_9 y_10 y_11 (0 : Int32)) else (nm (sp_X7_isCell mg (rem y_11 (5 : Int32)) (y_11 / (5 : Int32))) (fun r_22 => if r_22 = 0 then (jn_X7_moved_95 (lp_X7_moved_29 mg st se y_5 n) mg st se y_5 y_9 y_10 y_11 (0 : Int32)) else (nm (sp_X7_isDry st y_11) (fun r_24 => if r_24 = 0 then (jn_X7_moved_95 (lp_X7_moved_29 mg st se y_5 n) mg st se y_5 y_9 y_10 y_11 (0 : Int32)) else (nm (sp_X7_has (st (20 : Int32).toNatClampNeg) y_11) (fun r_26 => if r_26 = 0 then (jn_X7_moved_95 (lp_X7_moved_29 mg st se y_5 n) mg st se y_5 y_9 y_10 y_11 (1 : Int32)) else (jn_X7_moved_95 (lp_X7_moved_29 mg st se y_5 n) mg st se y_5 y_9 y_10 y_11 (0 : Int32))))))))))
theorem lp_X7_moved_29_s (mg : Nat → Int32) (st : Nat → Int32) (se : Nat → Int32) (y_5 : Int32) (n : Nat) (y_9 : Int32) (y_10 : Int32) (y_11 : Int32) : (if (20 : Int32) ≤ y_11 then (y_9, y_10) else (nm (sp_X7_has (st (20 : Int32).toNatClampNeg) y_5) (fun r_15 => if r_15 = 0 then (jn_X7_moved_95 (lp_X7_moved_29 mg st se y_5 n) mg st se y_5 y_9 y_10 y_11 (0 : Int32)) else (nm (sp_X7_isCell mg (rem y_11 (5 : Int32)) (y_11 / (5 : Int32))) (fun r_22 => if r_22 = 0 then (jn_X7_moved_95 (lp_X7_moved_29 mg st se y_5 n) mg st se y_5 y_9 y_10 y_11 (0 : Int32)) else (nm (sp_X7_isDry st y_11) (fun r_24 => if r_24 = 0 then (jn_X7_moved_95 (lp_X7_moved_29 mg st se y_5 n) mg st se y_5 y_9 y_10 y_11 (0 : Int32)) else (nm (sp_X7_has (st (20 : Int32).toNatClampNeg) y_11) (fun r_26 => if r_26 = 0 then (jn_X7_moved_95 (lp_X7_moved_29 mg st se y_5 n) mg st se y_5 y_9 y_10 y_11 (1 : Int32)) else (jn_X7_moved_95 (lp_X7_moved_29 mg st se y_5 n) mg st se y_5 y_9 y_10 y_11 (0 : Int32))))))))))) = lp_X7_moved_29 mg st se y_5 (n + 1) y_9 y_10 y_11 := rfl
def lp_X7_moved_19 (mg : Nat → Int32) (st : Nat → Int32) (se : Nat → Int32) : Nat → Int32 → Int32 → Int32 → Int32 × Int32
  | 0, y_3, y_4, y_5 => (y_3, y_4)
  | n + 1, y_3, y_4, y_5 => if (20 : Int32) ≤ y_5 then (y_3, y_4) else (nm2 (lp_X7_moved_29 mg st se y_5 (((20 : Int32).toInt - (0 : Int32).toInt).toNat + 1) y_3 y_4 (0 : Int32)) (fun e_12 e_13 => lp_X7_moved_19 mg st se n e_12 e_13 (y_5 + 1)))
theorem lp_X7_moved_19_s (mg : Nat → Int32) (st : Nat → Int32) (se : Nat → Int32) (n : Nat) (y_3 : Int32) (y_4 : Int32) (y_5 : Int32) : (if (20 : Int32) ≤ y_5 then (y_3, y_4) else (nm2 (lp_X7_moved_29 mg st se y_5 (((20 : Int32).toInt - (0 : Int32).toInt).toNat + 1) y_3 y_4 (0 : Int32)) (fun e_12 e_13 => lp_X7_moved_19 mg st se n e_12 e_13 (y_5 + 1)))) = lp_X7_moved_19 mg st se (n + 1) y_3 y_4 y_5 := rfl
def sp_X7_moved (mg : Nat → Int32) (st : Nat → Int32) (se : Nat → Int32) (x1 : Int32) : Int32 :=
  nm (sp_X7_in x1 (0 : Int32) (1 : Int32)) (fun r_1 => if r_1 = 0 then (-1 : Int32) else (nm2 (lp_X7_moved_19 mg st se (((20 : Int32).toInt - (0 : Int32).toInt).toNat + 1) (0 : Int32) (-9 : Int32) (0 : Int32)) (fun e_6 e_7 => if x1 = 0 then e_6 else e_7)))
theorem sp_X7_moved_s (mg : Nat → Int32) (st : Nat → Int32) (se : Nat → Int32) (x1 : Int32) : (nm (sp_X7_in x1 (0 : Int32) (1 : Int32)) (fun r_1 => if r_1 = 0 then (-1 : Int32) else (nm2 (lp_X7_moved_19 mg st se (((20 : Int32).toInt - (0 : Int32).toInt).toNat + 1) (0 : Int32) (-9 : Int32) (0 : Int32)) (fun e_6 e_7 => if x1 = 0 then e_6 else e_7)))) = sp_X7_moved mg st se x1 := rfl
set_option maxHeartbeats 4000000 in
set_option maxRecDepth 100000 in
theorem c_X7_moved {l : Launch} {D : va_G} {cI cZ cO : ClassId} {mk : Nat → Nat} {mg st im ke se tx sh fa : Nat → Int32} {mt : Int64} {x1 : Int32} (hsn : 0 ≤ (mg 2).toInt ∧ (mg 2).toInt ≤ 6) (sz : Nat) : Met l yX7_moved (wm yX7_moved cX7_moved 7 (some .int)) ({ frames := 5, cells := 0, slots := 0, locals := 116 } : Room) (GPre D (ty3 cI cZ cO) (MW cI cZ mk mg st im ke se tx sh fa mt) [.ref (mk 0), .int x1] sz) (vp_Si (fun r => r = sp_X7_moved mg st se x1)) 0 0 (fun _ => False) := by
  refine metP_i (post := (fun r => r = sp_X7_moved mg st se x1)) (by decide) (Nat.le_of_ble_eq_true rfl) ?_
  intro p e s m args below meth c ls Q C hsz hP hK hD hN hl hret
  have hx := C.1
  have hb := C.2.1
  have hl : lv_has ls 7 [(0, .ref (mk 0)), (1, .int x1)] := hl
  have hT := sp_X7_moved_s mg st se x1
  refine lv_iload_n hx hb dX7_moved_0 rfl (lv_at hl 1 rfl) ?_
  refine lv_iconst (v := 0) hx hb dX7_moved_1 (by decide) ?_
  refine lv_iconst (v := 1) hx hb dX7_moved_2 (by decide) ?_
  refine vp_callSi (run_sP (As := [.int x1, .int (0 : Int32), .int (1 : Int32)]) (rest := []) C hN (c_X7_in) ⟨wd_3_147, wd_3_148, wd_1_8, wd_3_149⟩ ⟨rfl, rfl⟩ hd_X7_in ⟨Nat.le_of_ble_eq_true rfl, Nat.le_of_ble_eq_true rfl⟩ rfl hl.1 rfl (Nat.le_of_ble_eq_true rfl) dX7_moved_3 ⟨Nat.zero_le _, Nat.zero_le _⟩) (fun r_1 hr_1 => ?_)
  have hT := nm_u hr_1.1 hT
  refine lv_if_ne (tgt := 11) hx hb dX7_moved_6 (by decide) (fun c_2 => ?_) (fun c_2 => ?_)
  · have hT := it_f c_2 hT
    refine lv_iconst (v := 0) hx hb dX7_moved_11 (by decide) ?_
    refine lv_istore_n (lv' := [(2, .int (0 : Int32)), (0, .ref (mk 0)), (1, .int x1)]) hx hb dX7_moved_12 rfl hl (by decide) rfl (fun ls hl => ?_)
    refine lv_bipush (v := -9) hx hb dX7_moved_13 (by decide) ?_
    refine lv_istore_n (lv' := [(3, .int (-9 : Int32)), (2, .int (0 : Int32)), (0, .ref (mk 0)), (1, .int x1)]) hx hb dX7_moved_15 rfl hl (by decide) rfl (fun ls hl => ?_)
    refine lv_iconst (v := 0) hx hb dX7_moved_16 (by decide) ?_
    refine lv_istore (lv' := [(4, .int (0 : Int32)), (3, .int (-9 : Int32)), (2, .int (0 : Int32)), (0, .ref (mk 0)), (1, .int x1)]) hx hb dX7_moved_17 hl (by decide) rfl (fun ls hl => ?_)
    have L_19 : ∀ (n : Nat) (ls : Array Slot) (y_3 : Int32) (y_4 : Int32) (y_5 : Int32) (hm : ((20 : Int32).toInt - y_5.toInt).toNat < n) (hl : lv_has ls 7 [(0, .ref (mk 0)), (1, .int x1), (2, .int y_3), (3, .int y_4), (4, .int y_5)]) (kont : ∀ (ls : Array Slot) (e_6 : Int32) (e_7 : Int32), lv_has ls 7 [(1, .int x1), (2, .int e_6), (3, .int e_7)] → (e_6, e_7) = lp_X7_moved_19 mg st se n y_3 y_4 y_5 → W p l e ({ frames := 5, cells := 0, slots := 0, locals := 116 } : Room) s m args below meth c s.heap [] 0 0 Q (F0 m 158 ls [])), W p l e ({ frames := 5, cells := 0, slots := 0, locals := 116 } : Room) s m args below meth c s.heap [] 0 0 Q (F0 m 19 ls []) := by
      intro n
      induction n with
      | zero => intro ls y_3 y_4 y_5 hm; exact absurd hm (Nat.not_lt_zero _)
      | succ n ih =>
        intro ls y_3 y_4 y_5 hm hl kont
        have hT := lp_X7_moved_19_s mg st se n y_3 y_4 y_5
        refine lv_iload hx hb dX7_moved_19 (lv_at hl 4 rfl) ?_
        refine lv_bipush (v := 20) hx hb dX7_moved_21 (by decide) ?_
        refine lv_icmp_ge (tgt := 158) hx hb dX7_moved_23 (by decide) (fun c_8 => ?_) (fun c_8 => ?_)
        · have hT := it_t c_8 hT
          exact kont ls y_3 y_4 (lv_sub hl [1, 2, 3] rfl) hT
        · have hT := it_f c_8 hT
          refine lv_iconst (v := 0) hx hb dX7_moved_26 (by decide) ?_
          refine lv_istore (lv' := [(5, .int (0 : Int32)), (0, .ref (mk 0)), (1, .int x1), (2, .int y_3), (3, .int y_4), (4, .int y_5)]) hx hb dX7_moved_27 hl (by decide) rfl (fun ls hl => ?_)
          have L_29 : ∀ (n : Nat) (ls : Array Slot) (y_9 : Int32) (y_10 : Int32) (y_11 : Int32) (hm : ((20 : Int32).toInt - y_11.toInt).toNat < n) (hl : lv_has ls 7 [(0, .ref (mk 0)), (1, .int x1), (2, .int y_9), (3, .int y_10), (4, .int y_5), (5, .int y_11)]) (kont : ∀ (ls : Array Slot) (e_12 : Int32) (e_13 : Int32), lv_has ls 7 [(0, .ref (mk 0)), (1, .int x1), (2, .int e_12), (3, .int e_13), (4, .int y_5)] → (e_12, e_13) = lp_X7_moved_29 mg st se y_5 n y_9 y_10 y_11 → W p l e ({ frames := 5, cells := 0, slots := 0, locals := 116 } : Room) s m args below meth c s.heap [] 0 0 Q (F0 m 152 ls [])), W p l e ({ frames := 5, cells := 0, slots := 0, locals := 116 } : Room) s m args below meth c s.heap [] 0 0 Q (F0 m 29 ls []) := by
            intro n
            induction n with
            | zero => intro ls y_9 y_10 y_11 hm; exact absurd hm (Nat.not_lt_zero _)
            | succ n ih =>
              intro ls y_9 y_10 y_11 hm hl kont
              have hT := lp_X7_moved_29_s mg st se y_5 n y_9 y_10 y_11
              refine lv_iload hx hb dX7_moved_29 (lv_at hl 5 rfl) ?_
              refine lv_bipush (v := 20) hx hb dX7_moved_31 (by decide) ?_
              refine lv_icmp_ge (tgt := 152) hx hb dX7_moved_33 (by decide) (fun c_14 => ?_) (fun c_14 => ?_)
              · have hT := it_t c_14 hT
                exact kont ls y_9 y_10 (lv_sub hl [0, 1, 2, 3, 4] rfl) hT
              · have hT := it_f c_14 hT
                refine lv_aload_n hx hb dX7_moved_36 rfl (lv_at hl 0 rfl) ?_
                refine gX7_st C hK hP wd_3_77 dX7_moved_37 ?_
                refine lv_bipush (v := 20) hx hb dX7_moved_40 (by decide) ?_
                refine aM_st C hK hP (ix_of (by decide) (by decide)) dX7_moved_42 ?_
                refine lv_iload hx hb dX7_moved_43 (lv_at hl 4 rfl) ?_
                refine vp_callSi (run_sP (As := [.int (st (20 : Int32).toNatClampNeg), .int y_5]) (rest := []) C hN (c_X7_has) ⟨wd_3_184, wd_3_185, wd_1_8, wd_3_186⟩ ⟨rfl, rfl⟩ hd_X7_has ⟨Nat.le_of_ble_eq_true rfl, Nat.le_of_ble_eq_true rfl⟩ rfl hl.1 rfl (Nat.le_of_ble_eq_true rfl) dX7_moved_45 ⟨Nat.zero_le _, Nat.zero_le _⟩) (fun r_15 hr_15 => ?_)
                have hT := nm_u hr_15.1 hT
                have K_95 : ∀ (ls : Array Slot) (v_16 : Int32) (bo_v_16 : v_16 = 0 ∨ v_16 = 1) (hl : lv_has ls 7 [(0, .ref (mk 0)), (1, .int x1), (2, .int y_9), (3, .int y_10), (4, .int y_5), (5, .int y_11)]) (hT0 : jn_X7_moved_95 (lp_X7_moved_29 mg st se y_5 n) mg st se y_5 y_9 y_10 y_11 v_16 = (lp_X7_moved_29 mg st se y_5 (n + 1) y_9 y_10 y_11)), W p l e ({ frames := 5, cells := 0, slots := 0, locals := 116 } : Room) s m args below meth c s.heap [] 0 0 Q (F0 m 95 ls [.int v_16]) := by
                  intro ls v_16 bo_v_16 hl hT0
                  have hT := (jn_X7_moved_95_s (lp_X7_moved_29 mg st se y_5 n) mg st se y_5 y_9 y_10 y_11 v_16).trans hT0
                  refine lv_istore (lv' := [(6, .int v_16), (0, .ref (mk 0)), (1, .int x1), (2, .int y_9), (3, .int y_10), (4, .int y_5), (5, .int y_11)]) hx hb dX7_moved_95 hl (by decide) rfl (fun ls hl => ?_)
                  refine lv_iload hx hb dX7_moved_97 (lv_at hl 0 rfl) ?_
                  refine lv_if_eq (tgt := 146) hx hb dX7_moved_99 (by decide) (fun c_17 => ?_) (fun c_17 => ?_)
                  · have hT := it_t c_17 hT
                    refine lv_iinc (v := y_11 + 1) (lv' := [(5, .int (y_11 + 1)), (6, .int v_16), (0, .ref (mk 0)), (1, .int x1), (2, .int y_9), (3, .int y_10), (4, .int y_5)]) hx hb dX7_moved_146 hl (k := 6) rfl rfl (by decide) rfl (fun ls hl => ?_)
                    refine lv_goto (tgt := 29) hx hb dX7_moved_149 (by decide) ?_
                    exact ih ls y_9 y_10 (y_11 + 1) (ms_up c_14 hm) (lv_sub hl [2, 3, 4, 5, 6, 0] rfl) (fun ls z0 z1 hl he => kont ls z0 z1 hl (he.trans hT))
                  · have hT := it_f c_17 hT
                    refine lv_aload_n hx hb dX7_moved_102 rfl (lv_at hl 1 rfl) ?_
                    refine lv_aload_n hx hb dX7_moved_103 rfl (lv_at hl 1 rfl) ?_
                    refine gX7_st C hK hP wd_3_77 dX7_moved_104 ?_
                    refine lv_bipush (v := 20) hx hb dX7_moved_107 (by decide) ?_
                    refine aM_st C hK hP (ix_of (by decide) (by decide)) dX7_moved_109 ?_
                    refine lv_iconst (v := 1) hx hb dX7_moved_110 (by decide) ?_
                    refine lv_iload hx hb dX7_moved_111 (lv_at hl 5 rfl) ?_
                    refine lv_ishl hx hb dX7_moved_113 ?_
                    refine lv_iconst (v := 1) hx hb dX7_moved_114 (by decide) ?_
                    refine lv_iload hx hb dX7_moved_115 (lv_at hl 6 rfl) ?_
                    refine lv_ishl hx hb dX7_moved_117 ?_
                    refine lv_ior hx hb dX7_moved_118 ?_
                    refine lv_ixor hx hb dX7_moved_119 ?_
                    refine vp_callSi (run_vP (As := [.int ((st (20 : Int32).toNatClampNeg) ^^^ (((1 : Int32) <<< (y_5 &&& 31)) ||| ((1 : Int32) <<< (y_11 &&& 31))))]) (rest := []) C hK hP hD hN (c_X7_isSo hsn _) (rX7_r hK hP) ⟨wd_4_69, wd_4_71, ws_40, wd_1_8, wd_4_72⟩ ⟨rfl, rfl⟩ hv_X7_isSo ⟨Nat.le_of_ble_eq_true rfl, Nat.le_of_ble_eq_true rfl⟩ rfl hl.1 rfl (Nat.le_of_ble_eq_true rfl) dX7_moved_120 ⟨Nat.zero_le _, Nat.zero_le _⟩) (fun r_18 hr_18 => ?_)
                    have hT := nm_u hr_18.1 hT
                    refine lv_if_eq (tgt := 146) hx hb dX7_moved_123 (by decide) (fun c_19 => ?_) (fun c_19 => ?_)
                    · have hT := it_t c_19 hT
                      refine lv_iinc (v := y_11 + 1) (lv' := [(5, .int (y_11 + 1)), (6, .int v_16), (0, .ref (mk 0)), (1, .int x1), (2, .int y_9), (3, .int y_10), (4, .int y_5)]) hx hb dX7_moved_146 hl (k := 6) rfl rfl (by decide) rfl (fun ls hl => ?_)
                      refine lv_goto (tgt := 29) hx hb dX7_moved_149 (by decide) ?_
                      exact ih ls y_9 y_10 (y_11 + 1) (ms_up c_14 hm) (lv_sub hl [2, 3, 4, 5, 6, 0] rfl) (fun ls z0 z1 hl he => kont ls z0 z1 hl (he.trans hT))
                    · have hT := it_f c_19 hT
                      refine lv_iload_n hx hb dX7_moved_126 rfl (lv_at hl 3 rfl) ?_
                      refine lv_if_ne (tgt := 141) hx hb dX7_moved_127 (by decide) (fun c_20 => ?_) (fun c_20 => ?_)
                      · have hT := it_f c_20 hT
                        refine lv_iload_n hx hb dX7_moved_141 rfl (lv_at hl 4 rfl) ?_
                        refine lv_istore_n (lv' := [(3, .int y_10), (6, .int v_16), (0, .ref (mk 0)), (1, .int x1), (2, .int y_9), (4, .int y_5), (5, .int y_11)]) hx hb dX7_moved_142 rfl hl (by decide) rfl (fun ls hl => ?_)
                        refine lv_iinc (v := y_9 + 1) (lv' := [(2, .int (y_9 + 1)), (3, .int y_10), (6, .int v_16), (0, .ref (mk 0)), (1, .int x1), (4, .int y_5), (5, .int y_11)]) hx hb dX7_moved_143 hl (k := 4) rfl rfl (by decide) rfl (fun ls hl => ?_)
                        refine lv_iinc (v := y_11 + 1) (lv' := [(5, .int (y_11 + 1)), (2, .int (y_9 + 1)), (3, .int y_10), (6, .int v_16), (0, .ref (mk 0)), (1, .int x1), (4, .int y_5)]) hx hb dX7_moved_146 hl (k := 6) rfl rfl (by decide) rfl (fun ls hl => ?_)
                        refine lv_goto (tgt := 29) hx hb dX7_moved_149 (by decide) ?_
                        exact ih ls (y_9 + 1) y_10 (y_11 + 1) (ms_up c_14 hm) (lv_sub hl [4, 5, 1, 2, 6, 0] rfl) (fun ls z0 z1 hl he => kont ls z0 z1 hl (he.trans hT))
                      · have hT := it_t c_20 hT
                        refine lv_bipush (v := 100) hx hb dX7_moved_130 (by decide) ?_
                        refine lv_iload hx hb dX7_moved_132 (lv_at hl 5 rfl) ?_
                        refine lv_imul hx hb dX7_moved_134 ?_
                        refine lv_iload hx hb dX7_moved_135 (lv_at hl 6 rfl) ?_
                        refine lv_iadd hx hb dX7_moved_137 ?_
                        refine lv_goto (tgt := 142) hx hb dX7_moved_138 (by decide) ?_
                        refine lv_istore_n (lv' := [(3, .int (((100 : Int32) * y_5) + y_11)), (6, .int v_16), (0, .ref (mk 0)), (1, .int x1), (2, .int y_9), (4, .int y_5), (5, .int y_11)]) hx hb dX7_moved_142 rfl hl (by decide) rfl (fun ls hl => ?_)
                        refine lv_iinc (v := y_9 + 1) (lv' := [(2, .int (y_9 + 1)), (3, .int (((100 : Int32) * y_5) + y_11)), (6, .int v_16), (0, .ref (mk 0)), (1, .int x1), (4, .int y_5), (5, .int y_11)]) hx hb dX7_moved_143 hl (k := 4) rfl rfl (by decide) rfl (fun ls hl => ?_)
                        refine lv_iinc (v := y_11 + 1) (lv' := [(5, .int (y_11 + 1)), (2, .int (y_9 + 1)), (3, .int (((100 : Int32) * y_5) + y_11)), (6, .int v_16), (0, .ref (mk 0)), (1, .int x1), (4, .int y_5)]) hx hb dX7_moved_146 hl (k := 6) rfl rfl (by decide) rfl (fun ls hl => ?_)
                        refine lv_goto (tgt := 29) hx hb dX7_moved_149 (by decide) ?_
                        exact ih ls (y_9 + 1) (((100 : Int32) * y_5) + y_11) (y_11 + 1) (ms_up c_14 hm) (lv_sub hl [4, 5, 1, 2, 6, 0] rfl) (fun ls z0 z1 hl he => kont ls z0 z1 hl (he.trans hT))
                refine lv_if_eq (tgt := 94) hx hb dX7_moved_48 (by decide) (fun c_21 => ?_) (fun c_21 => ?_)
                · have hT := it_t c_21 hT
                  refine lv_iconst (v := 0) hx hb dX7_moved_94 (by decide) ?_
                  exact K_95 ls (0 : Int32) (Or.inl rfl) (lv_sub hl [0, 1, 2, 3, 4, 5] rfl) hT
                · have hT := it_f c_21 hT
                  refine lv_aload_n hx hb dX7_moved_51 rfl (lv_at hl 0 rfl) ?_
                  refine lv_iload hx hb dX7_moved_52 (lv_at hl 5 rfl) ?_
                  refine lv_iconst (v := 5) hx hb dX7_moved_54 (by decide) ?_
                  refine lv_rem hx hb dX7_moved_55 (by decide) ?_
                  refine lv_iload hx hb dX7_moved_56 (lv_at hl 5 rfl) ?_
                  refine lv_iconst (v := 5) hx hb dX7_moved_58 (by decide) ?_
                  refine lv_idiv hx hb dX7_moved_59 (by decide) ?_
                  refine vp_callSi (run_vP (As := [.int (rem y_11 (5 : Int32)), .int (y_11 / (5 : Int32))]) (rest := []) C hK hP hD hN (c_X7_isCell _) (rX7_r hK hP) ⟨wd_3_195, wd_3_197, ws_27, wd_1_8, wd_3_198⟩ ⟨rfl, rfl⟩ hv_X7_isCell ⟨Nat.le_of_ble_eq_true rfl, Nat.le_of_ble_eq_true rfl⟩ rfl hl.1 rfl (Nat.le_of_ble_eq_true rfl) dX7_moved_60 ⟨Nat.zero_le _, Nat.zero_le _⟩) (fun r_22 hr_22 => ?_)
                  have hT := nm_u hr_22.1 hT
                  refine lv_if_eq (tgt := 94) hx hb dX7_moved_63 (by decide) (fun c_23 => ?_) (fun c_23 => ?_)
                  · have hT := it_t c_23 hT
                    refine lv_iconst (v := 0) hx hb dX7_moved_94 (by decide) ?_
                    exact K_95 ls (0 : Int32) (Or.inl rfl) (lv_sub hl [0, 1, 2, 3, 4, 5] rfl) hT
                  · have hT := it_f c_23 hT
                    refine lv_aload_n hx hb dX7_moved_66 rfl (lv_at hl 0 rfl) ?_
                    refine lv_iload hx hb dX7_moved_67 (lv_at hl 5 rfl) ?_
                    refine vp_callSi (run_vP (As := [.int y_11]) (rest := []) C hK hP hD hN (c_X7_isDry _) (rX7_r hK hP) ⟨wd_3_199, wd_3_201, ws_28, wd_1_8, wd_3_202⟩ ⟨rfl, rfl⟩ hv_X7_isDry ⟨Nat.le_of_ble_eq_true rfl, Nat.le_of_ble_eq_true rfl⟩ rfl hl.1 rfl (Nat.le_of_ble_eq_true rfl) dX7_moved_69 ⟨Nat.zero_le _, Nat.zero_le _⟩) (fun r_24 hr_24 => ?_)
                    have hT := nm_u hr_24.1 hT
                    refine lv_if_eq (tgt := 94) hx hb dX7_moved_72 (by decide) (fun c_25 => ?_) (fun c_25 => ?_)
                    · have hT := it_t c_25 hT
                      refine lv_iconst (v := 0) hx hb dX7_moved_94 (by decide) ?_
                      exact K_95 ls (0 : Int32) (Or.inl rfl) (lv_sub hl [0, 1, 2, 3, 4, 5] rfl) hT
                    · have hT := it_f c_25 hT
                      refine lv_aload_n hx hb dX7_moved_75 rfl (lv_at hl 0 rfl) ?_
                      refine gX7_st C hK hP wd_3_77 dX7_moved_76 ?_
                      refine lv_bipush (v := 20) hx hb dX7_moved_79 (by decide) ?_
                      refine aM_st C hK hP (ix_of (by decide) (by decide)) dX7_moved_81 ?_
                      refine lv_iload hx hb dX7_moved_82 (lv_at hl 5 rfl) ?_
                      refine vp_callSi (run_sP (As := [.int (st (20 : Int32).toNatClampNeg), .int y_11]) (rest := []) C hN (c_X7_has) ⟨wd_3_184, wd_3_185, wd_1_8, wd_3_186⟩ ⟨rfl, rfl⟩ hd_X7_has ⟨Nat.le_of_ble_eq_true rfl, Nat.le_of_ble_eq_true rfl⟩ rfl hl.1 rfl (Nat.le_of_ble_eq_true rfl) dX7_moved_84 ⟨Nat.zero_le _, Nat.zero_le _⟩) (fun r_26 hr_26 => ?_)
                      have hT := nm_u hr_26.1 hT
                      refine lv_if_ne (tgt := 94) hx hb dX7_moved_87 (by decide) (fun c_27 => ?_) (fun c_27 => ?_)
                      · have hT := it_f c_27 hT
                        refine lv_iconst (v := 0) hx hb dX7_moved_94 (by decide) ?_
                        exact K_95 ls (0 : Int32) (Or.inl rfl) (lv_sub hl [0, 1, 2, 3, 4, 5] rfl) hT
                      · have hT := it_t c_27 hT
                        refine lv_iconst (v := 1) hx hb dX7_moved_90 (by decide) ?_
                        refine lv_goto (tgt := 95) hx hb dX7_moved_91 (by decide) ?_
                        exact K_95 ls (1 : Int32) (Or.inr rfl) (lv_sub hl [0, 1, 2, 3, 4, 5] rfl) hT
          refine L_29 (((20 : Int32).toInt - (0 : Int32).toInt).toNat + 1) ls y_3 y_4 (0 : Int32) (Nat.lt_succ_self _) (lv_sub hl [1, 2, 3, 4, 5, 0] rfl) (fun ls e_12 e_13 hl he => ?_)
          have hT := nm2_u he hT
          refine lv_iinc (v := y_5 + 1) (lv' := [(4, .int (y_5 + 1)), (0, .ref (mk 0)), (1, .int x1), (2, .int e_12), (3, .int e_13)]) hx hb dX7_moved_152 hl (k := 4) rfl rfl (by decide) rfl (fun ls hl => ?_)
          refine lv_goto (tgt := 19) hx hb dX7_moved_155 (by decide) ?_
          exact ih ls e_12 e_13 (y_5 + 1) (ms_up c_8 hm) (lv_sub hl [1, 2, 3, 4, 0] rfl) (fun ls z0 z1 hl he => kont ls z0 z1 hl (he.trans hT))
    refine L_19 (((20 : Int32).toInt - (0 : Int32).toInt).toNat + 1) ls (0 : Int32) (-9 : Int32) (0 : Int32) (Nat.lt_succ_self _) (lv_sub hl [3, 4, 2, 1, 0] rfl) (fun ls e_6 e_7 hl he => ?_)
    have hT := nm2_u he hT
    refine lv_iload_n hx hb dX7_moved_158 rfl (lv_at hl 0 rfl) ?_
    refine lv_if_ne (tgt := 166) hx hb dX7_moved_159 (by decide) (fun c_28 => ?_) (fun c_28 => ?_)
    · have hT := it_f c_28 hT
      refine lv_iload_n hx hb dX7_moved_166 rfl (lv_at hl 2 rfl) ?_
      exact hret _ _ _ hT dX7_moved_167
    · have hT := it_t c_28 hT
      refine lv_iload_n hx hb dX7_moved_162 rfl (lv_at hl 1 rfl) ?_
      refine lv_goto (tgt := 167) hx hb dX7_moved_163 (by decide) ?_
      exact hret _ _ _ hT dX7_moved_167
  · have hT := it_t c_2 hT
    refine lv_iconst (v := -1) hx hb dX7_moved_9 (by decide) ?_
    exact hret _ _ _ hT dX7_moved_10
theorem hv_X7_mark : yX7_mark.cls = RX7 ∧ yX7_mark.cls ≠ "java/lang/invoke/MethodHandle" ∧ yX7_mark.cls ≠ "java/lang/invoke/VarHandle" ∧ (parseMethodDescriptor yX7_mark.desc).map (fun d => d.parameters.length) = some 3 := by decide +kernel
theorem hd_X7_mark : yX7_mark.cls ≠ "java/lang/invoke/MethodHandle" ∧ yX7_mark.cls ≠ "java/lang/invoke/VarHandle" ∧ (parseMethodDescriptor yX7_mark.desc).map (fun d => d.parameters.length) = some 3 := hv_X7_mark.2
def jn_X7_mark_73 (st : Nat → Int32) (mt : Int64) (x1 : Int32) (x2 : Int32) (x3 : Int32) (v_5 : Int32) (v_6 : Int32) (v_7 : Int32) (v_8 : Int32) : Int32 × Int64 :=
  if x1 = (1 : Int32) then ((((x3 + v_5) + v_6) + v_7) + v_8, mt + (11 : Int64)) else (if x1 = (2 : Int32) then (x3 - x2, mt + (101 : Int64)) else (if x1 = (3 : Int32) then ((2 : Int32) * ((((x3 + v_5) + v_6) + v_7) + v_8), mt + (1011 : Int64)) else (if x1 = (4 : Int32) then (if (st (((5 : Int32) * x3) + x2).toNatClampNeg) = 0 then ((x3 - x2) + (0 : Int32), mt + (10101 : Int64)) else (nm (sp_X7_heldBy st ((st (((5 : Int32) * x3) + x2).toNatClampNeg) - (1 : Int32))) (fun r_14 => nm (sp_X7_bits r_14) (fun r_15 => ((x3 - x2) + r_15, mt + (10101 : Int64)))))) else (if x1 = (5 : Int32) then (x3 + (st (22 : Int32).toNatClampNeg), mt + (100001 : Int64)) else (x3, mt + (1 : Int64))))))
theorem jn_X7_mark_73_s (st : Nat → Int32) (mt : Int64) (x1 : Int32) (x2 : Int32) (x3 : Int32) (v_5 : Int32) (v_6 : Int32) (v_7 : Int32) (v_8 : Int32) : (if x1 = (1 : Int32) then ((((x3 + v_5) + v_6) + v_7) + v_8, mt + (11 : Int64)) else (if x1 = (2 : Int32) then (x3 - x2, mt + (101 : Int64)) else (if x1 = (3 : Int32) then ((2 : Int32) * ((((x3 + v_5) + v_6) + v_7) + v_8), mt + (1011 : Int64)) else (if x1 = (4 : Int32) then (if (st (((5 : Int32) * x3) + x2).toNatClampNeg) = 0 then ((x3 - x2) + (0 : Int32), mt + (10101 : Int64)) else (nm (sp_X7_heldBy st ((st (((5 : Int32) * x3) + x2).toNatClampNeg) - (1 : Int32))) (fun r_14 => nm (sp_X7_bits r_14) (fun r_15 => ((x3 - x2) + r_15, mt + (10101 : Int64)))))) else (if x1 = (5 : Int32) then (x3 + (st (22 : Int32).toNatClampNeg), mt + (100001 : Int64)) else (x3, mt + (1 : Int64))))))) = jn_X7_mark_73 st mt x1 x2 x3 v_5 v_6 v_7 v_8 := rfl
def jn_X7_mark_57 (mg : Nat → Int32) (st : Nat → Int32) (mt : Int64) (x1 : Int32) (x2 : Int32) (x3 : Int32) (v_5 : Int32) (v_6 : Int32) (v_7 : Int32) : Int32 × Int64 :=
  if (mg 1) ≤ (x3 + (1 : Int32)) then (jn_X7_mark_73 st mt x1 x2 x3 v_5 v_6 v_7 (0 : Int32)) else (jn_X7_mark_73 st mt x1 x2 x3 v_5 v_6 v_7 (1 : Int32))
theorem jn_X7_mark_57_s (mg : Nat → Int32) (st : Nat → Int32) (mt : Int64) (x1 : Int32) (x2 : Int32) (x3 : Int32) (v_5 : Int32) (v_6 : Int32) (v_7 : Int32) : (if (mg 1) ≤ (x3 + (1 : Int32)) then (jn_X7_mark_73 st mt x1 x2 x3 v_5 v_6 v_7 (0 : Int32)) else (jn_X7_mark_73 st mt x1 x2 x3 v_5 v_6 v_7 (1 : Int32))) = jn_X7_mark_57 mg st mt x1 x2 x3 v_5 v_6 v_7 := rfl
def jn_X7_mark_41 (mg : Nat → Int32) (st : Nat → Int32) (mt : Int64) (x1 : Int32) (x2 : Int32) (x3 : Int32) (v_5 : Int32) (v_6 : Int32) : Int32 × Int64 :=
  if (mg 0) ≤ (x2 + (1 : Int32)) then (jn_X7_mark_57 mg st mt x1 x2 x3 v_5 v_6 (0 : Int32)) else (jn_X7_mark_57 mg st mt x1 x2 x3 v_5 v_6 (1 : Int32))
theorem jn_X7_mark_41_s (mg : Nat → Int32) (st : Nat → Int32) (mt : Int64) (x1 : Int32) (x2 : Int32) (x3 : Int32) (v_5 : Int32) (v_6 : Int32) : (if (mg 0) ≤ (x2 + (1 : Int32)) then (jn_X7_mark_57 mg st mt x1 x2 x3 v_5 v_6 (0 : Int32)) else (jn_X7_mark_57 mg st mt x1 x2 x3 v_5 v_6 (1 : Int32))) = jn_X7_mark_41 mg st mt x1 x2 x3 v_5 v_6 := rfl
def jn_X7_mark_31 (mg : Nat → Int32) (st : Nat → Int32) (mt : Int64) (x1 : Int32) (x2 : Int32) (x3 : Int32) (v_5 : Int32) : Int32 × Int64 :=
  if x3 ≤ 0 then (jn_X7_mark_41 mg st mt x1 x2 x3 v_5 (0 : Int32)) else (jn_X7_mark_41 mg st mt x1 x2 x3 v_5 (1 : Int32))
theorem jn_X7_mark_31_s (mg : Nat → Int32) (st : Nat → Int32) (mt : Int64) (x1 : Int32) (x2 : Int32) (x3 : Int32) (v_5 : Int32) : (if x3 ≤ 0 then (jn_X7_mark_41 mg st mt x1 x2 x3 v_5 (0 : Int32)) else (jn_X7_mark_41 mg st mt x1 x2 x3 v_5 (1 : Int32))) = jn_X7_mark_31 mg st mt x1 x2 x3 v_5 := rfl
def sp_X7_mark (mg : Nat → Int32) (st : Nat → Int32) (mt : Int64) (x1 : Int32) (x2 : Int32) (x3 : Int32) : Int32 × Int64 :=
  nm (sp_X7_in x1 (0 : Int32) (5 : Int32)) (fun r_1 => if r_1 = 0 then ((-1000000 : Int32), mt) else (nm (sp_X7_isCell mg x2 x3) (fun r_3 => if r_3 = 0 then ((-1000000 : Int32), mt) else (if x2 ≤ 0 then (jn_X7_mark_31 mg st mt x1 x2 x3 (0 : Int32)) else (jn_X7_mark_31 mg st mt x1 x2 x3 (1 : Int32))))))
theorem sp_X7_mark_s (mg : Nat → Int32) (st : Nat → Int32) (mt : Int64) (x1 : Int32) (x2 : Int32) (x3 : Int32) : (nm (sp_X7_in x1 (0 : Int32) (5 : Int32)) (fun r_1 => if r_1 = 0 then ((-1000000 : Int32), mt) else (nm (sp_X7_isCell mg x2 x3) (fun r_3 => if r_3 = 0 then ((-1000000 : Int32), mt) else (if x2 ≤ 0 then (jn_X7_mark_31 mg st mt x1 x2 x3 (0 : Int32)) else (jn_X7_mark_31 mg st mt x1 x2 x3 (1 : Int32))))))) = sp_X7_mark mg st mt x1 x2 x3 := rfl
set_option maxHeartbeats 4000000 in
set_option maxRecDepth 100000 in
theorem c_X7_mark {l : Launch} {D : va_G} {cI cZ cO : ClassId} {mk : Nat → Nat} {mg st im ke se tx sh fa : Nat → Int32} {mt : Int64} {x1 : Int32} {x2 : Int32} {x3 : Int32} (hw : 1 ≤ (mg 0).toInt ∧ (mg 0).toInt ≤ 5) (hh : 1 ≤ (mg 1).toInt ∧ (mg 1).toInt ≤ 4) (sz : Nat) : Met l yX7_mark (wm yX7_mark cX7_mark 6 (some .int)) ({ frames := 2, cells := 0, slots := 0, locals := 44 } : Room) (GPre D (ty3 cI cZ cO) (MW cI cZ mk mg st im ke se tx sh fa mt) [.ref (mk 0), .int x1, .int x2, .int x3] sz) (va_Qi (fun r (u : Int64) => (r, u) = sp_X7_mark mg st mt x1 x2 x3) (fun u t => GAt D (ty3 cI cZ cO) (va_A (MW cI cZ mk mg st im ke se tx sh fa mt) sz) (MW cI cZ mk mg st im ke se tx sh fa u) t) (va_A (MW cI cZ mk mg st im ke se tx sh fa mt) sz)) 0 0 (va_A (MW cI cZ mk mg st im ke se tx sh fa mt) sz) := by
  refine metQ_i (W1 := (fun (u : Int64) => MW cI cZ mk mg st im ke se tx sh fa u)) (post := (fun r (u : Int64) => (r, u) = sp_X7_mark mg st mt x1 x2 x3)) (by decide) (Nat.le_of_ble_eq_true rfl) ?_
  intro p e s m args below meth c ls A Q C hsz hP hK hD hS hA hN hl hret
  have hx := C.1
  have hb := C.2.1
  have hl : lv_has ls 6 [(0, .ref (mk 0)), (1, .int x1), (2, .int x2), (3, .int x3)] := hl
  have hT := sp_X7_mark_s mg st mt x1 x2 x3
  refine lv_iload_n hx hb dX7_mark_0 rfl (lv_at hl 1 rfl) ?_
  refine lv_iconst (v := 0) hx hb dX7_mark_1 (by decide) ?_
  refine lv_iconst (v := 5) hx hb dX7_mark_2 (by decide) ?_
  refine vp_callSi (run_sP (As := [.int x1, .int (0 : Int32), .int (5 : Int32)]) (rest := []) C hN (c_X7_in) ⟨wd_3_147, wd_3_148, wd_1_8, wd_3_149⟩ ⟨rfl, rfl⟩ hd_X7_in ⟨Nat.le_of_ble_eq_true rfl, Nat.le_of_ble_eq_true rfl⟩ rfl hl.1 rfl (Nat.le_of_ble_eq_true rfl) dX7_mark_3 ⟨Nat.zero_le _, Nat.zero_le _⟩) (fun r_1 hr_1 => ?_)
  have hT := nm_u hr_1.1 hT
  refine lv_if_eq (tgt := 18) hx hb dX7_mark_6 (by decide) (fun c_2 => ?_) (fun c_2 => ?_)
  · have hT := it_t c_2 hT
    refine lv_ldc hx hb C.2.2.2.1 (C.2.2.2.2 _ wd_4_77) dX7_mark_18 ?_
    exact hret _ mt _ _ _ _ hT hP hD hS dX7_mark_20
  · have hT := it_f c_2 hT
    refine lv_aload_n hx hb dX7_mark_9 rfl (lv_at hl 0 rfl) ?_
    refine lv_iload_n hx hb dX7_mark_10 rfl (lv_at hl 2 rfl) ?_
    refine lv_iload_n hx hb dX7_mark_11 rfl (lv_at hl 3 rfl) ?_
    refine vp_callSi (run_vP (As := [.int x2, .int x3]) (rest := []) C hK hP hD hN (c_X7_isCell _) (rX7_r hK hP) ⟨wd_3_195, wd_3_197, ws_27, wd_1_8, wd_3_198⟩ ⟨rfl, rfl⟩ hv_X7_isCell ⟨Nat.le_of_ble_eq_true rfl, Nat.le_of_ble_eq_true rfl⟩ rfl hl.1 rfl (Nat.le_of_ble_eq_true rfl) dX7_mark_12 ⟨Nat.zero_le _, Nat.zero_le _⟩) (fun r_3 hr_3 => ?_)
    have hT := nm_u hr_3.1 hT
    refine lv_if_ne (tgt := 21) hx hb dX7_mark_15 (by decide) (fun c_4 => ?_) (fun c_4 => ?_)
    · have hT := it_f c_4 hT
      refine lv_iload_n hx hb dX7_mark_21 rfl (lv_at hl 3 rfl) ?_
      refine lv_iload_n hx hb dX7_mark_22 rfl (lv_at hl 2 rfl) ?_
      have K_31 : ∀ (ls : Array Slot) (v_5 : Int32) (bo_v_5 : v_5 = 0 ∨ v_5 = 1) (hl : lv_has ls 6 [(0, .ref (mk 0)), (1, .int x1), (2, .int x2), (3, .int x3)]) (hT0 : jn_X7_mark_31 mg st mt x1 x2 x3 v_5 = sp_X7_mark mg st mt x1 x2 x3), W p l e ({ frames := 2, cells := 0, slots := 0, locals := 44 } : Room) s m args below meth c s.heap [] 0 0 Q (F0 m 31 ls [.int v_5, .int x3]) := by
        intro ls v_5 bo_v_5 hl hT0
        have hT := (jn_X7_mark_31_s mg st mt x1 x2 x3 v_5).trans hT0
        refine lv_iadd hx hb dX7_mark_31 ?_
        refine lv_iload_n hx hb dX7_mark_32 rfl (lv_at hl 3 rfl) ?_
        have K_41 : ∀ (ls : Array Slot) (v_6 : Int32) (bo_v_6 : v_6 = 0 ∨ v_6 = 1) (hl : lv_has ls 6 [(0, .ref (mk 0)), (1, .int x1), (2, .int x2), (3, .int x3)]) (hT0 : jn_X7_mark_41 mg st mt x1 x2 x3 v_5 v_6 = sp_X7_mark mg st mt x1 x2 x3), W p l e ({ frames := 2, cells := 0, slots := 0, locals := 44 } : Room) s m args below meth c s.heap [] 0 0 Q (F0 m 41 ls [.int v_6, .int (x3 + v_5)]) := by
          intro ls v_6 bo_v_6 hl hT0
          have hT := (jn_X7_mark_41_s mg st mt x1 x2 x3 v_5 v_6).trans hT0
          refine lv_iadd hx hb dX7_mark_41 ?_
          refine lv_iload_n hx hb dX7_mark_42 rfl (lv_at hl 2 rfl) ?_
          refine lv_iconst (v := 1) hx hb dX7_mark_43 (by decide) ?_
          refine lv_iadd hx hb dX7_mark_44 ?_
          refine lv_aload_n hx hb dX7_mark_45 rfl (lv_at hl 0 rfl) ?_
          refine gX7_wide C hK hP wd_3_75 dX7_mark_46 ?_
          have K_57 : ∀ (ls : Array Slot) (v_7 : Int32) (bo_v_7 : v_7 = 0 ∨ v_7 = 1) (hl : lv_has ls 6 [(0, .ref (mk 0)), (1, .int x1), (2, .int x2), (3, .int x3)]) (hT0 : jn_X7_mark_57 mg st mt x1 x2 x3 v_5 v_6 v_7 = sp_X7_mark mg st mt x1 x2 x3), W p l e ({ frames := 2, cells := 0, slots := 0, locals := 44 } : Room) s m args below meth c s.heap [] 0 0 Q (F0 m 57 ls [.int v_7, .int ((x3 + v_5) + v_6)]) := by
            intro ls v_7 bo_v_7 hl hT0
            have hT := (jn_X7_mark_57_s mg st mt x1 x2 x3 v_5 v_6 v_7).trans hT0
            refine lv_iadd hx hb dX7_mark_57 ?_
            refine lv_iload_n hx hb dX7_mark_58 rfl (lv_at hl 3 rfl) ?_
            refine lv_iconst (v := 1) hx hb dX7_mark_59 (by decide) ?_
            refine lv_iadd hx hb dX7_mark_60 ?_
            refine lv_aload_n hx hb dX7_mark_61 rfl (lv_at hl 0 rfl) ?_
            refine gX7_rows C hK hP wd_3_76 dX7_mark_62 ?_
            have K_73 : ∀ (ls : Array Slot) (v_8 : Int32) (bo_v_8 : v_8 = 0 ∨ v_8 = 1) (hl : lv_has ls 6 [(0, .ref (mk 0)), (1, .int x1), (2, .int x2), (3, .int x3)]) (hT0 : jn_X7_mark_73 st mt x1 x2 x3 v_5 v_6 v_7 v_8 = sp_X7_mark mg st mt x1 x2 x3), W p l e ({ frames := 2, cells := 0, slots := 0, locals := 44 } : Room) s m args below meth c s.heap [] 0 0 Q (F0 m 73 ls [.int v_8, .int (((x3 + v_5) + v_6) + v_7)]) := by
              intro ls v_8 bo_v_8 hl hT0
              have hT := (jn_X7_mark_73_s st mt x1 x2 x3 v_5 v_6 v_7 v_8).trans hT0
              refine lv_iadd hx hb dX7_mark_73 ?_
              refine lv_istore (lv' := [(4, .int ((((x3 + v_5) + v_6) + v_7) + v_8)), (0, .ref (mk 0)), (1, .int x1), (2, .int x2), (3, .int x3)]) hx hb dX7_mark_74 hl (by decide) rfl (fun ls hl => ?_)
              refine lv_aload_n hx hb dX7_mark_76 rfl (lv_at hl 1 rfl) ?_
              refine gX7_st C hK hP wd_3_77 dX7_mark_77 ?_
              refine lv_iconst (v := 5) hx hb dX7_mark_80 (by decide) ?_
              refine lv_iload_n hx hb dX7_mark_81 rfl (lv_at hl 4 rfl) ?_
              refine lv_imul hx hb dX7_mark_82 ?_
              refine lv_iload_n hx hb dX7_mark_83 rfl (lv_at hl 3 rfl) ?_
              refine lv_iadd hx hb dX7_mark_84 ?_
              refine aM_st C hK hP (cell_ix hw hh hr_3.1 c_4 (by decide)) dX7_mark_85 ?_
              refine lv_istore (lv' := [(5, .int (st (((5 : Int32) * x3) + x2).toNatClampNeg)), (4, .int ((((x3 + v_5) + v_6) + v_7) + v_8)), (0, .ref (mk 0)), (1, .int x1), (2, .int x2), (3, .int x3)]) hx hb dX7_mark_86 hl (by decide) rfl (fun ls hl => ?_)
              refine lv_iload_n hx hb dX7_mark_88 rfl (lv_at hl 3 rfl) ?_
              by_cases c_9 : x1 = (1 : Int32)
              · have hT := it_t c_9 hT
                refine lv_tableIn (tgt := 124) hx hb dX7_mark_89 (by rw [c_9]; decide) (by rw [c_9]; decide) (by rw [c_9]; rfl) (by decide) ?_
                refine lv_aload_n hx hb dX7_mark_124 rfl (lv_at hl 2 rfl) ?_
                refine lv_dup hx hb dX7_mark_125 rfl ?_
                refine gX7_trace C hK hP wd_3_82 dX7_mark_126 ?_
                refine lv_ldc2 hx hb C.2.2.2.1 (C.2.2.2.2 _ wd_4_78) dX7_mark_129 ?_
                refine lv_ladd hx hb dX7_mark_132 ?_
                refine pX7_trace C hK hP hD hS wd_3_82 dX7_mark_133 (fun H locs hP hD hS => ?_)
                refine lv_iload hx hb dX7_mark_136 (lv_at hl 1 rfl) ?_
                exact hret _ (mt + (11 : Int64)) _ _ _ _ hT hP hD hS dX7_mark_138
              · have hT := it_f c_9 hT
                by_cases c_10 : x1 = (2 : Int32)
                · have hT := it_t c_10 hT
                  refine lv_tableIn (tgt := 139) hx hb dX7_mark_89 (by rw [c_10]; decide) (by rw [c_10]; decide) (by rw [c_10]; rfl) (by decide) ?_
                  refine lv_aload_n hx hb dX7_mark_139 rfl (lv_at hl 2 rfl) ?_
                  refine lv_dup hx hb dX7_mark_140 rfl ?_
                  refine gX7_trace C hK hP wd_3_82 dX7_mark_141 ?_
                  refine lv_ldc2 hx hb C.2.2.2.1 (C.2.2.2.2 _ wd_4_79) dX7_mark_144 ?_
                  refine lv_ladd hx hb dX7_mark_147 ?_
                  refine pX7_trace C hK hP hD hS wd_3_82 dX7_mark_148 (fun H locs hP hD hS => ?_)
                  refine lv_iload_n hx hb dX7_mark_151 rfl (lv_at hl 5 rfl) ?_
                  refine lv_iload_n hx hb dX7_mark_152 rfl (lv_at hl 4 rfl) ?_
                  refine lv_isub hx hb dX7_mark_153 ?_
                  exact hret _ (mt + (101 : Int64)) _ _ _ _ hT hP hD hS dX7_mark_154
                · have hT := it_f c_10 hT
                  by_cases c_11 : x1 = (3 : Int32)
                  · have hT := it_t c_11 hT
                    refine lv_tableIn (tgt := 155) hx hb dX7_mark_89 (by rw [c_11]; decide) (by rw [c_11]; decide) (by rw [c_11]; rfl) (by decide) ?_
                    refine lv_aload_n hx hb dX7_mark_155 rfl (lv_at hl 2 rfl) ?_
                    refine lv_dup hx hb dX7_mark_156 rfl ?_
                    refine gX7_trace C hK hP wd_3_82 dX7_mark_157 ?_
                    refine lv_ldc2 hx hb C.2.2.2.1 (C.2.2.2.2 _ wd_4_80) dX7_mark_160 ?_
                    refine lv_ladd hx hb dX7_mark_163 ?_
                    refine pX7_trace C hK hP hD hS wd_3_82 dX7_mark_164 (fun H locs hP hD hS => ?_)
                    refine lv_iconst (v := 2) hx hb dX7_mark_167 (by decide) ?_
                    refine lv_iload hx hb dX7_mark_168 (lv_at hl 1 rfl) ?_
                    refine lv_imul hx hb dX7_mark_170 ?_
                    exact hret _ (mt + (1011 : Int64)) _ _ _ _ hT hP hD hS dX7_mark_171
                  · have hT := it_f c_11 hT
                    by_cases c_12 : x1 = (4 : Int32)
                    · have hT := it_t c_12 hT
                      refine lv_tableIn (tgt := 172) hx hb dX7_mark_89 (by rw [c_12]; decide) (by rw [c_12]; decide) (by rw [c_12]; rfl) (by decide) ?_
                      refine lv_aload_n hx hb dX7_mark_172 rfl (lv_at hl 2 rfl) ?_
                      refine lv_dup hx hb dX7_mark_173 rfl ?_
                      refine gX7_trace C hK hP wd_3_82 dX7_mark_174 ?_
                      refine lv_ldc2 hx hb C.2.2.2.1 (C.2.2.2.2 _ wd_4_81) dX7_mark_177 ?_
                      refine lv_ladd hx hb dX7_mark_180 ?_
                      refine pX7_trace C hK hP hD hS wd_3_82 dX7_mark_181 (fun H locs hP hD hS => ?_)
                      refine lv_iload_n hx hb dX7_mark_184 rfl (lv_at hl 5 rfl) ?_
                      refine lv_iload_n hx hb dX7_mark_185 rfl (lv_at hl 4 rfl) ?_
                      refine lv_isub hx hb dX7_mark_186 ?_
                      refine lv_iload hx hb dX7_mark_187 (lv_at hl 0 rfl) ?_
                      refine lv_if_ne (tgt := 196) hx hb dX7_mark_189 (by decide) (fun c_13 => ?_) (fun c_13 => ?_)
                      · have hT := it_f c_13 hT
                        refine lv_aload_n hx hb dX7_mark_196 rfl (lv_at hl 2 rfl) ?_
                        refine lv_iload hx hb dX7_mark_197 (lv_at hl 0 rfl) ?_
                        refine lv_iconst (v := 1) hx hb dX7_mark_199 (by decide) ?_
                        refine lv_isub hx hb dX7_mark_200 ?_
                        refine vp_callSi (run_vP (As := [.int ((st (((5 : Int32) * x3) + x2).toNatClampNeg) - (1 : Int32))]) (rest := [.int (x3 - x2)]) C hK hP hD hN (c_X7_heldBy _) (rX7_r hK hP) ⟨wd_3_218, wd_3_220, ws_31, wd_1_8, wd_3_221⟩ ⟨rfl, rfl⟩ hv_X7_heldBy ⟨Nat.le_of_ble_eq_true rfl, Nat.le_of_ble_eq_true rfl⟩ rfl hl.1 rfl (Nat.le_of_ble_eq_true rfl) dX7_mark_201 ⟨Nat.zero_le _, Nat.zero_le _⟩) (fun r_14 hr_14 => ?_)
                        have hT := nm_u hr_14 hT
                        refine vp_callSi (run_sP (As := [.int r_14]) (rest := [.int (x3 - x2)]) C hN (c_X7_bits) ⟨wd_3_226, wd_3_227, wd_1_8, wd_3_228⟩ ⟨rfl, rfl⟩ hd_X7_bits ⟨Nat.le_of_ble_eq_true rfl, Nat.le_of_ble_eq_true rfl⟩ rfl hl.1 rfl (Nat.le_of_ble_eq_true rfl) dX7_mark_204 ⟨Nat.zero_le _, Nat.zero_le _⟩) (fun r_15 hr_15 => ?_)
                        have hT := nm_u hr_15 hT
                        refine lv_iadd hx hb dX7_mark_207 ?_
                        exact hret _ (mt + (10101 : Int64)) _ _ _ _ hT hP hD hS dX7_mark_208
                      · have hT := it_t c_13 hT
                        refine lv_iconst (v := 0) hx hb dX7_mark_192 (by decide) ?_
                        refine lv_goto (tgt := 207) hx hb dX7_mark_193 (by decide) ?_
                        refine lv_iadd hx hb dX7_mark_207 ?_
                        exact hret _ (mt + (10101 : Int64)) _ _ _ _ hT hP hD hS dX7_mark_208
                    · have hT := it_f c_12 hT
                      by_cases c_16 : x1 = (5 : Int32)
                      · have hT := it_t c_16 hT
                        refine lv_tableIn (tgt := 209) hx hb dX7_mark_89 (by rw [c_16]; decide) (by rw [c_16]; decide) (by rw [c_16]; rfl) (by decide) ?_
                        refine lv_aload_n hx hb dX7_mark_209 rfl (lv_at hl 2 rfl) ?_
                        refine lv_dup hx hb dX7_mark_210 rfl ?_
                        refine gX7_trace C hK hP wd_3_82 dX7_mark_211 ?_
                        refine lv_ldc2 hx hb C.2.2.2.1 (C.2.2.2.2 _ wd_4_82) dX7_mark_214 ?_
                        refine lv_ladd hx hb dX7_mark_217 ?_
                        refine pX7_trace C hK hP hD hS wd_3_82 dX7_mark_218 (fun H locs hP hD hS => ?_)
                        refine lv_iload_n hx hb dX7_mark_221 rfl (lv_at hl 5 rfl) ?_
                        refine lv_aload_n hx hb dX7_mark_222 rfl (lv_at hl 2 rfl) ?_
                        refine gX7_st C hK hP wd_3_77 dX7_mark_223 ?_
                        refine lv_bipush (v := 22) hx hb dX7_mark_226 (by decide) ?_
                        refine aM_st C hK hP (ix_of (by decide) (by decide)) dX7_mark_228 ?_
                        refine lv_iadd hx hb dX7_mark_229 ?_
                        exact hret _ (mt + (100001 : Int64)) _ _ _ _ hT hP hD hS dX7_mark_230
                      · have hT := it_f c_16 hT
                        refine lv_tableOut (tgt := 231) hx hb dX7_mark_89 (by have h0 := lv_neT (a := 1) c_9 rfl; have h1 := lv_neT (a := 2) c_10 rfl; have h2 := lv_neT (a := 3) c_11 rfl; have h3 := lv_neT (a := 4) c_12 rfl; have h4 := lv_neT (a := 5) c_16 rfl; omega) (by decide) ?_
                        refine lv_aload_n hx hb dX7_mark_231 rfl (lv_at hl 2 rfl) ?_
                        refine lv_dup hx hb dX7_mark_232 rfl ?_
                        refine gX7_trace C hK hP wd_3_82 dX7_mark_233 ?_
                        refine lv_lconst (v := 1) hx hb dX7_mark_236 (by decide) ?_
                        refine lv_ladd hx hb dX7_mark_237 ?_
                        refine pX7_trace C hK hP hD hS wd_3_82 dX7_mark_238 (fun H locs hP hD hS => ?_)
                        refine lv_iload_n hx hb dX7_mark_241 rfl (lv_at hl 5 rfl) ?_
                        exact hret _ (mt + (1 : Int64)) _ _ _ _ hT hP hD hS dX7_mark_242
            refine lv_icmp_ge (tgt := 72) hx hb dX7_mark_65 (by decide) (fun c_17 => ?_) (fun c_17 => ?_)
            · have hT := it_t c_17 hT
              refine lv_iconst (v := 0) hx hb dX7_mark_72 (by decide) ?_
              exact K_73 ls (0 : Int32) (Or.inl rfl) (lv_sub hl [0, 1, 2, 3] rfl) hT
            · have hT := it_f c_17 hT
              refine lv_iconst (v := 1) hx hb dX7_mark_68 (by decide) ?_
              refine lv_goto (tgt := 73) hx hb dX7_mark_69 (by decide) ?_
              exact K_73 ls (1 : Int32) (Or.inr rfl) (lv_sub hl [0, 1, 2, 3] rfl) hT
          refine lv_icmp_ge (tgt := 56) hx hb dX7_mark_49 (by decide) (fun c_18 => ?_) (fun c_18 => ?_)
          · have hT := it_t c_18 hT
            refine lv_iconst (v := 0) hx hb dX7_mark_56 (by decide) ?_
            exact K_57 ls (0 : Int32) (Or.inl rfl) (lv_sub hl [0, 1, 2, 3] rfl) hT
          · have hT := it_f c_18 hT
            refine lv_iconst (v := 1) hx hb dX7_mark_52 (by decide) ?_
            refine lv_goto (tgt := 57) hx hb dX7_mark_53 (by decide) ?_
            exact K_57 ls (1 : Int32) (Or.inr rfl) (lv_sub hl [0, 1, 2, 3] rfl) hT
        refine lv_if_le (tgt := 40) hx hb dX7_mark_33 (by decide) (fun c_19 => ?_) (fun c_19 => ?_)
        · have hT := it_t c_19 hT
          refine lv_iconst (v := 0) hx hb dX7_mark_40 (by decide) ?_
          exact K_41 ls (0 : Int32) (Or.inl rfl) (lv_sub hl [0, 1, 2, 3] rfl) hT
        · have hT := it_f c_19 hT
          refine lv_iconst (v := 1) hx hb dX7_mark_36 (by decide) ?_
          refine lv_goto (tgt := 41) hx hb dX7_mark_37 (by decide) ?_
          exact K_41 ls (1 : Int32) (Or.inr rfl) (lv_sub hl [0, 1, 2, 3] rfl) hT
      refine lv_if_le (tgt := 30) hx hb dX7_mark_23 (by decide) (fun c_20 => ?_) (fun c_20 => ?_)
      · have hT := it_t c_20 hT
        refine lv_iconst (v := 0) hx hb dX7_mark_30 (by decide) ?_
        exact K_31 ls (0 : Int32) (Or.inl rfl) (lv_sub hl [0, 1, 2, 3] rfl) hT
      · have hT := it_f c_20 hT
        refine lv_iconst (v := 1) hx hb dX7_mark_26 (by decide) ?_
        refine lv_goto (tgt := 31) hx hb dX7_mark_27 (by decide) ?_
        exact K_31 ls (1 : Int32) (Or.inr rfl) (lv_sub hl [0, 1, 2, 3] rfl) hT
    · have hT := it_t c_4 hT
      refine lv_ldc hx hb C.2.2.2.1 (C.2.2.2.2 _ wd_4_77) dX7_mark_18 ?_
      exact hret _ mt _ _ _ _ hT hP hD hS dX7_mark_20
theorem hv_X7_keep : yX7_keep.cls = RX7 ∧ yX7_keep.cls ≠ "java/lang/invoke/MethodHandle" ∧ yX7_keep.cls ≠ "java/lang/invoke/VarHandle" ∧ (parseMethodDescriptor yX7_keep.desc).map (fun d => d.parameters.length) = some 1 := by decide +kernel
theorem hd_X7_keep : yX7_keep.cls ≠ "java/lang/invoke/MethodHandle" ∧ yX7_keep.cls ≠ "java/lang/invoke/VarHandle" ∧ (parseMethodDescriptor yX7_keep.desc).map (fun d => d.parameters.length) = some 1 := hv_X7_keep.2
def lp_X7_keep_13 (st : Nat → Int32) (x1 : Int32) : Nat → Int32 → (Nat → Int32) → (Nat → Int32)
  | 0, y_3, im_4 => im_4
  | n + 1, y_3, im_4 => if (254 : Int32) ≤ y_3 then im_4 else (lp_X7_keep_13 st x1 n (y_3 + 1) (upd im_4 (((254 : Int32) * x1) + y_3).toNatClampNeg (st y_3.toNatClampNeg)))
theorem lp_X7_keep_13_s (st : Nat → Int32) (x1 : Int32) (n : Nat) (y_3 : Int32) (im_4 : Nat → Int32) : (if (254 : Int32) ≤ y_3 then im_4 else (lp_X7_keep_13 st x1 n (y_3 + 1) (upd im_4 (((254 : Int32) * x1) + y_3).toNatClampNeg (st y_3.toNatClampNeg)))) = lp_X7_keep_13 st x1 (n + 1) y_3 im_4 := rfl
def sp_X7_keep (st : Nat → Int32) (im : Nat → Int32) (ke : Nat → Int32) (x1 : Int32) : Int32 × (Nat → Int32) × (Nat → Int32) :=
  nm (sp_X7_in x1 (0 : Int32) (1 : Int32)) (fun r_1 => if r_1 = 0 then ((-1 : Int32), im, ke) else (nm (lp_X7_keep_13 st x1 (((254 : Int32).toInt - (0 : Int32).toInt).toNat + 1) (0 : Int32) im) (fun e_5 => (st (22 : Int32).toNatClampNeg, e_5, upd ke x1.toNatClampNeg (1 : Int32)))))
theorem sp_X7_keep_s (st : Nat → Int32) (im : Nat → Int32) (ke : Nat → Int32) (x1 : Int32) : (nm (sp_X7_in x1 (0 : Int32) (1 : Int32)) (fun r_1 => if r_1 = 0 then ((-1 : Int32), im, ke) else (nm (lp_X7_keep_13 st x1 (((254 : Int32).toInt - (0 : Int32).toInt).toNat + 1) (0 : Int32) im) (fun e_5 => (st (22 : Int32).toNatClampNeg, e_5, upd ke x1.toNatClampNeg (1 : Int32)))))) = sp_X7_keep st im ke x1 := rfl
set_option maxHeartbeats 4000000 in
set_option maxRecDepth 100000 in
theorem c_X7_keep {l : Launch} {D : va_G} {cI cZ cO : ClassId} {mk : Nat → Nat} {mg st im ke se tx sh fa : Nat → Int32} {mt : Int64} {x1 : Int32}  (sz : Nat) : Met l yX7_keep (wm yX7_keep cX7_keep 3 (some .int)) ({ frames := 1, cells := 0, slots := 0, locals := 22 } : Room) (GPre D (ty3 cI cZ cO) (MW cI cZ mk mg st im ke se tx sh fa mt) [.ref (mk 0), .int x1] sz) (va_Qi (fun r (u : (Nat → Int32) × (Nat → Int32)) => (r, u) = sp_X7_keep st im ke x1) (fun u t => GAt D (ty3 cI cZ cO) (va_A (MW cI cZ mk mg st im ke se tx sh fa mt) sz) (MW cI cZ mk mg st u.1 u.2 se tx sh fa mt) t) (va_A (MW cI cZ mk mg st im ke se tx sh fa mt) sz)) 0 0 (va_A (MW cI cZ mk mg st im ke se tx sh fa mt) sz) := by
  refine metQ_i (W1 := (fun (u : (Nat → Int32) × (Nat → Int32)) => MW cI cZ mk mg st u.1 u.2 se tx sh fa mt)) (post := (fun r (u : (Nat → Int32) × (Nat → Int32)) => (r, u) = sp_X7_keep st im ke x1)) (by decide) (Nat.le_of_ble_eq_true rfl) ?_
  intro p e s m args below meth c ls A Q C hsz hP hK hD hS hA hN hl hret
  have hx := C.1
  have hb := C.2.1
  have hl : lv_has ls 3 [(0, .ref (mk 0)), (1, .int x1)] := hl
  have hT := sp_X7_keep_s st im ke x1
  refine lv_iload_n hx hb dX7_keep_0 rfl (lv_at hl 1 rfl) ?_
  refine lv_iconst (v := 0) hx hb dX7_keep_1 (by decide) ?_
  refine lv_iconst (v := 1) hx hb dX7_keep_2 (by decide) ?_
  refine vp_callSi (run_sP (As := [.int x1, .int (0 : Int32), .int (1 : Int32)]) (rest := []) C hN (c_X7_in) ⟨wd_3_147, wd_3_148, wd_1_8, wd_3_149⟩ ⟨rfl, rfl⟩ hd_X7_in ⟨Nat.le_of_ble_eq_true rfl, Nat.le_of_ble_eq_true rfl⟩ rfl hl.1 rfl (Nat.le_of_ble_eq_true rfl) dX7_keep_3 ⟨Nat.zero_le _, Nat.zero_le _⟩) (fun r_1 hr_1 => ?_)
  have hT := nm_u hr_1.1 hT
  refine lv_if_ne (tgt := 11) hx hb dX7_keep_6 (by decide) (fun c_2 => ?_) (fun c_2 => ?_)
  · have hT := it_f c_2 hT
    refine lv_iconst (v := 0) hx hb dX7_keep_11 (by decide) ?_
    refine lv_istore_n (lv' := [(2, .int (0 : Int32)), (0, .ref (mk 0)), (1, .int x1)]) hx hb dX7_keep_12 rfl hl (by decide) rfl (fun ls hl => ?_)
    have L_13 : ∀ (n : Nat) (ls : Array Slot) (y_3 : Int32) (im_4 : Nat → Int32) (z2 : 0 ≤ y_3.toInt) (hm : ((254 : Int32).toInt - y_3.toInt).toNat < n) (H : Heap) (locs : List Loc) (hP : va_P D vwCl (MW cI cZ mk mg st im_4 ke se tx sh fa mt) H) (hD : va_D A (MW cI cZ mk mg st im_4 ke se tx sh fa mt)) (hS : va_S A s.heap H locs) (hl : lv_has ls 3 [(0, .ref (mk 0)), (1, .int x1), (2, .int y_3)]) (kont : ∀ (ls : Array Slot) (e_5 : Nat → Int32) (H : Heap) (locs : List Loc), va_P D vwCl (MW cI cZ mk mg st e_5 ke se tx sh fa mt) H → va_D A (MW cI cZ mk mg st e_5 ke se tx sh fa mt) → va_S A s.heap H locs → lv_has ls 3 [(0, .ref (mk 0)), (1, .int x1)] → e_5 = lp_X7_keep_13 st x1 n y_3 im_4 → W p l e ({ frames := 1, cells := 0, slots := 0, locals := 22 } : Room) s m args below meth c H locs 0 0 Q (F0 m 44 ls [])), W p l e ({ frames := 1, cells := 0, slots := 0, locals := 22 } : Room) s m args below meth c H locs 0 0 Q (F0 m 13 ls []) := by
      intro n
      induction n with
      | zero => intro ls y_3 im_4 z2 hm; exact absurd hm (Nat.not_lt_zero _)
      | succ n ih =>
        intro ls y_3 im_4 z2 hm H locs hP hD hS hl kont
        have hT := lp_X7_keep_13_s st x1 n y_3 im_4
        refine lv_iload_n hx hb dX7_keep_13 rfl (lv_at hl 2 rfl) ?_
        refine lv_sipush (v := 254) hx hb dX7_keep_14 (by decide) ?_
        refine lv_icmp_ge (tgt := 44) hx hb dX7_keep_17 (by decide) (fun c_6 => ?_) (fun c_6 => ?_)
        · have hT := it_t c_6 hT
          exact kont ls im_4 H locs hP hD hS (lv_sub hl [0, 1] rfl) hT
        · have hT := it_f c_6 hT
          refine lv_aload_n hx hb dX7_keep_20 rfl (lv_at hl 0 rfl) ?_
          refine gX7_images C hK hP wd_3_78 dX7_keep_21 ?_
          refine lv_sipush (v := 254) hx hb dX7_keep_24 (by decide) ?_
          refine lv_iload_n hx hb dX7_keep_27 rfl (lv_at hl 1 rfl) ?_
          refine lv_imul hx hb dX7_keep_28 ?_
          refine lv_iload_n hx hb dX7_keep_29 rfl (lv_at hl 2 rfl) ?_
          refine lv_iadd hx hb dX7_keep_30 ?_
          refine lv_aload_n hx hb dX7_keep_31 rfl (lv_at hl 0 rfl) ?_
          refine gX7_st C hK hP wd_3_77 dX7_keep_32 ?_
          refine lv_iload_n hx hb dX7_keep_35 rfl (lv_at hl 2 rfl) ?_
          refine aM_st C hK hP (ix_inv_nle z2 c_6) dX7_keep_36 ?_
          refine sM_images C hK hP hD hS (kp_1 hr_1.1 c_2 z2 c_6) dX7_keep_37 (fun H locs hP hD hS => ?_)
          refine lv_iinc (v := y_3 + 1) (lv' := [(2, .int (y_3 + 1)), (0, .ref (mk 0)), (1, .int x1)]) hx hb dX7_keep_38 hl (k := 2) rfl rfl (by decide) rfl (fun ls hl => ?_)
          refine lv_goto (tgt := 13) hx hb dX7_keep_41 (by decide) ?_
          exact ih ls (y_3 + 1) (upd im_4 (((254 : Int32) * x1) + y_3).toNatClampNeg (st y_3.toNatClampNeg)) (up0 c_6 z2) (ms_up c_6 hm) H locs hP hD hS (lv_sub hl [1, 2, 0] rfl) (fun ls z0 H locs hP hD hS hl he => kont ls z0 H locs hP hD hS hl (he.trans hT))
    refine L_13 (((254 : Int32).toInt - (0 : Int32).toInt).toNat + 1) ls (0 : Int32) im (by decide) (Nat.lt_succ_self _) s.heap [] hP hD hS (lv_sub hl [1, 2, 0] rfl) (fun ls e_5 H locs hP hD hS hl he => ?_)
    have hT := nm_u he hT
    refine lv_aload_n hx hb dX7_keep_44 rfl (lv_at hl 0 rfl) ?_
    refine gX7_isKept C hK hP wd_3_79 dX7_keep_45 ?_
    refine lv_iload_n hx hb dX7_keep_48 rfl (lv_at hl 1 rfl) ?_
    refine lv_iconst (v := 1) hx hb dX7_keep_49 (by decide) ?_
    refine sM_isKept C hK hP hD hS (Or.inr rfl) (kp_2 hr_1.1 c_2) dX7_keep_50 (fun H locs hP hD hS => ?_)
    refine lv_aload_n hx hb dX7_keep_51 rfl (lv_at hl 0 rfl) ?_
    refine gX7_st C hK hP wd_3_77 dX7_keep_52 ?_
    refine lv_bipush (v := 22) hx hb dX7_keep_55 (by decide) ?_
    refine aM_st C hK hP (ix_of (by decide) (by decide)) dX7_keep_57 ?_
    exact hret _ (e_5, upd ke x1.toNatClampNeg (1 : Int32)) _ _ _ _ hT hP hD hS dX7_keep_58
  · have hT := it_t c_2 hT
    refine lv_iconst (v := -1) hx hb dX7_keep_9 (by decide) ?_
    exact hret _ (im, ke) _ _ _ _ hT hP hD hS dX7_keep_10
theorem hv_X7_back : yX7_back.cls = RX7 ∧ yX7_back.cls ≠ "java/lang/invoke/MethodHandle" ∧ yX7_back.cls ≠ "java/lang/invoke/VarHandle" ∧ (parseMethodDescriptor yX7_back.desc).map (fun d => d.parameters.length) = some 1 := by decide +kernel
theorem hd_X7_back : yX7_back.cls ≠ "java/lang/invoke/MethodHandle" ∧ yX7_back.cls ≠ "java/lang/invoke/VarHandle" ∧ (parseMethodDescriptor yX7_back.desc).map (fun d => d.parameters.length) = some 1 := hv_X7_back.2
def lp_X7_back_25 (im : Nat → Int32) (x1 : Int32) : Nat → Int32 → (Nat → Int32) → (Nat → Int32)
  | 0, y_4, st_5 => st_5
  | n + 1, y_4, st_5 => if (254 : Int32) ≤ y_4 then st_5 else (lp_X7_back_25 im x1 n (y_4 + 1) (upd st_5 y_4.toNatClampNeg (im (((254 : Int32) * x1) + y_4).toNatClampNeg)))
theorem lp_X7_back_25_s (im : Nat → Int32) (x1 : Int32) (n : Nat) (y_4 : Int32) (st_5 : Nat → Int32) : (if (254 : Int32) ≤ y_4 then st_5 else (lp_X7_back_25 im x1 n (y_4 + 1) (upd st_5 y_4.toNatClampNeg (im (((254 : Int32) * x1) + y_4).toNatClampNeg)))) = lp_X7_back_25 im x1 (n + 1) y_4 st_5 := rfl
def sp_X7_back (st : Nat → Int32) (im : Nat → Int32) (ke : Nat → Int32) (x1 : Int32) : Int32 × (Nat → Int32) :=
  nm (sp_X7_in x1 (0 : Int32) (1 : Int32)) (fun r_1 => if r_1 = 0 then ((-1 : Int32), st) else (if (ke x1.toNatClampNeg) = 0 then ((-2 : Int32), st) else (nm (lp_X7_back_25 im x1 (((254 : Int32).toInt - (0 : Int32).toInt).toNat + 1) (0 : Int32) st) (fun e_6 => (e_6 (22 : Int32).toNatClampNeg, e_6)))))
theorem sp_X7_back_s (st : Nat → Int32) (im : Nat → Int32) (ke : Nat → Int32) (x1 : Int32) : (nm (sp_X7_in x1 (0 : Int32) (1 : Int32)) (fun r_1 => if r_1 = 0 then ((-1 : Int32), st) else (if (ke x1.toNatClampNeg) = 0 then ((-2 : Int32), st) else (nm (lp_X7_back_25 im x1 (((254 : Int32).toInt - (0 : Int32).toInt).toNat + 1) (0 : Int32) st) (fun e_6 => (e_6 (22 : Int32).toNatClampNeg, e_6)))))) = sp_X7_back st im ke x1 := rfl
set_option maxHeartbeats 4000000 in
set_option maxRecDepth 100000 in
theorem c_X7_back {l : Launch} {D : va_G} {cI cZ cO : ClassId} {mk : Nat → Nat} {mg st im ke se tx sh fa : Nat → Int32} {mt : Int64} {x1 : Int32}  (sz : Nat) : Met l yX7_back (wm yX7_back cX7_back 3 (some .int)) ({ frames := 1, cells := 0, slots := 0, locals := 22 } : Room) (GPre D (ty3 cI cZ cO) (MW cI cZ mk mg st im ke se tx sh fa mt) [.ref (mk 0), .int x1] sz) (va_Qi (fun r (u : (Nat → Int32)) => (r, u) = sp_X7_back st im ke x1) (fun u t => GAt D (ty3 cI cZ cO) (va_A (MW cI cZ mk mg st im ke se tx sh fa mt) sz) (MW cI cZ mk mg u im ke se tx sh fa mt) t) (va_A (MW cI cZ mk mg st im ke se tx sh fa mt) sz)) 0 0 (va_A (MW cI cZ mk mg st im ke se tx sh fa mt) sz) := by
  refine metQ_i (W1 := (fun (u : (Nat → Int32)) => MW cI cZ mk mg u im ke se tx sh fa mt)) (post := (fun r (u : (Nat → Int32)) => (r, u) = sp_X7_back st im ke x1)) (by decide) (Nat.le_of_ble_eq_true rfl) ?_
  intro p e s m args below meth c ls A Q C hsz hP hK hD hS hA hN hl hret
  have hx := C.1
  have hb := C.2.1
  have hl : lv_has ls 3 [(0, .ref (mk 0)), (1, .int x1)] := hl
  have hT := sp_X7_back_s st im ke x1
  refine lv_iload_n hx hb dX7_back_0 rfl (lv_at hl 1 rfl) ?_
  refine lv_iconst (v := 0) hx hb dX7_back_1 (by decide) ?_
  refine lv_iconst (v := 1) hx hb dX7_back_2 (by decide) ?_
  refine vp_callSi (run_sP (As := [.int x1, .int (0 : Int32), .int (1 : Int32)]) (rest := []) C hN (c_X7_in) ⟨wd_3_147, wd_3_148, wd_1_8, wd_3_149⟩ ⟨rfl, rfl⟩ hd_X7_in ⟨Nat.le_of_ble_eq_true rfl, Nat.le_of_ble_eq_true rfl⟩ rfl hl.1 rfl (Nat.le_of_ble_eq_true rfl) dX7_back_3 ⟨Nat.zero_le _, Nat.zero_le _⟩) (fun r_1 hr_1 => ?_)
  have hT := nm_u hr_1.1 hT
  refine lv_if_ne (tgt := 11) hx hb dX7_back_6 (by decide) (fun c_2 => ?_) (fun c_2 => ?_)
  · have hT := it_f c_2 hT
    refine lv_aload_n hx hb dX7_back_11 rfl (lv_at hl 0 rfl) ?_
    refine gX7_isKept C hK hP wd_3_79 dX7_back_12 ?_
    refine lv_iload_n hx hb dX7_back_15 rfl (lv_at hl 1 rfl) ?_
    refine aM_isKept C hK hP (kp_2 hr_1.1 c_2) dX7_back_16 ?_
    refine lv_if_ne (tgt := 23) hx hb dX7_back_17 (by decide) (fun c_3 => ?_) (fun c_3 => ?_)
    · have hT := it_f c_3 hT
      refine lv_iconst (v := 0) hx hb dX7_back_23 (by decide) ?_
      refine lv_istore_n (lv' := [(2, .int (0 : Int32)), (0, .ref (mk 0)), (1, .int x1)]) hx hb dX7_back_24 rfl hl (by decide) rfl (fun ls hl => ?_)
      have L_25 : ∀ (n : Nat) (ls : Array Slot) (y_4 : Int32) (st_5 : Nat → Int32) (z2 : 0 ≤ y_4.toInt) (hm : ((254 : Int32).toInt - y_4.toInt).toNat < n) (H : Heap) (locs : List Loc) (hP : va_P D vwCl (MW cI cZ mk mg st_5 im ke se tx sh fa mt) H) (hD : va_D A (MW cI cZ mk mg st_5 im ke se tx sh fa mt)) (hS : va_S A s.heap H locs) (hl : lv_has ls 3 [(0, .ref (mk 0)), (1, .int x1), (2, .int y_4)]) (kont : ∀ (ls : Array Slot) (e_6 : Nat → Int32) (H : Heap) (locs : List Loc), va_P D vwCl (MW cI cZ mk mg e_6 im ke se tx sh fa mt) H → va_D A (MW cI cZ mk mg e_6 im ke se tx sh fa mt) → va_S A s.heap H locs → lv_has ls 3 [(0, .ref (mk 0))] → e_6 = lp_X7_back_25 im x1 n y_4 st_5 → W p l e ({ frames := 1, cells := 0, slots := 0, locals := 22 } : Room) s m args below meth c H locs 0 0 Q (F0 m 56 ls [])), W p l e ({ frames := 1, cells := 0, slots := 0, locals := 22 } : Room) s m args below meth c H locs 0 0 Q (F0 m 25 ls []) := by
        intro n
        induction n with
        | zero => intro ls y_4 st_5 z2 hm; exact absurd hm (Nat.not_lt_zero _)
        | succ n ih =>
          intro ls y_4 st_5 z2 hm H locs hP hD hS hl kont
          have hT := lp_X7_back_25_s im x1 n y_4 st_5
          refine lv_iload_n hx hb dX7_back_25 rfl (lv_at hl 2 rfl) ?_
          refine lv_sipush (v := 254) hx hb dX7_back_26 (by decide) ?_
          refine lv_icmp_ge (tgt := 56) hx hb dX7_back_29 (by decide) (fun c_7 => ?_) (fun c_7 => ?_)
          · have hT := it_t c_7 hT
            exact kont ls st_5 H locs hP hD hS (lv_sub hl [0] rfl) hT
          · have hT := it_f c_7 hT
            refine lv_aload_n hx hb dX7_back_32 rfl (lv_at hl 0 rfl) ?_
            refine gX7_st C hK hP wd_3_77 dX7_back_33 ?_
            refine lv_iload_n hx hb dX7_back_36 rfl (lv_at hl 2 rfl) ?_
            refine lv_aload_n hx hb dX7_back_37 rfl (lv_at hl 0 rfl) ?_
            refine gX7_images C hK hP wd_3_78 dX7_back_38 ?_
            refine lv_sipush (v := 254) hx hb dX7_back_41 (by decide) ?_
            refine lv_iload_n hx hb dX7_back_44 rfl (lv_at hl 1 rfl) ?_
            refine lv_imul hx hb dX7_back_45 ?_
            refine lv_iload_n hx hb dX7_back_46 rfl (lv_at hl 2 rfl) ?_
            refine lv_iadd hx hb dX7_back_47 ?_
            refine aM_images C hK hP (kp_1 hr_1.1 c_2 z2 c_7) dX7_back_48 ?_
            refine sM_st C hK hP hD hS (ix_inv_nle z2 c_7) dX7_back_49 (fun H locs hP hD hS => ?_)
            refine lv_iinc (v := y_4 + 1) (lv' := [(2, .int (y_4 + 1)), (0, .ref (mk 0)), (1, .int x1)]) hx hb dX7_back_50 hl (k := 2) rfl rfl (by decide) rfl (fun ls hl => ?_)
            refine lv_goto (tgt := 25) hx hb dX7_back_53 (by decide) ?_
            exact ih ls (y_4 + 1) (upd st_5 y_4.toNatClampNeg (im (((254 : Int32) * x1) + y_4).toNatClampNeg)) (up0 c_7 z2) (ms_up c_7 hm) H locs hP hD hS (lv_sub hl [1, 2, 0] rfl) (fun ls z0 H locs hP hD hS hl he => kont ls z0 H locs hP hD hS hl (he.trans hT))
      refine L_25 (((254 : Int32).toInt - (0 : Int32).toInt).toNat + 1) ls (0 : Int32) st (by decide) (Nat.lt_succ_self _) s.heap [] hP hD hS (lv_sub hl [1, 2, 0] rfl) (fun ls e_6 H locs hP hD hS hl he => ?_)
      have hT := nm_u he hT
      refine lv_aload_n hx hb dX7_back_56 rfl (lv_at hl 0 rfl) ?_
      refine gX7_st C hK hP wd_3_77 dX7_back_57 ?_
      refine lv_bipush (v := 22) hx hb dX7_back_60 (by decide) ?_
      refine aM_st C hK hP (ix_of (by decide) (by decide)) dX7_back_62 ?_
      exact hret _ e_6 _ _ _ _ hT hP hD hS dX7_back_63
    · have hT := it_t c_3 hT
      refine lv_bipush (v := -2) hx hb dX7_back_20 (by decide) ?_
      exact hret _ st _ _ _ _ hT hP hD hS dX7_back_22
  · have hT := it_t c_2 hT
    refine lv_iconst (v := -1) hx hb dX7_back_9 (by decide) ?_
    exact hret _ st _ _ _ _ hT hP hD hS dX7_back_10
theorem hv_X7_count : yX7_count.cls = RX7 ∧ yX7_count.cls ≠ "java/lang/invoke/MethodHandle" ∧ yX7_count.cls ≠ "java/lang/invoke/VarHandle" ∧ (parseMethodDescriptor yX7_count.desc).map (fun d => d.parameters.length) = some 1 := by decide +kernel
theorem hd_X7_count : yX7_count.cls ≠ "java/lang/invoke/MethodHandle" ∧ yX7_count.cls ≠ "java/lang/invoke/VarHandle" ∧ (parseMethodDescriptor yX7_count.desc).map (fun d => d.parameters.length) = some 1 := hv_X7_count.2
def sp_X7_count (mg : Nat → Int32) (st : Nat → Int32) (x1 : Int32) : Int32 :=
  if x1 = (0 : Int32) then (mg 0) else (if x1 = (1 : Int32) then (mg 1) else (if x1 = (2 : Int32) then (mg 2) else (if x1 = (3 : Int32) then (st (23 : Int32).toNatClampNeg) else (if x1 = (4 : Int32) then (mg 3) else (-1 : Int32)))))
theorem sp_X7_count_s (mg : Nat → Int32) (st : Nat → Int32) (x1 : Int32) : (if x1 = (0 : Int32) then (mg 0) else (if x1 = (1 : Int32) then (mg 1) else (if x1 = (2 : Int32) then (mg 2) else (if x1 = (3 : Int32) then (st (23 : Int32).toNatClampNeg) else (if x1 = (4 : Int32) then (mg 3) else (-1 : Int32)))))) = sp_X7_count mg st x1 := rfl
set_option maxHeartbeats 4000000 in
set_option maxRecDepth 100000 in
theorem c_X7_count {l : Launch} {D : va_G} {cI cZ cO : ClassId} {mk : Nat → Nat} {mg st im ke se tx sh fa : Nat → Int32} {mt : Int64} {x1 : Int32}  (sz : Nat) : Met l yX7_count (wm yX7_count cX7_count 2 (some .int)) ({ frames := 0, cells := 0, slots := 0, locals := 0 } : Room) (GPre D (ty3 cI cZ cO) (MW cI cZ mk mg st im ke se tx sh fa mt) [.ref (mk 0), .int x1] sz) (vp_Si (fun r => r = sp_X7_count mg st x1)) 0 0 (fun _ => False) := by
  refine metP_i (post := (fun r => r = sp_X7_count mg st x1)) (by decide) (Nat.le_of_ble_eq_true rfl) ?_
  intro p e s m args below meth c ls Q C hsz hP hK hD hN hl hret
  have hx := C.1
  have hb := C.2.1
  have hl : lv_has ls 2 [(0, .ref (mk 0)), (1, .int x1)] := hl
  have hT := sp_X7_count_s mg st x1
  refine lv_iload_n hx hb dX7_count_0 rfl (lv_at hl 1 rfl) ?_
  by_cases c_1 : x1 = (0 : Int32)
  · have hT := it_t c_1 hT
    refine lv_tableIn (tgt := 36) hx hb dX7_count_1 (by rw [c_1]; decide) (by rw [c_1]; decide) (by rw [c_1]; rfl) (by decide) ?_
    refine lv_aload_n hx hb dX7_count_36 rfl (lv_at hl 0 rfl) ?_
    refine gX7_wide C hK hP wd_3_75 dX7_count_37 ?_
    exact hret _ _ _ hT dX7_count_40
  · have hT := it_f c_1 hT
    by_cases c_2 : x1 = (1 : Int32)
    · have hT := it_t c_2 hT
      refine lv_tableIn (tgt := 41) hx hb dX7_count_1 (by rw [c_2]; decide) (by rw [c_2]; decide) (by rw [c_2]; rfl) (by decide) ?_
      refine lv_aload_n hx hb dX7_count_41 rfl (lv_at hl 0 rfl) ?_
      refine gX7_rows C hK hP wd_3_76 dX7_count_42 ?_
      exact hret _ _ _ hT dX7_count_45
    · have hT := it_f c_2 hT
      by_cases c_3 : x1 = (2 : Int32)
      · have hT := it_t c_3 hT
        refine lv_tableIn (tgt := 46) hx hb dX7_count_1 (by rw [c_3]; decide) (by rw [c_3]; decide) (by rw [c_3]; rfl) (by decide) ?_
        refine lv_aload_n hx hb dX7_count_46 rfl (lv_at hl 0 rfl) ?_
        refine gX7_seenMany C hK hP wd_3_80 dX7_count_47 ?_
        exact hret _ _ _ hT dX7_count_50
      · have hT := it_f c_3 hT
        by_cases c_4 : x1 = (3 : Int32)
        · have hT := it_t c_4 hT
          refine lv_tableIn (tgt := 51) hx hb dX7_count_1 (by rw [c_4]; decide) (by rw [c_4]; decide) (by rw [c_4]; rfl) (by decide) ?_
          refine lv_aload_n hx hb dX7_count_51 rfl (lv_at hl 0 rfl) ?_
          refine gX7_st C hK hP wd_3_77 dX7_count_52 ?_
          refine lv_bipush (v := 23) hx hb dX7_count_55 (by decide) ?_
          refine aM_st C hK hP (ix_of (by decide) (by decide)) dX7_count_57 ?_
          exact hret _ _ _ hT dX7_count_58
        · have hT := it_f c_4 hT
          by_cases c_5 : x1 = (4 : Int32)
          · have hT := it_t c_5 hT
            refine lv_tableIn (tgt := 59) hx hb dX7_count_1 (by rw [c_5]; decide) (by rw [c_5]; decide) (by rw [c_5]; rfl) (by decide) ?_
            refine lv_aload_n hx hb dX7_count_59 rfl (lv_at hl 0 rfl) ?_
            refine gX7_texted C hK hP wd_3_84 dX7_count_60 ?_
            exact hret _ _ _ hT dX7_count_63
          · have hT := it_f c_5 hT
            refine lv_tableOut (tgt := 64) hx hb dX7_count_1 (by have h0 := lv_neT (a := 0) c_1 rfl; have h1 := lv_neT (a := 1) c_2 rfl; have h2 := lv_neT (a := 2) c_3 rfl; have h3 := lv_neT (a := 3) c_4 rfl; have h4 := lv_neT (a := 4) c_5 rfl; omega) (by decide) ?_
            refine lv_iconst (v := -1) hx hb dX7_count_64 (by decide) ?_
            exact hret _ _ _ hT dX7_count_65
theorem hv_X7_trace : yX7_trace.cls = RX7 ∧ yX7_trace.cls ≠ "java/lang/invoke/MethodHandle" ∧ yX7_trace.cls ≠ "java/lang/invoke/VarHandle" ∧ (parseMethodDescriptor yX7_trace.desc).map (fun d => d.parameters.length) = some 0 := by decide +kernel
theorem hd_X7_trace : yX7_trace.cls ≠ "java/lang/invoke/MethodHandle" ∧ yX7_trace.cls ≠ "java/lang/invoke/VarHandle" ∧ (parseMethodDescriptor yX7_trace.desc).map (fun d => d.parameters.length) = some 0 := hv_X7_trace.2
def sp_X7_trace (mt : Int64) : Int64 :=
  mt
theorem sp_X7_trace_s (mt : Int64) : (mt) = sp_X7_trace mt := rfl
set_option maxHeartbeats 4000000 in
set_option maxRecDepth 100000 in
theorem c_X7_trace {l : Launch} {D : va_G} {cI cZ cO : ClassId} {mk : Nat → Nat} {mg st im ke se tx sh fa : Nat → Int32} {mt : Int64}   (sz : Nat) : Met l yX7_trace (wm yX7_trace cX7_trace 1 (some .long)) ({ frames := 0, cells := 0, slots := 0, locals := 0 } : Room) (GPre D (ty3 cI cZ cO) (MW cI cZ mk mg st im ke se tx sh fa mt) [.ref (mk 0)] sz) (vp_Sl (fun r => r = sp_X7_trace mt)) 0 0 (fun _ => False) := by
  refine metP_l (post := (fun r => r = sp_X7_trace mt)) (by decide) (Nat.le_of_ble_eq_true rfl) ?_
  intro p e s m args below meth c ls Q C hsz hP hK hD hN hl hret
  have hx := C.1
  have hb := C.2.1
  have hl : lv_has ls 1 [(0, .ref (mk 0))] := hl
  have hT := sp_X7_trace_s mt
  refine lv_aload_n hx hb dX7_trace_0 rfl (lv_at hl 0 rfl) ?_
  refine gX7_trace C hK hP wd_3_82 dX7_trace_1 ?_
  exact hret _ _ _ hT dX7_trace_4
theorem hv_X7_clear : yX7_clear.cls = RX7 ∧ yX7_clear.cls ≠ "java/lang/invoke/MethodHandle" ∧ yX7_clear.cls ≠ "java/lang/invoke/VarHandle" ∧ (parseMethodDescriptor yX7_clear.desc).map (fun d => d.parameters.length) = some 0 := by decide +kernel
theorem hd_X7_clear : yX7_clear.cls ≠ "java/lang/invoke/MethodHandle" ∧ yX7_clear.cls ≠ "java/lang/invoke/VarHandle" ∧ (parseMethodDescriptor yX7_clear.desc).map (fun d => d.parameters.length) = some 0 := hv_X7_clear.2
def sp_X7_clear (mg : Nat → Int32) : Int32 × (Nat → Int32) :=
  (mg 3, upd mg 3 (0 : Int32))
theorem sp_X7_clear_s (mg : Nat → Int32) : ((mg 3, upd mg 3 (0 : Int32))) = sp_X7_clear mg := rfl
set_option maxHeartbeats 4000000 in
set_option maxRecDepth 100000 in
theorem c_X7_clear {l : Launch} {D : va_G} {cI cZ cO : ClassId} {mk : Nat → Nat} {mg st im ke se tx sh fa : Nat → Int32} {mt : Int64}   (sz : Nat) : Met l yX7_clear (wm yX7_clear cX7_clear 2 (some .int)) ({ frames := 0, cells := 0, slots := 0, locals := 0 } : Room) (GPre D (ty3 cI cZ cO) (MW cI cZ mk mg st im ke se tx sh fa mt) [.ref (mk 0)] sz) (va_Qi (fun r (u : (Nat → Int32)) => (r, u) = sp_X7_clear mg) (fun u t => GAt D (ty3 cI cZ cO) (va_A (MW cI cZ mk mg st im ke se tx sh fa mt) sz) (MW cI cZ mk u st im ke se tx sh fa mt) t) (va_A (MW cI cZ mk mg st im ke se tx sh fa mt) sz)) 0 0 (va_A (MW cI cZ mk mg st im ke se tx sh fa mt) sz) := by
  refine metQ_i (W1 := (fun (u : (Nat → Int32)) => MW cI cZ mk u st im ke se tx sh fa mt)) (post := (fun r (u : (Nat → Int32)) => (r, u) = sp_X7_clear mg)) (by decide) (Nat.le_of_ble_eq_true rfl) ?_
  intro p e s m args below meth c ls A Q C hsz hP hK hD hS hA hN hl hret
  have hx := C.1
  have hb := C.2.1
  have hl : lv_has ls 2 [(0, .ref (mk 0))] := hl
  have hT := sp_X7_clear_s mg
  refine lv_aload_n hx hb dX7_clear_0 rfl (lv_at hl 0 rfl) ?_
  refine gX7_texted C hK hP wd_3_84 dX7_clear_1 ?_
  refine lv_istore_n (lv' := [(1, .int (mg 3)), (0, .ref (mk 0))]) hx hb dX7_clear_4 rfl hl (by decide) rfl (fun ls hl => ?_)
  refine lv_aload_n hx hb dX7_clear_5 rfl (lv_at hl 1 rfl) ?_
  refine lv_iconst (v := 0) hx hb dX7_clear_6 (by decide) ?_
  refine pX7_texted C hK hP hD hS wd_3_84 dX7_clear_7 (fun H locs hP hD hS => ?_)
  refine lv_iload_n hx hb dX7_clear_10 rfl (lv_at hl 0 rfl) ?_
  exact hret _ (upd mg 3 (0 : Int32)) _ _ _ _ hT hP hD hS dX7_clear_11
theorem hv_X7_type : yX7_type.cls = RX7 ∧ yX7_type.cls ≠ "java/lang/invoke/MethodHandle" ∧ yX7_type.cls ≠ "java/lang/invoke/VarHandle" ∧ (parseMethodDescriptor yX7_type.desc).map (fun d => d.parameters.length) = some 1 := by decide +kernel
theorem hd_X7_type : yX7_type.cls ≠ "java/lang/invoke/MethodHandle" ∧ yX7_type.cls ≠ "java/lang/invoke/VarHandle" ∧ (parseMethodDescriptor yX7_type.desc).map (fun d => d.parameters.length) = some 1 := hv_X7_type.2
def sp_X7_type (mg : Nat → Int32) (tx : Nat → Int32) (x1 : Int32) : Int32 × (Nat → Int32) × (Nat → Int32) :=
  nm (sp_X7_in x1 (0 : Int32) (255 : Int32)) (fun r_1 => if r_1 = 0 then ((-1 : Int32), mg, tx) else (if (mg 3) = (150 : Int32) then ((-3 : Int32), mg, tx) else ((upd mg 3 ((mg 3) + (1 : Int32))) 3, upd mg 3 ((mg 3) + (1 : Int32)), upd tx (mg 3).toNatClampNeg x1)))
theorem sp_X7_type_s (mg : Nat → Int32) (tx : Nat → Int32) (x1 : Int32) : (nm (sp_X7_in x1 (0 : Int32) (255 : Int32)) (fun r_1 => if r_1 = 0 then ((-1 : Int32), mg, tx) else (if (mg 3) = (150 : Int32) then ((-3 : Int32), mg, tx) else ((upd mg 3 ((mg 3) + (1 : Int32))) 3, upd mg 3 ((mg 3) + (1 : Int32)), upd tx (mg 3).toNatClampNeg x1)))) = sp_X7_type mg tx x1 := rfl
set_option maxHeartbeats 4000000 in
set_option maxRecDepth 100000 in
theorem c_X7_type {l : Launch} {D : va_G} {cI cZ cO : ClassId} {mk : Nat → Nat} {mg st im ke se tx sh fa : Nat → Int32} {mt : Int64} {x1 : Int32} (htx : 0 ≤ (mg 3).toInt ∧ (mg 3).toInt ≤ 150) (sz : Nat) : Met l yX7_type (wm yX7_type cX7_type 2 (some .int)) ({ frames := 1, cells := 0, slots := 0, locals := 22 } : Room) (GPre D (ty3 cI cZ cO) (MW cI cZ mk mg st im ke se tx sh fa mt) [.ref (mk 0), .int x1] sz) (va_Qi (fun r (u : (Nat → Int32) × (Nat → Int32)) => (r, u) = sp_X7_type mg tx x1) (fun u t => GAt D (ty3 cI cZ cO) (va_A (MW cI cZ mk mg st im ke se tx sh fa mt) sz) (MW cI cZ mk u.1 st im ke se u.2 sh fa mt) t) (va_A (MW cI cZ mk mg st im ke se tx sh fa mt) sz)) 0 0 (va_A (MW cI cZ mk mg st im ke se tx sh fa mt) sz) := by
  refine metQ_i (W1 := (fun (u : (Nat → Int32) × (Nat → Int32)) => MW cI cZ mk u.1 st im ke se u.2 sh fa mt)) (post := (fun r (u : (Nat → Int32) × (Nat → Int32)) => (r, u) = sp_X7_type mg tx x1)) (by decide) (Nat.le_of_ble_eq_true rfl) ?_
  intro p e s m args below meth c ls A Q C hsz hP hK hD hS hA hN hl hret
  have hx := C.1
  have hb := C.2.1
  have hl : lv_has ls 2 [(0, .ref (mk 0)), (1, .int x1)] := hl
  have hT := sp_X7_type_s mg tx x1
  refine lv_iload_n hx hb dX7_type_0 rfl (lv_at hl 1 rfl) ?_
  refine lv_iconst (v := 0) hx hb dX7_type_1 (by decide) ?_
  refine lv_sipush (v := 255) hx hb dX7_type_2 (by decide) ?_
  refine vp_callSi (run_sP (As := [.int x1, .int (0 : Int32), .int (255 : Int32)]) (rest := []) C hN (c_X7_in) ⟨wd_3_147, wd_3_148, wd_1_8, wd_3_149⟩ ⟨rfl, rfl⟩ hd_X7_in ⟨Nat.le_of_ble_eq_true rfl, Nat.le_of_ble_eq_true rfl⟩ rfl hl.1 rfl (Nat.le_of_ble_eq_true rfl) dX7_type_5 ⟨Nat.zero_le _, Nat.zero_le _⟩) (fun r_1 hr_1 => ?_)
  have hT := nm_u hr_1.1 hT
  refine lv_if_ne (tgt := 13) hx hb dX7_type_8 (by decide) (fun c_2 => ?_) (fun c_2 => ?_)
  · have hT := it_f c_2 hT
    refine lv_aload_n hx hb dX7_type_13 rfl (lv_at hl 0 rfl) ?_
    refine gX7_texted C hK hP wd_3_84 dX7_type_14 ?_
    refine lv_sipush (v := 150) hx hb dX7_type_17 (by decide) ?_
    refine lv_icmp_ne (tgt := 26) hx hb dX7_type_20 (by decide) (fun c_3 => ?_) (fun c_3 => ?_)
    · have hT := it_f c_3 hT
      refine lv_aload_n hx hb dX7_type_26 rfl (lv_at hl 0 rfl) ?_
      refine gX7_text C hK hP wd_3_83 dX7_type_27 ?_
      refine lv_aload_n hx hb dX7_type_30 rfl (lv_at hl 0 rfl) ?_
      refine gX7_texted C hK hP wd_3_84 dX7_type_31 ?_
      refine lv_iload_n hx hb dX7_type_34 rfl (lv_at hl 1 rfl) ?_
      refine sM_text C hK hP hD hS (ty_1 htx c_3) dX7_type_35 (fun H locs hP hD hS => ?_)
      refine lv_aload_n hx hb dX7_type_36 rfl (lv_at hl 0 rfl) ?_
      refine lv_dup hx hb dX7_type_37 rfl ?_
      refine gX7_texted C hK hP wd_3_84 dX7_type_38 ?_
      refine lv_iconst (v := 1) hx hb dX7_type_41 (by decide) ?_
      refine lv_iadd hx hb dX7_type_42 ?_
      refine pX7_texted C hK hP hD hS wd_3_84 dX7_type_43 (fun H locs hP hD hS => ?_)
      refine lv_aload_n hx hb dX7_type_46 rfl (lv_at hl 0 rfl) ?_
      refine gX7_texted C hK hP wd_3_84 dX7_type_47 ?_
      exact hret _ (upd mg 3 ((mg 3) + (1 : Int32)), upd tx (mg 3).toNatClampNeg x1) _ _ _ _ hT hP hD hS dX7_type_50
    · have hT := it_t c_3 hT
      refine lv_bipush (v := -3) hx hb dX7_type_23 (by decide) ?_
      exact hret _ (mg, tx) _ _ _ _ hT hP hD hS dX7_type_25
  · have hT := it_t c_2 hT
    refine lv_iconst (v := -1) hx hb dX7_type_11 (by decide) ?_
    exact hret _ (mg, tx) _ _ _ _ hT hP hD hS dX7_type_12
