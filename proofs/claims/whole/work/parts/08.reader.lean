theorem hv_X1_readToken : yX1_readToken.cls = RX1 ∧ yX1_readToken.cls ≠ "java/lang/invoke/MethodHandle" ∧ yX1_readToken.cls ≠ "java/lang/invoke/VarHandle" ∧ (parseMethodDescriptor yX1_readToken.desc).map (fun d => d.parameters.length) = some 0 := by decide +kernel
theorem hd_X1_readToken : yX1_readToken.cls ≠ "java/lang/invoke/MethodHandle" ∧ yX1_readToken.cls ≠ "java/lang/invoke/VarHandle" ∧ (parseMethodDescriptor yX1_readToken.desc).map (fun d => d.parameters.length) = some 0 := hv_X1_readToken.2
def lp_X1_readToken_2 (tb : Nat → Int32) : Nat → Int32 → (Nat → Int32) → (Nat → Int32)
  | 0, y_1, g_2 => g_2
  | n + 1, y_1, g_2 => if (150 : Int32) ≤ y_1 then g_2 else (nm (sp_X5_byteAt g_2 tb (g_2 0)) (fun r_5 => if r_5 = (32 : Int32) then (lp_X1_readToken_2 tb n (y_1 + 1) (upd g_2 0 ((g_2 0) + (1 : Int32)))) else g_2))
theorem lp_X1_readToken_2_s (tb : Nat → Int32) (n : Nat) (y_1 : Int32) (g_2 : Nat → Int32) : (if (150 : Int32) ≤ y_1 then g_2 else (nm (sp_X5_byteAt g_2 tb (g_2 0)) (fun r_5 => if r_5 = (32 : Int32) then (lp_X1_readToken_2 tb n (y_1 + 1) (upd g_2 0 ((g_2 0) + (1 : Int32)))) else g_2))) = lp_X1_readToken_2 tb (n + 1) y_1 g_2 := rfl
def lp_X1_readToken_93 (tb : Nat → Int32) (v_9 : Int32) : Nat → Int32 → (Nat → Int32) → (Nat → Int32)
  | 0, y_10, g_11 => g_11
  | n + 1, y_10, g_11 => if v_9 ≤ y_10 then g_11 else (nm (sp_X5_byteAt g_11 tb (g_11 0)) (fun r_14 => nm (sp_X1_tokenOf r_14) (fun r_15 => if r_15 = (g_11 2) then (lp_X1_readToken_93 tb v_9 n (y_10 + 1) (upd g_11 0 ((g_11 0) + (1 : Int32)))) else g_11)))
theorem lp_X1_readToken_93_s (tb : Nat → Int32) (v_9 : Int32) (n : Nat) (y_10 : Int32) (g_11 : Nat → Int32) : (if v_9 ≤ y_10 then g_11 else (nm (sp_X5_byteAt g_11 tb (g_11 0)) (fun r_14 => nm (sp_X1_tokenOf r_14) (fun r_15 => if r_15 = (g_11 2) then (lp_X1_readToken_93 tb v_9 n (y_10 + 1) (upd g_11 0 ((g_11 0) + (1 : Int32)))) else g_11)))) = lp_X1_readToken_93 tb v_9 (n + 1) y_10 g_11 := rfl
def jn_X1_readToken_163 (e_12 : Nat → Int32) (v_18 : Int32) : (Nat → Int32) :=
  if ((e_12 0) - (e_12 1)) = (1 : Int32) then (upd e_12 3 v_18) else (upd e_12 3 (-1 : Int32))
theorem jn_X1_readToken_163_s (e_12 : Nat → Int32) (v_18 : Int32) : (if ((e_12 0) - (e_12 1)) = (1 : Int32) then (upd e_12 3 v_18) else (upd e_12 3 (-1 : Int32))) = jn_X1_readToken_163 e_12 v_18 := rfl
def jn_X1_readToken_90 (tb : Nat → Int32) (e_3 : Nat → Int32) (r_8 : Int32) (v_9 : Int32) : (Nat → Int32) :=
  nm (lp_X1_readToken_93 tb v_9 (((v_9).toInt - (0 : Int32).toInt).toNat + 1) (0 : Int32) (upd (upd e_3 1 (e_3 0)) 2 r_8)) (fun e_12 => nm (sp_X5_byteAt e_12 tb (e_12 1)) (fun r_17 => if (e_12 2) = (2 : Int32) then (jn_X1_readToken_163 e_12 (r_17 - (48 : Int32))) else (jn_X1_readToken_163 e_12 r_17)))
theorem jn_X1_readToken_90_s (tb : Nat → Int32) (e_3 : Nat → Int32) (r_8 : Int32) (v_9 : Int32) : (nm (lp_X1_readToken_93 tb v_9 (((v_9).toInt - (0 : Int32).toInt).toNat + 1) (0 : Int32) (upd (upd e_3 1 (e_3 0)) 2 r_8)) (fun e_12 => nm (sp_X5_byteAt e_12 tb (e_12 1)) (fun r_17 => if (e_12 2) = (2 : Int32) then (jn_X1_readToken_163 e_12 (r_17 - (48 : Int32))) else (jn_X1_readToken_163 e_12 r_17)))) = jn_X1_readToken_90 tb e_3 r_8 v_9 := rfl
def sp_X1_readToken (g : Nat → Int32) (tb : Nat → Int32) : (Nat → Int32) :=
  nm (lp_X1_readToken_2 tb (((150 : Int32).toInt - (0 : Int32).toInt).toNat + 1) (0 : Int32) g) (fun e_3 => nm (sp_X5_byteAt (upd e_3 1 (e_3 0)) tb ((upd e_3 1 (e_3 0)) 0)) (fun r_7 => nm (sp_X1_tokenOf r_7) (fun r_8 => if ((upd (upd e_3 1 (e_3 0)) 2 r_8) 2) = (1 : Int32) then (jn_X1_readToken_90 tb e_3 r_8 (150 : Int32)) else (if ((upd (upd e_3 1 (e_3 0)) 2 r_8) 2) = (2 : Int32) then (jn_X1_readToken_90 tb e_3 r_8 (150 : Int32)) else (jn_X1_readToken_90 tb e_3 r_8 (1 : Int32))))))
theorem sp_X1_readToken_s (g : Nat → Int32) (tb : Nat → Int32) : (nm (lp_X1_readToken_2 tb (((150 : Int32).toInt - (0 : Int32).toInt).toNat + 1) (0 : Int32) g) (fun e_3 => nm (sp_X5_byteAt (upd e_3 1 (e_3 0)) tb ((upd e_3 1 (e_3 0)) 0)) (fun r_7 => nm (sp_X1_tokenOf r_7) (fun r_8 => if ((upd (upd e_3 1 (e_3 0)) 2 r_8) 2) = (1 : Int32) then (jn_X1_readToken_90 tb e_3 r_8 (150 : Int32)) else (if ((upd (upd e_3 1 (e_3 0)) 2 r_8) 2) = (2 : Int32) then (jn_X1_readToken_90 tb e_3 r_8 (150 : Int32)) else (jn_X1_readToken_90 tb e_3 r_8 (1 : Int32))))))) = sp_X1_readToken g tb := rfl
set_option maxHeartbeats 4000000 in
set_option maxRecDepth 100000 in
theorem c_X1_readToken {l : Launch} {D : va_G} {cI cZ cO : ClassId} {sk : Nat → Nat} {g tb : Nat → Int32} {V Hd : Nat → Nat → Int32} {tr : Int64}   (sz : Nat) : Met l yX1_readToken (wm yX1_readToken cX1_readToken 4 none) ({ frames := 1, cells := 0, slots := 0, locals := 21 } : Room) (GPre D (ty3 cI cZ cO) (WW cI cO sk g tb V Hd tr) [.ref (sk 1)] sz) (va_Qv (fun (u : (Nat → Int32)) => u = sp_X1_readToken g tb) (fun u t => GAt D (ty3 cI cZ cO) (va_A (WW cI cO sk g tb V Hd tr) sz) (WW cI cO sk u tb V Hd tr) t) (va_A (WW cI cO sk g tb V Hd tr) sz)) 0 0 (va_A (WW cI cO sk g tb V Hd tr) sz) := by
  refine metQ_v (W1 := (fun (u : (Nat → Int32)) => WW cI cO sk u tb V Hd tr)) (post := (fun (u : (Nat → Int32)) => u = sp_X1_readToken g tb)) (by decide) (Nat.le_of_ble_eq_true rfl) ?_
  intro p e s m args below meth c ls A Q C hsz hP hK hD hS hA hN hl hret
  have hx := C.1
  have hb := C.2.1
  have hl : lv_has ls 4 [(0, .ref (sk 1))] := hl
  have hT := sp_X1_readToken_s g tb
  refine lv_iconst (v := 0) hx hb dX1_readToken_0 (by decide) ?_
  refine lv_istore_n (lv' := [(1, .int (0 : Int32)), (0, .ref (sk 1))]) hx hb dX1_readToken_1 rfl hl (by decide) rfl (fun ls hl => ?_)
  have L_2 : ∀ (n : Nat) (ls : Array Slot) (y_1 : Int32) (g_2 : Nat → Int32) (hm : ((150 : Int32).toInt - y_1.toInt).toNat < n) (H : Heap) (locs : List Loc) (hP : va_P D vwCl (WW cI cO sk g_2 tb V Hd tr) H) (hD : va_D A (WW cI cO sk g_2 tb V Hd tr)) (hS : va_S A s.heap H locs) (hl : lv_has ls 4 [(0, .ref (sk 1)), (1, .int y_1)]) (kont : ∀ (ls : Array Slot) (e_3 : Nat → Int32) (H : Heap) (locs : List Loc), va_P D vwCl (WW cI cO sk e_3 tb V Hd tr) H → va_D A (WW cI cO sk e_3 tb V Hd tr) → va_S A s.heap H locs → lv_has ls 4 [(0, .ref (sk 1))] → e_3 = lp_X1_readToken_2 tb n y_1 g_2 → W p l e ({ frames := 1, cells := 0, slots := 0, locals := 21 } : Room) s m args below meth c H locs 0 0 Q (F0 m 41 ls [])), W p l e ({ frames := 1, cells := 0, slots := 0, locals := 21 } : Room) s m args below meth c H locs 0 0 Q (F0 m 2 ls []) := by
    intro n
    induction n with
    | zero => intro ls y_1 g_2 hm; exact absurd hm (Nat.not_lt_zero _)
    | succ n ih =>
      intro ls y_1 g_2 hm H locs hP hD hS hl kont
      have hT := lp_X1_readToken_2_s tb n y_1 g_2
      refine lv_iload_n hx hb dX1_readToken_2 rfl (lv_at hl 1 rfl) ?_
      refine lv_sipush (v := 150) hx hb dX1_readToken_3 (by decide) ?_
      refine lv_icmp_ge (tgt := 41) hx hb dX1_readToken_6 (by decide) (fun c_4 => ?_) (fun c_4 => ?_)
      · have hT := it_t c_4 hT
        exact kont ls g_2 H locs hP hD hS (lv_sub hl [0] rfl) hT
      · have hT := it_f c_4 hT
        refine lv_aload_n hx hb dX1_readToken_9 rfl (lv_at hl 0 rfl) ?_
        refine gX1_text C hK hP wd_1_74 dX1_readToken_10 ?_
        refine lv_aload_n hx hb dX1_readToken_13 rfl (lv_at hl 0 rfl) ?_
        refine gX1_place C hK hP wd_1_78 dX1_readToken_14 ?_
        refine vp_callSi (run_vP (As := [.int (g_2 0)]) (rest := []) C hK hP hD hN (c_X5_byteAt _) (rX5_r hK hP) ⟨wd_1_219, wd_1_220, wd_1_221, wd_1_3, wd_1_222⟩ ⟨rfl, rfl⟩ hv_X5_byteAt ⟨Nat.le_of_ble_eq_true rfl, Nat.le_of_ble_eq_true rfl⟩ rfl hl.1 rfl (Nat.le_of_ble_eq_true rfl) dX1_readToken_17 ⟨Nat.zero_le _, Nat.zero_le _⟩) (fun r_5 hr_5 => ?_)
        have hT := nm_u hr_5 hT
        refine lv_bipush (v := 32) hx hb dX1_readToken_20 (by decide) ?_
        refine lv_icmp_ne (tgt := 41) hx hb dX1_readToken_22 (by decide) (fun c_6 => ?_) (fun c_6 => ?_)
        · have hT := it_f c_6 hT
          exact kont ls g_2 H locs hP hD hS (lv_sub hl [0] rfl) hT
        · have hT := it_t c_6 hT
          refine lv_aload_n hx hb dX1_readToken_25 rfl (lv_at hl 0 rfl) ?_
          refine lv_dup hx hb dX1_readToken_26 rfl ?_
          refine gX1_place C hK hP wd_1_78 dX1_readToken_27 ?_
          refine lv_iconst (v := 1) hx hb dX1_readToken_30 (by decide) ?_
          refine lv_iadd hx hb dX1_readToken_31 ?_
          refine pX1_place C hK hP hD hS wd_1_78 dX1_readToken_32 (fun H locs hP hD hS => ?_)
          refine lv_iinc (v := y_1 + 1) (lv' := [(1, .int (y_1 + 1)), (0, .ref (sk 1))]) hx hb dX1_readToken_35 hl (k := 1) rfl rfl (by decide) rfl (fun ls hl => ?_)
          refine lv_goto (tgt := 2) hx hb dX1_readToken_38 (by decide) ?_
          exact ih ls (y_1 + 1) (upd g_2 0 ((g_2 0) + (1 : Int32))) (ms_up c_4 hm) H locs hP hD hS (lv_sub hl [1, 0] rfl) (fun ls z0 H locs hP hD hS hl he => kont ls z0 H locs hP hD hS hl (he.trans hT))
  refine L_2 (((150 : Int32).toInt - (0 : Int32).toInt).toNat + 1) ls (0 : Int32) g (Nat.lt_succ_self _) s.heap [] hP hD hS (lv_sub hl [1, 0] rfl) (fun ls e_3 H locs hP hD hS hl he => ?_)
  have hT := nm_u he hT
  refine lv_aload_n hx hb dX1_readToken_41 rfl (lv_at hl 0 rfl) ?_
  refine lv_aload_n hx hb dX1_readToken_42 rfl (lv_at hl 0 rfl) ?_
  refine gX1_place C hK hP wd_1_78 dX1_readToken_43 ?_
  refine pX1_start C hK hP hD hS wd_1_79 dX1_readToken_46 (fun H locs hP hD hS => ?_)
  refine lv_aload_n hx hb dX1_readToken_49 rfl (lv_at hl 0 rfl) ?_
  refine lv_aload_n hx hb dX1_readToken_50 rfl (lv_at hl 0 rfl) ?_
  refine gX1_text C hK hP wd_1_74 dX1_readToken_51 ?_
  refine lv_aload_n hx hb dX1_readToken_54 rfl (lv_at hl 0 rfl) ?_
  refine gX1_place C hK hP wd_1_78 dX1_readToken_55 ?_
  refine vp_callSi (run_vP (As := [.int ((upd e_3 1 (e_3 0)) 0)]) (rest := [.ref (sk 1)]) C hK hP hD hN (c_X5_byteAt _) (rX5_r hK hP) ⟨wd_1_219, wd_1_220, wd_1_221, wd_1_3, wd_1_222⟩ ⟨rfl, rfl⟩ hv_X5_byteAt ⟨Nat.le_of_ble_eq_true rfl, Nat.le_of_ble_eq_true rfl⟩ rfl hl.1 rfl (Nat.le_of_ble_eq_true rfl) dX1_readToken_58 ⟨Nat.zero_le _, Nat.zero_le _⟩) (fun r_7 hr_7 => ?_)
  have hT := nm_u hr_7 hT
  refine vp_callSi (run_sP (As := [.int r_7]) (rest := [.ref (sk 1)]) C hN (c_X1_tokenOf) ⟨wd_1_223, wd_1_224, wd_1_2, wd_1_225⟩ ⟨rfl, rfl⟩ hd_X1_tokenOf ⟨Nat.le_of_ble_eq_true rfl, Nat.le_of_ble_eq_true rfl⟩ rfl hl.1 rfl (Nat.le_of_ble_eq_true rfl) dX1_readToken_61 ⟨Nat.zero_le _, Nat.zero_le _⟩) (fun r_8 hr_8 => ?_)
  have hT := nm_u hr_8 hT
  refine pX1_token C hK hP hD hS wd_1_80 dX1_readToken_64 (fun H locs hP hD hS => ?_)
  refine lv_aload_n hx hb dX1_readToken_67 rfl (lv_at hl 0 rfl) ?_
  refine gX1_token C hK hP wd_1_80 dX1_readToken_68 ?_
  refine lv_iconst (v := 1) hx hb dX1_readToken_71 (by decide) ?_
  have K_90 : ∀ (ls : Array Slot) (v_9 : Int32) (hl : lv_has ls 4 [(0, .ref (sk 1))]) (hT0 : jn_X1_readToken_90 tb e_3 r_8 v_9 = sp_X1_readToken g tb), W p l e ({ frames := 1, cells := 0, slots := 0, locals := 21 } : Room) s m args below meth c H locs 0 0 Q (F0 m 90 ls [.int v_9]) := by
    intro ls v_9 hl hT0
    have hT := (jn_X1_readToken_90_s tb e_3 r_8 v_9).trans hT0
    refine lv_istore_n (lv' := [(1, .int v_9), (0, .ref (sk 1))]) hx hb dX1_readToken_90 rfl hl (by decide) rfl (fun ls hl => ?_)
    refine lv_iconst (v := 0) hx hb dX1_readToken_91 (by decide) ?_
    refine lv_istore_n (lv' := [(2, .int (0 : Int32)), (1, .int v_9), (0, .ref (sk 1))]) hx hb dX1_readToken_92 rfl hl (by decide) rfl (fun ls hl => ?_)
    have L_93 : ∀ (n : Nat) (ls : Array Slot) (y_10 : Int32) (g_11 : Nat → Int32) (hm : ((v_9).toInt - y_10.toInt).toNat < n) (H : Heap) (locs : List Loc) (hP : va_P D vwCl (WW cI cO sk g_11 tb V Hd tr) H) (hD : va_D A (WW cI cO sk g_11 tb V Hd tr)) (hS : va_S A s.heap H locs) (hl : lv_has ls 4 [(0, .ref (sk 1)), (1, .int v_9), (2, .int y_10)]) (kont : ∀ (ls : Array Slot) (e_12 : Nat → Int32) (H : Heap) (locs : List Loc), va_P D vwCl (WW cI cO sk e_12 tb V Hd tr) H → va_D A (WW cI cO sk e_12 tb V Hd tr) → va_S A s.heap H locs → lv_has ls 4 [(0, .ref (sk 1))] → e_12 = lp_X1_readToken_93 tb v_9 n y_10 g_11 → W p l e ({ frames := 1, cells := 0, slots := 0, locals := 21 } : Room) s m args below meth c H locs 0 0 Q (F0 m 135 ls [])), W p l e ({ frames := 1, cells := 0, slots := 0, locals := 21 } : Room) s m args below meth c H locs 0 0 Q (F0 m 93 ls []) := by
      intro n
      induction n with
      | zero => intro ls y_10 g_11 hm; exact absurd hm (Nat.not_lt_zero _)
      | succ n ih =>
        intro ls y_10 g_11 hm H locs hP hD hS hl kont
        have hT := lp_X1_readToken_93_s tb v_9 n y_10 g_11
        refine lv_iload_n hx hb dX1_readToken_93 rfl (lv_at hl 2 rfl) ?_
        refine lv_iload_n hx hb dX1_readToken_94 rfl (lv_at hl 1 rfl) ?_
        refine lv_icmp_ge (tgt := 135) hx hb dX1_readToken_95 (by decide) (fun c_13 => ?_) (fun c_13 => ?_)
        · have hT := it_t c_13 hT
          exact kont ls g_11 H locs hP hD hS (lv_sub hl [0] rfl) hT
        · have hT := it_f c_13 hT
          refine lv_aload_n hx hb dX1_readToken_98 rfl (lv_at hl 0 rfl) ?_
          refine gX1_text C hK hP wd_1_74 dX1_readToken_99 ?_
          refine lv_aload_n hx hb dX1_readToken_102 rfl (lv_at hl 0 rfl) ?_
          refine gX1_place C hK hP wd_1_78 dX1_readToken_103 ?_
          refine vp_callSi (run_vP (As := [.int (g_11 0)]) (rest := []) C hK hP hD hN (c_X5_byteAt _) (rX5_r hK hP) ⟨wd_1_219, wd_1_220, wd_1_221, wd_1_3, wd_1_222⟩ ⟨rfl, rfl⟩ hv_X5_byteAt ⟨Nat.le_of_ble_eq_true rfl, Nat.le_of_ble_eq_true rfl⟩ rfl hl.1 rfl (Nat.le_of_ble_eq_true rfl) dX1_readToken_106 ⟨Nat.zero_le _, Nat.zero_le _⟩) (fun r_14 hr_14 => ?_)
          have hT := nm_u hr_14 hT
          refine vp_callSi (run_sP (As := [.int r_14]) (rest := []) C hN (c_X1_tokenOf) ⟨wd_1_223, wd_1_224, wd_1_2, wd_1_225⟩ ⟨rfl, rfl⟩ hd_X1_tokenOf ⟨Nat.le_of_ble_eq_true rfl, Nat.le_of_ble_eq_true rfl⟩ rfl hl.1 rfl (Nat.le_of_ble_eq_true rfl) dX1_readToken_109 ⟨Nat.zero_le _, Nat.zero_le _⟩) (fun r_15 hr_15 => ?_)
          have hT := nm_u hr_15 hT
          refine lv_aload_n hx hb dX1_readToken_112 rfl (lv_at hl 0 rfl) ?_
          refine gX1_token C hK hP wd_1_80 dX1_readToken_113 ?_
          refine lv_icmp_ne (tgt := 135) hx hb dX1_readToken_116 (by decide) (fun c_16 => ?_) (fun c_16 => ?_)
          · have hT := it_f c_16 hT
            exact kont ls g_11 H locs hP hD hS (lv_sub hl [0] rfl) hT
          · have hT := it_t c_16 hT
            refine lv_aload_n hx hb dX1_readToken_119 rfl (lv_at hl 0 rfl) ?_
            refine lv_dup hx hb dX1_readToken_120 rfl ?_
            refine gX1_place C hK hP wd_1_78 dX1_readToken_121 ?_
            refine lv_iconst (v := 1) hx hb dX1_readToken_124 (by decide) ?_
            refine lv_iadd hx hb dX1_readToken_125 ?_
            refine pX1_place C hK hP hD hS wd_1_78 dX1_readToken_126 (fun H locs hP hD hS => ?_)
            refine lv_iinc (v := y_10 + 1) (lv' := [(2, .int (y_10 + 1)), (0, .ref (sk 1)), (1, .int v_9)]) hx hb dX1_readToken_129 hl (k := 2) rfl rfl (by decide) rfl (fun ls hl => ?_)
            refine lv_goto (tgt := 93) hx hb dX1_readToken_132 (by decide) ?_
            exact ih ls (y_10 + 1) (upd g_11 0 ((g_11 0) + (1 : Int32))) (ms_up c_13 hm) H locs hP hD hS (lv_sub hl [1, 2, 0] rfl) (fun ls z0 H locs hP hD hS hl he => kont ls z0 H locs hP hD hS hl (he.trans hT))
    refine L_93 (((v_9).toInt - (0 : Int32).toInt).toNat + 1) ls (0 : Int32) (upd (upd e_3 1 (e_3 0)) 2 r_8) (Nat.lt_succ_self _) H locs hP hD hS (lv_sub hl [2, 1, 0] rfl) (fun ls e_12 H locs hP hD hS hl he => ?_)
    have hT := nm_u he hT
    refine lv_aload_n hx hb dX1_readToken_135 rfl (lv_at hl 0 rfl) ?_
    refine gX1_text C hK hP wd_1_74 dX1_readToken_136 ?_
    refine lv_aload_n hx hb dX1_readToken_139 rfl (lv_at hl 0 rfl) ?_
    refine gX1_start C hK hP wd_1_79 dX1_readToken_140 ?_
    refine vp_callSi (run_vP (As := [.int (e_12 1)]) (rest := []) C hK hP hD hN (c_X5_byteAt _) (rX5_r hK hP) ⟨wd_1_219, wd_1_220, wd_1_221, wd_1_3, wd_1_222⟩ ⟨rfl, rfl⟩ hv_X5_byteAt ⟨Nat.le_of_ble_eq_true rfl, Nat.le_of_ble_eq_true rfl⟩ rfl hl.1 rfl (Nat.le_of_ble_eq_true rfl) dX1_readToken_143 ⟨Nat.zero_le _, Nat.zero_le _⟩) (fun r_17 hr_17 => ?_)
    have hT := nm_u hr_17 hT
    refine lv_istore_n (lv' := [(2, .int r_17), (0, .ref (sk 1))]) hx hb dX1_readToken_146 rfl hl (by decide) rfl (fun ls hl => ?_)
    refine lv_aload_n hx hb dX1_readToken_147 rfl (lv_at hl 1 rfl) ?_
    refine gX1_token C hK hP wd_1_80 dX1_readToken_148 ?_
    refine lv_iconst (v := 2) hx hb dX1_readToken_151 (by decide) ?_
    have K_163 : ∀ (ls : Array Slot) (v_18 : Int32) (hl : lv_has ls 4 [(0, .ref (sk 1))]) (hT0 : jn_X1_readToken_163 e_12 v_18 = sp_X1_readToken g tb), W p l e ({ frames := 1, cells := 0, slots := 0, locals := 21 } : Room) s m args below meth c H locs 0 0 Q (F0 m 163 ls [.int v_18]) := by
      intro ls v_18 hl hT0
      have hT := (jn_X1_readToken_163_s e_12 v_18).trans hT0
      refine lv_istore_n (lv' := [(3, .int v_18), (0, .ref (sk 1))]) hx hb dX1_readToken_163 rfl hl (by decide) rfl (fun ls hl => ?_)
      refine lv_aload_n hx hb dX1_readToken_164 rfl (lv_at hl 1 rfl) ?_
      refine lv_aload_n hx hb dX1_readToken_165 rfl (lv_at hl 1 rfl) ?_
      refine gX1_place C hK hP wd_1_78 dX1_readToken_166 ?_
      refine lv_aload_n hx hb dX1_readToken_169 rfl (lv_at hl 1 rfl) ?_
      refine gX1_start C hK hP wd_1_79 dX1_readToken_170 ?_
      refine lv_isub hx hb dX1_readToken_173 ?_
      refine lv_iconst (v := 1) hx hb dX1_readToken_174 (by decide) ?_
      refine lv_icmp_ne (tgt := 182) hx hb dX1_readToken_175 (by decide) (fun c_19 => ?_) (fun c_19 => ?_)
      · have hT := it_f c_19 hT
        refine lv_iconst (v := -1) hx hb dX1_readToken_182 (by decide) ?_
        refine pX1_value C hK hP hD hS wd_1_81 dX1_readToken_183 (fun H locs hP hD hS => ?_)
        exact hret (upd e_12 3 (-1 : Int32)) _ _ _ _ hT hP hD hS dX1_readToken_186
      · have hT := it_t c_19 hT
        refine lv_iload_n hx hb dX1_readToken_178 rfl (lv_at hl 0 rfl) ?_
        refine lv_goto (tgt := 183) hx hb dX1_readToken_179 (by decide) ?_
        refine pX1_value C hK hP hD hS wd_1_81 dX1_readToken_183 (fun H locs hP hD hS => ?_)
        exact hret (upd e_12 3 v_18) _ _ _ _ hT hP hD hS dX1_readToken_186
    refine lv_icmp_ne (tgt := 162) hx hb dX1_readToken_152 (by decide) (fun c_20 => ?_) (fun c_20 => ?_)
    · have hT := it_f c_20 hT
      refine lv_iload_n hx hb dX1_readToken_162 rfl (lv_at hl 0 rfl) ?_
      exact K_163 ls r_17 (lv_sub hl [1] rfl) hT
    · have hT := it_t c_20 hT
      refine lv_iload_n hx hb dX1_readToken_155 rfl (lv_at hl 0 rfl) ?_
      refine lv_bipush (v := 48) hx hb dX1_readToken_156 (by decide) ?_
      refine lv_isub hx hb dX1_readToken_158 ?_
      refine lv_goto (tgt := 163) hx hb dX1_readToken_159 (by decide) ?_
      exact K_163 ls (r_17 - (48 : Int32)) (lv_sub hl [1] rfl) hT
  refine lv_icmp_eq (tgt := 83) hx hb dX1_readToken_72 (by decide) (fun c_21 => ?_) (fun c_21 => ?_)
  · have hT := it_t c_21 hT
    refine lv_sipush (v := 150) hx hb dX1_readToken_83 (by decide) ?_
    refine lv_goto (tgt := 90) hx hb dX1_readToken_86 (by decide) ?_
    exact K_90 ls (150 : Int32) (lv_sub hl [0] rfl) hT
  · have hT := it_f c_21 hT
    refine lv_aload_n hx hb dX1_readToken_75 rfl (lv_at hl 0 rfl) ?_
    refine gX1_token C hK hP wd_1_80 dX1_readToken_76 ?_
    refine lv_iconst (v := 2) hx hb dX1_readToken_79 (by decide) ?_
    refine lv_icmp_ne (tgt := 89) hx hb dX1_readToken_80 (by decide) (fun c_22 => ?_) (fun c_22 => ?_)
    · have hT := it_f c_22 hT
      refine lv_iconst (v := 1) hx hb dX1_readToken_89 (by decide) ?_
      exact K_90 ls (1 : Int32) (lv_sub hl [0] rfl) hT
    · have hT := it_t c_22 hT
      refine lv_sipush (v := 150) hx hb dX1_readToken_83 (by decide) ?_
      refine lv_goto (tgt := 90) hx hb dX1_readToken_86 (by decide) ?_
      exact K_90 ls (150 : Int32) (lv_sub hl [0] rfl) hT
theorem hv_X1_isNumber : yX1_isNumber.cls = RX1 ∧ yX1_isNumber.cls ≠ "java/lang/invoke/MethodHandle" ∧ yX1_isNumber.cls ≠ "java/lang/invoke/VarHandle" ∧ (parseMethodDescriptor yX1_isNumber.desc).map (fun d => d.parameters.length) = some 2 := by decide +kernel
theorem hd_X1_isNumber : yX1_isNumber.cls ≠ "java/lang/invoke/MethodHandle" ∧ yX1_isNumber.cls ≠ "java/lang/invoke/VarHandle" ∧ (parseMethodDescriptor yX1_isNumber.desc).map (fun d => d.parameters.length) = some 2 := hv_X1_isNumber.2
def sp_X1_isNumber (g : Nat → Int32) (x1 : Int32) (x2 : Int32) : Int32 :=
  if (g 2) = (2 : Int32) then (if (g 3) < x1 then (0 : Int32) else (if x2 < (g 3) then (0 : Int32) else (1 : Int32))) else (0 : Int32)
theorem sp_X1_isNumber_s (g : Nat → Int32) (x1 : Int32) (x2 : Int32) : (if (g 2) = (2 : Int32) then (if (g 3) < x1 then (0 : Int32) else (if x2 < (g 3) then (0 : Int32) else (1 : Int32))) else (0 : Int32)) = sp_X1_isNumber g x1 x2 := rfl
set_option maxHeartbeats 4000000 in
set_option maxRecDepth 100000 in
theorem c_X1_isNumber {l : Launch} {D : va_G} {cI cZ cO : ClassId} {sk : Nat → Nat} {g tb : Nat → Int32} {V Hd : Nat → Nat → Int32} {tr : Int64} {x1 : Int32} {x2 : Int32}  (sz : Nat) : Met l yX1_isNumber (wm yX1_isNumber cX1_isNumber 3 (some .boolean)) ({ frames := 0, cells := 0, slots := 0, locals := 0 } : Room) (GPre D (ty3 cI cZ cO) (WW cI cO sk g tb V Hd tr) [.ref (sk 1), .int x1, .int x2] sz) (vp_Si (fun r => r = sp_X1_isNumber g x1 x2 ∧ (r = 0 ∨ r = 1))) 0 0 (fun _ => False) := by
  refine metP_z (post := (fun r => r = sp_X1_isNumber g x1 x2)) (by decide) (Nat.le_of_ble_eq_true rfl) ?_
  intro p e s m args below meth c ls Q C hsz hP hK hD hN hl hret
  have hx := C.1
  have hb := C.2.1
  have hl : lv_has ls 3 [(0, .ref (sk 1)), (1, .int x1), (2, .int x2)] := hl
  have hT := sp_X1_isNumber_s g x1 x2
  refine lv_aload_n hx hb dX1_isNumber_0 rfl (lv_at hl 0 rfl) ?_
  refine gX1_token C hK hP wd_1_80 dX1_isNumber_1 ?_
  refine lv_iconst (v := 2) hx hb dX1_isNumber_4 (by decide) ?_
  refine lv_icmp_ne (tgt := 28) hx hb dX1_isNumber_5 (by decide) (fun c_1 => ?_) (fun c_1 => ?_)
  · have hT := it_f c_1 hT
    refine lv_iconst (v := 0) hx hb dX1_isNumber_28 (by decide) ?_
    exact hret _ _ _ ⟨hT, (Or.inl rfl)⟩ dX1_isNumber_29
  · have hT := it_t c_1 hT
    refine lv_aload_n hx hb dX1_isNumber_8 rfl (lv_at hl 0 rfl) ?_
    refine gX1_value C hK hP wd_1_81 dX1_isNumber_9 ?_
    refine lv_iload_n hx hb dX1_isNumber_12 rfl (lv_at hl 1 rfl) ?_
    refine lv_icmp_lt (tgt := 28) hx hb dX1_isNumber_13 (by decide) (fun c_2 => ?_) (fun c_2 => ?_)
    · have hT := it_t c_2 hT
      refine lv_iconst (v := 0) hx hb dX1_isNumber_28 (by decide) ?_
      exact hret _ _ _ ⟨hT, (Or.inl rfl)⟩ dX1_isNumber_29
    · have hT := it_f c_2 hT
      refine lv_aload_n hx hb dX1_isNumber_16 rfl (lv_at hl 0 rfl) ?_
      refine gX1_value C hK hP wd_1_81 dX1_isNumber_17 ?_
      refine lv_iload_n hx hb dX1_isNumber_20 rfl (lv_at hl 2 rfl) ?_
      refine lv_icmp_gt (tgt := 28) hx hb dX1_isNumber_21 (by decide) (fun c_3 => ?_) (fun c_3 => ?_)
      · have hT := it_t c_3 hT
        refine lv_iconst (v := 0) hx hb dX1_isNumber_28 (by decide) ?_
        exact hret _ _ _ ⟨hT, (Or.inl rfl)⟩ dX1_isNumber_29
      · have hT := it_f c_3 hT
        refine lv_iconst (v := 1) hx hb dX1_isNumber_24 (by decide) ?_
        refine lv_goto (tgt := 29) hx hb dX1_isNumber_25 (by decide) ?_
        exact hret _ _ _ ⟨hT, (Or.inr rfl)⟩ dX1_isNumber_29
theorem hv_X1_isStop : yX1_isStop.cls = RX1 ∧ yX1_isStop.cls ≠ "java/lang/invoke/MethodHandle" ∧ yX1_isStop.cls ≠ "java/lang/invoke/VarHandle" ∧ (parseMethodDescriptor yX1_isStop.desc).map (fun d => d.parameters.length) = some 0 := by decide +kernel
theorem hd_X1_isStop : yX1_isStop.cls ≠ "java/lang/invoke/MethodHandle" ∧ yX1_isStop.cls ≠ "java/lang/invoke/VarHandle" ∧ (parseMethodDescriptor yX1_isStop.desc).map (fun d => d.parameters.length) = some 0 := hv_X1_isStop.2
def sp_X1_isStop (g : Nat → Int32) (tb : Nat → Int32) : Int32 × (Nat → Int32) :=
  nm (sp_X1_readToken g tb) (fun g_1 => if (g_1 2) = (3 : Int32) then ((1 : Int32), g_1) else ((0 : Int32), g_1))
theorem sp_X1_isStop_s (g : Nat → Int32) (tb : Nat → Int32) : (nm (sp_X1_readToken g tb) (fun g_1 => if (g_1 2) = (3 : Int32) then ((1 : Int32), g_1) else ((0 : Int32), g_1))) = sp_X1_isStop g tb := rfl
set_option maxHeartbeats 4000000 in
set_option maxRecDepth 100000 in
theorem c_X1_isStop {l : Launch} {D : va_G} {cI cZ cO : ClassId} {sk : Nat → Nat} {g tb : Nat → Int32} {V Hd : Nat → Nat → Int32} {tr : Int64}   (sz : Nat) : Met l yX1_isStop (wm yX1_isStop cX1_isStop 1 (some .boolean)) ({ frames := 2, cells := 0, slots := 0, locals := 44 } : Room) (GPre D (ty3 cI cZ cO) (WW cI cO sk g tb V Hd tr) [.ref (sk 1)] sz) (va_Qi (fun r (u : (Nat → Int32)) => (r, u) = sp_X1_isStop g tb ∧ (r = 0 ∨ r = 1)) (fun u t => GAt D (ty3 cI cZ cO) (va_A (WW cI cO sk g tb V Hd tr) sz) (WW cI cO sk u tb V Hd tr) t) (va_A (WW cI cO sk g tb V Hd tr) sz)) 0 0 (va_A (WW cI cO sk g tb V Hd tr) sz) := by
  refine metQ_z (W1 := (fun (u : (Nat → Int32)) => WW cI cO sk u tb V Hd tr)) (post := (fun r (u : (Nat → Int32)) => (r, u) = sp_X1_isStop g tb)) (by decide) (Nat.le_of_ble_eq_true rfl) ?_
  intro p e s m args below meth c ls A Q C hsz hP hK hD hS hA hN hl hret
  have hx := C.1
  have hb := C.2.1
  have hl : lv_has ls 1 [(0, .ref (sk 1))] := hl
  have hT := sp_X1_isStop_s g tb
  refine lv_aload_n hx hb dX1_isStop_0 rfl (lv_at hl 0 rfl) ?_
  refine on_v (run_vQ (As := []) (rest := []) C hK hP hD hN (c_X1_readToken _) (rX1_r hK hP) ⟨wd_1_215, wd_1_217, ws_0, wd_1_2, wd_1_218⟩ ⟨rfl, rfl⟩ hv_X1_readToken ⟨Nat.le_of_ble_eq_true rfl, Nat.le_of_ble_eq_true rfl⟩ rfl hl.1 rfl (Nat.le_of_ble_eq_true rfl) dX1_isStop_1 ⟨Nat.zero_le _, Nat.zero_le _⟩) hD hS hA (fun u H locs hp_2 hP hD hS => ?_)
  obtain ⟨g_1, rfl⟩ : ∃ z, z = u := ⟨_, rfl⟩
  have hP : va_P D vwCl (WW cI cO sk g_1 tb V Hd tr) H := hP
  have hD : va_D A (WW cI cO sk g_1 tb V Hd tr) := hD
  have hT := nm_u hp_2 hT
  refine lv_aload_n hx hb dX1_isStop_4 rfl (lv_at hl 0 rfl) ?_
  refine gX1_token C hK hP wd_1_80 dX1_isStop_5 ?_
  refine lv_iconst (v := 3) hx hb dX1_isStop_8 (by decide) ?_
  refine lv_icmp_ne (tgt := 16) hx hb dX1_isStop_9 (by decide) (fun c_3 => ?_) (fun c_3 => ?_)
  · have hT := it_f c_3 hT
    refine lv_iconst (v := 0) hx hb dX1_isStop_16 (by decide) ?_
    exact hret _ g_1 _ _ _ _ ⟨hT, (Or.inl rfl)⟩ hP hD hS dX1_isStop_17
  · have hT := it_t c_3 hT
    refine lv_iconst (v := 1) hx hb dX1_isStop_12 (by decide) ?_
    refine lv_goto (tgt := 17) hx hb dX1_isStop_13 (by decide) ?_
    exact hret _ g_1 _ _ _ _ ⟨hT, (Or.inr rfl)⟩ hP hD hS dX1_isStop_17
theorem hv_X1_readFreeBit : yX1_readFreeBit.cls = RX1 ∧ yX1_readFreeBit.cls ≠ "java/lang/invoke/MethodHandle" ∧ yX1_readFreeBit.cls ≠ "java/lang/invoke/VarHandle" ∧ (parseMethodDescriptor yX1_readFreeBit.desc).map (fun d => d.parameters.length) = some 1 := by decide +kernel
theorem hd_X1_readFreeBit : yX1_readFreeBit.cls ≠ "java/lang/invoke/MethodHandle" ∧ yX1_readFreeBit.cls ≠ "java/lang/invoke/VarHandle" ∧ (parseMethodDescriptor yX1_readFreeBit.desc).map (fun d => d.parameters.length) = some 1 := hv_X1_readFreeBit.2
def sp_X1_readFreeBit (g : Nat → Int32) (tb : Nat → Int32) (V : Nat → Nat → Int32) (x1 : Int32) : Int32 × (Nat → Int32) :=
  nm (sp_X1_readToken g tb) (fun g_1 => nm (sp_X1_isNumber g_1 (0 : Int32) ((V 33 0) - (1 : Int32))) (fun r_3 => if r_3 = 0 then ((0 : Int32), g_1) else (nm (sp_X1_readToken g_1 tb) (fun g_5 => nm (sp_X1_isNumber g_5 (0 : Int32) ((V 33 1) - (1 : Int32))) (fun r_7 => if r_7 = 0 then ((0 : Int32), g_5) else (nm (sp_X6_bitOf (g_1 3) (g_5 3)) (fun r_9 => (r_9 &&& (x1 ^^^ (-1 : Int32)), g_5))))))))
theorem sp_X1_readFreeBit_s (g : Nat → Int32) (tb : Nat → Int32) (V : Nat → Nat → Int32) (x1 : Int32) : (nm (sp_X1_readToken g tb) (fun g_1 => nm (sp_X1_isNumber g_1 (0 : Int32) ((V 33 0) - (1 : Int32))) (fun r_3 => if r_3 = 0 then ((0 : Int32), g_1) else (nm (sp_X1_readToken g_1 tb) (fun g_5 => nm (sp_X1_isNumber g_5 (0 : Int32) ((V 33 1) - (1 : Int32))) (fun r_7 => if r_7 = 0 then ((0 : Int32), g_5) else (nm (sp_X6_bitOf (g_1 3) (g_5 3)) (fun r_9 => (r_9 &&& (x1 ^^^ (-1 : Int32)), g_5))))))))) = sp_X1_readFreeBit g tb V x1 := rfl
set_option maxHeartbeats 4000000 in
set_option maxRecDepth 100000 in
theorem c_X1_readFreeBit {l : Launch} {D : va_G} {cI cZ cO : ClassId} {sk : Nat → Nat} {g tb : Nat → Int32} {V Hd : Nat → Nat → Int32} {tr : Int64} {x1 : Int32}  (sz : Nat) : Met l yX1_readFreeBit (wm yX1_readFreeBit cX1_readFreeBit 3 (some .int)) ({ frames := 2, cells := 0, slots := 0, locals := 44 } : Room) (GPre D (ty3 cI cZ cO) (WW cI cO sk g tb V Hd tr) [.ref (sk 1), .int x1] sz) (va_Qi (fun r (u : (Nat → Int32)) => (r, u) = sp_X1_readFreeBit g tb V x1) (fun u t => GAt D (ty3 cI cZ cO) (va_A (WW cI cO sk g tb V Hd tr) sz) (WW cI cO sk u tb V Hd tr) t) (va_A (WW cI cO sk g tb V Hd tr) sz)) 0 0 (va_A (WW cI cO sk g tb V Hd tr) sz) := by
  refine metQ_i (W1 := (fun (u : (Nat → Int32)) => WW cI cO sk u tb V Hd tr)) (post := (fun r (u : (Nat → Int32)) => (r, u) = sp_X1_readFreeBit g tb V x1)) (by decide) (Nat.le_of_ble_eq_true rfl) ?_
  intro p e s m args below meth c ls A Q C hsz hP hK hD hS hA hN hl hret
  have hx := C.1
  have hb := C.2.1
  have hl : lv_has ls 3 [(0, .ref (sk 1)), (1, .int x1)] := hl
  have hT := sp_X1_readFreeBit_s g tb V x1
  refine lv_aload_n hx hb dX1_readFreeBit_0 rfl (lv_at hl 0 rfl) ?_
  refine on_v (run_vQ (As := []) (rest := []) C hK hP hD hN (c_X1_readToken _) (rX1_r hK hP) ⟨wd_1_215, wd_1_217, ws_0, wd_1_2, wd_1_218⟩ ⟨rfl, rfl⟩ hv_X1_readToken ⟨Nat.le_of_ble_eq_true rfl, Nat.le_of_ble_eq_true rfl⟩ rfl hl.1 rfl (Nat.le_of_ble_eq_true rfl) dX1_readFreeBit_1 ⟨Nat.zero_le _, Nat.zero_le _⟩) hD hS hA (fun u H locs hp_2 hP hD hS => ?_)
  obtain ⟨g_1, rfl⟩ : ∃ z, z = u := ⟨_, rfl⟩
  have hP : va_P D vwCl (WW cI cO sk g_1 tb V Hd tr) H := hP
  have hD : va_D A (WW cI cO sk g_1 tb V Hd tr) := hD
  have hT := nm_u hp_2 hT
  refine lv_aload_n hx hb dX1_readFreeBit_4 rfl (lv_at hl 0 rfl) ?_
  refine lv_iconst (v := 0) hx hb dX1_readFreeBit_5 (by decide) ?_
  refine lv_aload_n hx hb dX1_readFreeBit_6 rfl (lv_at hl 0 rfl) ?_
  refine gX1_draft C hK hP wd_1_76 dX1_readFreeBit_7 ?_
  refine gX4_wide C hK hP (by decide) wd_1_46 dX1_readFreeBit_10 ?_
  refine lv_iconst (v := 1) hx hb dX1_readFreeBit_13 (by decide) ?_
  refine lv_isub hx hb dX1_readFreeBit_14 ?_
  refine vp_callSi (run_vP (As := [.int (0 : Int32), .int ((V 33 0) - (1 : Int32))]) (rest := []) C hK hP hD hN (c_X1_isNumber _) (rX1_r hK hP) ⟨wd_1_234, wd_1_236, ws_3, wd_1_2, wd_1_237⟩ ⟨rfl, rfl⟩ hv_X1_isNumber ⟨Nat.le_of_ble_eq_true rfl, Nat.le_of_ble_eq_true rfl⟩ rfl hl.1 rfl (Nat.le_of_ble_eq_true rfl) dX1_readFreeBit_15 ⟨Nat.zero_le _, Nat.zero_le _⟩) (fun r_3 hr_3 => ?_)
  have hT := nm_u hr_3.1 hT
  refine lv_if_ne (tgt := 23) hx hb dX1_readFreeBit_18 (by decide) (fun c_4 => ?_) (fun c_4 => ?_)
  · have hT := it_f c_4 hT
    refine lv_aload_n hx hb dX1_readFreeBit_23 rfl (lv_at hl 0 rfl) ?_
    refine gX1_value C hK hP wd_1_81 dX1_readFreeBit_24 ?_
    refine lv_istore_n (lv' := [(2, .int (g_1 3)), (0, .ref (sk 1)), (1, .int x1)]) hx hb dX1_readFreeBit_27 rfl hl (by decide) rfl (fun ls hl => ?_)
    refine lv_aload_n hx hb dX1_readFreeBit_28 rfl (lv_at hl 1 rfl) ?_
    refine on_v (run_vQ (As := []) (rest := []) C hK hP hD hN (c_X1_readToken _) (rX1_r hK hP) ⟨wd_1_215, wd_1_217, ws_0, wd_1_2, wd_1_218⟩ ⟨rfl, rfl⟩ hv_X1_readToken ⟨Nat.le_of_ble_eq_true rfl, Nat.le_of_ble_eq_true rfl⟩ rfl hl.1 rfl (Nat.le_of_ble_eq_true rfl) dX1_readFreeBit_29 ⟨Nat.zero_le _, Nat.zero_le _⟩) hD hS hA (fun u H locs hp_6 hP hD hS => ?_)
    obtain ⟨g_5, rfl⟩ : ∃ z, z = u := ⟨_, rfl⟩
    have hP : va_P D vwCl (WW cI cO sk g_5 tb V Hd tr) H := hP
    have hD : va_D A (WW cI cO sk g_5 tb V Hd tr) := hD
    have hT := nm_u hp_6 hT
    refine lv_aload_n hx hb dX1_readFreeBit_32 rfl (lv_at hl 1 rfl) ?_
    refine lv_iconst (v := 0) hx hb dX1_readFreeBit_33 (by decide) ?_
    refine lv_aload_n hx hb dX1_readFreeBit_34 rfl (lv_at hl 1 rfl) ?_
    refine gX1_draft C hK hP wd_1_76 dX1_readFreeBit_35 ?_
    refine gX4_rows C hK hP (by decide) wd_1_49 dX1_readFreeBit_38 ?_
    refine lv_iconst (v := 1) hx hb dX1_readFreeBit_41 (by decide) ?_
    refine lv_isub hx hb dX1_readFreeBit_42 ?_
    refine vp_callSi (run_vP (As := [.int (0 : Int32), .int ((V 33 1) - (1 : Int32))]) (rest := []) C hK hP hD hN (c_X1_isNumber _) (rX1_r hK hP) ⟨wd_1_234, wd_1_236, ws_3, wd_1_2, wd_1_237⟩ ⟨rfl, rfl⟩ hv_X1_isNumber ⟨Nat.le_of_ble_eq_true rfl, Nat.le_of_ble_eq_true rfl⟩ rfl hl.1 rfl (Nat.le_of_ble_eq_true rfl) dX1_readFreeBit_43 ⟨Nat.zero_le _, Nat.zero_le _⟩) (fun r_7 hr_7 => ?_)
    have hT := nm_u hr_7.1 hT
    refine lv_if_ne (tgt := 51) hx hb dX1_readFreeBit_46 (by decide) (fun c_8 => ?_) (fun c_8 => ?_)
    · have hT := it_f c_8 hT
      refine lv_iload_n hx hb dX1_readFreeBit_51 rfl (lv_at hl 0 rfl) ?_
      refine lv_aload_n hx hb dX1_readFreeBit_52 rfl (lv_at hl 1 rfl) ?_
      refine gX1_value C hK hP wd_1_81 dX1_readFreeBit_53 ?_
      refine vp_callSi (run_nP (As := [.int (g_1 3), .int (g_5 3)]) (rest := []) C hN (c_X6_bitOf) ⟨nw_6, wd_2_15, wd_1_1, wd_2_16⟩ ⟨rfl, rfl⟩ hd_X6_bitOf ⟨Nat.le_of_ble_eq_true rfl, Nat.le_of_ble_eq_true rfl⟩ rfl hl.1 rfl (Nat.le_of_ble_eq_true rfl) dX1_readFreeBit_56 ⟨Nat.zero_le _, Nat.zero_le _⟩) (fun r_9 hr_9 => ?_)
      have hT := nm_u hr_9 hT
      refine lv_iload_n hx hb dX1_readFreeBit_59 rfl (lv_at hl 2 rfl) ?_
      refine lv_iconst (v := -1) hx hb dX1_readFreeBit_60 (by decide) ?_
      refine lv_ixor hx hb dX1_readFreeBit_61 ?_
      refine lv_iand hx hb dX1_readFreeBit_62 ?_
      exact hret _ g_5 _ _ _ _ hT hP hD hS dX1_readFreeBit_63
    · have hT := it_t c_8 hT
      refine lv_iconst (v := 0) hx hb dX1_readFreeBit_49 (by decide) ?_
      exact hret _ g_5 _ _ _ _ hT hP hD hS dX1_readFreeBit_50
  · have hT := it_t c_4 hT
    refine lv_iconst (v := 0) hx hb dX1_readFreeBit_21 (by decide) ?_
    exact hret _ g_1 _ _ _ _ hT hP hD hS dX1_readFreeBit_22
theorem hv_X1_isWind : yX1_isWind.cls = RX1 ∧ yX1_isWind.cls ≠ "java/lang/invoke/MethodHandle" ∧ yX1_isWind.cls ≠ "java/lang/invoke/VarHandle" ∧ (parseMethodDescriptor yX1_isWind.desc).map (fun d => d.parameters.length) = some 0 := by decide +kernel
theorem hd_X1_isWind : yX1_isWind.cls ≠ "java/lang/invoke/MethodHandle" ∧ yX1_isWind.cls ≠ "java/lang/invoke/VarHandle" ∧ (parseMethodDescriptor yX1_isWind.desc).map (fun d => d.parameters.length) = some 0 := hv_X1_isWind.2
def sp_X1_isWind (g : Nat → Int32) (tb : Nat → Int32) (V : Nat → Nat → Int32) : Int32 × (Nat → Int32) × (Nat → Nat → Int32) :=
  nm (sp_X1_readToken g tb) (fun g_1 => nm (sp_X1_isNumber g_1 (0 : Int32) (1 : Int32)) (fun r_3 => if r_3 = 0 then ((0 : Int32), g_1, V) else ((1 : Int32), upd g_1 5 (1 : Int32), vs V 33 3 (g_1 3))))
theorem sp_X1_isWind_s (g : Nat → Int32) (tb : Nat → Int32) (V : Nat → Nat → Int32) : (nm (sp_X1_readToken g tb) (fun g_1 => nm (sp_X1_isNumber g_1 (0 : Int32) (1 : Int32)) (fun r_3 => if r_3 = 0 then ((0 : Int32), g_1, V) else ((1 : Int32), upd g_1 5 (1 : Int32), vs V 33 3 (g_1 3))))) = sp_X1_isWind g tb V := rfl
set_option maxHeartbeats 4000000 in
set_option maxRecDepth 100000 in
theorem c_X1_isWind {l : Launch} {D : va_G} {cI cZ cO : ClassId} {sk : Nat → Nat} {g tb : Nat → Int32} {V Hd : Nat → Nat → Int32} {tr : Int64}   (sz : Nat) : Met l yX1_isWind (wm yX1_isWind cX1_isWind 1 (some .boolean)) ({ frames := 2, cells := 0, slots := 0, locals := 44 } : Room) (GPre D (ty3 cI cZ cO) (WW cI cO sk g tb V Hd tr) [.ref (sk 1)] sz) (va_Qi (fun r (u : (Nat → Int32) × (Nat → Nat → Int32)) => (r, u) = sp_X1_isWind g tb V ∧ (r = 0 ∨ r = 1)) (fun u t => GAt D (ty3 cI cZ cO) (va_A (WW cI cO sk g tb V Hd tr) sz) (WW cI cO sk u.1 tb u.2 Hd tr) t) (va_A (WW cI cO sk g tb V Hd tr) sz)) 0 0 (va_A (WW cI cO sk g tb V Hd tr) sz) := by
  refine metQ_z (W1 := (fun (u : (Nat → Int32) × (Nat → Nat → Int32)) => WW cI cO sk u.1 tb u.2 Hd tr)) (post := (fun r (u : (Nat → Int32) × (Nat → Nat → Int32)) => (r, u) = sp_X1_isWind g tb V)) (by decide) (Nat.le_of_ble_eq_true rfl) ?_
  intro p e s m args below meth c ls A Q C hsz hP hK hD hS hA hN hl hret
  have hx := C.1
  have hb := C.2.1
  have hl : lv_has ls 1 [(0, .ref (sk 1))] := hl
  have hT := sp_X1_isWind_s g tb V
  refine lv_aload_n hx hb dX1_isWind_0 rfl (lv_at hl 0 rfl) ?_
  refine on_v (run_vQ (As := []) (rest := []) C hK hP hD hN (c_X1_readToken _) (rX1_r hK hP) ⟨wd_1_215, wd_1_217, ws_0, wd_1_2, wd_1_218⟩ ⟨rfl, rfl⟩ hv_X1_readToken ⟨Nat.le_of_ble_eq_true rfl, Nat.le_of_ble_eq_true rfl⟩ rfl hl.1 rfl (Nat.le_of_ble_eq_true rfl) dX1_isWind_1 ⟨Nat.zero_le _, Nat.zero_le _⟩) hD hS hA (fun u H locs hp_2 hP hD hS => ?_)
  obtain ⟨g_1, rfl⟩ : ∃ z, z = u := ⟨_, rfl⟩
  have hP : va_P D vwCl (WW cI cO sk g_1 tb V Hd tr) H := hP
  have hD : va_D A (WW cI cO sk g_1 tb V Hd tr) := hD
  have hT := nm_u hp_2 hT
  refine lv_aload_n hx hb dX1_isWind_4 rfl (lv_at hl 0 rfl) ?_
  refine lv_iconst (v := 0) hx hb dX1_isWind_5 (by decide) ?_
  refine lv_iconst (v := 1) hx hb dX1_isWind_6 (by decide) ?_
  refine vp_callSi (run_vP (As := [.int (0 : Int32), .int (1 : Int32)]) (rest := []) C hK hP hD hN (c_X1_isNumber _) (rX1_r hK hP) ⟨wd_1_234, wd_1_236, ws_3, wd_1_2, wd_1_237⟩ ⟨rfl, rfl⟩ hv_X1_isNumber ⟨Nat.le_of_ble_eq_true rfl, Nat.le_of_ble_eq_true rfl⟩ rfl hl.1 rfl (Nat.le_of_ble_eq_true rfl) dX1_isWind_7 ⟨Nat.zero_le _, Nat.zero_le _⟩) (fun r_3 hr_3 => ?_)
  have hT := nm_u hr_3.1 hT
  refine lv_if_ne (tgt := 15) hx hb dX1_isWind_10 (by decide) (fun c_4 => ?_) (fun c_4 => ?_)
  · have hT := it_f c_4 hT
    refine lv_aload_n hx hb dX1_isWind_15 rfl (lv_at hl 0 rfl) ?_
    refine gX1_draft C hK hP wd_1_76 dX1_isWind_16 ?_
    refine lv_aload_n hx hb dX1_isWind_19 rfl (lv_at hl 0 rfl) ?_
    refine gX1_value C hK hP wd_1_81 dX1_isWind_20 ?_
    refine pX4_wind C hK hP hD hS (by decide) wd_1_55 dX1_isWind_23 (fun H locs hP hD hS => ?_)
    refine lv_aload_n hx hb dX1_isWind_26 rfl (lv_at hl 0 rfl) ?_
    refine lv_iconst (v := 1) hx hb dX1_isWind_27 (by decide) ?_
    refine pX1_windTold C hK hP hD hS (Or.inr rfl) wd_1_83 dX1_isWind_28 (fun H locs hP hD hS => ?_)
    refine lv_iconst (v := 1) hx hb dX1_isWind_31 (by decide) ?_
    exact hret _ (upd g_1 5 (1 : Int32), vs V 33 3 (g_1 3)) _ _ _ _ ⟨hT, (Or.inr rfl)⟩ hP hD hS dX1_isWind_32
  · have hT := it_t c_4 hT
    refine lv_iconst (v := 0) hx hb dX1_isWind_13 (by decide) ?_
    exact hret _ (g_1, V) _ _ _ _ ⟨hT, (Or.inl rfl)⟩ hP hD hS dX1_isWind_14
theorem hv_X1_isCloth : yX1_isCloth.cls = RX1 ∧ yX1_isCloth.cls ≠ "java/lang/invoke/MethodHandle" ∧ yX1_isCloth.cls ≠ "java/lang/invoke/VarHandle" ∧ (parseMethodDescriptor yX1_isCloth.desc).map (fun d => d.parameters.length) = some 0 := by decide +kernel
theorem hd_X1_isCloth : yX1_isCloth.cls ≠ "java/lang/invoke/MethodHandle" ∧ yX1_isCloth.cls ≠ "java/lang/invoke/VarHandle" ∧ (parseMethodDescriptor yX1_isCloth.desc).map (fun d => d.parameters.length) = some 0 := hv_X1_isCloth.2
def sp_X1_isCloth (g : Nat → Int32) (tb : Nat → Int32) (V : Nat → Nat → Int32) : Int32 × (Nat → Int32) × (Nat → Nat → Int32) :=
  nm2 (sp_X1_readFreeBit g tb V (V 33 2)) (fun r_3 g_1 => if r_3 = 0 then ((0 : Int32), g_1, vs V 33 2 ((V 33 2) ||| r_3)) else ((1 : Int32), g_1, vs V 33 2 ((V 33 2) ||| r_3)))
theorem sp_X1_isCloth_s (g : Nat → Int32) (tb : Nat → Int32) (V : Nat → Nat → Int32) : (nm2 (sp_X1_readFreeBit g tb V (V 33 2)) (fun r_3 g_1 => if r_3 = 0 then ((0 : Int32), g_1, vs V 33 2 ((V 33 2) ||| r_3)) else ((1 : Int32), g_1, vs V 33 2 ((V 33 2) ||| r_3)))) = sp_X1_isCloth g tb V := rfl
set_option maxHeartbeats 4000000 in
set_option maxRecDepth 100000 in
theorem c_X1_isCloth {l : Launch} {D : va_G} {cI cZ cO : ClassId} {sk : Nat → Nat} {g tb : Nat → Int32} {V Hd : Nat → Nat → Int32} {tr : Int64}   (sz : Nat) : Met l yX1_isCloth (wm yX1_isCloth cX1_isCloth 2 (some .boolean)) ({ frames := 3, cells := 0, slots := 0, locals := 66 } : Room) (GPre D (ty3 cI cZ cO) (WW cI cO sk g tb V Hd tr) [.ref (sk 1)] sz) (va_Qi (fun r (u : (Nat → Int32) × (Nat → Nat → Int32)) => (r, u) = sp_X1_isCloth g tb V ∧ (r = 0 ∨ r = 1)) (fun u t => GAt D (ty3 cI cZ cO) (va_A (WW cI cO sk g tb V Hd tr) sz) (WW cI cO sk u.1 tb u.2 Hd tr) t) (va_A (WW cI cO sk g tb V Hd tr) sz)) 0 0 (va_A (WW cI cO sk g tb V Hd tr) sz) := by
  refine metQ_z (W1 := (fun (u : (Nat → Int32) × (Nat → Nat → Int32)) => WW cI cO sk u.1 tb u.2 Hd tr)) (post := (fun r (u : (Nat → Int32) × (Nat → Nat → Int32)) => (r, u) = sp_X1_isCloth g tb V)) (by decide) (Nat.le_of_ble_eq_true rfl) ?_
  intro p e s m args below meth c ls A Q C hsz hP hK hD hS hA hN hl hret
  have hx := C.1
  have hb := C.2.1
  have hl : lv_has ls 2 [(0, .ref (sk 1))] := hl
  have hT := sp_X1_isCloth_s g tb V
  refine lv_aload_n hx hb dX1_isCloth_0 rfl (lv_at hl 0 rfl) ?_
  refine lv_aload_n hx hb dX1_isCloth_1 rfl (lv_at hl 0 rfl) ?_
  refine gX1_draft C hK hP wd_1_76 dX1_isCloth_2 ?_
  refine gX4_cloth C hK hP (by decide) wd_1_53 dX1_isCloth_5 ?_
  refine on_i (run_vQ (As := [.int (V 33 2)]) (rest := []) C hK hP hD hN (c_X1_readFreeBit _) (rX1_r hK hP) ⟨wd_2_10, wd_2_12, ws_6, wd_1_2, wd_2_13⟩ ⟨rfl, rfl⟩ hv_X1_readFreeBit ⟨Nat.le_of_ble_eq_true rfl, Nat.le_of_ble_eq_true rfl⟩ rfl hl.1 rfl (Nat.le_of_ble_eq_true rfl) dX1_isCloth_8 ⟨Nat.zero_le _, Nat.zero_le _⟩) hD hS hA (fun r_3 u H locs hp_2 hP hD hS => ?_)
  obtain ⟨g_1, rfl⟩ : ∃ z, z = u := ⟨_, rfl⟩
  have hP : va_P D vwCl (WW cI cO sk g_1 tb V Hd tr) H := hP
  have hD : va_D A (WW cI cO sk g_1 tb V Hd tr) := hD
  have hT := nm2_u hp_2 hT
  refine lv_istore_n (lv' := [(1, .int r_3), (0, .ref (sk 1))]) hx hb dX1_isCloth_11 rfl hl (by decide) rfl (fun ls hl => ?_)
  refine lv_aload_n hx hb dX1_isCloth_12 rfl (lv_at hl 1 rfl) ?_
  refine gX1_draft C hK hP wd_1_76 dX1_isCloth_13 ?_
  refine lv_dup hx hb dX1_isCloth_16 rfl ?_
  refine gX4_cloth C hK hP (by decide) wd_1_53 dX1_isCloth_17 ?_
  refine lv_iload_n hx hb dX1_isCloth_20 rfl (lv_at hl 0 rfl) ?_
  refine lv_ior hx hb dX1_isCloth_21 ?_
  refine pX4_cloth C hK hP hD hS (by decide) wd_1_53 dX1_isCloth_22 (fun H locs hP hD hS => ?_)
  refine lv_iload_n hx hb dX1_isCloth_25 rfl (lv_at hl 0 rfl) ?_
  refine lv_if_eq (tgt := 33) hx hb dX1_isCloth_26 (by decide) (fun c_4 => ?_) (fun c_4 => ?_)
  · have hT := it_t c_4 hT
    refine lv_iconst (v := 0) hx hb dX1_isCloth_33 (by decide) ?_
    exact hret _ (g_1, vs V 33 2 ((V 33 2) ||| r_3)) _ _ _ _ ⟨hT, (Or.inl rfl)⟩ hP hD hS dX1_isCloth_34
  · have hT := it_f c_4 hT
    refine lv_iconst (v := 1) hx hb dX1_isCloth_29 (by decide) ?_
    refine lv_goto (tgt := 34) hx hb dX1_isCloth_30 (by decide) ?_
    exact hret _ (g_1, vs V 33 2 ((V 33 2) ||| r_3)) _ _ _ _ ⟨hT, (Or.inr rfl)⟩ hP hD hS dX1_isCloth_34
theorem hv_X1_isHolder : yX1_isHolder.cls = RX1 ∧ yX1_isHolder.cls ≠ "java/lang/invoke/MethodHandle" ∧ yX1_isHolder.cls ≠ "java/lang/invoke/VarHandle" ∧ (parseMethodDescriptor yX1_isHolder.desc).map (fun d => d.parameters.length) = some 0 := by decide +kernel
theorem hd_X1_isHolder : yX1_isHolder.cls ≠ "java/lang/invoke/MethodHandle" ∧ yX1_isHolder.cls ≠ "java/lang/invoke/VarHandle" ∧ (parseMethodDescriptor yX1_isHolder.desc).map (fun d => d.parameters.length) = some 0 := hv_X1_isHolder.2
def sp_X1_isHolder (g : Nat → Int32) (tb : Nat → Int32) (V : Nat → Nat → Int32) (Hd : Nat → Nat → Int32) : Int32 × (Nat → Int32) × (Nat → Nat → Int32) :=
  nm (sp_X1_readToken g tb) (fun g_1 => nm (sp_X1_isNumber g_1 (0 : Int32) (4 : Int32)) (fun r_3 => if r_3 = 0 then ((0 : Int32), g_1, Hd) else (nm (sp_X4_heldByAny Hd 33) (fun r_5 => nm2 (sp_X1_readFreeBit g_1 tb V r_5) (fun r_8 g_6 => nm (sp_X4_give Hd 33 (g_1 3) r_8) (fun Hd_9 => if r_8 = 0 then ((0 : Int32), g_6, Hd_9) else ((1 : Int32), g_6, Hd_9)))))))
theorem sp_X1_isHolder_s (g : Nat → Int32) (tb : Nat → Int32) (V : Nat → Nat → Int32) (Hd : Nat → Nat → Int32) : (nm (sp_X1_readToken g tb) (fun g_1 => nm (sp_X1_isNumber g_1 (0 : Int32) (4 : Int32)) (fun r_3 => if r_3 = 0 then ((0 : Int32), g_1, Hd) else (nm (sp_X4_heldByAny Hd 33) (fun r_5 => nm2 (sp_X1_readFreeBit g_1 tb V r_5) (fun r_8 g_6 => nm (sp_X4_give Hd 33 (g_1 3) r_8) (fun Hd_9 => if r_8 = 0 then ((0 : Int32), g_6, Hd_9) else ((1 : Int32), g_6, Hd_9)))))))) = sp_X1_isHolder g tb V Hd := rfl
set_option maxHeartbeats 4000000 in
set_option maxRecDepth 100000 in
theorem c_X1_isHolder {l : Launch} {D : va_G} {cI cZ cO : ClassId} {sk : Nat → Nat} {g tb : Nat → Int32} {V Hd : Nat → Nat → Int32} {tr : Int64}   (sz : Nat) : Met l yX1_isHolder (wm yX1_isHolder cX1_isHolder 3 (some .boolean)) ({ frames := 3, cells := 0, slots := 0, locals := 66 } : Room) (GPre D (ty3 cI cZ cO) (WW cI cO sk g tb V Hd tr) [.ref (sk 1)] sz) (va_Qi (fun r (u : (Nat → Int32) × (Nat → Nat → Int32)) => (r, u) = sp_X1_isHolder g tb V Hd ∧ (r = 0 ∨ r = 1)) (fun u t => GAt D (ty3 cI cZ cO) (va_A (WW cI cO sk g tb V Hd tr) sz) (WW cI cO sk u.1 tb V u.2 tr) t) (va_A (WW cI cO sk g tb V Hd tr) sz)) 0 0 (va_A (WW cI cO sk g tb V Hd tr) sz) := by
  refine metQ_z (W1 := (fun (u : (Nat → Int32) × (Nat → Nat → Int32)) => WW cI cO sk u.1 tb V u.2 tr)) (post := (fun r (u : (Nat → Int32) × (Nat → Nat → Int32)) => (r, u) = sp_X1_isHolder g tb V Hd)) (by decide) (Nat.le_of_ble_eq_true rfl) ?_
  intro p e s m args below meth c ls A Q C hsz hP hK hD hS hA hN hl hret
  have hx := C.1
  have hb := C.2.1
  have hl : lv_has ls 3 [(0, .ref (sk 1))] := hl
  have hT := sp_X1_isHolder_s g tb V Hd
  refine lv_aload_n hx hb dX1_isHolder_0 rfl (lv_at hl 0 rfl) ?_
  refine on_v (run_vQ (As := []) (rest := []) C hK hP hD hN (c_X1_readToken _) (rX1_r hK hP) ⟨wd_1_215, wd_1_217, ws_0, wd_1_2, wd_1_218⟩ ⟨rfl, rfl⟩ hv_X1_readToken ⟨Nat.le_of_ble_eq_true rfl, Nat.le_of_ble_eq_true rfl⟩ rfl hl.1 rfl (Nat.le_of_ble_eq_true rfl) dX1_isHolder_1 ⟨Nat.zero_le _, Nat.zero_le _⟩) hD hS hA (fun u H locs hp_2 hP hD hS => ?_)
  obtain ⟨g_1, rfl⟩ : ∃ z, z = u := ⟨_, rfl⟩
  have hP : va_P D vwCl (WW cI cO sk g_1 tb V Hd tr) H := hP
  have hD : va_D A (WW cI cO sk g_1 tb V Hd tr) := hD
  have hT := nm_u hp_2 hT
  refine lv_aload_n hx hb dX1_isHolder_4 rfl (lv_at hl 0 rfl) ?_
  refine lv_iconst (v := 0) hx hb dX1_isHolder_5 (by decide) ?_
  refine lv_iconst (v := 4) hx hb dX1_isHolder_6 (by decide) ?_
  refine vp_callSi (run_vP (As := [.int (0 : Int32), .int (4 : Int32)]) (rest := []) C hK hP hD hN (c_X1_isNumber _) (rX1_r hK hP) ⟨wd_1_234, wd_1_236, ws_3, wd_1_2, wd_1_237⟩ ⟨rfl, rfl⟩ hv_X1_isNumber ⟨Nat.le_of_ble_eq_true rfl, Nat.le_of_ble_eq_true rfl⟩ rfl hl.1 rfl (Nat.le_of_ble_eq_true rfl) dX1_isHolder_7 ⟨Nat.zero_le _, Nat.zero_le _⟩) (fun r_3 hr_3 => ?_)
  have hT := nm_u hr_3.1 hT
  refine lv_if_ne (tgt := 15) hx hb dX1_isHolder_10 (by decide) (fun c_4 => ?_) (fun c_4 => ?_)
  · have hT := it_f c_4 hT
    refine lv_aload_n hx hb dX1_isHolder_15 rfl (lv_at hl 0 rfl) ?_
    refine gX1_value C hK hP wd_1_81 dX1_isHolder_16 ?_
    refine lv_istore_n (lv' := [(1, .int (g_1 3)), (0, .ref (sk 1))]) hx hb dX1_isHolder_19 rfl hl (by decide) rfl (fun ls hl => ?_)
    refine lv_aload_n hx hb dX1_isHolder_20 rfl (lv_at hl 1 rfl) ?_
    refine lv_aload_n hx hb dX1_isHolder_21 rfl (lv_at hl 1 rfl) ?_
    refine gX1_draft C hK hP wd_1_76 dX1_isHolder_22 ?_
    refine vp_callSi (run_vP (As := []) (rest := [.ref (sk 1)]) C hK hP hD hN (c_X4_heldByAny (by decide) _) (rX4_r hK hP (by decide)) ⟨wd_2_6, wd_2_7, wd_2_8, wd_1_4, wd_2_9⟩ ⟨rfl, rfl⟩ hv_X4_heldByAny ⟨Nat.le_of_ble_eq_true rfl, Nat.le_of_ble_eq_true rfl⟩ rfl hl.1 rfl (Nat.le_of_ble_eq_true rfl) dX1_isHolder_25 ⟨Nat.zero_le _, Nat.zero_le _⟩) (fun r_5 hr_5 => ?_)
    have hT := nm_u hr_5 hT
    refine on_i (run_vQ (As := [.int r_5]) (rest := []) C hK hP hD hN (c_X1_readFreeBit _) (rX1_r hK hP) ⟨wd_2_10, wd_2_12, ws_6, wd_1_2, wd_2_13⟩ ⟨rfl, rfl⟩ hv_X1_readFreeBit ⟨Nat.le_of_ble_eq_true rfl, Nat.le_of_ble_eq_true rfl⟩ rfl hl.1 rfl (Nat.le_of_ble_eq_true rfl) dX1_isHolder_28 ⟨Nat.zero_le _, Nat.zero_le _⟩) hD hS hA (fun r_8 u H locs hp_7 hP hD hS => ?_)
    obtain ⟨g_6, rfl⟩ : ∃ z, z = u := ⟨_, rfl⟩
    have hP : va_P D vwCl (WW cI cO sk g_6 tb V Hd tr) H := hP
    have hD : va_D A (WW cI cO sk g_6 tb V Hd tr) := hD
    have hT := nm2_u hp_7 hT
    refine lv_istore_n (lv' := [(2, .int r_8), (1, .int (g_1 3)), (0, .ref (sk 1))]) hx hb dX1_isHolder_31 rfl hl (by decide) rfl (fun ls hl => ?_)
    refine lv_aload_n hx hb dX1_isHolder_32 rfl (lv_at hl 2 rfl) ?_
    refine gX1_draft C hK hP wd_1_76 dX1_isHolder_33 ?_
    refine lv_iload_n hx hb dX1_isHolder_36 rfl (lv_at hl 1 rfl) ?_
    refine lv_iload_n hx hb dX1_isHolder_37 rfl (lv_at hl 0 rfl) ?_
    refine on_v (run_vQ (As := [.int (g_1 3), .int r_8]) (rest := []) C hK hP hD hN (c_X4_give (by decide) _) (rX4_r hK hP (by decide)) ⟨wd_2_17, wd_2_18, wd_2_19, wd_1_4, wd_2_20⟩ ⟨rfl, rfl⟩ hv_X4_give ⟨Nat.le_of_ble_eq_true rfl, Nat.le_of_ble_eq_true rfl⟩ rfl hl.1 rfl (Nat.le_of_ble_eq_true rfl) dX1_isHolder_38 ⟨Nat.zero_le _, Nat.zero_le _⟩) hD hS hA (fun u H locs hp_10 hP hD hS => ?_)
    obtain ⟨Hd_9, rfl⟩ : ∃ z, z = u := ⟨_, rfl⟩
    have hP : va_P D vwCl (WW cI cO sk g_6 tb V Hd_9 tr) H := hP
    have hD : va_D A (WW cI cO sk g_6 tb V Hd_9 tr) := hD
    have hT := nm_u hp_10 hT
    refine lv_iload_n hx hb dX1_isHolder_41 rfl (lv_at hl 0 rfl) ?_
    refine lv_if_eq (tgt := 49) hx hb dX1_isHolder_42 (by decide) (fun c_11 => ?_) (fun c_11 => ?_)
    · have hT := it_t c_11 hT
      refine lv_iconst (v := 0) hx hb dX1_isHolder_49 (by decide) ?_
      exact hret _ (g_6, Hd_9) _ _ _ _ ⟨hT, (Or.inl rfl)⟩ hP hD hS dX1_isHolder_50
    · have hT := it_f c_11 hT
      refine lv_iconst (v := 1) hx hb dX1_isHolder_45 (by decide) ?_
      refine lv_goto (tgt := 50) hx hb dX1_isHolder_46 (by decide) ?_
      exact hret _ (g_6, Hd_9) _ _ _ _ ⟨hT, (Or.inr rfl)⟩ hP hD hS dX1_isHolder_50
  · have hT := it_t c_4 hT
    refine lv_iconst (v := 0) hx hb dX1_isHolder_13 (by decide) ?_
    exact hret _ (g_1, Hd) _ _ _ _ ⟨hT, (Or.inl rfl)⟩ hP hD hS dX1_isHolder_14
theorem hv_X1_isSize : yX1_isSize.cls = RX1 ∧ yX1_isSize.cls ≠ "java/lang/invoke/MethodHandle" ∧ yX1_isSize.cls ≠ "java/lang/invoke/VarHandle" ∧ (parseMethodDescriptor yX1_isSize.desc).map (fun d => d.parameters.length) = some 0 := by decide +kernel
theorem hd_X1_isSize : yX1_isSize.cls ≠ "java/lang/invoke/MethodHandle" ∧ yX1_isSize.cls ≠ "java/lang/invoke/VarHandle" ∧ (parseMethodDescriptor yX1_isSize.desc).map (fun d => d.parameters.length) = some 0 := hv_X1_isSize.2
def sp_X1_isSize (g : Nat → Int32) (tb : Nat → Int32) (V : Nat → Nat → Int32) : Int32 × (Nat → Int32) × (Nat → Nat → Int32) :=
  nm (sp_X1_readToken g tb) (fun g_1 => nm (sp_X1_isNumber g_1 (1 : Int32) (5 : Int32)) (fun r_3 => if r_3 = 0 then ((0 : Int32), g_1, V) else (nm (sp_X1_readToken g_1 tb) (fun g_5 => nm (sp_X1_isNumber g_5 (1 : Int32) (4 : Int32)) (fun r_7 => if r_7 = 0 then ((0 : Int32), g_5, vs V 33 0 (g_1 3)) else ((1 : Int32), g_5, vs (vs V 33 0 (g_1 3)) 33 1 (g_5 3)))))))
theorem sp_X1_isSize_s (g : Nat → Int32) (tb : Nat → Int32) (V : Nat → Nat → Int32) : (nm (sp_X1_readToken g tb) (fun g_1 => nm (sp_X1_isNumber g_1 (1 : Int32) (5 : Int32)) (fun r_3 => if r_3 = 0 then ((0 : Int32), g_1, V) else (nm (sp_X1_readToken g_1 tb) (fun g_5 => nm (sp_X1_isNumber g_5 (1 : Int32) (4 : Int32)) (fun r_7 => if r_7 = 0 then ((0 : Int32), g_5, vs V 33 0 (g_1 3)) else ((1 : Int32), g_5, vs (vs V 33 0 (g_1 3)) 33 1 (g_5 3)))))))) = sp_X1_isSize g tb V := rfl
set_option maxHeartbeats 4000000 in
set_option maxRecDepth 100000 in
theorem c_X1_isSize {l : Launch} {D : va_G} {cI cZ cO : ClassId} {sk : Nat → Nat} {g tb : Nat → Int32} {V Hd : Nat → Nat → Int32} {tr : Int64}   (sz : Nat) : Met l yX1_isSize (wm yX1_isSize cX1_isSize 1 (some .boolean)) ({ frames := 2, cells := 0, slots := 0, locals := 44 } : Room) (GPre D (ty3 cI cZ cO) (WW cI cO sk g tb V Hd tr) [.ref (sk 1)] sz) (va_Qi (fun r (u : (Nat → Int32) × (Nat → Nat → Int32)) => (r, u) = sp_X1_isSize g tb V ∧ (r = 0 ∨ r = 1)) (fun u t => GAt D (ty3 cI cZ cO) (va_A (WW cI cO sk g tb V Hd tr) sz) (WW cI cO sk u.1 tb u.2 Hd tr) t) (va_A (WW cI cO sk g tb V Hd tr) sz)) 0 0 (va_A (WW cI cO sk g tb V Hd tr) sz) := by
  refine metQ_z (W1 := (fun (u : (Nat → Int32) × (Nat → Nat → Int32)) => WW cI cO sk u.1 tb u.2 Hd tr)) (post := (fun r (u : (Nat → Int32) × (Nat → Nat → Int32)) => (r, u) = sp_X1_isSize g tb V)) (by decide) (Nat.le_of_ble_eq_true rfl) ?_
  intro p e s m args below meth c ls A Q C hsz hP hK hD hS hA hN hl hret
  have hx := C.1
  have hb := C.2.1
  have hl : lv_has ls 1 [(0, .ref (sk 1))] := hl
  have hT := sp_X1_isSize_s g tb V
  refine lv_aload_n hx hb dX1_isSize_0 rfl (lv_at hl 0 rfl) ?_
  refine on_v (run_vQ (As := []) (rest := []) C hK hP hD hN (c_X1_readToken _) (rX1_r hK hP) ⟨wd_1_215, wd_1_217, ws_0, wd_1_2, wd_1_218⟩ ⟨rfl, rfl⟩ hv_X1_readToken ⟨Nat.le_of_ble_eq_true rfl, Nat.le_of_ble_eq_true rfl⟩ rfl hl.1 rfl (Nat.le_of_ble_eq_true rfl) dX1_isSize_1 ⟨Nat.zero_le _, Nat.zero_le _⟩) hD hS hA (fun u H locs hp_2 hP hD hS => ?_)
  obtain ⟨g_1, rfl⟩ : ∃ z, z = u := ⟨_, rfl⟩
  have hP : va_P D vwCl (WW cI cO sk g_1 tb V Hd tr) H := hP
  have hD : va_D A (WW cI cO sk g_1 tb V Hd tr) := hD
  have hT := nm_u hp_2 hT
  refine lv_aload_n hx hb dX1_isSize_4 rfl (lv_at hl 0 rfl) ?_
  refine lv_iconst (v := 1) hx hb dX1_isSize_5 (by decide) ?_
  refine lv_iconst (v := 5) hx hb dX1_isSize_6 (by decide) ?_
  refine vp_callSi (run_vP (As := [.int (1 : Int32), .int (5 : Int32)]) (rest := []) C hK hP hD hN (c_X1_isNumber _) (rX1_r hK hP) ⟨wd_1_234, wd_1_236, ws_3, wd_1_2, wd_1_237⟩ ⟨rfl, rfl⟩ hv_X1_isNumber ⟨Nat.le_of_ble_eq_true rfl, Nat.le_of_ble_eq_true rfl⟩ rfl hl.1 rfl (Nat.le_of_ble_eq_true rfl) dX1_isSize_7 ⟨Nat.zero_le _, Nat.zero_le _⟩) (fun r_3 hr_3 => ?_)
  have hT := nm_u hr_3.1 hT
  refine lv_if_ne (tgt := 15) hx hb dX1_isSize_10 (by decide) (fun c_4 => ?_) (fun c_4 => ?_)
  · have hT := it_f c_4 hT
    refine lv_aload_n hx hb dX1_isSize_15 rfl (lv_at hl 0 rfl) ?_
    refine gX1_draft C hK hP wd_1_76 dX1_isSize_16 ?_
    refine lv_aload_n hx hb dX1_isSize_19 rfl (lv_at hl 0 rfl) ?_
    refine gX1_value C hK hP wd_1_81 dX1_isSize_20 ?_
    refine pX4_wide C hK hP hD hS (by decide) wd_1_46 dX1_isSize_23 (fun H locs hP hD hS => ?_)
    refine lv_aload_n hx hb dX1_isSize_26 rfl (lv_at hl 0 rfl) ?_
    refine on_v (run_vQ (As := []) (rest := []) C hK hP hD hN (c_X1_readToken _) (rX1_r hK hP) ⟨wd_1_215, wd_1_217, ws_0, wd_1_2, wd_1_218⟩ ⟨rfl, rfl⟩ hv_X1_readToken ⟨Nat.le_of_ble_eq_true rfl, Nat.le_of_ble_eq_true rfl⟩ rfl hl.1 rfl (Nat.le_of_ble_eq_true rfl) dX1_isSize_27 ⟨Nat.zero_le _, Nat.zero_le _⟩) hD hS hA (fun u H locs hp_6 hP hD hS => ?_)
    obtain ⟨g_5, rfl⟩ : ∃ z, z = u := ⟨_, rfl⟩
    have hP : va_P D vwCl (WW cI cO sk g_5 tb (vs V 33 0 (g_1 3)) Hd tr) H := hP
    have hD : va_D A (WW cI cO sk g_5 tb (vs V 33 0 (g_1 3)) Hd tr) := hD
    have hT := nm_u hp_6 hT
    refine lv_aload_n hx hb dX1_isSize_30 rfl (lv_at hl 0 rfl) ?_
    refine lv_iconst (v := 1) hx hb dX1_isSize_31 (by decide) ?_
    refine lv_iconst (v := 4) hx hb dX1_isSize_32 (by decide) ?_
    refine vp_callSi (run_vP (As := [.int (1 : Int32), .int (4 : Int32)]) (rest := []) C hK hP hD hN (c_X1_isNumber _) (rX1_r hK hP) ⟨wd_1_234, wd_1_236, ws_3, wd_1_2, wd_1_237⟩ ⟨rfl, rfl⟩ hv_X1_isNumber ⟨Nat.le_of_ble_eq_true rfl, Nat.le_of_ble_eq_true rfl⟩ rfl hl.1 rfl (Nat.le_of_ble_eq_true rfl) dX1_isSize_33 ⟨Nat.zero_le _, Nat.zero_le _⟩) (fun r_7 hr_7 => ?_)
    have hT := nm_u hr_7.1 hT
    refine lv_if_ne (tgt := 41) hx hb dX1_isSize_36 (by decide) (fun c_8 => ?_) (fun c_8 => ?_)
    · have hT := it_f c_8 hT
      refine lv_aload_n hx hb dX1_isSize_41 rfl (lv_at hl 0 rfl) ?_
      refine gX1_draft C hK hP wd_1_76 dX1_isSize_42 ?_
      refine lv_aload_n hx hb dX1_isSize_45 rfl (lv_at hl 0 rfl) ?_
      refine gX1_value C hK hP wd_1_81 dX1_isSize_46 ?_
      refine pX4_rows C hK hP hD hS (by decide) wd_1_49 dX1_isSize_49 (fun H locs hP hD hS => ?_)
      refine lv_iconst (v := 1) hx hb dX1_isSize_52 (by decide) ?_
      exact hret _ (g_5, vs (vs V 33 0 (g_1 3)) 33 1 (g_5 3)) _ _ _ _ ⟨hT, (Or.inr rfl)⟩ hP hD hS dX1_isSize_53
    · have hT := it_t c_8 hT
      refine lv_iconst (v := 0) hx hb dX1_isSize_39 (by decide) ?_
      exact hret _ (g_5, vs V 33 0 (g_1 3)) _ _ _ _ ⟨hT, (Or.inl rfl)⟩ hP hD hS dX1_isSize_40
  · have hT := it_t c_4 hT
    refine lv_iconst (v := 0) hx hb dX1_isSize_13 (by decide) ?_
    exact hret _ (g_1, V) _ _ _ _ ⟨hT, (Or.inl rfl)⟩ hP hD hS dX1_isSize_14
theorem hv_X1_isItem : yX1_isItem.cls = RX1 ∧ yX1_isItem.cls ≠ "java/lang/invoke/MethodHandle" ∧ yX1_isItem.cls ≠ "java/lang/invoke/VarHandle" ∧ (parseMethodDescriptor yX1_isItem.desc).map (fun d => d.parameters.length) = some 0 := by decide +kernel
theorem hd_X1_isItem : yX1_isItem.cls ≠ "java/lang/invoke/MethodHandle" ∧ yX1_isItem.cls ≠ "java/lang/invoke/VarHandle" ∧ (parseMethodDescriptor yX1_isItem.desc).map (fun d => d.parameters.length) = some 0 := hv_X1_isItem.2
def sp_X1_isItem (g : Nat → Int32) (tb : Nat → Int32) (V : Nat → Nat → Int32) (Hd : Nat → Nat → Int32) : Int32 × (Nat → Int32) × (Nat → Nat → Int32) × (Nat → Nat → Int32) :=
  if (g 2) = (1 : Int32) then (if (g 3) = (99 : Int32) then (nm3 (sp_X1_isCloth g tb V) (fun r_6 g_3 V_4 => if r_6 = 0 then ((0 : Int32), g_3, V_4, Hd) else (nm2 (sp_X1_isStop g_3 tb) (fun r_10 g_8 => if r_10 = 0 then ((0 : Int32), g_8, V_4, Hd) else ((1 : Int32), g_8, V_4, Hd))))) else (if (g 3) = (103 : Int32) then (if (g 4) = 0 then (nm3 (sp_X1_isSize g tb V) (fun r_17 g_14 V_15 => if r_17 = 0 then ((0 : Int32), g_14, V_15, Hd) else (nm2 (sp_X1_isStop g_14 tb) (fun r_21 g_19 => if r_21 = 0 then ((0 : Int32), g_19, V_15, Hd) else ((1 : Int32), g_19, V_15, Hd))))) else ((0 : Int32), g, V, Hd)) else (if (g 3) = (111 : Int32) then (nm3 (sp_X1_isHolder g tb V Hd) (fun r_27 g_24 Hd_25 => if r_27 = 0 then ((0 : Int32), g_24, V, Hd_25) else (nm2 (sp_X1_isStop g_24 tb) (fun r_31 g_29 => if r_31 = 0 then ((0 : Int32), g_29, V, Hd_25) else ((1 : Int32), g_29, V, Hd_25))))) else (if (g 3) = (119 : Int32) then (if (g 5) = 0 then (nm3 (sp_X1_isWind g tb V) (fun r_38 g_35 V_36 => if r_38 = 0 then ((0 : Int32), g_35, V_36, Hd) else (nm2 (sp_X1_isStop g_35 tb) (fun r_42 g_40 => if r_42 = 0 then ((0 : Int32), g_40, V_36, Hd) else ((1 : Int32), g_40, V_36, Hd))))) else ((0 : Int32), g, V, Hd)) else ((0 : Int32), g, V, Hd))))) else ((0 : Int32), g, V, Hd)
theorem sp_X1_isItem_s (g : Nat → Int32) (tb : Nat → Int32) (V : Nat → Nat → Int32) (Hd : Nat → Nat → Int32) : (if (g 2) = (1 : Int32) then (if (g 3) = (99 : Int32) then (nm3 (sp_X1_isCloth g tb V) (fun r_6 g_3 V_4 => if r_6 = 0 then ((0 : Int32), g_3, V_4, Hd) else (nm2 (sp_X1_isStop g_3 tb) (fun r_10 g_8 => if r_10 = 0 then ((0 : Int32), g_8, V_4, Hd) else ((1 : Int32), g_8, V_4, Hd))))) else (if (g 3) = (103 : Int32) then (if (g 4) = 0 then (nm3 (sp_X1_isSize g tb V) (fun r_17 g_14 V_15 => if r_17 = 0 then ((0 : Int32), g_14, V_15, Hd) else (nm2 (sp_X1_isStop g_14 tb) (fun r_21 g_19 => if r_21 = 0 then ((0 : Int32), g_19, V_15, Hd) else ((1 : Int32), g_19, V_15, Hd))))) else ((0 : Int32), g, V, Hd)) else (if (g 3) = (111 : Int32) then (nm3 (sp_X1_isHolder g tb V Hd) (fun r_27 g_24 Hd_25 => if r_27 = 0 then ((0 : Int32), g_24, V, Hd_25) else (nm2 (sp_X1_isStop g_24 tb) (fun r_31 g_29 => if r_31 = 0 then ((0 : Int32), g_29, V, Hd_25) else ((1 : Int32), g_29, V, Hd_25))))) else (if (g 3) = (119 : Int32) then (if (g 5) = 0 then (nm3 (sp_X1_isWind g tb V) (fun r_38 g_35 V_36 => if r_38 = 0 then ((0 : Int32), g_35, V_36, Hd) else (nm2 (sp_X1_isStop g_35 tb) (fun r_42 g_40 => if r_42 = 0 then ((0 : Int32), g_40, V_36, Hd) else ((1 : Int32), g_40, V_36, Hd))))) else ((0 : Int32), g, V, Hd)) else ((0 : Int32), g, V, Hd))))) else ((0 : Int32), g, V, Hd)) = sp_X1_isItem g tb V Hd := rfl
set_option maxHeartbeats 4000000 in
set_option maxRecDepth 100000 in
theorem c_X1_isItem {l : Launch} {D : va_G} {cI cZ cO : ClassId} {sk : Nat → Nat} {g tb : Nat → Int32} {V Hd : Nat → Nat → Int32} {tr : Int64}   (sz : Nat) : Met l yX1_isItem (wm yX1_isItem cX1_isItem 1 (some .boolean)) ({ frames := 4, cells := 0, slots := 0, locals := 88 } : Room) (GPre D (ty3 cI cZ cO) (WW cI cO sk g tb V Hd tr) [.ref (sk 1)] sz) (va_Qi (fun r (u : (Nat → Int32) × (Nat → Nat → Int32) × (Nat → Nat → Int32)) => (r, u) = sp_X1_isItem g tb V Hd ∧ (r = 0 ∨ r = 1)) (fun u t => GAt D (ty3 cI cZ cO) (va_A (WW cI cO sk g tb V Hd tr) sz) (WW cI cO sk u.1 tb u.2.1 u.2.2 tr) t) (va_A (WW cI cO sk g tb V Hd tr) sz)) 0 0 (va_A (WW cI cO sk g tb V Hd tr) sz) := by
  refine metQ_z (W1 := (fun (u : (Nat → Int32) × (Nat → Nat → Int32) × (Nat → Nat → Int32)) => WW cI cO sk u.1 tb u.2.1 u.2.2 tr)) (post := (fun r (u : (Nat → Int32) × (Nat → Nat → Int32) × (Nat → Nat → Int32)) => (r, u) = sp_X1_isItem g tb V Hd)) (by decide) (Nat.le_of_ble_eq_true rfl) ?_
  intro p e s m args below meth c ls A Q C hsz hP hK hD hS hA hN hl hret
  have hx := C.1
  have hb := C.2.1
  have hl : lv_has ls 1 [(0, .ref (sk 1))] := hl
  have hT := sp_X1_isItem_s g tb V Hd
  refine lv_aload_n hx hb dX1_isItem_0 rfl (lv_at hl 0 rfl) ?_
  refine gX1_token C hK hP wd_1_80 dX1_isItem_1 ?_
  refine lv_iconst (v := 1) hx hb dX1_isItem_4 (by decide) ?_
  refine lv_icmp_eq (tgt := 10) hx hb dX1_isItem_5 (by decide) (fun c_1 => ?_) (fun c_1 => ?_)
  · have hT := it_t c_1 hT
    refine lv_aload_n hx hb dX1_isItem_10 rfl (lv_at hl 0 rfl) ?_
    refine gX1_value C hK hP wd_1_81 dX1_isItem_11 ?_
    by_cases c_2 : (g 3) = (99 : Int32)
    · have hT := it_t c_2 hT
      refine lv_lookup (tgt := 103) (off := 89) hx hb dX1_isItem_14 (by decide) (by rw [c_2]; decide) (by decide) ?_
      refine lv_aload_n hx hb dX1_isItem_103 rfl (lv_at hl 0 rfl) ?_
      refine on_i (run_vQ (As := []) (rest := []) C hK hP hD hN (c_X1_isCloth _) (rX1_r hK hP) ⟨wd_2_21, wd_2_23, ws_7, wd_1_2, wd_2_24⟩ ⟨rfl, rfl⟩ hv_X1_isCloth ⟨Nat.le_of_ble_eq_true rfl, Nat.le_of_ble_eq_true rfl⟩ rfl hl.1 rfl (Nat.le_of_ble_eq_true rfl) dX1_isItem_104 ⟨Nat.zero_le _, Nat.zero_le _⟩) hD hS hA (fun r_6 u H locs hp_5 hP hD hS => ?_)
      obtain ⟨g_3, V_4⟩ := u
      have hP : va_P D vwCl (WW cI cO sk g_3 tb V_4 Hd tr) H := hP
      have hD : va_D A (WW cI cO sk g_3 tb V_4 Hd tr) := hD
      have hT := nm3_u hp_5.1 hT
      refine lv_if_eq (tgt := 121) hx hb dX1_isItem_107 (by decide) (fun c_7 => ?_) (fun c_7 => ?_)
      · have hT := it_t c_7 hT
        refine lv_iconst (v := 0) hx hb dX1_isItem_121 (by decide) ?_
        exact hret _ (g_3, V_4, Hd) _ _ _ _ ⟨hT, (Or.inl rfl)⟩ hP hD hS dX1_isItem_122
      · have hT := it_f c_7 hT
        refine lv_aload_n hx hb dX1_isItem_110 rfl (lv_at hl 0 rfl) ?_
        refine on_i (run_vQ (As := []) (rest := []) C hK hP hD hN (c_X1_isStop _) (rX1_r hK hP) ⟨wd_1_238, wd_2_0, ws_4, wd_1_2, wd_2_1⟩ ⟨rfl, rfl⟩ hv_X1_isStop ⟨Nat.le_of_ble_eq_true rfl, Nat.le_of_ble_eq_true rfl⟩ rfl hl.1 rfl (Nat.le_of_ble_eq_true rfl) dX1_isItem_111 ⟨Nat.zero_le _, Nat.zero_le _⟩) hD hS hA (fun r_10 u H locs hp_9 hP hD hS => ?_)
        obtain ⟨g_8, rfl⟩ : ∃ z, z = u := ⟨_, rfl⟩
        have hP : va_P D vwCl (WW cI cO sk g_8 tb V_4 Hd tr) H := hP
        have hD : va_D A (WW cI cO sk g_8 tb V_4 Hd tr) := hD
        have hT := nm2_u hp_9.1 hT
        refine lv_if_eq (tgt := 121) hx hb dX1_isItem_114 (by decide) (fun c_11 => ?_) (fun c_11 => ?_)
        · have hT := it_t c_11 hT
          refine lv_iconst (v := 0) hx hb dX1_isItem_121 (by decide) ?_
          exact hret _ (g_8, V_4, Hd) _ _ _ _ ⟨hT, (Or.inl rfl)⟩ hP hD hS dX1_isItem_122
        · have hT := it_f c_11 hT
          refine lv_iconst (v := 1) hx hb dX1_isItem_117 (by decide) ?_
          refine lv_goto (tgt := 122) hx hb dX1_isItem_118 (by decide) ?_
          exact hret _ (g_8, V_4, Hd) _ _ _ _ ⟨hT, (Or.inr rfl)⟩ hP hD hS dX1_isItem_122
    · have hT := it_f c_2 hT
      by_cases c_12 : (g 3) = (103 : Int32)
      · have hT := it_t c_12 hT
        refine lv_lookup (tgt := 56) (off := 42) hx hb dX1_isItem_14 (by decide) (by rw [c_12]; decide) (by decide) ?_
        refine lv_aload_n hx hb dX1_isItem_56 rfl (lv_at hl 0 rfl) ?_
        refine gX1_items C hK hP wd_1_82 dX1_isItem_57 ?_
        refine lv_if_ne (tgt := 81) hx hb dX1_isItem_60 (by decide) (fun c_13 => ?_) (fun c_13 => ?_)
        · have hT := it_f c_13 hT
          refine lv_iconst (v := 0) hx hb dX1_isItem_81 (by decide) ?_
          exact hret _ (g, V, Hd) _ _ _ _ ⟨hT, (Or.inl rfl)⟩ hP hD hS dX1_isItem_82
        · have hT := it_t c_13 hT
          refine lv_aload_n hx hb dX1_isItem_63 rfl (lv_at hl 0 rfl) ?_
          refine on_i (run_vQ (As := []) (rest := []) C hK hP hD hN (c_X1_isSize _) (rX1_r hK hP) ⟨wd_1_230, wd_1_232, ws_2, wd_1_2, wd_1_233⟩ ⟨rfl, rfl⟩ hv_X1_isSize ⟨Nat.le_of_ble_eq_true rfl, Nat.le_of_ble_eq_true rfl⟩ rfl hl.1 rfl (Nat.le_of_ble_eq_true rfl) dX1_isItem_64 ⟨Nat.zero_le _, Nat.zero_le _⟩) hD hS hA (fun r_17 u H locs hp_16 hP hD hS => ?_)
          obtain ⟨g_14, V_15⟩ := u
          have hP : va_P D vwCl (WW cI cO sk g_14 tb V_15 Hd tr) H := hP
          have hD : va_D A (WW cI cO sk g_14 tb V_15 Hd tr) := hD
          have hT := nm3_u hp_16.1 hT
          refine lv_if_eq (tgt := 81) hx hb dX1_isItem_67 (by decide) (fun c_18 => ?_) (fun c_18 => ?_)
          · have hT := it_t c_18 hT
            refine lv_iconst (v := 0) hx hb dX1_isItem_81 (by decide) ?_
            exact hret _ (g_14, V_15, Hd) _ _ _ _ ⟨hT, (Or.inl rfl)⟩ hP hD hS dX1_isItem_82
          · have hT := it_f c_18 hT
            refine lv_aload_n hx hb dX1_isItem_70 rfl (lv_at hl 0 rfl) ?_
            refine on_i (run_vQ (As := []) (rest := []) C hK hP hD hN (c_X1_isStop _) (rX1_r hK hP) ⟨wd_1_238, wd_2_0, ws_4, wd_1_2, wd_2_1⟩ ⟨rfl, rfl⟩ hv_X1_isStop ⟨Nat.le_of_ble_eq_true rfl, Nat.le_of_ble_eq_true rfl⟩ rfl hl.1 rfl (Nat.le_of_ble_eq_true rfl) dX1_isItem_71 ⟨Nat.zero_le _, Nat.zero_le _⟩) hD hS hA (fun r_21 u H locs hp_20 hP hD hS => ?_)
            obtain ⟨g_19, rfl⟩ : ∃ z, z = u := ⟨_, rfl⟩
            have hP : va_P D vwCl (WW cI cO sk g_19 tb V_15 Hd tr) H := hP
            have hD : va_D A (WW cI cO sk g_19 tb V_15 Hd tr) := hD
            have hT := nm2_u hp_20.1 hT
            refine lv_if_eq (tgt := 81) hx hb dX1_isItem_74 (by decide) (fun c_22 => ?_) (fun c_22 => ?_)
            · have hT := it_t c_22 hT
              refine lv_iconst (v := 0) hx hb dX1_isItem_81 (by decide) ?_
              exact hret _ (g_19, V_15, Hd) _ _ _ _ ⟨hT, (Or.inl rfl)⟩ hP hD hS dX1_isItem_82
            · have hT := it_f c_22 hT
              refine lv_iconst (v := 1) hx hb dX1_isItem_77 (by decide) ?_
              refine lv_goto (tgt := 82) hx hb dX1_isItem_78 (by decide) ?_
              exact hret _ (g_19, V_15, Hd) _ _ _ _ ⟨hT, (Or.inr rfl)⟩ hP hD hS dX1_isItem_82
      · have hT := it_f c_12 hT
        by_cases c_23 : (g 3) = (111 : Int32)
        · have hT := it_t c_23 hT
          refine lv_lookup (tgt := 83) (off := 69) hx hb dX1_isItem_14 (by decide) (by rw [c_23]; decide) (by decide) ?_
          refine lv_aload_n hx hb dX1_isItem_83 rfl (lv_at hl 0 rfl) ?_
          refine on_i (run_vQ (As := []) (rest := []) C hK hP hD hN (c_X1_isHolder _) (rX1_r hK hP) ⟨wd_2_2, wd_2_4, ws_5, wd_1_2, wd_2_5⟩ ⟨rfl, rfl⟩ hv_X1_isHolder ⟨Nat.le_of_ble_eq_true rfl, Nat.le_of_ble_eq_true rfl⟩ rfl hl.1 rfl (Nat.le_of_ble_eq_true rfl) dX1_isItem_84 ⟨Nat.zero_le _, Nat.zero_le _⟩) hD hS hA (fun r_27 u H locs hp_26 hP hD hS => ?_)
          obtain ⟨g_24, Hd_25⟩ := u
          have hP : va_P D vwCl (WW cI cO sk g_24 tb V Hd_25 tr) H := hP
          have hD : va_D A (WW cI cO sk g_24 tb V Hd_25 tr) := hD
          have hT := nm3_u hp_26.1 hT
          refine lv_if_eq (tgt := 101) hx hb dX1_isItem_87 (by decide) (fun c_28 => ?_) (fun c_28 => ?_)
          · have hT := it_t c_28 hT
            refine lv_iconst (v := 0) hx hb dX1_isItem_101 (by decide) ?_
            exact hret _ (g_24, V, Hd_25) _ _ _ _ ⟨hT, (Or.inl rfl)⟩ hP hD hS dX1_isItem_102
          · have hT := it_f c_28 hT
            refine lv_aload_n hx hb dX1_isItem_90 rfl (lv_at hl 0 rfl) ?_
            refine on_i (run_vQ (As := []) (rest := []) C hK hP hD hN (c_X1_isStop _) (rX1_r hK hP) ⟨wd_1_238, wd_2_0, ws_4, wd_1_2, wd_2_1⟩ ⟨rfl, rfl⟩ hv_X1_isStop ⟨Nat.le_of_ble_eq_true rfl, Nat.le_of_ble_eq_true rfl⟩ rfl hl.1 rfl (Nat.le_of_ble_eq_true rfl) dX1_isItem_91 ⟨Nat.zero_le _, Nat.zero_le _⟩) hD hS hA (fun r_31 u H locs hp_30 hP hD hS => ?_)
            obtain ⟨g_29, rfl⟩ : ∃ z, z = u := ⟨_, rfl⟩
            have hP : va_P D vwCl (WW cI cO sk g_29 tb V Hd_25 tr) H := hP
            have hD : va_D A (WW cI cO sk g_29 tb V Hd_25 tr) := hD
            have hT := nm2_u hp_30.1 hT
            refine lv_if_eq (tgt := 101) hx hb dX1_isItem_94 (by decide) (fun c_32 => ?_) (fun c_32 => ?_)
            · have hT := it_t c_32 hT
              refine lv_iconst (v := 0) hx hb dX1_isItem_101 (by decide) ?_
              exact hret _ (g_29, V, Hd_25) _ _ _ _ ⟨hT, (Or.inl rfl)⟩ hP hD hS dX1_isItem_102
            · have hT := it_f c_32 hT
              refine lv_iconst (v := 1) hx hb dX1_isItem_97 (by decide) ?_
              refine lv_goto (tgt := 102) hx hb dX1_isItem_98 (by decide) ?_
              exact hret _ (g_29, V, Hd_25) _ _ _ _ ⟨hT, (Or.inr rfl)⟩ hP hD hS dX1_isItem_102
        · have hT := it_f c_23 hT
          by_cases c_33 : (g 3) = (119 : Int32)
          · have hT := it_t c_33 hT
            refine lv_lookup (tgt := 123) (off := 109) hx hb dX1_isItem_14 (by decide) (by rw [c_33]; decide) (by decide) ?_
            refine lv_aload_n hx hb dX1_isItem_123 rfl (lv_at hl 0 rfl) ?_
            refine gX1_windTold C hK hP wd_1_83 dX1_isItem_124 ?_
            refine lv_if_ne (tgt := 148) hx hb dX1_isItem_127 (by decide) (fun c_34 => ?_) (fun c_34 => ?_)
            · have hT := it_f c_34 hT
              refine lv_iconst (v := 0) hx hb dX1_isItem_148 (by decide) ?_
              exact hret _ (g, V, Hd) _ _ _ _ ⟨hT, (Or.inl rfl)⟩ hP hD hS dX1_isItem_149
            · have hT := it_t c_34 hT
              refine lv_aload_n hx hb dX1_isItem_130 rfl (lv_at hl 0 rfl) ?_
              refine on_i (run_vQ (As := []) (rest := []) C hK hP hD hN (c_X1_isWind _) (rX1_r hK hP) ⟨wd_2_25, wd_2_27, ws_8, wd_1_2, wd_2_28⟩ ⟨rfl, rfl⟩ hv_X1_isWind ⟨Nat.le_of_ble_eq_true rfl, Nat.le_of_ble_eq_true rfl⟩ rfl hl.1 rfl (Nat.le_of_ble_eq_true rfl) dX1_isItem_131 ⟨Nat.zero_le _, Nat.zero_le _⟩) hD hS hA (fun r_38 u H locs hp_37 hP hD hS => ?_)
              obtain ⟨g_35, V_36⟩ := u
              have hP : va_P D vwCl (WW cI cO sk g_35 tb V_36 Hd tr) H := hP
              have hD : va_D A (WW cI cO sk g_35 tb V_36 Hd tr) := hD
              have hT := nm3_u hp_37.1 hT
              refine lv_if_eq (tgt := 148) hx hb dX1_isItem_134 (by decide) (fun c_39 => ?_) (fun c_39 => ?_)
              · have hT := it_t c_39 hT
                refine lv_iconst (v := 0) hx hb dX1_isItem_148 (by decide) ?_
                exact hret _ (g_35, V_36, Hd) _ _ _ _ ⟨hT, (Or.inl rfl)⟩ hP hD hS dX1_isItem_149
              · have hT := it_f c_39 hT
                refine lv_aload_n hx hb dX1_isItem_137 rfl (lv_at hl 0 rfl) ?_
                refine on_i (run_vQ (As := []) (rest := []) C hK hP hD hN (c_X1_isStop _) (rX1_r hK hP) ⟨wd_1_238, wd_2_0, ws_4, wd_1_2, wd_2_1⟩ ⟨rfl, rfl⟩ hv_X1_isStop ⟨Nat.le_of_ble_eq_true rfl, Nat.le_of_ble_eq_true rfl⟩ rfl hl.1 rfl (Nat.le_of_ble_eq_true rfl) dX1_isItem_138 ⟨Nat.zero_le _, Nat.zero_le _⟩) hD hS hA (fun r_42 u H locs hp_41 hP hD hS => ?_)
                obtain ⟨g_40, rfl⟩ : ∃ z, z = u := ⟨_, rfl⟩
                have hP : va_P D vwCl (WW cI cO sk g_40 tb V_36 Hd tr) H := hP
                have hD : va_D A (WW cI cO sk g_40 tb V_36 Hd tr) := hD
                have hT := nm2_u hp_41.1 hT
                refine lv_if_eq (tgt := 148) hx hb dX1_isItem_141 (by decide) (fun c_43 => ?_) (fun c_43 => ?_)
                · have hT := it_t c_43 hT
                  refine lv_iconst (v := 0) hx hb dX1_isItem_148 (by decide) ?_
                  exact hret _ (g_40, V_36, Hd) _ _ _ _ ⟨hT, (Or.inl rfl)⟩ hP hD hS dX1_isItem_149
                · have hT := it_f c_43 hT
                  refine lv_iconst (v := 1) hx hb dX1_isItem_144 (by decide) ?_
                  refine lv_goto (tgt := 149) hx hb dX1_isItem_145 (by decide) ?_
                  exact hret _ (g_40, V_36, Hd) _ _ _ _ ⟨hT, (Or.inr rfl)⟩ hP hD hS dX1_isItem_149
          · have hT := it_f c_33 hT
            refine lv_lookup (tgt := 150) (off := 136) hx hb dX1_isItem_14 (by decide) (by exact (lv_osw c_2 rfl).trans ((lv_osw c_12 rfl).trans ((lv_osw c_23 rfl).trans ((lv_osw c_33 rfl).trans (rfl))))) (by decide) ?_
            refine lv_iconst (v := 0) hx hb dX1_isItem_150 (by decide) ?_
            exact hret _ (g, V, Hd) _ _ _ _ ⟨hT, (Or.inl rfl)⟩ hP hD hS dX1_isItem_151
  · have hT := it_f c_1 hT
    refine lv_iconst (v := 0) hx hb dX1_isItem_8 (by decide) ?_
    exact hret _ (g, V, Hd) _ _ _ _ ⟨hT, (Or.inl rfl)⟩ hP hD hS dX1_isItem_9
theorem hv_X1_readAll : yX1_readAll.cls = RX1 ∧ yX1_readAll.cls ≠ "java/lang/invoke/MethodHandle" ∧ yX1_readAll.cls ≠ "java/lang/invoke/VarHandle" ∧ (parseMethodDescriptor yX1_readAll.desc).map (fun d => d.parameters.length) = some 0 := by decide +kernel
theorem hd_X1_readAll : yX1_readAll.cls ≠ "java/lang/invoke/MethodHandle" ∧ yX1_readAll.cls ≠ "java/lang/invoke/VarHandle" ∧ (parseMethodDescriptor yX1_readAll.desc).map (fun d => d.parameters.length) = some 0 := hv_X1_readAll.2
def lp_X1_readAll_24 (tb : Nat → Int32) : Nat → Int32 → (Nat → Int32) → (Nat → Nat → Int32) → (Nat → Nat → Int32) → Int32 × (Nat → Int32) × (Nat → Nat → Int32) × (Nat → Nat → Int32)
  | 0, y_4, g_5, V_6, Hd_7 => (0, g_5, V_6, Hd_7)
  | n + 1, y_4, g_5, V_6, Hd_7 => if (150 : Int32) < y_4 then (g_5 4, g_5, V_6, Hd_7) else (nm (sp_X1_readToken g_5 tb) (fun g_9 => if (g_9 2) = 0 then (g_9 4, g_9, V_6, Hd_7) else (nm4 (sp_X1_isItem g_9 tb V_6 Hd_7) (fun r_16 g_12 V_13 Hd_14 => if r_16 = 0 then ((-10 : Int32) - (g_12 1), g_12, V_13, Hd_14) else (lp_X1_readAll_24 tb n (y_4 + 1) (upd g_12 4 ((g_12 4) + (1 : Int32))) V_13 Hd_14)))))
theorem lp_X1_readAll_24_s (tb : Nat → Int32) (n : Nat) (y_4 : Int32) (g_5 : Nat → Int32) (V_6 : Nat → Nat → Int32) (Hd_7 : Nat → Nat → Int32) : (if (150 : Int32) < y_4 then (g_5 4, g_5, V_6, Hd_7) else (nm (sp_X1_readToken g_5 tb) (fun g_9 => if (g_9 2) = 0 then (g_9 4, g_9, V_6, Hd_7) else (nm4 (sp_X1_isItem g_9 tb V_6 Hd_7) (fun r_16 g_12 V_13 Hd_14 => if r_16 = 0 then ((-10 : Int32) - (g_12 1), g_12, V_13, Hd_14) else (lp_X1_readAll_24 tb n (y_4 + 1) (upd g_12 4 ((g_12 4) + (1 : Int32))) V_13 Hd_14)))))) = lp_X1_readAll_24 tb (n + 1) y_4 g_5 V_6 Hd_7 := rfl
def sp_X1_readAll (g : Nat → Int32) (tb : Nat → Int32) (V : Nat → Nat → Int32) (Hd : Nat → Nat → Int32) : Int32 × (Nat → Int32) × (Nat → Nat → Int32) × (Nat → Nat → Int32) :=
  nm2 (sp_X4_startAnew V Hd 33) (fun V_1 Hd_2 => lp_X1_readAll_24 tb (((150 : Int32).toInt + 1 - (0 : Int32).toInt).toNat + 1) (0 : Int32) (upd (upd (upd g 0 (0 : Int32)) 4 (0 : Int32)) 5 (0 : Int32)) V_1 Hd_2)
theorem sp_X1_readAll_s (g : Nat → Int32) (tb : Nat → Int32) (V : Nat → Nat → Int32) (Hd : Nat → Nat → Int32) : (nm2 (sp_X4_startAnew V Hd 33) (fun V_1 Hd_2 => lp_X1_readAll_24 tb (((150 : Int32).toInt + 1 - (0 : Int32).toInt).toNat + 1) (0 : Int32) (upd (upd (upd g 0 (0 : Int32)) 4 (0 : Int32)) 5 (0 : Int32)) V_1 Hd_2)) = sp_X1_readAll g tb V Hd := rfl
set_option maxHeartbeats 4000000 in
set_option maxRecDepth 100000 in
theorem c_X1_readAll {l : Launch} {D : va_G} {cI cZ cO : ClassId} {sk : Nat → Nat} {g tb : Nat → Int32} {V Hd : Nat → Nat → Int32} {tr : Int64}   (sz : Nat) : Met l yX1_readAll (wm yX1_readAll cX1_readAll 2 (some .int)) ({ frames := 5, cells := 0, slots := 0, locals := 108 } : Room) (GPre D (ty3 cI cZ cO) (WW cI cO sk g tb V Hd tr) [.ref (sk 1)] sz) (va_Qi (fun r (u : (Nat → Int32) × (Nat → Nat → Int32) × (Nat → Nat → Int32)) => (r, u) = sp_X1_readAll g tb V Hd) (fun u t => GAt D (ty3 cI cZ cO) (va_A (WW cI cO sk g tb V Hd tr) sz) (WW cI cO sk u.1 tb u.2.1 u.2.2 tr) t) (va_A (WW cI cO sk g tb V Hd tr) sz)) 0 0 (va_A (WW cI cO sk g tb V Hd tr) sz) := by
  refine metQ_i (W1 := (fun (u : (Nat → Int32) × (Nat → Nat → Int32) × (Nat → Nat → Int32)) => WW cI cO sk u.1 tb u.2.1 u.2.2 tr)) (post := (fun r (u : (Nat → Int32) × (Nat → Nat → Int32) × (Nat → Nat → Int32)) => (r, u) = sp_X1_readAll g tb V Hd)) (by decide) (Nat.le_of_ble_eq_true rfl) ?_
  intro p e s m args below meth c ls A Q C hsz hP hK hD hS hA hN hl hret
  have hx := C.1
  have hb := C.2.1
  have hl : lv_has ls 2 [(0, .ref (sk 1))] := hl
  have hT := sp_X1_readAll_s g tb V Hd
  refine lv_aload_n hx hb dX1_readAll_0 rfl (lv_at hl 0 rfl) ?_
  refine gX1_draft C hK hP wd_1_76 dX1_readAll_1 ?_
  refine on_v (run_vQ (As := []) (rest := []) C hK hP hD hN (c_X4_startAnew (by decide) _) (rX4_r hK hP (by decide)) ⟨wd_1_207, wd_1_208, wd_1_209, wd_1_4, wd_1_210⟩ ⟨rfl, rfl⟩ hv_X4_startAnew ⟨Nat.le_of_ble_eq_true rfl, Nat.le_of_ble_eq_true rfl⟩ rfl hl.1 rfl (Nat.le_of_ble_eq_true rfl) dX1_readAll_4 ⟨Nat.zero_le _, Nat.zero_le _⟩) hD hS hA (fun u H locs hp_3 hP hD hS => ?_)
  obtain ⟨V_1, Hd_2⟩ := u
  have hP : va_P D vwCl (WW cI cO sk g tb V_1 Hd_2 tr) H := hP
  have hD : va_D A (WW cI cO sk g tb V_1 Hd_2 tr) := hD
  have hT := nm2_u hp_3 hT
  refine lv_aload_n hx hb dX1_readAll_7 rfl (lv_at hl 0 rfl) ?_
  refine lv_iconst (v := 0) hx hb dX1_readAll_8 (by decide) ?_
  refine pX1_place C hK hP hD hS wd_1_78 dX1_readAll_9 (fun H locs hP hD hS => ?_)
  refine lv_aload_n hx hb dX1_readAll_12 rfl (lv_at hl 0 rfl) ?_
  refine lv_iconst (v := 0) hx hb dX1_readAll_13 (by decide) ?_
  refine pX1_items C hK hP hD hS wd_1_82 dX1_readAll_14 (fun H locs hP hD hS => ?_)
  refine lv_aload_n hx hb dX1_readAll_17 rfl (lv_at hl 0 rfl) ?_
  refine lv_iconst (v := 0) hx hb dX1_readAll_18 (by decide) ?_
  refine pX1_windTold C hK hP hD hS (Or.inl rfl) wd_1_83 dX1_readAll_19 (fun H locs hP hD hS => ?_)
  refine lv_iconst (v := 0) hx hb dX1_readAll_22 (by decide) ?_
  refine lv_istore_n (lv' := [(1, .int (0 : Int32)), (0, .ref (sk 1))]) hx hb dX1_readAll_23 rfl hl (by decide) rfl (fun ls hl => ?_)
  have L_24 : ∀ (n : Nat) (ls : Array Slot) (y_4 : Int32) (g_5 : Nat → Int32) (V_6 : Nat → Nat → Int32) (Hd_7 : Nat → Nat → Int32) (hm : ((150 : Int32).toInt + 1 - y_4.toInt).toNat < n) (H : Heap) (locs : List Loc) (hP : va_P D vwCl (WW cI cO sk g_5 tb V_6 Hd_7 tr) H) (hD : va_D A (WW cI cO sk g_5 tb V_6 Hd_7 tr)) (hS : va_S A s.heap H locs) (hl : lv_has ls 2 [(0, .ref (sk 1)), (1, .int y_4)]) (hT0 : lp_X1_readAll_24 tb n y_4 g_5 V_6 Hd_7 = sp_X1_readAll g tb V Hd), W p l e ({ frames := 5, cells := 0, slots := 0, locals := 108 } : Room) s m args below meth c H locs 0 0 Q (F0 m 24 ls []) := by
    intro n
    induction n with
    | zero => intro ls y_4 g_5 V_6 Hd_7 hm; exact absurd hm (Nat.not_lt_zero _)
    | succ n ih =>
      intro ls y_4 g_5 V_6 Hd_7 hm H locs hP hD hS hl hT0
      have hT := (lp_X1_readAll_24_s tb n y_4 g_5 V_6 Hd_7).trans hT0
      refine lv_iload_n hx hb dX1_readAll_24 rfl (lv_at hl 1 rfl) ?_
      refine lv_sipush (v := 150) hx hb dX1_readAll_25 (by decide) ?_
      refine lv_icmp_gt (tgt := 78) hx hb dX1_readAll_28 (by decide) (fun c_8 => ?_) (fun c_8 => ?_)
      · have hT := it_t c_8 hT
        refine lv_aload_n hx hb dX1_readAll_78 rfl (lv_at hl 0 rfl) ?_
        refine gX1_items C hK hP wd_1_82 dX1_readAll_79 ?_
        exact hret _ (g_5, V_6, Hd_7) _ _ _ _ hT hP hD hS dX1_readAll_82
      · have hT := it_f c_8 hT
        refine lv_aload_n hx hb dX1_readAll_31 rfl (lv_at hl 0 rfl) ?_
        refine on_v (run_vQ (As := []) (rest := []) C hK hP hD hN (c_X1_readToken _) (rX1_r hK hP) ⟨wd_1_215, wd_1_217, ws_0, wd_1_2, wd_1_218⟩ ⟨rfl, rfl⟩ hv_X1_readToken ⟨Nat.le_of_ble_eq_true rfl, Nat.le_of_ble_eq_true rfl⟩ rfl hl.1 rfl (Nat.le_of_ble_eq_true rfl) dX1_readAll_32 ⟨Nat.zero_le _, Nat.zero_le _⟩) hD hS hA (fun u H locs hp_10 hP hD hS => ?_)
        obtain ⟨g_9, rfl⟩ : ∃ z, z = u := ⟨_, rfl⟩
        have hP : va_P D vwCl (WW cI cO sk g_9 tb V_6 Hd_7 tr) H := hP
        have hD : va_D A (WW cI cO sk g_9 tb V_6 Hd_7 tr) := hD
        have hT := nm_u hp_10 hT
        refine lv_aload_n hx hb dX1_readAll_35 rfl (lv_at hl 0 rfl) ?_
        refine gX1_token C hK hP wd_1_80 dX1_readAll_36 ?_
        refine lv_if_ne (tgt := 47) hx hb dX1_readAll_39 (by decide) (fun c_11 => ?_) (fun c_11 => ?_)
        · have hT := it_f c_11 hT
          refine lv_aload_n hx hb dX1_readAll_47 rfl (lv_at hl 0 rfl) ?_
          refine on_i (run_vQ (As := []) (rest := []) C hK hP hD hN (c_X1_isItem _) (rX1_r hK hP) ⟨wd_1_226, wd_1_228, ws_1, wd_1_2, wd_1_229⟩ ⟨rfl, rfl⟩ hv_X1_isItem ⟨Nat.le_of_ble_eq_true rfl, Nat.le_of_ble_eq_true rfl⟩ rfl hl.1 rfl (Nat.le_of_ble_eq_true rfl) dX1_readAll_48 ⟨Nat.zero_le _, Nat.zero_le _⟩) hD hS hA (fun r_16 u H locs hp_15 hP hD hS => ?_)
          obtain ⟨g_12, V_13, Hd_14⟩ := u
          have hP : va_P D vwCl (WW cI cO sk g_12 tb V_13 Hd_14 tr) H := hP
          have hD : va_D A (WW cI cO sk g_12 tb V_13 Hd_14 tr) := hD
          have hT := nm4_u hp_15.1 hT
          refine lv_if_ne (tgt := 62) hx hb dX1_readAll_51 (by decide) (fun c_17 => ?_) (fun c_17 => ?_)
          · have hT := it_f c_17 hT
            refine lv_aload_n hx hb dX1_readAll_62 rfl (lv_at hl 0 rfl) ?_
            refine lv_dup hx hb dX1_readAll_63 rfl ?_
            refine gX1_items C hK hP wd_1_82 dX1_readAll_64 ?_
            refine lv_iconst (v := 1) hx hb dX1_readAll_67 (by decide) ?_
            refine lv_iadd hx hb dX1_readAll_68 ?_
            refine pX1_items C hK hP hD hS wd_1_82 dX1_readAll_69 (fun H locs hP hD hS => ?_)
            refine lv_iinc (v := y_4 + 1) (lv' := [(1, .int (y_4 + 1)), (0, .ref (sk 1))]) hx hb dX1_readAll_72 hl (k := 1) rfl rfl (by decide) rfl (fun ls hl => ?_)
            refine lv_goto (tgt := 24) hx hb dX1_readAll_75 (by decide) ?_
            exact ih ls (y_4 + 1) (upd g_12 4 ((g_12 4) + (1 : Int32))) V_13 Hd_14 (ms_up3 c_8 (by decide) hm) H locs hP hD hS (lv_sub hl [1, 0] rfl) hT
          · have hT := it_t c_17 hT
            refine lv_bipush (v := -10) hx hb dX1_readAll_54 (by decide) ?_
            refine lv_aload_n hx hb dX1_readAll_56 rfl (lv_at hl 0 rfl) ?_
            refine gX1_start C hK hP wd_1_79 dX1_readAll_57 ?_
            refine lv_isub hx hb dX1_readAll_60 ?_
            exact hret _ (g_12, V_13, Hd_14) _ _ _ _ hT hP hD hS dX1_readAll_61
        · have hT := it_t c_11 hT
          refine lv_aload_n hx hb dX1_readAll_42 rfl (lv_at hl 0 rfl) ?_
          refine gX1_items C hK hP wd_1_82 dX1_readAll_43 ?_
          exact hret _ (g_9, V_6, Hd_7) _ _ _ _ hT hP hD hS dX1_readAll_46
  exact L_24 (((150 : Int32).toInt + 1 - (0 : Int32).toInt).toNat + 1) ls (0 : Int32) (upd (upd (upd g 0 (0 : Int32)) 4 (0 : Int32)) 5 (0 : Int32)) V_1 Hd_2 (Nat.lt_succ_self _) H locs hP hD hS (lv_sub hl [1, 0] rfl) hT
