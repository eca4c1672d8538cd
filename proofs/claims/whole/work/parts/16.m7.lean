theorem hv_X7_readItem : yX7_readItem.cls = RX7 ∧ yX7_readItem.cls ≠ "java/lang/invoke/MethodHandle" ∧ yX7_readItem.cls ≠ "java/lang/invoke/VarHandle" ∧ (parseMethodDescriptor yX7_readItem.desc).map (fun d => d.parameters.length) = some 0 := by decide +kernel
theorem hd_X7_readItem : yX7_readItem.cls ≠ "java/lang/invoke/MethodHandle" ∧ yX7_readItem.cls ≠ "java/lang/invoke/VarHandle" ∧ (parseMethodDescriptor yX7_readItem.desc).map (fun d => d.parameters.length) = some 0 := hv_X7_readItem.2
def jn_X7_readItem_235 (tx : Nat → Int32) (mg_6 : Nat → Int32) (sh_7 : Nat → Int32) (v_8 : Int32) : (Nat → Int32) × (Nat → Int32) :=
  if ((upd mg_6 8 v_8) 8) = 0 then (nm (sp_X7_next (upd mg_6 8 v_8) tx) (fun mg_10 => (mg_10, sh_7))) else (upd mg_6 8 v_8, sh_7)
theorem jn_X7_readItem_235_s (tx : Nat → Int32) (mg_6 : Nat → Int32) (sh_7 : Nat → Int32) (v_8 : Int32) : (if ((upd mg_6 8 v_8) 8) = 0 then (nm (sp_X7_next (upd mg_6 8 v_8) tx) (fun mg_10 => (mg_10, sh_7))) else (upd mg_6 8 v_8, sh_7)) = jn_X7_readItem_235 tx mg_6 sh_7 v_8 := rfl
def jn_X7_readItem_214 (tx : Nat → Int32) (mg_6 : Nat → Int32) (sh_7 : Nat → Int32) : (Nat → Int32) × (Nat → Int32) :=
  if (mg_6 8) = 0 then (if (mg_6 6) = (3 : Int32) then (jn_X7_readItem_235 tx mg_6 sh_7 (0 : Int32)) else (jn_X7_readItem_235 tx mg_6 sh_7 (1 : Int32))) else (jn_X7_readItem_235 tx mg_6 sh_7 (1 : Int32))
theorem jn_X7_readItem_214_s (tx : Nat → Int32) (mg_6 : Nat → Int32) (sh_7 : Nat → Int32) : (if (mg_6 8) = 0 then (if (mg_6 6) = (3 : Int32) then (jn_X7_readItem_235 tx mg_6 sh_7 (0 : Int32)) else (jn_X7_readItem_235 tx mg_6 sh_7 (1 : Int32))) else (jn_X7_readItem_235 tx mg_6 sh_7 (1 : Int32))) = jn_X7_readItem_214 tx mg_6 sh_7 := rfl
def jn_X7_readItem_64 (mg : Nat → Int32) (tx : Nat → Int32) (sh : Nat → Int32) (v_1 : Int32) : (Nat → Int32) × (Nat → Int32) :=
  if (mg 6) = (1 : Int32) then (if v_1 = 0 then (upd mg 8 (1 : Int32), sh) else (nm (sp_X7_next mg tx) (fun mg_4 => if (mg 7) = (103 : Int32) then (nm2 (sp_X7_takesNumber mg_4 tx (1 : Int32) (5 : Int32)) (fun r_33 mg_31 => nm2 (sp_X7_takesNumber (upd mg_31 10 r_33) tx (1 : Int32) (4 : Int32)) (fun r_36 mg_34 => jn_X7_readItem_214 tx (upd mg_34 11 r_36) sh))) else (if (mg 7) = (119 : Int32) then (nm2 (sp_X7_takesNumber mg_4 tx (0 : Int32) (1 : Int32)) (fun r_30 mg_28 => jn_X7_readItem_214 tx (upd mg_28 13 r_30) sh)) else (if (mg 7) = (111 : Int32) then (nm2 (sp_X7_takesNumber mg_4 tx (0 : Int32) (4 : Int32)) (fun r_23 mg_21 => nm2 (sp_X7_takesCell mg_21 tx sh (0 : Int32)) (fun r_26 mg_24 => if (mg_24 8) = 0 then (jn_X7_readItem_214 tx mg_24 (upd sh r_26.toNatClampNeg (r_23 + (1 : Int32)))) else (jn_X7_readItem_214 tx mg_24 (upd sh r_26.toNatClampNeg (sh r_26.toNatClampNeg)))))) else (nm2 (sp_X7_takesCell mg_4 tx sh (1 : Int32)) (fun r_19 mg_17 => if (mg_17 8) = 0 then (jn_X7_readItem_214 tx (upd mg_17 12 ((mg_17 12) ||| ((1 : Int32) <<< (r_19 &&& 31)))) sh) else (jn_X7_readItem_214 tx (upd mg_17 12 ((mg_17 12) ||| (0 : Int32))) sh)))))))) else (upd mg 8 (1 : Int32), sh)
theorem jn_X7_readItem_64_s (mg : Nat → Int32) (tx : Nat → Int32) (sh : Nat → Int32) (v_1 : Int32) : (if (mg 6) = (1 : Int32) then (if v_1 = 0 then (upd mg 8 (1 : Int32), sh) else (nm (sp_X7_next mg tx) (fun mg_4 => if (mg 7) = (103 : Int32) then (nm2 (sp_X7_takesNumber mg_4 tx (1 : Int32) (5 : Int32)) (fun r_33 mg_31 => nm2 (sp_X7_takesNumber (upd mg_31 10 r_33) tx (1 : Int32) (4 : Int32)) (fun r_36 mg_34 => jn_X7_readItem_214 tx (upd mg_34 11 r_36) sh))) else (if (mg 7) = (119 : Int32) then (nm2 (sp_X7_takesNumber mg_4 tx (0 : Int32) (1 : Int32)) (fun r_30 mg_28 => jn_X7_readItem_214 tx (upd mg_28 13 r_30) sh)) else (if (mg 7) = (111 : Int32) then (nm2 (sp_X7_takesNumber mg_4 tx (0 : Int32) (4 : Int32)) (fun r_23 mg_21 => nm2 (sp_X7_takesCell mg_21 tx sh (0 : Int32)) (fun r_26 mg_24 => if (mg_24 8) = 0 then (jn_X7_readItem_214 tx mg_24 (upd sh r_26.toNatClampNeg (r_23 + (1 : Int32)))) else (jn_X7_readItem_214 tx mg_24 (upd sh r_26.toNatClampNeg (sh r_26.toNatClampNeg)))))) else (nm2 (sp_X7_takesCell mg_4 tx sh (1 : Int32)) (fun r_19 mg_17 => if (mg_17 8) = 0 then (jn_X7_readItem_214 tx (upd mg_17 12 ((mg_17 12) ||| ((1 : Int32) <<< (r_19 &&& 31)))) sh) else (jn_X7_readItem_214 tx (upd mg_17 12 ((mg_17 12) ||| (0 : Int32))) sh)))))))) else (upd mg 8 (1 : Int32), sh)) = jn_X7_readItem_64 mg tx sh v_1 := rfl
def sp_X7_readItem (mg : Nat → Int32) (tx : Nat → Int32) (sh : Nat → Int32) : (Nat → Int32) × (Nat → Int32) :=
  if (mg 7) = (103 : Int32) then (if (mg 9) = 0 then (jn_X7_readItem_64 mg tx sh (1 : Int32)) else (jn_X7_readItem_64 mg tx sh (0 : Int32))) else (if (mg 7) = (119 : Int32) then (if 0 ≤ (mg 13) then (jn_X7_readItem_64 mg tx sh (0 : Int32)) else (jn_X7_readItem_64 mg tx sh (1 : Int32))) else (if (mg 7) = (111 : Int32) then (jn_X7_readItem_64 mg tx sh (1 : Int32)) else (if (mg 7) = (99 : Int32) then (jn_X7_readItem_64 mg tx sh (1 : Int32)) else (jn_X7_readItem_64 mg tx sh (0 : Int32)))))
theorem sp_X7_readItem_s (mg : Nat → Int32) (tx : Nat → Int32) (sh : Nat → Int32) : (if (mg 7) = (103 : Int32) then (if (mg 9) = 0 then (jn_X7_readItem_64 mg tx sh (1 : Int32)) else (jn_X7_readItem_64 mg tx sh (0 : Int32))) else (if (mg 7) = (119 : Int32) then (if 0 ≤ (mg 13) then (jn_X7_readItem_64 mg tx sh (0 : Int32)) else (jn_X7_readItem_64 mg tx sh (1 : Int32))) else (if (mg 7) = (111 : Int32) then (jn_X7_readItem_64 mg tx sh (1 : Int32)) else (if (mg 7) = (99 : Int32) then (jn_X7_readItem_64 mg tx sh (1 : Int32)) else (jn_X7_readItem_64 mg tx sh (0 : Int32)))))) = sp_X7_readItem mg tx sh := rfl
set_option maxHeartbeats 4000000 in
set_option maxRecDepth 100000 in
theorem c_X7_readItem {l : Launch} {D : va_G} {cI cZ cO : ClassId} {mk : Nat → Nat} {mg st im ke se tx sh fa : Nat → Int32} {mt : Int64}  {N : Nat} (hNN : N ≤ 150) (hTT : ∀ j, j < N → 0 ≤ tx j) (h3 : mg 3 = nI N) (hc : ∃ p, p ≤ N ∧ mg 4 = nI p) (hsw : 1 ≤ (mg 10).toInt ∧ (mg 10).toInt ≤ 5) (hsr : 1 ≤ (mg 11).toInt ∧ (mg 11).toInt ≤ 4) (sz : Nat) : Met l yX7_readItem (wm yX7_readItem cX7_readItem 5 none) ({ frames := 5, cells := 0, slots := 0, locals := 111 } : Room) (GPre D (ty3 cI cZ cO) (MW cI cZ mk mg st im ke se tx sh fa mt) [.ref (mk 0)] sz) (va_Qv (fun (u : (Nat → Int32) × (Nat → Int32)) => u = sp_X7_readItem mg tx sh) (fun u t => GAt D (ty3 cI cZ cO) (va_A (MW cI cZ mk mg st im ke se tx sh fa mt) sz) (MW cI cZ mk u.1 st im ke se tx u.2 fa mt) t) (va_A (MW cI cZ mk mg st im ke se tx sh fa mt) sz)) 0 0 (va_A (MW cI cZ mk mg st im ke se tx sh fa mt) sz) := by
  refine metQ_v (W1 := (fun (u : (Nat → Int32) × (Nat → Int32)) => MW cI cZ mk u.1 st im ke se tx u.2 fa mt)) (post := (fun (u : (Nat → Int32) × (Nat → Int32)) => u = sp_X7_readItem mg tx sh)) (by decide) (Nat.le_of_ble_eq_true rfl) ?_
  intro p e s m args below meth c ls A Q C hsz hP hK hD hS hA hN hl hret
  have hx := C.1
  have hb := C.2.1
  have hl : lv_has ls 5 [(0, .ref (mk 0))] := hl
  have hT := sp_X7_readItem_s mg tx sh
  refine lv_aload_n hx hb dX7_readItem_0 rfl (lv_at hl 0 rfl) ?_
  refine gX7_number C hK hP wd_3_88 dX7_readItem_1 ?_
  refine lv_istore_n (lv' := [(1, .int (mg 7)), (0, .ref (mk 0))]) hx hb dX7_readItem_4 rfl hl (by decide) rfl (fun ls hl => ?_)
  refine lv_iload_n hx hb dX7_readItem_5 rfl (lv_at hl 0 rfl) ?_
  refine lv_bipush (v := 103) hx hb dX7_readItem_6 (by decide) ?_
  have K_64 : ∀ (ls : Array Slot) (v_1 : Int32) (bo_v_1 : v_1 = 0 ∨ v_1 = 1) (hl : lv_has ls 5 [(0, .ref (mk 0)), (1, .int (mg 7))]) (hT0 : jn_X7_readItem_64 mg tx sh v_1 = sp_X7_readItem mg tx sh), W p l e ({ frames := 5, cells := 0, slots := 0, locals := 111 } : Room) s m args below meth c s.heap [] 0 0 Q (F0 m 64 ls [.int v_1]) := by
    intro ls v_1 bo_v_1 hl hT0
    have hT := (jn_X7_readItem_64_s mg tx sh v_1).trans hT0
    refine lv_istore_n (lv' := [(2, .int v_1), (0, .ref (mk 0)), (1, .int (mg 7))]) hx hb dX7_readItem_64 rfl hl (by decide) rfl (fun ls hl => ?_)
    refine lv_aload_n hx hb dX7_readItem_65 rfl (lv_at hl 1 rfl) ?_
    refine gX7_token C hK hP wd_3_87 dX7_readItem_66 ?_
    refine lv_iconst (v := 1) hx hb dX7_readItem_69 (by decide) ?_
    refine lv_icmp_ne (tgt := 77) hx hb dX7_readItem_70 (by decide) (fun c_2 => ?_) (fun c_2 => ?_)
    · have hT := it_f c_2 hT
      refine lv_aload_n hx hb dX7_readItem_77 rfl (lv_at hl 1 rfl) ?_
      refine lv_iconst (v := 1) hx hb dX7_readItem_78 (by decide) ?_
      refine pX7_isWrong C hK hP hD hS (Or.inr rfl) wd_3_89 dX7_readItem_79 (fun H locs hP hD hS => ?_)
      exact hret (upd mg 8 (1 : Int32), sh) _ _ _ _ hT hP hD hS dX7_readItem_82
    · have hT := it_t c_2 hT
      refine lv_iload_n hx hb dX7_readItem_73 rfl (lv_at hl 0 rfl) ?_
      refine lv_if_ne (tgt := 83) hx hb dX7_readItem_74 (by decide) (fun c_3 => ?_) (fun c_3 => ?_)
      · have hT := it_f c_3 hT
        refine lv_aload_n hx hb dX7_readItem_83 rfl (lv_at hl 1 rfl) ?_
        refine on_v (run_vQ (As := []) (rest := []) C hK hP hD hN (c_X7_next (mg := mg) (cu_of hNN hc) (tx_of hNN h3) _) (rX7_r hK hP) ⟨wd_3_158, wd_3_160, ws_21, wd_1_8, wd_3_161⟩ ⟨rfl, rfl⟩ hv_X7_next ⟨Nat.le_of_ble_eq_true rfl, Nat.le_of_ble_eq_true rfl⟩ rfl hl.1 rfl (Nat.le_of_ble_eq_true rfl) dX7_readItem_84 ⟨Nat.zero_le _, Nat.zero_le _⟩) hD hS hA (fun u H locs hp_5 hP hD hS => ?_)
        obtain ⟨mg_4, rfl⟩ : ∃ z, z = u := ⟨_, rfl⟩
        have hP : va_P D vwCl (MW cI cZ mk mg_4 st im ke se tx sh fa mt) H := hP
        have hD : va_D A (MW cI cZ mk mg_4 st im ke se tx sh fa mt) := hD
        have hT := nm_u hp_5 hT
        have t84 := nx_o hp_5 hNN hTT h3 hc
        refine lv_iload_n hx hb dX7_readItem_87 rfl (lv_at hl 2 rfl) ?_
        refine lv_bipush (v := 103) hx hb dX7_readItem_88 (by decide) ?_
        have K_214 : ∀ (ls : Array Slot) (mg_6 : Nat → Int32) (sh_7 : Nat → Int32) (hq3 : mg_6 3 = nI N) (hqc : ∃ p, p ≤ N ∧ mg_6 4 = nI p) (H : Heap) (locs : List Loc) (hP : va_P D vwCl (MW cI cZ mk mg_6 st im ke se tx sh_7 fa mt) H) (hD : va_D A (MW cI cZ mk mg_6 st im ke se tx sh_7 fa mt)) (hS : va_S A s.heap H locs) (hl : lv_has ls 5 [(0, .ref (mk 0))]) (hT0 : jn_X7_readItem_214 tx mg_6 sh_7 = sp_X7_readItem mg tx sh), W p l e ({ frames := 5, cells := 0, slots := 0, locals := 111 } : Room) s m args below meth c H locs 0 0 Q (F0 m 214 ls []) := by
          intro ls mg_6 sh_7 hq3 hqc H locs hP hD hS hl hT0
          have hT := (jn_X7_readItem_214_s tx mg_6 sh_7).trans hT0
          refine lv_aload_n hx hb dX7_readItem_214 rfl (lv_at hl 0 rfl) ?_
          refine lv_aload_n hx hb dX7_readItem_215 rfl (lv_at hl 0 rfl) ?_
          refine gX7_isWrong C hK hP wd_3_89 dX7_readItem_216 ?_
          have K_235 : ∀ (ls : Array Slot) (v_8 : Int32) (bo_v_8 : v_8 = 0 ∨ v_8 = 1) (hl : lv_has ls 5 [(0, .ref (mk 0))]) (hT0 : jn_X7_readItem_235 tx mg_6 sh_7 v_8 = sp_X7_readItem mg tx sh), W p l e ({ frames := 5, cells := 0, slots := 0, locals := 111 } : Room) s m args below meth c H locs 0 0 Q (F0 m 235 ls [.int v_8, .ref (mk 0)]) := by
            intro ls v_8 bo_v_8 hl hT0
            have hT := (jn_X7_readItem_235_s tx mg_6 sh_7 v_8).trans hT0
            refine pX7_isWrong C hK hP hD hS bo_v_8 wd_3_89 dX7_readItem_235 (fun H locs hP hD hS => ?_)
            refine lv_aload_n hx hb dX7_readItem_238 rfl (lv_at hl 0 rfl) ?_
            refine gX7_isWrong C hK hP wd_3_89 dX7_readItem_239 ?_
            refine lv_if_ne (tgt := 249) hx hb dX7_readItem_242 (by decide) (fun c_9 => ?_) (fun c_9 => ?_)
            · have hT := it_f c_9 hT
              exact hret (upd mg_6 8 v_8, sh_7) _ _ _ _ hT hP hD hS dX7_readItem_249
            · have hT := it_t c_9 hT
              refine lv_aload_n hx hb dX7_readItem_245 rfl (lv_at hl 0 rfl) ?_
              refine on_v (run_vQ (As := []) (rest := []) C hK hP hD hN (c_X7_next (mg := upd mg_6 8 v_8) (cu_of hNN hqc) (tx_of hNN hq3) _) (rX7_r hK hP) ⟨wd_3_158, wd_3_160, ws_21, wd_1_8, wd_3_161⟩ ⟨rfl, rfl⟩ hv_X7_next ⟨Nat.le_of_ble_eq_true rfl, Nat.le_of_ble_eq_true rfl⟩ rfl hl.1 rfl (Nat.le_of_ble_eq_true rfl) dX7_readItem_246 ⟨Nat.zero_le _, Nat.zero_le _⟩) hD hS hA (fun u H locs hp_11 hP hD hS => ?_)
              obtain ⟨mg_10, rfl⟩ : ∃ z, z = u := ⟨_, rfl⟩
              have hP : va_P D vwCl (MW cI cZ mk mg_10 st im ke se tx sh_7 fa mt) H := hP
              have hD : va_D A (MW cI cZ mk mg_10 st im ke se tx sh_7 fa mt) := hD
              have hT := nm_u hp_11 hT
              exact hret (mg_10, sh_7) _ _ _ _ hT hP hD hS dX7_readItem_249
          refine lv_if_ne (tgt := 230) hx hb dX7_readItem_219 (by decide) (fun c_12 => ?_) (fun c_12 => ?_)
          · have hT := it_f c_12 hT
            refine lv_iconst (v := 1) hx hb dX7_readItem_230 (by decide) ?_
            refine lv_goto (tgt := 235) hx hb dX7_readItem_231 (by decide) ?_
            exact K_235 ls (1 : Int32) (Or.inr rfl) (lv_sub hl [0] rfl) hT
          · have hT := it_t c_12 hT
            refine lv_aload_n hx hb dX7_readItem_222 rfl (lv_at hl 0 rfl) ?_
            refine gX7_token C hK hP wd_3_87 dX7_readItem_223 ?_
            refine lv_iconst (v := 3) hx hb dX7_readItem_226 (by decide) ?_
            refine lv_icmp_eq (tgt := 234) hx hb dX7_readItem_227 (by decide) (fun c_13 => ?_) (fun c_13 => ?_)
            · have hT := it_t c_13 hT
              refine lv_iconst (v := 0) hx hb dX7_readItem_234 (by decide) ?_
              exact K_235 ls (0 : Int32) (Or.inl rfl) (lv_sub hl [0] rfl) hT
            · have hT := it_f c_13 hT
              refine lv_iconst (v := 1) hx hb dX7_readItem_230 (by decide) ?_
              refine lv_goto (tgt := 235) hx hb dX7_readItem_231 (by decide) ?_
              exact K_235 ls (1 : Int32) (Or.inr rfl) (lv_sub hl [0] rfl) hT
        refine lv_icmp_ne (tgt := 116) hx hb dX7_readItem_90 (by decide) (fun c_14 => ?_) (fun c_14 => ?_)
        · have hT := it_f c_14 hT
          refine lv_iload_n hx hb dX7_readItem_116 rfl (lv_at hl 2 rfl) ?_
          refine lv_bipush (v := 119) hx hb dX7_readItem_117 (by decide) ?_
          refine lv_icmp_ne (tgt := 135) hx hb dX7_readItem_119 (by decide) (fun c_15 => ?_) (fun c_15 => ?_)
          · have hT := it_f c_15 hT
            refine lv_iload_n hx hb dX7_readItem_135 rfl (lv_at hl 2 rfl) ?_
            refine lv_bipush (v := 111) hx hb dX7_readItem_136 (by decide) ?_
            refine lv_icmp_ne (tgt := 185) hx hb dX7_readItem_138 (by decide) (fun c_16 => ?_) (fun c_16 => ?_)
            · have hT := it_f c_16 hT
              refine lv_aload_n hx hb dX7_readItem_185 rfl (lv_at hl 1 rfl) ?_
              refine lv_iconst (v := 1) hx hb dX7_readItem_186 (by decide) ?_
              refine on_i (run_vQ (As := [.int (1 : Int32)]) (rest := []) C hK hP hD hN (c_X7_takesCell (mg := mg_4) (tx := tx) hNN hTT t84.1 t84.2.1 (t84.s10 hsw) (t84.s11 hsr) _) (rX7_r hK hP) ⟨wd_3_180, wd_3_182, ws_25, wd_1_8, wd_3_183⟩ ⟨rfl, rfl⟩ hv_X7_takesCell ⟨Nat.le_of_ble_eq_true rfl, Nat.le_of_ble_eq_true rfl⟩ rfl hl.1 rfl (Nat.le_of_ble_eq_true rfl) dX7_readItem_187 ⟨Nat.zero_le _, Nat.zero_le _⟩) hD hS hA (fun r_19 u H locs hp_18 hP hD hS => ?_)
              obtain ⟨mg_17, rfl⟩ : ∃ z, z = u := ⟨_, rfl⟩
              have hP : va_P D vwCl (MW cI cZ mk mg_17 st im ke se tx sh fa mt) H := hP
              have hD : va_D A (MW cI cZ mk mg_17 st im ke se tx sh fa mt) := hD
              have hT := nm2_u hp_18 hT
              have t187 := tc_o hp_18 hNN hTT t84.1 t84.2.1 (t84.s10 hsw) (t84.s11 hsr)
              refine lv_istore_n (lv' := [(3, .int r_19), (2, .int v_1), (0, .ref (mk 0)), (1, .int (mg 7))]) hx hb dX7_readItem_190 rfl hl (by decide) rfl (fun ls hl => ?_)
              refine lv_aload_n hx hb dX7_readItem_191 rfl (lv_at hl 2 rfl) ?_
              refine lv_dup hx hb dX7_readItem_192 rfl ?_
              refine gX7_saidCloth C hK hP wd_3_94 dX7_readItem_193 ?_
              refine lv_aload_n hx hb dX7_readItem_196 rfl (lv_at hl 2 rfl) ?_
              refine gX7_isWrong C hK hP wd_3_89 dX7_readItem_197 ?_
              refine lv_if_eq (tgt := 207) hx hb dX7_readItem_200 (by decide) (fun c_20 => ?_) (fun c_20 => ?_)
              · have hT := it_t c_20 hT
                refine lv_iconst (v := 1) hx hb dX7_readItem_207 (by decide) ?_
                refine lv_iload_n hx hb dX7_readItem_208 rfl (lv_at hl 0 rfl) ?_
                refine lv_ishl hx hb dX7_readItem_209 ?_
                refine lv_ior hx hb dX7_readItem_210 ?_
                refine pX7_saidCloth C hK hP hD hS wd_3_94 dX7_readItem_211 (fun H locs hP hD hS => ?_)
                exact K_214 ls (upd mg_17 12 ((mg_17 12) ||| ((1 : Int32) <<< (r_19 &&& 31)))) sh t187.1.1 t187.1.2.1 H locs hP hD hS (lv_sub hl [2] rfl) hT
              · have hT := it_f c_20 hT
                refine lv_iconst (v := 0) hx hb dX7_readItem_203 (by decide) ?_
                refine lv_goto (tgt := 210) hx hb dX7_readItem_204 (by decide) ?_
                refine lv_ior hx hb dX7_readItem_210 ?_
                refine pX7_saidCloth C hK hP hD hS wd_3_94 dX7_readItem_211 (fun H locs hP hD hS => ?_)
                exact K_214 ls (upd mg_17 12 ((mg_17 12) ||| (0 : Int32))) sh t187.1.1 t187.1.2.1 H locs hP hD hS (lv_sub hl [2] rfl) hT
            · have hT := it_t c_16 hT
              refine lv_aload_n hx hb dX7_readItem_141 rfl (lv_at hl 1 rfl) ?_
              refine lv_iconst (v := 0) hx hb dX7_readItem_142 (by decide) ?_
              refine lv_iconst (v := 4) hx hb dX7_readItem_143 (by decide) ?_
              refine on_i (run_vQ (As := [.int (0 : Int32), .int (4 : Int32)]) (rest := []) C hK hP hD hN (c_X7_takesNumber (mg := mg_4) (tx := tx) hNN hTT t84.1 t84.2.1 _) (rX7_r hK hP) ⟨wd_3_176, wd_3_178, ws_24, wd_1_8, wd_3_179⟩ ⟨rfl, rfl⟩ hv_X7_takesNumber ⟨Nat.le_of_ble_eq_true rfl, Nat.le_of_ble_eq_true rfl⟩ rfl hl.1 rfl (Nat.le_of_ble_eq_true rfl) dX7_readItem_144 ⟨Nat.zero_le _, Nat.zero_le _⟩) hD hS hA (fun r_23 u H locs hp_22 hP hD hS => ?_)
              obtain ⟨mg_21, rfl⟩ : ∃ z, z = u := ⟨_, rfl⟩
              have hP : va_P D vwCl (MW cI cZ mk mg_21 st im ke se tx sh fa mt) H := hP
              have hD : va_D A (MW cI cZ mk mg_21 st im ke se tx sh fa mt) := hD
              have hT := nm2_u hp_22 hT
              have t144 := tn_o hp_22 hNN hTT t84.1 t84.2.1
              refine lv_istore_n (lv' := [(3, .int r_23), (2, .int v_1), (0, .ref (mk 0)), (1, .int (mg 7))]) hx hb dX7_readItem_147 rfl hl (by decide) rfl (fun ls hl => ?_)
              refine lv_aload_n hx hb dX7_readItem_148 rfl (lv_at hl 2 rfl) ?_
              refine lv_iconst (v := 0) hx hb dX7_readItem_149 (by decide) ?_
              refine on_i (run_vQ (As := [.int (0 : Int32)]) (rest := []) C hK hP hD hN (c_X7_takesCell (mg := mg_21) (tx := tx) hNN hTT t144.1.1 t144.1.2.1 (t144.1.s10 (t84.s10 hsw)) (t144.1.s11 (t84.s11 hsr)) _) (rX7_r hK hP) ⟨wd_3_180, wd_3_182, ws_25, wd_1_8, wd_3_183⟩ ⟨rfl, rfl⟩ hv_X7_takesCell ⟨Nat.le_of_ble_eq_true rfl, Nat.le_of_ble_eq_true rfl⟩ rfl hl.1 rfl (Nat.le_of_ble_eq_true rfl) dX7_readItem_150 ⟨Nat.zero_le _, Nat.zero_le _⟩) hD hS hA (fun r_26 u H locs hp_25 hP hD hS => ?_)
              obtain ⟨mg_24, rfl⟩ : ∃ z, z = u := ⟨_, rfl⟩
              have hP : va_P D vwCl (MW cI cZ mk mg_24 st im ke se tx sh fa mt) H := hP
              have hD : va_D A (MW cI cZ mk mg_24 st im ke se tx sh fa mt) := hD
              have hT := nm2_u hp_25 hT
              have t150 := tc_o hp_25 hNN hTT t144.1.1 t144.1.2.1 (t144.1.s10 (t84.s10 hsw)) (t144.1.s11 (t84.s11 hsr))
              refine lv_istore (lv' := [(4, .int r_26), (3, .int r_23), (2, .int v_1), (0, .ref (mk 0)), (1, .int (mg 7))]) hx hb dX7_readItem_153 hl (by decide) rfl (fun ls hl => ?_)
              refine lv_aload_n hx hb dX7_readItem_155 rfl (lv_at hl 3 rfl) ?_
              refine gX7_saidHolder C hK hP wd_3_93 dX7_readItem_156 ?_
              refine lv_iload hx hb dX7_readItem_159 (lv_at hl 0 rfl) ?_
              refine lv_aload_n hx hb dX7_readItem_161 rfl (lv_at hl 3 rfl) ?_
              refine gX7_isWrong C hK hP wd_3_89 dX7_readItem_162 ?_
              refine lv_if_eq (tgt := 178) hx hb dX7_readItem_165 (by decide) (fun c_27 => ?_) (fun c_27 => ?_)
              · have hT := it_t c_27 hT
                refine lv_iload_n hx hb dX7_readItem_178 rfl (lv_at hl 1 rfl) ?_
                refine lv_iconst (v := 1) hx hb dX7_readItem_179 (by decide) ?_
                refine lv_iadd hx hb dX7_readItem_180 ?_
                refine sM_saidHolder C hK hP hD hS t150.2.1 dX7_readItem_181 (fun H locs hP hD hS => ?_)
                refine lv_goto (tgt := 214) hx hb dX7_readItem_182 (by decide) ?_
                exact K_214 ls mg_24 (upd sh r_26.toNatClampNeg (r_23 + (1 : Int32))) t150.1.1 t150.1.2.1 H locs hP hD hS (lv_sub hl [3] rfl) hT
              · have hT := it_f c_27 hT
                refine lv_aload_n hx hb dX7_readItem_168 rfl (lv_at hl 3 rfl) ?_
                refine gX7_saidHolder C hK hP wd_3_93 dX7_readItem_169 ?_
                refine lv_iload hx hb dX7_readItem_172 (lv_at hl 0 rfl) ?_
                refine aM_saidHolder C hK hP t150.2.1 dX7_readItem_174 ?_
                refine lv_goto (tgt := 181) hx hb dX7_readItem_175 (by decide) ?_
                refine sM_saidHolder C hK hP hD hS t150.2.1 dX7_readItem_181 (fun H locs hP hD hS => ?_)
                refine lv_goto (tgt := 214) hx hb dX7_readItem_182 (by decide) ?_
                exact K_214 ls mg_24 (upd sh r_26.toNatClampNeg (sh r_26.toNatClampNeg)) t150.1.1 t150.1.2.1 H locs hP hD hS (lv_sub hl [3] rfl) hT
          · have hT := it_t c_15 hT
            refine lv_aload_n hx hb dX7_readItem_122 rfl (lv_at hl 1 rfl) ?_
            refine lv_aload_n hx hb dX7_readItem_123 rfl (lv_at hl 1 rfl) ?_
            refine lv_iconst (v := 0) hx hb dX7_readItem_124 (by decide) ?_
            refine lv_iconst (v := 1) hx hb dX7_readItem_125 (by decide) ?_
            refine on_i (run_vQ (As := [.int (0 : Int32), .int (1 : Int32)]) (rest := [.ref (mk 0)]) C hK hP hD hN (c_X7_takesNumber (mg := mg_4) (tx := tx) hNN hTT t84.1 t84.2.1 _) (rX7_r hK hP) ⟨wd_3_176, wd_3_178, ws_24, wd_1_8, wd_3_179⟩ ⟨rfl, rfl⟩ hv_X7_takesNumber ⟨Nat.le_of_ble_eq_true rfl, Nat.le_of_ble_eq_true rfl⟩ rfl hl.1 rfl (Nat.le_of_ble_eq_true rfl) dX7_readItem_126 ⟨Nat.zero_le _, Nat.zero_le _⟩) hD hS hA (fun r_30 u H locs hp_29 hP hD hS => ?_)
            obtain ⟨mg_28, rfl⟩ : ∃ z, z = u := ⟨_, rfl⟩
            have hP : va_P D vwCl (MW cI cZ mk mg_28 st im ke se tx sh fa mt) H := hP
            have hD : va_D A (MW cI cZ mk mg_28 st im ke se tx sh fa mt) := hD
            have hT := nm2_u hp_29 hT
            have t126 := tn_o hp_29 hNN hTT t84.1 t84.2.1
            refine pX7_saidWind C hK hP hD hS wd_3_95 dX7_readItem_129 (fun H locs hP hD hS => ?_)
            refine lv_goto (tgt := 214) hx hb dX7_readItem_132 (by decide) ?_
            exact K_214 ls (upd mg_28 13 r_30) sh t126.1.1 t126.1.2.1 H locs hP hD hS (lv_sub hl [1] rfl) hT
        · have hT := it_t c_14 hT
          refine lv_aload_n hx hb dX7_readItem_93 rfl (lv_at hl 1 rfl) ?_
          refine lv_aload_n hx hb dX7_readItem_94 rfl (lv_at hl 1 rfl) ?_
          refine lv_iconst (v := 1) hx hb dX7_readItem_95 (by decide) ?_
          refine lv_iconst (v := 5) hx hb dX7_readItem_96 (by decide) ?_
          refine on_i (run_vQ (As := [.int (1 : Int32), .int (5 : Int32)]) (rest := [.ref (mk 0)]) C hK hP hD hN (c_X7_takesNumber (mg := mg_4) (tx := tx) hNN hTT t84.1 t84.2.1 _) (rX7_r hK hP) ⟨wd_3_176, wd_3_178, ws_24, wd_1_8, wd_3_179⟩ ⟨rfl, rfl⟩ hv_X7_takesNumber ⟨Nat.le_of_ble_eq_true rfl, Nat.le_of_ble_eq_true rfl⟩ rfl hl.1 rfl (Nat.le_of_ble_eq_true rfl) dX7_readItem_97 ⟨Nat.zero_le _, Nat.zero_le _⟩) hD hS hA (fun r_33 u H locs hp_32 hP hD hS => ?_)
          obtain ⟨mg_31, rfl⟩ : ∃ z, z = u := ⟨_, rfl⟩
          have hP : va_P D vwCl (MW cI cZ mk mg_31 st im ke se tx sh fa mt) H := hP
          have hD : va_D A (MW cI cZ mk mg_31 st im ke se tx sh fa mt) := hD
          have hT := nm2_u hp_32 hT
          have t97 := tn_o hp_32 hNN hTT t84.1 t84.2.1
          refine pX7_saidWide C hK hP hD hS wd_3_91 dX7_readItem_100 (fun H locs hP hD hS => ?_)
          refine lv_aload_n hx hb dX7_readItem_103 rfl (lv_at hl 1 rfl) ?_
          refine lv_aload_n hx hb dX7_readItem_104 rfl (lv_at hl 1 rfl) ?_
          refine lv_iconst (v := 1) hx hb dX7_readItem_105 (by decide) ?_
          refine lv_iconst (v := 4) hx hb dX7_readItem_106 (by decide) ?_
          refine on_i (run_vQ (As := [.int (1 : Int32), .int (4 : Int32)]) (rest := [.ref (mk 0)]) C hK hP hD hN (c_X7_takesNumber (mg := upd mg_31 10 r_33) (tx := tx) hNN hTT t97.1.1 t97.1.2.1 _) (rX7_r hK hP) ⟨wd_3_176, wd_3_178, ws_24, wd_1_8, wd_3_179⟩ ⟨rfl, rfl⟩ hv_X7_takesNumber ⟨Nat.le_of_ble_eq_true rfl, Nat.le_of_ble_eq_true rfl⟩ rfl hl.1 rfl (Nat.le_of_ble_eq_true rfl) dX7_readItem_107 ⟨Nat.zero_le _, Nat.zero_le _⟩) hD hS hA (fun r_36 u H locs hp_35 hP hD hS => ?_)
          obtain ⟨mg_34, rfl⟩ : ∃ z, z = u := ⟨_, rfl⟩
          have hP : va_P D vwCl (MW cI cZ mk mg_34 st im ke se tx sh fa mt) H := hP
          have hD : va_D A (MW cI cZ mk mg_34 st im ke se tx sh fa mt) := hD
          have hT := nm2_u hp_35 hT
          have t107 := tn_o hp_35 hNN hTT t97.1.1 t97.1.2.1
          refine pX7_saidRows C hK hP hD hS wd_3_92 dX7_readItem_110 (fun H locs hP hD hS => ?_)
          refine lv_goto (tgt := 214) hx hb dX7_readItem_113 (by decide) ?_
          exact K_214 ls (upd mg_34 11 r_36) sh t107.1.1 t107.1.2.1 H locs hP hD hS (lv_sub hl [1] rfl) hT
      · have hT := it_t c_3 hT
        refine lv_aload_n hx hb dX7_readItem_77 rfl (lv_at hl 1 rfl) ?_
        refine lv_iconst (v := 1) hx hb dX7_readItem_78 (by decide) ?_
        refine pX7_isWrong C hK hP hD hS (Or.inr rfl) wd_3_89 dX7_readItem_79 (fun H locs hP hD hS => ?_)
        exact hret (upd mg 8 (1 : Int32), sh) _ _ _ _ hT hP hD hS dX7_readItem_82
  refine lv_icmp_ne (tgt := 26) hx hb dX7_readItem_8 (by decide) (fun c_37 => ?_) (fun c_37 => ?_)
  · have hT := it_f c_37 hT
    refine lv_iload_n hx hb dX7_readItem_26 rfl (lv_at hl 0 rfl) ?_
    refine lv_bipush (v := 119) hx hb dX7_readItem_27 (by decide) ?_
    refine lv_icmp_ne (tgt := 47) hx hb dX7_readItem_29 (by decide) (fun c_38 => ?_) (fun c_38 => ?_)
    · have hT := it_f c_38 hT
      refine lv_iload_n hx hb dX7_readItem_47 rfl (lv_at hl 0 rfl) ?_
      refine lv_bipush (v := 111) hx hb dX7_readItem_48 (by decide) ?_
      refine lv_icmp_eq (tgt := 59) hx hb dX7_readItem_50 (by decide) (fun c_39 => ?_) (fun c_39 => ?_)
      · have hT := it_t c_39 hT
        refine lv_iconst (v := 1) hx hb dX7_readItem_59 (by decide) ?_
        refine lv_goto (tgt := 64) hx hb dX7_readItem_60 (by decide) ?_
        exact K_64 ls (1 : Int32) (Or.inr rfl) (lv_sub hl [1, 0] rfl) hT
      · have hT := it_f c_39 hT
        refine lv_iload_n hx hb dX7_readItem_53 rfl (lv_at hl 0 rfl) ?_
        refine lv_bipush (v := 99) hx hb dX7_readItem_54 (by decide) ?_
        refine lv_icmp_ne (tgt := 63) hx hb dX7_readItem_56 (by decide) (fun c_40 => ?_) (fun c_40 => ?_)
        · have hT := it_f c_40 hT
          refine lv_iconst (v := 0) hx hb dX7_readItem_63 (by decide) ?_
          exact K_64 ls (0 : Int32) (Or.inl rfl) (lv_sub hl [1, 0] rfl) hT
        · have hT := it_t c_40 hT
          refine lv_iconst (v := 1) hx hb dX7_readItem_59 (by decide) ?_
          refine lv_goto (tgt := 64) hx hb dX7_readItem_60 (by decide) ?_
          exact K_64 ls (1 : Int32) (Or.inr rfl) (lv_sub hl [1, 0] rfl) hT
    · have hT := it_t c_38 hT
      refine lv_aload_n hx hb dX7_readItem_32 rfl (lv_at hl 1 rfl) ?_
      refine gX7_saidWind C hK hP wd_3_95 dX7_readItem_33 ?_
      refine lv_if_ge (tgt := 43) hx hb dX7_readItem_36 (by decide) (fun c_41 => ?_) (fun c_41 => ?_)
      · have hT := it_t c_41 hT
        refine lv_iconst (v := 0) hx hb dX7_readItem_43 (by decide) ?_
        refine lv_goto (tgt := 64) hx hb dX7_readItem_44 (by decide) ?_
        exact K_64 ls (0 : Int32) (Or.inl rfl) (lv_sub hl [1, 0] rfl) hT
      · have hT := it_f c_41 hT
        refine lv_iconst (v := 1) hx hb dX7_readItem_39 (by decide) ?_
        refine lv_goto (tgt := 64) hx hb dX7_readItem_40 (by decide) ?_
        exact K_64 ls (1 : Int32) (Or.inr rfl) (lv_sub hl [1, 0] rfl) hT
  · have hT := it_t c_37 hT
    refine lv_aload_n hx hb dX7_readItem_11 rfl (lv_at hl 1 rfl) ?_
    refine gX7_items C hK hP wd_3_90 dX7_readItem_12 ?_
    refine lv_if_ne (tgt := 22) hx hb dX7_readItem_15 (by decide) (fun c_42 => ?_) (fun c_42 => ?_)
    · have hT := it_f c_42 hT
      refine lv_iconst (v := 0) hx hb dX7_readItem_22 (by decide) ?_
      refine lv_goto (tgt := 64) hx hb dX7_readItem_23 (by decide) ?_
      exact K_64 ls (0 : Int32) (Or.inl rfl) (lv_sub hl [1, 0] rfl) hT
    · have hT := it_t c_42 hT
      refine lv_iconst (v := 1) hx hb dX7_readItem_18 (by decide) ?_
      refine lv_goto (tgt := 64) hx hb dX7_readItem_19 (by decide) ?_
      exact K_64 ls (1 : Int32) (Or.inr rfl) (lv_sub hl [1, 0] rfl) hT
