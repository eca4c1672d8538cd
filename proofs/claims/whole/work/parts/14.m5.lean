theorem hv_X7_takesNumber : yX7_takesNumber.cls = RX7 ∧ yX7_takesNumber.cls ≠ "java/lang/invoke/MethodHandle" ∧ yX7_takesNumber.cls ≠ "java/lang/invoke/VarHandle" ∧ (parseMethodDescriptor yX7_takesNumber.desc).map (fun d => d.parameters.length) = some 2 := by decide +kernel
theorem hd_X7_takesNumber : yX7_takesNumber.cls ≠ "java/lang/invoke/MethodHandle" ∧ yX7_takesNumber.cls ≠ "java/lang/invoke/VarHandle" ∧ (parseMethodDescriptor yX7_takesNumber.desc).map (fun d => d.parameters.length) = some 2 := hv_X7_takesNumber.2
def jn_X7_takesNumber_43 (mg : Nat → Int32) (tx : Nat → Int32) (v_1 : Int32) (v_2 : Int32) : Int32 × (Nat → Int32) :=
  if v_1 = 0 then (if v_1 = 0 then ((0 : Int32), upd mg 8 v_2) else ((upd mg 8 v_2) 7, upd mg 8 v_2)) else (nm (sp_X7_next (upd mg 8 v_2) tx) (fun mg_5 => if v_1 = 0 then ((0 : Int32), mg_5) else ((upd mg 8 v_2) 7, mg_5)))
theorem jn_X7_takesNumber_43_s (mg : Nat → Int32) (tx : Nat → Int32) (v_1 : Int32) (v_2 : Int32) : (if v_1 = 0 then (if v_1 = 0 then ((0 : Int32), upd mg 8 v_2) else ((upd mg 8 v_2) 7, upd mg 8 v_2)) else (nm (sp_X7_next (upd mg 8 v_2) tx) (fun mg_5 => if v_1 = 0 then ((0 : Int32), mg_5) else ((upd mg 8 v_2) 7, mg_5)))) = jn_X7_takesNumber_43 mg tx v_1 v_2 := rfl
def jn_X7_takesNumber_32 (mg : Nat → Int32) (tx : Nat → Int32) (v_1 : Int32) : Int32 × (Nat → Int32) :=
  if v_1 = 0 then (jn_X7_takesNumber_43 mg tx v_1 (1 : Int32)) else (jn_X7_takesNumber_43 mg tx v_1 (0 : Int32))
theorem jn_X7_takesNumber_32_s (mg : Nat → Int32) (tx : Nat → Int32) (v_1 : Int32) : (if v_1 = 0 then (jn_X7_takesNumber_43 mg tx v_1 (1 : Int32)) else (jn_X7_takesNumber_43 mg tx v_1 (0 : Int32))) = jn_X7_takesNumber_32 mg tx v_1 := rfl
def sp_X7_takesNumber (mg : Nat → Int32) (tx : Nat → Int32) (x1 : Int32) (x2 : Int32) : Int32 × (Nat → Int32) :=
  if (mg 8) = 0 then (if (mg 6) = (2 : Int32) then (nm (sp_X7_in (mg 7) x1 x2) (fun r_11 => if r_11 = 0 then (jn_X7_takesNumber_32 mg tx (0 : Int32)) else (jn_X7_takesNumber_32 mg tx (1 : Int32)))) else (jn_X7_takesNumber_32 mg tx (0 : Int32))) else (jn_X7_takesNumber_32 mg tx (0 : Int32))
theorem sp_X7_takesNumber_s (mg : Nat → Int32) (tx : Nat → Int32) (x1 : Int32) (x2 : Int32) : (if (mg 8) = 0 then (if (mg 6) = (2 : Int32) then (nm (sp_X7_in (mg 7) x1 x2) (fun r_11 => if r_11 = 0 then (jn_X7_takesNumber_32 mg tx (0 : Int32)) else (jn_X7_takesNumber_32 mg tx (1 : Int32)))) else (jn_X7_takesNumber_32 mg tx (0 : Int32))) else (jn_X7_takesNumber_32 mg tx (0 : Int32))) = sp_X7_takesNumber mg tx x1 x2 := rfl
set_option maxHeartbeats 4000000 in
set_option maxRecDepth 100000 in
theorem c_X7_takesNumber {l : Launch} {D : va_G} {cI cZ cO : ClassId} {mk : Nat → Nat} {mg st im ke se tx sh fa : Nat → Int32} {mt : Int64} {x1 : Int32} {x2 : Int32} {N : Nat} (hNN : N ≤ 150) (hTT : ∀ j, j < N → 0 ≤ tx j) (h3 : mg 3 = nI N) (hc : ∃ p, p ≤ N ∧ mg 4 = nI p) (sz : Nat) : Met l yX7_takesNumber (wm yX7_takesNumber cX7_takesNumber 5 (some .int)) ({ frames := 3, cells := 0, slots := 0, locals := 63 } : Room) (GPre D (ty3 cI cZ cO) (MW cI cZ mk mg st im ke se tx sh fa mt) [.ref (mk 0), .int x1, .int x2] sz) (va_Qi (fun r (u : (Nat → Int32)) => (r, u) = sp_X7_takesNumber mg tx x1 x2) (fun u t => GAt D (ty3 cI cZ cO) (va_A (MW cI cZ mk mg st im ke se tx sh fa mt) sz) (MW cI cZ mk u st im ke se tx sh fa mt) t) (va_A (MW cI cZ mk mg st im ke se tx sh fa mt) sz)) 0 0 (va_A (MW cI cZ mk mg st im ke se tx sh fa mt) sz) := by
  refine metQ_i (W1 := (fun (u : (Nat → Int32)) => MW cI cZ mk u st im ke se tx sh fa mt)) (post := (fun r (u : (Nat → Int32)) => (r, u) = sp_X7_takesNumber mg tx x1 x2)) (by decide) (Nat.le_of_ble_eq_true rfl) ?_
  intro p e s m args below meth c ls A Q C hsz hP hK hD hS hA hN hl hret
  have hx := C.1
  have hb := C.2.1
  have hl : lv_has ls 5 [(0, .ref (mk 0)), (1, .int x1), (2, .int x2)] := hl
  have hT := sp_X7_takesNumber_s mg tx x1 x2
  refine lv_aload_n hx hb dX7_takesNumber_0 rfl (lv_at hl 0 rfl) ?_
  refine gX7_isWrong C hK hP wd_3_89 dX7_takesNumber_1 ?_
  have K_32 : ∀ (ls : Array Slot) (v_1 : Int32) (bo_v_1 : v_1 = 0 ∨ v_1 = 1) (hl : lv_has ls 5 [(0, .ref (mk 0))]) (hT0 : jn_X7_takesNumber_32 mg tx v_1 = sp_X7_takesNumber mg tx x1 x2), W p l e ({ frames := 3, cells := 0, slots := 0, locals := 63 } : Room) s m args below meth c s.heap [] 0 0 Q (F0 m 32 ls [.int v_1]) := by
    intro ls v_1 bo_v_1 hl hT0
    have hT := (jn_X7_takesNumber_32_s mg tx v_1).trans hT0
    refine lv_istore_n (lv' := [(3, .int v_1), (0, .ref (mk 0))]) hx hb dX7_takesNumber_32 rfl hl (by decide) rfl (fun ls hl => ?_)
    refine lv_aload_n hx hb dX7_takesNumber_33 rfl (lv_at hl 1 rfl) ?_
    refine lv_iload_n hx hb dX7_takesNumber_34 rfl (lv_at hl 0 rfl) ?_
    have K_43 : ∀ (ls : Array Slot) (v_2 : Int32) (bo_v_2 : v_2 = 0 ∨ v_2 = 1) (hl : lv_has ls 5 [(0, .ref (mk 0)), (3, .int v_1)]) (hT0 : jn_X7_takesNumber_43 mg tx v_1 v_2 = sp_X7_takesNumber mg tx x1 x2), W p l e ({ frames := 3, cells := 0, slots := 0, locals := 63 } : Room) s m args below meth c s.heap [] 0 0 Q (F0 m 43 ls [.int v_2, .ref (mk 0)]) := by
      intro ls v_2 bo_v_2 hl hT0
      have hT := (jn_X7_takesNumber_43_s mg tx v_1 v_2).trans hT0
      refine pX7_isWrong C hK hP hD hS bo_v_2 wd_3_89 dX7_takesNumber_43 (fun H locs hP hD hS => ?_)
      refine lv_aload_n hx hb dX7_takesNumber_46 rfl (lv_at hl 0 rfl) ?_
      refine gX7_number C hK hP wd_3_88 dX7_takesNumber_47 ?_
      refine lv_istore (lv' := [(4, .int ((upd mg 8 v_2) 7)), (0, .ref (mk 0)), (3, .int v_1)]) hx hb dX7_takesNumber_50 hl (by decide) rfl (fun ls hl => ?_)
      refine lv_iload_n hx hb dX7_takesNumber_52 rfl (lv_at hl 2 rfl) ?_
      refine lv_if_eq (tgt := 60) hx hb dX7_takesNumber_53 (by decide) (fun c_3 => ?_) (fun c_3 => ?_)
      · have hT := it_t c_3 hT
        refine lv_iload_n hx hb dX7_takesNumber_60 rfl (lv_at hl 2 rfl) ?_
        refine lv_if_eq (tgt := 69) hx hb dX7_takesNumber_61 (by decide) (fun c_4 => ?_) (fun c_4 => ?_)
        · have hT := it_t c_4 hT
          refine lv_iconst (v := 0) hx hb dX7_takesNumber_69 (by decide) ?_
          exact hret _ (upd mg 8 v_2) _ _ _ _ hT hP hD hS dX7_takesNumber_70
        · have hT := it_f c_4 hT
          refine lv_iload hx hb dX7_takesNumber_64 (lv_at hl 0 rfl) ?_
          refine lv_goto (tgt := 70) hx hb dX7_takesNumber_66 (by decide) ?_
          exact hret _ (upd mg 8 v_2) _ _ _ _ hT hP hD hS dX7_takesNumber_70
      · have hT := it_f c_3 hT
        refine lv_aload_n hx hb dX7_takesNumber_56 rfl (lv_at hl 1 rfl) ?_
        refine on_v (run_vQ (As := []) (rest := []) C hK hP hD hN (c_X7_next (mg := upd mg 8 v_2) (cu_of hNN hc) (tx_of hNN h3) _) (rX7_r hK hP) ⟨wd_3_158, wd_3_160, ws_21, wd_1_8, wd_3_161⟩ ⟨rfl, rfl⟩ hv_X7_next ⟨Nat.le_of_ble_eq_true rfl, Nat.le_of_ble_eq_true rfl⟩ rfl hl.1 rfl (Nat.le_of_ble_eq_true rfl) dX7_takesNumber_57 ⟨Nat.zero_le _, Nat.zero_le _⟩) hD hS hA (fun u H locs hp_6 hP hD hS => ?_)
        obtain ⟨mg_5, rfl⟩ : ∃ z, z = u := ⟨_, rfl⟩
        have hP : va_P D vwCl (MW cI cZ mk mg_5 st im ke se tx sh fa mt) H := hP
        have hD : va_D A (MW cI cZ mk mg_5 st im ke se tx sh fa mt) := hD
        have hT := nm_u hp_6 hT
        refine lv_iload_n hx hb dX7_takesNumber_60 rfl (lv_at hl 2 rfl) ?_
        refine lv_if_eq (tgt := 69) hx hb dX7_takesNumber_61 (by decide) (fun c_7 => ?_) (fun c_7 => ?_)
        · have hT := it_t c_7 hT
          refine lv_iconst (v := 0) hx hb dX7_takesNumber_69 (by decide) ?_
          exact hret _ mg_5 _ _ _ _ hT hP hD hS dX7_takesNumber_70
        · have hT := it_f c_7 hT
          refine lv_iload hx hb dX7_takesNumber_64 (lv_at hl 0 rfl) ?_
          refine lv_goto (tgt := 70) hx hb dX7_takesNumber_66 (by decide) ?_
          exact hret _ mg_5 _ _ _ _ hT hP hD hS dX7_takesNumber_70
    refine lv_if_ne (tgt := 42) hx hb dX7_takesNumber_35 (by decide) (fun c_8 => ?_) (fun c_8 => ?_)
    · have hT := it_f c_8 hT
      refine lv_iconst (v := 0) hx hb dX7_takesNumber_42 (by decide) ?_
      exact K_43 ls (0 : Int32) (Or.inl rfl) (lv_sub hl [1, 0] rfl) hT
    · have hT := it_t c_8 hT
      refine lv_iconst (v := 1) hx hb dX7_takesNumber_38 (by decide) ?_
      refine lv_goto (tgt := 43) hx hb dX7_takesNumber_39 (by decide) ?_
      exact K_43 ls (1 : Int32) (Or.inr rfl) (lv_sub hl [1, 0] rfl) hT
  refine lv_if_ne (tgt := 31) hx hb dX7_takesNumber_4 (by decide) (fun c_9 => ?_) (fun c_9 => ?_)
  · have hT := it_f c_9 hT
    refine lv_iconst (v := 0) hx hb dX7_takesNumber_31 (by decide) ?_
    exact K_32 ls (0 : Int32) (Or.inl rfl) (lv_sub hl [0] rfl) hT
  · have hT := it_t c_9 hT
    refine lv_aload_n hx hb dX7_takesNumber_7 rfl (lv_at hl 0 rfl) ?_
    refine gX7_token C hK hP wd_3_87 dX7_takesNumber_8 ?_
    refine lv_iconst (v := 2) hx hb dX7_takesNumber_11 (by decide) ?_
    refine lv_icmp_ne (tgt := 31) hx hb dX7_takesNumber_12 (by decide) (fun c_10 => ?_) (fun c_10 => ?_)
    · have hT := it_f c_10 hT
      refine lv_iconst (v := 0) hx hb dX7_takesNumber_31 (by decide) ?_
      exact K_32 ls (0 : Int32) (Or.inl rfl) (lv_sub hl [0] rfl) hT
    · have hT := it_t c_10 hT
      refine lv_aload_n hx hb dX7_takesNumber_15 rfl (lv_at hl 0 rfl) ?_
      refine gX7_number C hK hP wd_3_88 dX7_takesNumber_16 ?_
      refine lv_iload_n hx hb dX7_takesNumber_19 rfl (lv_at hl 1 rfl) ?_
      refine lv_iload_n hx hb dX7_takesNumber_20 rfl (lv_at hl 2 rfl) ?_
      refine vp_callSi (run_sP (As := [.int (mg 7), .int x1, .int x2]) (rest := []) C hN (c_X7_in) ⟨wd_3_147, wd_3_148, wd_1_8, wd_3_149⟩ ⟨rfl, rfl⟩ hd_X7_in ⟨Nat.le_of_ble_eq_true rfl, Nat.le_of_ble_eq_true rfl⟩ rfl hl.1 rfl (Nat.le_of_ble_eq_true rfl) dX7_takesNumber_21 ⟨Nat.zero_le _, Nat.zero_le _⟩) (fun r_11 hr_11 => ?_)
      have hT := nm_u hr_11.1 hT
      refine lv_if_eq (tgt := 31) hx hb dX7_takesNumber_24 (by decide) (fun c_12 => ?_) (fun c_12 => ?_)
      · have hT := it_t c_12 hT
        refine lv_iconst (v := 0) hx hb dX7_takesNumber_31 (by decide) ?_
        exact K_32 ls (0 : Int32) (Or.inl rfl) (lv_sub hl [0] rfl) hT
      · have hT := it_f c_12 hT
        refine lv_iconst (v := 1) hx hb dX7_takesNumber_27 (by decide) ?_
        refine lv_goto (tgt := 32) hx hb dX7_takesNumber_28 (by decide) ?_
        exact K_32 ls (1 : Int32) (Or.inr rfl) (lv_sub hl [0] rfl) hT
