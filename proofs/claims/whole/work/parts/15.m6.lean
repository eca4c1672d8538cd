theorem hv_X7_takesCell : yX7_takesCell.cls = RX7 ∧ yX7_takesCell.cls ≠ "java/lang/invoke/MethodHandle" ∧ yX7_takesCell.cls ≠ "java/lang/invoke/VarHandle" ∧ (parseMethodDescriptor yX7_takesCell.desc).map (fun d => d.parameters.length) = some 1 := by decide +kernel
theorem hd_X7_takesCell : yX7_takesCell.cls ≠ "java/lang/invoke/MethodHandle" ∧ yX7_takesCell.cls ≠ "java/lang/invoke/VarHandle" ∧ (parseMethodDescriptor yX7_takesCell.desc).map (fun d => d.parameters.length) = some 1 := hv_X7_takesCell.2
def jn_X7_takesCell_107 (tx : Nat → Int32) (mg_1 : Nat → Int32) (v_5 : Int32) (v_6 : Int32) : Int32 × (Nat → Int32) :=
  if ((upd mg_1 8 v_6) 8) = 0 then (nm (sp_X7_next (upd mg_1 8 v_6) tx) (fun mg_8 => (v_5, mg_8))) else (v_5, upd mg_1 8 v_6)
theorem jn_X7_takesCell_107_s (tx : Nat → Int32) (mg_1 : Nat → Int32) (v_5 : Int32) (v_6 : Int32) : (if ((upd mg_1 8 v_6) 8) = 0 then (nm (sp_X7_next (upd mg_1 8 v_6) tx) (fun mg_8 => (v_5, mg_8))) else (v_5, upd mg_1 8 v_6)) = jn_X7_takesCell_107 tx mg_1 v_5 v_6 := rfl
def jn_X7_takesCell_66 (tx : Nat → Int32) (sh : Nat → Int32) (x1 : Int32) (mg_1 : Nat → Int32) (v_4 : Int32) (v_5 : Int32) : Int32 × (Nat → Int32) :=
  if v_4 = 0 then (jn_X7_takesCell_107 tx mg_1 v_5 (1 : Int32)) else (if x1 = 0 then (if (sh v_5.toNatClampNeg) ≤ 0 then (jn_X7_takesCell_107 tx mg_1 v_5 (0 : Int32)) else (jn_X7_takesCell_107 tx mg_1 v_5 (1 : Int32))) else (nm (sp_X7_has (mg_1 12) v_5) (fun r_13 => if r_13 = 0 then (jn_X7_takesCell_107 tx mg_1 v_5 (0 : Int32)) else (jn_X7_takesCell_107 tx mg_1 v_5 (1 : Int32)))))
theorem jn_X7_takesCell_66_s (tx : Nat → Int32) (sh : Nat → Int32) (x1 : Int32) (mg_1 : Nat → Int32) (v_4 : Int32) (v_5 : Int32) : (if v_4 = 0 then (jn_X7_takesCell_107 tx mg_1 v_5 (1 : Int32)) else (if x1 = 0 then (if (sh v_5.toNatClampNeg) ≤ 0 then (jn_X7_takesCell_107 tx mg_1 v_5 (0 : Int32)) else (jn_X7_takesCell_107 tx mg_1 v_5 (1 : Int32))) else (nm (sp_X7_has (mg_1 12) v_5) (fun r_13 => if r_13 = 0 then (jn_X7_takesCell_107 tx mg_1 v_5 (0 : Int32)) else (jn_X7_takesCell_107 tx mg_1 v_5 (1 : Int32)))))) = jn_X7_takesCell_66 tx sh x1 mg_1 v_4 v_5 := rfl
def jn_X7_takesCell_49 (tx : Nat → Int32) (sh : Nat → Int32) (x1 : Int32) (mg_1 : Nat → Int32) (r_3 : Int32) (v_4 : Int32) : Int32 × (Nat → Int32) :=
  if v_4 = 0 then (jn_X7_takesCell_66 tx sh x1 mg_1 v_4 (0 : Int32)) else (jn_X7_takesCell_66 tx sh x1 mg_1 v_4 (((5 : Int32) * (mg_1 7)) + r_3))
theorem jn_X7_takesCell_49_s (tx : Nat → Int32) (sh : Nat → Int32) (x1 : Int32) (mg_1 : Nat → Int32) (r_3 : Int32) (v_4 : Int32) : (if v_4 = 0 then (jn_X7_takesCell_66 tx sh x1 mg_1 v_4 (0 : Int32)) else (jn_X7_takesCell_66 tx sh x1 mg_1 v_4 (((5 : Int32) * (mg_1 7)) + r_3))) = jn_X7_takesCell_49 tx sh x1 mg_1 r_3 v_4 := rfl
def sp_X7_takesCell (mg : Nat → Int32) (tx : Nat → Int32) (sh : Nat → Int32) (x1 : Int32) : Int32 × (Nat → Int32) :=
  nm2 (sp_X7_takesNumber mg tx (0 : Int32) ((mg 10) - (1 : Int32))) (fun r_3 mg_1 => if (mg_1 8) = 0 then (if (mg_1 6) = (2 : Int32) then (nm (sp_X7_in (mg_1 7) (0 : Int32) ((mg_1 11) - (1 : Int32))) (fun r_18 => if r_18 = 0 then (jn_X7_takesCell_49 tx sh x1 mg_1 r_3 (0 : Int32)) else (jn_X7_takesCell_49 tx sh x1 mg_1 r_3 (1 : Int32)))) else (jn_X7_takesCell_49 tx sh x1 mg_1 r_3 (0 : Int32))) else (jn_X7_takesCell_49 tx sh x1 mg_1 r_3 (0 : Int32)))
theorem sp_X7_takesCell_s (mg : Nat → Int32) (tx : Nat → Int32) (sh : Nat → Int32) (x1 : Int32) : (nm2 (sp_X7_takesNumber mg tx (0 : Int32) ((mg 10) - (1 : Int32))) (fun r_3 mg_1 => if (mg_1 8) = 0 then (if (mg_1 6) = (2 : Int32) then (nm (sp_X7_in (mg_1 7) (0 : Int32) ((mg_1 11) - (1 : Int32))) (fun r_18 => if r_18 = 0 then (jn_X7_takesCell_49 tx sh x1 mg_1 r_3 (0 : Int32)) else (jn_X7_takesCell_49 tx sh x1 mg_1 r_3 (1 : Int32)))) else (jn_X7_takesCell_49 tx sh x1 mg_1 r_3 (0 : Int32))) else (jn_X7_takesCell_49 tx sh x1 mg_1 r_3 (0 : Int32)))) = sp_X7_takesCell mg tx sh x1 := rfl
set_option maxHeartbeats 4000000 in
set_option maxRecDepth 100000 in
theorem c_X7_takesCell {l : Launch} {D : va_G} {cI cZ cO : ClassId} {mk : Nat → Nat} {mg st im ke se tx sh fa : Nat → Int32} {mt : Int64} {x1 : Int32} {N : Nat} (hNN : N ≤ 150) (hTT : ∀ j, j < N → 0 ≤ tx j) (h3 : mg 3 = nI N) (hc : ∃ p, p ≤ N ∧ mg 4 = nI p) (hsw : 1 ≤ (mg 10).toInt ∧ (mg 10).toInt ≤ 5) (hsr : 1 ≤ (mg 11).toInt ∧ (mg 11).toInt ≤ 4) (sz : Nat) : Met l yX7_takesCell (wm yX7_takesCell cX7_takesCell 5 (some .int)) ({ frames := 4, cells := 0, slots := 0, locals := 87 } : Room) (GPre D (ty3 cI cZ cO) (MW cI cZ mk mg st im ke se tx sh fa mt) [.ref (mk 0), .int x1] sz) (va_Qi (fun r (u : (Nat → Int32)) => (r, u) = sp_X7_takesCell mg tx sh x1) (fun u t => GAt D (ty3 cI cZ cO) (va_A (MW cI cZ mk mg st im ke se tx sh fa mt) sz) (MW cI cZ mk u st im ke se tx sh fa mt) t) (va_A (MW cI cZ mk mg st im ke se tx sh fa mt) sz)) 0 0 (va_A (MW cI cZ mk mg st im ke se tx sh fa mt) sz) := by
  refine metQ_i (W1 := (fun (u : (Nat → Int32)) => MW cI cZ mk u st im ke se tx sh fa mt)) (post := (fun r (u : (Nat → Int32)) => (r, u) = sp_X7_takesCell mg tx sh x1)) (by decide) (Nat.le_of_ble_eq_true rfl) ?_
  intro p e s m args below meth c ls A Q C hsz hP hK hD hS hA hN hl hret
  have hx := C.1
  have hb := C.2.1
  have hl : lv_has ls 5 [(0, .ref (mk 0)), (1, .int x1)] := hl
  have hT := sp_X7_takesCell_s mg tx sh x1
  refine lv_aload_n hx hb dX7_takesCell_0 rfl (lv_at hl 0 rfl) ?_
  refine lv_iconst (v := 0) hx hb dX7_takesCell_1 (by decide) ?_
  refine lv_aload_n hx hb dX7_takesCell_2 rfl (lv_at hl 0 rfl) ?_
  refine gX7_saidWide C hK hP wd_3_91 dX7_takesCell_3 ?_
  refine lv_iconst (v := 1) hx hb dX7_takesCell_6 (by decide) ?_
  refine lv_isub hx hb dX7_takesCell_7 ?_
  refine on_i (run_vQ (As := [.int (0 : Int32), .int ((mg 10) - (1 : Int32))]) (rest := []) C hK hP hD hN (c_X7_takesNumber (mg := mg) (tx := tx) hNN hTT h3 hc _) (rX7_r hK hP) ⟨wd_3_176, wd_3_178, ws_24, wd_1_8, wd_3_179⟩ ⟨rfl, rfl⟩ hv_X7_takesNumber ⟨Nat.le_of_ble_eq_true rfl, Nat.le_of_ble_eq_true rfl⟩ rfl hl.1 rfl (Nat.le_of_ble_eq_true rfl) dX7_takesCell_8 ⟨Nat.zero_le _, Nat.zero_le _⟩) hD hS hA (fun r_3 u H locs hp_2 hP hD hS => ?_)
  obtain ⟨mg_1, rfl⟩ : ∃ z, z = u := ⟨_, rfl⟩
  have hP : va_P D vwCl (MW cI cZ mk mg_1 st im ke se tx sh fa mt) H := hP
  have hD : va_D A (MW cI cZ mk mg_1 st im ke se tx sh fa mt) := hD
  have hT := nm2_u hp_2 hT
  have t8 := tn_ok hNN hTT h3 hc hp_2
  refine lv_istore_n (lv' := [(2, .int r_3), (0, .ref (mk 0)), (1, .int x1)]) hx hb dX7_takesCell_11 rfl hl (by decide) rfl (fun ls hl => ?_)
  refine lv_aload_n hx hb dX7_takesCell_12 rfl (lv_at hl 1 rfl) ?_
  refine gX7_isWrong C hK hP wd_3_89 dX7_takesCell_13 ?_
  have K_49 : ∀ (ls : Array Slot) (v_4 : Int32) (bo_v_4 : v_4 = 0 ∨ v_4 = 1) (hi : v_4 = 0 ∨ ((mg_1 8) = 0 ∧ 0 ≤ (mg_1 7).toInt ∧ (mg_1 7).toInt ≤ ((mg_1 11) - (1 : Int32)).toInt)) (hl : lv_has ls 5 [(0, .ref (mk 0)), (1, .int x1), (2, .int r_3)]) (hT0 : jn_X7_takesCell_49 tx sh x1 mg_1 r_3 v_4 = sp_X7_takesCell mg tx sh x1), W p l e ({ frames := 4, cells := 0, slots := 0, locals := 87 } : Room) s m args below meth c H locs 0 0 Q (F0 m 49 ls [.int v_4]) := by
    intro ls v_4 bo_v_4 hi hl hT0
    have hT := (jn_X7_takesCell_49_s tx sh x1 mg_1 r_3 v_4).trans hT0
    refine lv_istore_n (lv' := [(3, .int v_4), (0, .ref (mk 0)), (1, .int x1), (2, .int r_3)]) hx hb dX7_takesCell_49 rfl hl (by decide) rfl (fun ls hl => ?_)
    refine lv_iload_n hx hb dX7_takesCell_50 rfl (lv_at hl 0 rfl) ?_
    have K_66 : ∀ (ls : Array Slot) (v_5 : Int32) (hk : vp_in v_5 20) (hl : lv_has ls 5 [(0, .ref (mk 0)), (1, .int x1), (3, .int v_4)]) (hT0 : jn_X7_takesCell_66 tx sh x1 mg_1 v_4 v_5 = sp_X7_takesCell mg tx sh x1), W p l e ({ frames := 4, cells := 0, slots := 0, locals := 87 } : Room) s m args below meth c H locs 0 0 Q (F0 m 66 ls [.int v_5]) := by
      intro ls v_5 hk hl hT0
      have hT := (jn_X7_takesCell_66_s tx sh x1 mg_1 v_4 v_5).trans hT0
      refine lv_istore (lv' := [(4, .int v_5), (0, .ref (mk 0)), (1, .int x1), (3, .int v_4)]) hx hb dX7_takesCell_66 hl (by decide) rfl (fun ls hl => ?_)
      refine lv_aload_n hx hb dX7_takesCell_68 rfl (lv_at hl 1 rfl) ?_
      refine lv_iload_n hx hb dX7_takesCell_69 rfl (lv_at hl 3 rfl) ?_
      have K_107 : ∀ (ls : Array Slot) (v_6 : Int32) (bo_v_6 : v_6 = 0 ∨ v_6 = 1) (hl : lv_has ls 5 [(0, .ref (mk 0)), (4, .int v_5)]) (hT0 : jn_X7_takesCell_107 tx mg_1 v_5 v_6 = sp_X7_takesCell mg tx sh x1), W p l e ({ frames := 4, cells := 0, slots := 0, locals := 87 } : Room) s m args below meth c H locs 0 0 Q (F0 m 107 ls [.int v_6, .ref (mk 0)]) := by
        intro ls v_6 bo_v_6 hl hT0
        have hT := (jn_X7_takesCell_107_s tx mg_1 v_5 v_6).trans hT0
        refine pX7_isWrong C hK hP hD hS bo_v_6 wd_3_89 dX7_takesCell_107 (fun H locs hP hD hS => ?_)
        refine lv_aload_n hx hb dX7_takesCell_110 rfl (lv_at hl 0 rfl) ?_
        refine gX7_isWrong C hK hP wd_3_89 dX7_takesCell_111 ?_
        refine lv_if_ne (tgt := 121) hx hb dX7_takesCell_114 (by decide) (fun c_7 => ?_) (fun c_7 => ?_)
        · have hT := it_f c_7 hT
          refine lv_iload hx hb dX7_takesCell_121 (lv_at hl 1 rfl) ?_
          exact hret _ (upd mg_1 8 v_6) _ _ _ _ hT hP hD hS dX7_takesCell_123
        · have hT := it_t c_7 hT
          refine lv_aload_n hx hb dX7_takesCell_117 rfl (lv_at hl 0 rfl) ?_
          refine on_v (run_vQ (As := []) (rest := []) C hK hP hD hN (c_X7_next (mg := upd mg_1 8 v_6) (cu_of hNN t8.1.2.1) (tx_of hNN t8.1.1) _) (rX7_r hK hP) ⟨wd_3_158, wd_3_160, ws_21, wd_1_8, wd_3_161⟩ ⟨rfl, rfl⟩ hv_X7_next ⟨Nat.le_of_ble_eq_true rfl, Nat.le_of_ble_eq_true rfl⟩ rfl hl.1 rfl (Nat.le_of_ble_eq_true rfl) dX7_takesCell_118 ⟨Nat.zero_le _, Nat.zero_le _⟩) hD hS hA (fun u H locs hp_9 hP hD hS => ?_)
          obtain ⟨mg_8, rfl⟩ : ∃ z, z = u := ⟨_, rfl⟩
          have hP : va_P D vwCl (MW cI cZ mk mg_8 st im ke se tx sh fa mt) H := hP
          have hD : va_D A (MW cI cZ mk mg_8 st im ke se tx sh fa mt) := hD
          have hT := nm_u hp_9 hT
          refine lv_iload hx hb dX7_takesCell_121 (lv_at hl 1 rfl) ?_
          exact hret _ mg_8 _ _ _ _ hT hP hD hS dX7_takesCell_123
      refine lv_if_eq (tgt := 102) hx hb dX7_takesCell_70 (by decide) (fun c_10 => ?_) (fun c_10 => ?_)
      · have hT := it_t c_10 hT
        refine lv_iconst (v := 1) hx hb dX7_takesCell_102 (by decide) ?_
        refine lv_goto (tgt := 107) hx hb dX7_takesCell_103 (by decide) ?_
        exact K_107 ls (1 : Int32) (Or.inr rfl) (lv_sub hl [1, 0] rfl) hT
      · have hT := it_f c_10 hT
        refine lv_iload_n hx hb dX7_takesCell_73 rfl (lv_at hl 2 rfl) ?_
        refine lv_if_eq (tgt := 92) hx hb dX7_takesCell_74 (by decide) (fun c_11 => ?_) (fun c_11 => ?_)
        · have hT := it_t c_11 hT
          refine lv_aload_n hx hb dX7_takesCell_92 rfl (lv_at hl 1 rfl) ?_
          refine gX7_saidHolder C hK hP wd_3_93 dX7_takesCell_93 ?_
          refine lv_iload hx hb dX7_takesCell_96 (lv_at hl 0 rfl) ?_
          refine aM_saidHolder C hK hP hk dX7_takesCell_98 ?_
          refine lv_if_le (tgt := 106) hx hb dX7_takesCell_99 (by decide) (fun c_12 => ?_) (fun c_12 => ?_)
          · have hT := it_t c_12 hT
            refine lv_iconst (v := 0) hx hb dX7_takesCell_106 (by decide) ?_
            exact K_107 ls (0 : Int32) (Or.inl rfl) (lv_sub hl [1, 0] rfl) hT
          · have hT := it_f c_12 hT
            refine lv_iconst (v := 1) hx hb dX7_takesCell_102 (by decide) ?_
            refine lv_goto (tgt := 107) hx hb dX7_takesCell_103 (by decide) ?_
            exact K_107 ls (1 : Int32) (Or.inr rfl) (lv_sub hl [1, 0] rfl) hT
        · have hT := it_f c_11 hT
          refine lv_aload_n hx hb dX7_takesCell_77 rfl (lv_at hl 1 rfl) ?_
          refine gX7_saidCloth C hK hP wd_3_94 dX7_takesCell_78 ?_
          refine lv_iload hx hb dX7_takesCell_81 (lv_at hl 0 rfl) ?_
          refine vp_callSi (run_sP (As := [.int (mg_1 12), .int v_5]) (rest := [.ref (mk 0)]) C hN (c_X7_has) ⟨wd_3_184, wd_3_185, wd_1_8, wd_3_186⟩ ⟨rfl, rfl⟩ hd_X7_has ⟨Nat.le_of_ble_eq_true rfl, Nat.le_of_ble_eq_true rfl⟩ rfl hl.1 rfl (Nat.le_of_ble_eq_true rfl) dX7_takesCell_83 ⟨Nat.zero_le _, Nat.zero_le _⟩) (fun r_13 hr_13 => ?_)
          have hT := nm_u hr_13.1 hT
          refine lv_if_eq (tgt := 106) hx hb dX7_takesCell_86 (by decide) (fun c_14 => ?_) (fun c_14 => ?_)
          · have hT := it_t c_14 hT
            refine lv_iconst (v := 0) hx hb dX7_takesCell_106 (by decide) ?_
            exact K_107 ls (0 : Int32) (Or.inl rfl) (lv_sub hl [1, 0] rfl) hT
          · have hT := it_f c_14 hT
            refine lv_goto (tgt := 102) hx hb dX7_takesCell_89 (by decide) ?_
            refine lv_iconst (v := 1) hx hb dX7_takesCell_102 (by decide) ?_
            refine lv_goto (tgt := 107) hx hb dX7_takesCell_103 (by decide) ?_
            exact K_107 ls (1 : Int32) (Or.inr rfl) (lv_sub hl [1, 0] rfl) hT
    refine lv_if_eq (tgt := 65) hx hb dX7_takesCell_51 (by decide) (fun c_15 => ?_) (fun c_15 => ?_)
    · have hT := it_t c_15 hT
      refine lv_iconst (v := 0) hx hb dX7_takesCell_65 (by decide) ?_
      exact K_66 ls (0 : Int32) (ix_of (by decide) (by decide)) (lv_sub hl [1, 2, 0] rfl) hT
    · have hT := it_f c_15 hT
      refine lv_iconst (v := 5) hx hb dX7_takesCell_54 (by decide) ?_
      refine lv_aload_n hx hb dX7_takesCell_55 rfl (lv_at hl 1 rfl) ?_
      refine gX7_number C hK hP wd_3_88 dX7_takesCell_56 ?_
      refine lv_imul hx hb dX7_takesCell_59 ?_
      refine lv_iload_n hx hb dX7_takesCell_60 rfl (lv_at hl 3 rfl) ?_
      refine lv_iadd hx hb dX7_takesCell_61 ?_
      refine lv_goto (tgt := 66) hx hb dX7_takesCell_62 (by decide) ?_
      exact K_66 ls (((5 : Int32) * (mg_1 7)) + r_3) (tc_k t8 hsw hsr hi c_15) (lv_sub hl [1, 2, 0] rfl) hT
  refine lv_if_ne (tgt := 48) hx hb dX7_takesCell_16 (by decide) (fun c_16 => ?_) (fun c_16 => ?_)
  · have hT := it_f c_16 hT
    refine lv_iconst (v := 0) hx hb dX7_takesCell_48 (by decide) ?_
    exact K_49 ls (0 : Int32) (Or.inl rfl) (Or.inl rfl) (lv_sub hl [1, 2, 0] rfl) hT
  · have hT := it_t c_16 hT
    refine lv_aload_n hx hb dX7_takesCell_19 rfl (lv_at hl 1 rfl) ?_
    refine gX7_token C hK hP wd_3_87 dX7_takesCell_20 ?_
    refine lv_iconst (v := 2) hx hb dX7_takesCell_23 (by decide) ?_
    refine lv_icmp_ne (tgt := 48) hx hb dX7_takesCell_24 (by decide) (fun c_17 => ?_) (fun c_17 => ?_)
    · have hT := it_f c_17 hT
      refine lv_iconst (v := 0) hx hb dX7_takesCell_48 (by decide) ?_
      exact K_49 ls (0 : Int32) (Or.inl rfl) (Or.inl rfl) (lv_sub hl [1, 2, 0] rfl) hT
    · have hT := it_t c_17 hT
      refine lv_aload_n hx hb dX7_takesCell_27 rfl (lv_at hl 1 rfl) ?_
      refine gX7_number C hK hP wd_3_88 dX7_takesCell_28 ?_
      refine lv_iconst (v := 0) hx hb dX7_takesCell_31 (by decide) ?_
      refine lv_aload_n hx hb dX7_takesCell_32 rfl (lv_at hl 1 rfl) ?_
      refine gX7_saidRows C hK hP wd_3_92 dX7_takesCell_33 ?_
      refine lv_iconst (v := 1) hx hb dX7_takesCell_36 (by decide) ?_
      refine lv_isub hx hb dX7_takesCell_37 ?_
      refine vp_callSi (run_sP (As := [.int (mg_1 7), .int (0 : Int32), .int ((mg_1 11) - (1 : Int32))]) (rest := []) C hN (c_X7_in) ⟨wd_3_147, wd_3_148, wd_1_8, wd_3_149⟩ ⟨rfl, rfl⟩ hd_X7_in ⟨Nat.le_of_ble_eq_true rfl, Nat.le_of_ble_eq_true rfl⟩ rfl hl.1 rfl (Nat.le_of_ble_eq_true rfl) dX7_takesCell_38 ⟨Nat.zero_le _, Nat.zero_le _⟩) (fun r_18 hr_18 => ?_)
      have hT := nm_u hr_18.1 hT
      refine lv_if_eq (tgt := 48) hx hb dX7_takesCell_41 (by decide) (fun c_19 => ?_) (fun c_19 => ?_)
      · have hT := it_t c_19 hT
        refine lv_iconst (v := 0) hx hb dX7_takesCell_48 (by decide) ?_
        exact K_49 ls (0 : Int32) (Or.inl rfl) (Or.inl rfl) (lv_sub hl [1, 2, 0] rfl) hT
      · have hT := it_f c_19 hT
        refine lv_iconst (v := 1) hx hb dX7_takesCell_44 (by decide) ?_
        refine lv_goto (tgt := 49) hx hb dX7_takesCell_45 (by decide) ?_
        exact K_49 ls (1 : Int32) (Or.inr rfl) (Or.inr ⟨c_16, in0 hr_18.1 c_19⟩) (lv_sub hl [1, 2, 0] rfl) hT
