theorem hv_X7_next : yX7_next.cls = RX7 ∧ yX7_next.cls ≠ "java/lang/invoke/MethodHandle" ∧ yX7_next.cls ≠ "java/lang/invoke/VarHandle" ∧ (parseMethodDescriptor yX7_next.desc).map (fun d => d.parameters.length) = some 0 := by decide +kernel
theorem hd_X7_next : yX7_next.cls ≠ "java/lang/invoke/MethodHandle" ∧ yX7_next.cls ≠ "java/lang/invoke/VarHandle" ∧ (parseMethodDescriptor yX7_next.desc).map (fun d => d.parameters.length) = some 0 := hv_X7_next.2
def lp_X7_next_0 (tx : Nat → Int32) : Nat → (Nat → Int32) → (Nat → Int32)
  | 0, mg_1 => mg_1
  | n + 1, mg_1 => nm (sp_X7_letterAt mg_1 tx (mg_1 4)) (fun r_3 => if r_3 = (32 : Int32) then (lp_X7_next_0 tx n (upd mg_1 4 ((mg_1 4) + (1 : Int32)))) else mg_1)
theorem lp_X7_next_0_s (tx : Nat → Int32) (n : Nat) (mg_1 : Nat → Int32) : (nm (sp_X7_letterAt mg_1 tx (mg_1 4)) (fun r_3 => if r_3 = (32 : Int32) then (lp_X7_next_0 tx n (upd mg_1 4 ((mg_1 4) + (1 : Int32)))) else mg_1)) = lp_X7_next_0 tx (n + 1) mg_1 := rfl
def jn_X7_next_249 (e_2 : Nat → Int32) (v_11 : Int32) : (Nat → Int32) :=
  (upd (upd (upd (upd e_2 5 (e_2 4)) 7 (0 : Int32)) 6 v_11) 4 (((upd (upd (upd e_2 5 (e_2 4)) 7 (0 : Int32)) 6 v_11) 4) + (1 : Int32)))
theorem jn_X7_next_249_s (e_2 : Nat → Int32) (v_11 : Int32) : ((upd (upd (upd (upd e_2 5 (e_2 4)) 7 (0 : Int32)) 6 v_11) 4 (((upd (upd (upd e_2 5 (e_2 4)) 7 (0 : Int32)) 6 v_11) 4) + (1 : Int32)))) = jn_X7_next_249 e_2 v_11 := rfl
def lp_X7_next_180 (tx : Nat → Int32) : Nat → (Nat → Int32) → (Nat → Int32)
  | 0, mg_13 => mg_13
  | n + 1, mg_13 => nm (sp_X7_letterAt mg_13 tx (mg_13 4)) (fun r_15 => nm (sp_X7_isLetter r_15) (fun r_16 => if r_16 = 0 then mg_13 else (lp_X7_next_180 tx n (upd mg_13 4 ((mg_13 4) + (1 : Int32))))))
theorem lp_X7_next_180_s (tx : Nat → Int32) (n : Nat) (mg_13 : Nat → Int32) : (nm (sp_X7_letterAt mg_13 tx (mg_13 4)) (fun r_15 => nm (sp_X7_isLetter r_15) (fun r_16 => if r_16 = 0 then mg_13 else (lp_X7_next_180 tx n (upd mg_13 4 ((mg_13 4) + (1 : Int32))))))) = lp_X7_next_180 tx (n + 1) mg_13 := rfl
def jn_X7_next_117 (rec_67 : (Nat → Int32) → (Nat → Int32)) (mg_19 : Nat → Int32) (v_24 : Int32) : (Nat → Int32) :=
  rec_67 (upd (upd mg_19 7 v_24) 4 (((upd mg_19 7 v_24) 4) + (1 : Int32)))
theorem jn_X7_next_117_s (rec_67 : (Nat → Int32) → (Nat → Int32)) (mg_19 : Nat → Int32) (v_24 : Int32) : (rec_67 (upd (upd mg_19 7 v_24) 4 (((upd mg_19 7 v_24) 4) + (1 : Int32)))) = jn_X7_next_117 rec_67 mg_19 v_24 := rfl
def lp_X7_next_67 (tx : Nat → Int32) : Nat → (Nat → Int32) → (Nat → Int32)
  | 0, mg_19 => mg_19
  | n + 1, mg_19 => nm (sp_X7_letterAt mg_19 tx (mg_19 4)) (fun r_21 => nm (sp_X7_isFigure r_21) (fun r_22 => if r_22 = 0 then mg_19 else (if (mg_19 7) ≤ (99 : Int32) then (nm (sp_X7_letterAt mg_19 tx (mg_19 4)) (fun r_26 => jn_X7_next_117 (lp_X7_next_67 tx n) mg_19 ((((10 : Int32) * (mg_19 7)) + r_26) - (48 : Int32)))) else (jn_X7_next_117 (lp_X7_next_67 tx n) mg_19 (mg_19 7)))))
theorem lp_X7_next_67_s (tx : Nat → Int32) (n : Nat) (mg_19 : Nat → Int32) : (nm (sp_X7_letterAt mg_19 tx (mg_19 4)) (fun r_21 => nm (sp_X7_isFigure r_21) (fun r_22 => if r_22 = 0 then mg_19 else (if (mg_19 7) ≤ (99 : Int32) then (nm (sp_X7_letterAt mg_19 tx (mg_19 4)) (fun r_26 => jn_X7_next_117 (lp_X7_next_67 tx n) mg_19 ((((10 : Int32) * (mg_19 7)) + r_26) - (48 : Int32)))) else (jn_X7_next_117 (lp_X7_next_67 tx n) mg_19 (mg_19 7)))))) = lp_X7_next_67 tx (n + 1) mg_19 := rfl
def sp_X7_next (mg : Nat → Int32) (tx : Nat → Int32) : (Nat → Int32) :=
  nm (lp_X7_next_0 tx (((mg 3).toInt - (mg 4).toInt).toNat + 1) mg) (fun e_2 => nm (sp_X7_letterAt (upd e_2 5 (e_2 4)) tx ((upd e_2 5 (e_2 4)) 4)) (fun r_5 => if 0 ≤ r_5 then (nm (sp_X7_isFigure r_5) (fun r_7 => if r_7 = 0 then (nm (sp_X7_isLetter r_5) (fun r_9 => if r_9 = 0 then (if r_5 = (59 : Int32) then (jn_X7_next_249 e_2 (3 : Int32)) else (jn_X7_next_249 e_2 (4 : Int32))) else (nm (lp_X7_next_180 tx ((((upd (upd e_2 5 (e_2 4)) 7 (0 : Int32)) 3).toInt - ((upd (upd e_2 5 (e_2 4)) 7 (0 : Int32)) 4).toInt).toNat + 1) (upd (upd e_2 5 (e_2 4)) 7 (0 : Int32))) (fun e_14 => if (((upd e_14 6 (1 : Int32)) 4) - ((upd e_14 6 (1 : Int32)) 5)) = (1 : Int32) then (upd (upd e_14 6 (1 : Int32)) 7 r_5) else (upd (upd e_14 6 (1 : Int32)) 7 (0 : Int32)))))) else (nm (lp_X7_next_67 tx ((((upd (upd e_2 5 (e_2 4)) 7 (0 : Int32)) 3).toInt - ((upd (upd e_2 5 (e_2 4)) 7 (0 : Int32)) 4).toInt).toNat + 1) (upd (upd e_2 5 (e_2 4)) 7 (0 : Int32))) (fun e_20 => if (99 : Int32) < (e_20 7) then (upd e_20 6 (4 : Int32)) else (if r_5 = (48 : Int32) then (if ((e_20 4) - (e_20 5)) ≤ (1 : Int32) then (upd e_20 6 (2 : Int32)) else (upd e_20 6 (4 : Int32))) else (upd e_20 6 (2 : Int32))))))) else (upd (upd (upd e_2 5 (e_2 4)) 7 (0 : Int32)) 6 (0 : Int32))))
theorem sp_X7_next_s (mg : Nat → Int32) (tx : Nat → Int32) : (nm (lp_X7_next_0 tx (((mg 3).toInt - (mg 4).toInt).toNat + 1) mg) (fun e_2 => nm (sp_X7_letterAt (upd e_2 5 (e_2 4)) tx ((upd e_2 5 (e_2 4)) 4)) (fun r_5 => if 0 ≤ r_5 then (nm (sp_X7_isFigure r_5) (fun r_7 => if r_7 = 0 then (nm (sp_X7_isLetter r_5) (fun r_9 => if r_9 = 0 then (if r_5 = (59 : Int32) then (jn_X7_next_249 e_2 (3 : Int32)) else (jn_X7_next_249 e_2 (4 : Int32))) else (nm (lp_X7_next_180 tx ((((upd (upd e_2 5 (e_2 4)) 7 (0 : Int32)) 3).toInt - ((upd (upd e_2 5 (e_2 4)) 7 (0 : Int32)) 4).toInt).toNat + 1) (upd (upd e_2 5 (e_2 4)) 7 (0 : Int32))) (fun e_14 => if (((upd e_14 6 (1 : Int32)) 4) - ((upd e_14 6 (1 : Int32)) 5)) = (1 : Int32) then (upd (upd e_14 6 (1 : Int32)) 7 r_5) else (upd (upd e_14 6 (1 : Int32)) 7 (0 : Int32)))))) else (nm (lp_X7_next_67 tx ((((upd (upd e_2 5 (e_2 4)) 7 (0 : Int32)) 3).toInt - ((upd (upd e_2 5 (e_2 4)) 7 (0 : Int32)) 4).toInt).toNat + 1) (upd (upd e_2 5 (e_2 4)) 7 (0 : Int32))) (fun e_20 => if (99 : Int32) < (e_20 7) then (upd e_20 6 (4 : Int32)) else (if r_5 = (48 : Int32) then (if ((e_20 4) - (e_20 5)) ≤ (1 : Int32) then (upd e_20 6 (2 : Int32)) else (upd e_20 6 (4 : Int32))) else (upd e_20 6 (2 : Int32))))))) else (upd (upd (upd e_2 5 (e_2 4)) 7 (0 : Int32)) 6 (0 : Int32))))) = sp_X7_next mg tx := rfl
set_option maxHeartbeats 4000000 in
set_option maxRecDepth 100000 in
theorem c_X7_next {l : Launch} {D : va_G} {cI cZ cO : ClassId} {mk : Nat → Nat} {mg st im ke se tx sh fa : Nat → Int32} {mt : Int64}  (hcu : 0 ≤ (mg 4).toInt) (htx : 0 ≤ (mg 3).toInt ∧ (mg 3).toInt ≤ 150) (sz : Nat) : Met l yX7_next (wm yX7_next cX7_next 2 none) ({ frames := 2, cells := 0, slots := 0, locals := 42 } : Room) (GPre D (ty3 cI cZ cO) (MW cI cZ mk mg st im ke se tx sh fa mt) [.ref (mk 0)] sz) (va_Qv (fun (u : (Nat → Int32)) => u = sp_X7_next mg tx) (fun u t => GAt D (ty3 cI cZ cO) (va_A (MW cI cZ mk mg st im ke se tx sh fa mt) sz) (MW cI cZ mk u st im ke se tx sh fa mt) t) (va_A (MW cI cZ mk mg st im ke se tx sh fa mt) sz)) 0 0 (va_A (MW cI cZ mk mg st im ke se tx sh fa mt) sz) := by
  refine metQ_v (W1 := (fun (u : (Nat → Int32)) => MW cI cZ mk u st im ke se tx sh fa mt)) (post := (fun (u : (Nat → Int32)) => u = sp_X7_next mg tx)) (by decide) (Nat.le_of_ble_eq_true rfl) ?_
  intro p e s m args below meth c ls A Q C hsz hP hK hD hS hA hN hl hret
  have hx := C.1
  have hb := C.2.1
  have hl : lv_has ls 2 [(0, .ref (mk 0))] := hl
  have hT := sp_X7_next_s mg tx
  have L_0 : ∀ (n : Nat) (ls : Array Slot) (mg_1 : Nat → Int32) (a1 : 0 ≤ (mg_1 4).toInt) (a2 : 0 ≤ (mg_1 3).toInt ∧ (mg_1 3).toInt ≤ 150) (hm : ((mg_1 3).toInt - (mg_1 4).toInt).toNat < n) (H : Heap) (locs : List Loc) (hP : va_P D vwCl (MW cI cZ mk mg_1 st im ke se tx sh fa mt) H) (hD : va_D A (MW cI cZ mk mg_1 st im ke se tx sh fa mt)) (hS : va_S A s.heap H locs) (hl : lv_has ls 2 [(0, .ref (mk 0))]) (kont : ∀ (ls : Array Slot) (e_2 : Nat → Int32) (H : Heap) (locs : List Loc), va_P D vwCl (MW cI cZ mk e_2 st im ke se tx sh fa mt) H → va_D A (MW cI cZ mk e_2 st im ke se tx sh fa mt) → va_S A s.heap H locs → 0 ≤ (e_2 4).toInt → 0 ≤ (e_2 3).toInt ∧ (e_2 3).toInt ≤ 150 → lv_has ls 2 [(0, .ref (mk 0))] → e_2 = lp_X7_next_0 tx n mg_1 → W p l e ({ frames := 2, cells := 0, slots := 0, locals := 42 } : Room) s m args below meth c H locs 0 0 Q (F0 m 26 ls [])), W p l e ({ frames := 2, cells := 0, slots := 0, locals := 42 } : Room) s m args below meth c H locs 0 0 Q (F0 m 0 ls []) := by
    intro n
    induction n with
    | zero => intro ls mg_1 a1 a2 hm; exact absurd hm (Nat.not_lt_zero _)
    | succ n ih =>
      intro ls mg_1 a1 a2 hm H locs hP hD hS hl kont
      have hT := lp_X7_next_0_s tx n mg_1
      refine lv_aload_n hx hb dX7_next_0 rfl (lv_at hl 0 rfl) ?_
      refine lv_aload_n hx hb dX7_next_1 rfl (lv_at hl 0 rfl) ?_
      refine gX7_cursor C hK hP wd_3_85 dX7_next_2 ?_
      refine vp_callSi (run_vP (As := [.int (mg_1 4)]) (rest := []) C hK hP hD hN (c_X7_letterAt (x1 := mg_1 4) (mg := mg_1) a1 a2 _) (rX7_r hK hP) ⟨wd_3_162, wd_3_164, ws_22, wd_1_8, wd_3_165⟩ ⟨rfl, rfl⟩ hv_X7_letterAt ⟨Nat.le_of_ble_eq_true rfl, Nat.le_of_ble_eq_true rfl⟩ rfl hl.1 rfl (Nat.le_of_ble_eq_true rfl) dX7_next_5 ⟨Nat.zero_le _, Nat.zero_le _⟩) (fun r_3 hr_3 => ?_)
      have hT := nm_u hr_3 hT
      refine lv_bipush (v := 32) hx hb dX7_next_8 (by decide) ?_
      refine lv_icmp_ne (tgt := 26) hx hb dX7_next_10 (by decide) (fun c_4 => ?_) (fun c_4 => ?_)
      · have hT := it_f c_4 hT
        exact kont ls mg_1 H locs hP hD hS a1 a2 (lv_sub hl [0] rfl) hT
      · have hT := it_t c_4 hT
        refine lv_aload_n hx hb dX7_next_13 rfl (lv_at hl 0 rfl) ?_
        refine lv_dup hx hb dX7_next_14 rfl ?_
        refine gX7_cursor C hK hP wd_3_85 dX7_next_15 ?_
        refine lv_iconst (v := 1) hx hb dX7_next_18 (by decide) ?_
        refine lv_iadd hx hb dX7_next_19 ?_
        refine pX7_cursor C hK hP hD hS wd_3_85 dX7_next_20 (fun H locs hP hD hS => ?_)
        refine lv_goto (tgt := 0) hx hb dX7_next_23 (by decide) ?_
        exact ih ls (upd mg_1 4 ((mg_1 4) + (1 : Int32))) (up0l (i := mg_1 4) (B := mg_1 3) (la_lt hr_3 (by rw [c_4]; decide)) a1) a2 (ms_up2 (i := mg_1 4) (B := mg_1 3) (la_lt hr_3 (by rw [c_4]; decide)) hm) H locs hP hD hS (lv_sub hl [0] rfl) (fun ls z0 H locs hP hD hS x0 x1 hl he => kont ls z0 H locs hP hD hS x0 x1 hl (he.trans hT))
  refine L_0 (((mg 3).toInt - (mg 4).toInt).toNat + 1) ls mg hcu htx (Nat.lt_succ_self _) s.heap [] hP hD hS (lv_sub hl [0] rfl) (fun ls e_2 H locs hP hD hS ax1 ax2 hl he => ?_)
  have hT := nm_u he hT
  refine lv_aload_n hx hb dX7_next_26 rfl (lv_at hl 0 rfl) ?_
  refine lv_aload_n hx hb dX7_next_27 rfl (lv_at hl 0 rfl) ?_
  refine gX7_cursor C hK hP wd_3_85 dX7_next_28 ?_
  refine pX7_start C hK hP hD hS wd_3_86 dX7_next_31 (fun H locs hP hD hS => ?_)
  refine lv_aload_n hx hb dX7_next_34 rfl (lv_at hl 0 rfl) ?_
  refine lv_aload_n hx hb dX7_next_35 rfl (lv_at hl 0 rfl) ?_
  refine gX7_cursor C hK hP wd_3_85 dX7_next_36 ?_
  refine vp_callSi (run_vP (As := [.int ((upd e_2 5 (e_2 4)) 4)]) (rest := []) C hK hP hD hN (c_X7_letterAt (x1 := (upd e_2 5 (e_2 4)) 4) (mg := upd e_2 5 (e_2 4)) ax1 ax2 _) (rX7_r hK hP) ⟨wd_3_162, wd_3_164, ws_22, wd_1_8, wd_3_165⟩ ⟨rfl, rfl⟩ hv_X7_letterAt ⟨Nat.le_of_ble_eq_true rfl, Nat.le_of_ble_eq_true rfl⟩ rfl hl.1 rfl (Nat.le_of_ble_eq_true rfl) dX7_next_39 ⟨Nat.zero_le _, Nat.zero_le _⟩) (fun r_5 hr_5 => ?_)
  have hT := nm_u hr_5 hT
  refine lv_istore_n (lv' := [(1, .int r_5), (0, .ref (mk 0))]) hx hb dX7_next_42 rfl hl (by decide) rfl (fun ls hl => ?_)
  refine lv_aload_n hx hb dX7_next_43 rfl (lv_at hl 1 rfl) ?_
  refine lv_iconst (v := 0) hx hb dX7_next_44 (by decide) ?_
  refine pX7_number C hK hP hD hS wd_3_88 dX7_next_45 (fun H locs hP hD hS => ?_)
  refine lv_iload_n hx hb dX7_next_48 rfl (lv_at hl 0 rfl) ?_
  refine lv_if_ge (tgt := 60) hx hb dX7_next_49 (by decide) (fun c_6 => ?_) (fun c_6 => ?_)
  · have hT := it_t c_6 hT
    refine lv_iload_n hx hb dX7_next_60 rfl (lv_at hl 0 rfl) ?_
    refine vp_callSi (run_sP (As := [.int r_5]) (rest := []) C hN (c_X7_isFigure) ⟨wd_3_166, wd_3_167, wd_1_8, wd_3_168⟩ ⟨rfl, rfl⟩ hd_X7_isFigure ⟨Nat.le_of_ble_eq_true rfl, Nat.le_of_ble_eq_true rfl⟩ rfl hl.1 rfl (Nat.le_of_ble_eq_true rfl) dX7_next_61 ⟨Nat.zero_le _, Nat.zero_le _⟩) (fun r_7 hr_7 => ?_)
    have hT := nm_u hr_7.1 hT
    refine lv_if_eq (tgt := 173) hx hb dX7_next_64 (by decide) (fun c_8 => ?_) (fun c_8 => ?_)
    · have hT := it_t c_8 hT
      refine lv_iload_n hx hb dX7_next_173 rfl (lv_at hl 0 rfl) ?_
      refine vp_callSi (run_sP (As := [.int r_5]) (rest := []) C hN (c_X7_isLetter) ⟨wd_3_169, wd_3_170, wd_1_8, wd_3_171⟩ ⟨rfl, rfl⟩ hd_X7_isLetter ⟨Nat.le_of_ble_eq_true rfl, Nat.le_of_ble_eq_true rfl⟩ rfl hl.1 rfl (Nat.le_of_ble_eq_true rfl) dX7_next_174 ⟨Nat.zero_le _, Nat.zero_le _⟩) (fun r_9 hr_9 => ?_)
      have hT := nm_u hr_9.1 hT
      refine lv_if_eq (tgt := 237) hx hb dX7_next_177 (by decide) (fun c_10 => ?_) (fun c_10 => ?_)
      · have hT := it_t c_10 hT
        refine lv_aload_n hx hb dX7_next_237 rfl (lv_at hl 1 rfl) ?_
        refine lv_iload_n hx hb dX7_next_238 rfl (lv_at hl 0 rfl) ?_
        refine lv_bipush (v := 59) hx hb dX7_next_239 (by decide) ?_
        have K_249 : ∀ (ls : Array Slot) (v_11 : Int32) (hl : lv_has ls 2 [(0, .ref (mk 0))]) (hT0 : jn_X7_next_249 e_2 v_11 = sp_X7_next mg tx), W p l e ({ frames := 2, cells := 0, slots := 0, locals := 42 } : Room) s m args below meth c H locs 0 0 Q (F0 m 249 ls [.int v_11, .ref (mk 0)]) := by
          intro ls v_11 hl hT0
          have hT := (jn_X7_next_249_s e_2 v_11).trans hT0
          refine pX7_token C hK hP hD hS wd_3_87 dX7_next_249 (fun H locs hP hD hS => ?_)
          refine lv_aload_n hx hb dX7_next_252 rfl (lv_at hl 0 rfl) ?_
          refine lv_dup hx hb dX7_next_253 rfl ?_
          refine gX7_cursor C hK hP wd_3_85 dX7_next_254 ?_
          refine lv_iconst (v := 1) hx hb dX7_next_257 (by decide) ?_
          refine lv_iadd hx hb dX7_next_258 ?_
          refine pX7_cursor C hK hP hD hS wd_3_85 dX7_next_259 (fun H locs hP hD hS => ?_)
          exact hret (upd (upd (upd (upd e_2 5 (e_2 4)) 7 (0 : Int32)) 6 v_11) 4 (((upd (upd (upd e_2 5 (e_2 4)) 7 (0 : Int32)) 6 v_11) 4) + (1 : Int32))) _ _ _ _ hT hP hD hS dX7_next_262
        refine lv_icmp_ne (tgt := 248) hx hb dX7_next_241 (by decide) (fun c_12 => ?_) (fun c_12 => ?_)
        · have hT := it_f c_12 hT
          refine lv_iconst (v := 4) hx hb dX7_next_248 (by decide) ?_
          exact K_249 ls (4 : Int32) (lv_sub hl [1] rfl) hT
        · have hT := it_t c_12 hT
          refine lv_iconst (v := 3) hx hb dX7_next_244 (by decide) ?_
          refine lv_goto (tgt := 249) hx hb dX7_next_245 (by decide) ?_
          exact K_249 ls (3 : Int32) (lv_sub hl [1] rfl) hT
      · have hT := it_f c_10 hT
        have L_180 : ∀ (n : Nat) (ls : Array Slot) (mg_13 : Nat → Int32) (d1 : 0 ≤ (mg_13 4).toInt) (d2 : 0 ≤ (mg_13 3).toInt ∧ (mg_13 3).toInt ≤ 150) (hm : ((mg_13 3).toInt - (mg_13 4).toInt).toNat < n) (H : Heap) (locs : List Loc) (hP : va_P D vwCl (MW cI cZ mk mg_13 st im ke se tx sh fa mt) H) (hD : va_D A (MW cI cZ mk mg_13 st im ke se tx sh fa mt)) (hS : va_S A s.heap H locs) (hl : lv_has ls 2 [(0, .ref (mk 0)), (1, .int r_5)]) (kont : ∀ (ls : Array Slot) (e_14 : Nat → Int32) (H : Heap) (locs : List Loc), va_P D vwCl (MW cI cZ mk e_14 st im ke se tx sh fa mt) H → va_D A (MW cI cZ mk e_14 st im ke se tx sh fa mt) → va_S A s.heap H locs → 0 ≤ (e_14 4).toInt → 0 ≤ (e_14 3).toInt ∧ (e_14 3).toInt ≤ 150 → lv_has ls 2 [(0, .ref (mk 0)), (1, .int r_5)] → e_14 = lp_X7_next_180 tx n mg_13 → W p l e ({ frames := 2, cells := 0, slots := 0, locals := 42 } : Room) s m args below meth c H locs 0 0 Q (F0 m 207 ls [])), W p l e ({ frames := 2, cells := 0, slots := 0, locals := 42 } : Room) s m args below meth c H locs 0 0 Q (F0 m 180 ls []) := by
          intro n
          induction n with
          | zero => intro ls mg_13 d1 d2 hm; exact absurd hm (Nat.not_lt_zero _)
          | succ n ih =>
            intro ls mg_13 d1 d2 hm H locs hP hD hS hl kont
            have hT := lp_X7_next_180_s tx n mg_13
            refine lv_aload_n hx hb dX7_next_180 rfl (lv_at hl 0 rfl) ?_
            refine lv_aload_n hx hb dX7_next_181 rfl (lv_at hl 0 rfl) ?_
            refine gX7_cursor C hK hP wd_3_85 dX7_next_182 ?_
            refine vp_callSi (run_vP (As := [.int (mg_13 4)]) (rest := []) C hK hP hD hN (c_X7_letterAt (x1 := mg_13 4) (mg := mg_13) d1 d2 _) (rX7_r hK hP) ⟨wd_3_162, wd_3_164, ws_22, wd_1_8, wd_3_165⟩ ⟨rfl, rfl⟩ hv_X7_letterAt ⟨Nat.le_of_ble_eq_true rfl, Nat.le_of_ble_eq_true rfl⟩ rfl hl.1 rfl (Nat.le_of_ble_eq_true rfl) dX7_next_185 ⟨Nat.zero_le _, Nat.zero_le _⟩) (fun r_15 hr_15 => ?_)
            have hT := nm_u hr_15 hT
            refine vp_callSi (run_sP (As := [.int r_15]) (rest := []) C hN (c_X7_isLetter) ⟨wd_3_169, wd_3_170, wd_1_8, wd_3_171⟩ ⟨rfl, rfl⟩ hd_X7_isLetter ⟨Nat.le_of_ble_eq_true rfl, Nat.le_of_ble_eq_true rfl⟩ rfl hl.1 rfl (Nat.le_of_ble_eq_true rfl) dX7_next_188 ⟨Nat.zero_le _, Nat.zero_le _⟩) (fun r_16 hr_16 => ?_)
            have hT := nm_u hr_16.1 hT
            refine lv_if_eq (tgt := 207) hx hb dX7_next_191 (by decide) (fun c_17 => ?_) (fun c_17 => ?_)
            · have hT := it_t c_17 hT
              exact kont ls mg_13 H locs hP hD hS d1 d2 (lv_sub hl [0, 1] rfl) hT
            · have hT := it_f c_17 hT
              refine lv_aload_n hx hb dX7_next_194 rfl (lv_at hl 0 rfl) ?_
              refine lv_dup hx hb dX7_next_195 rfl ?_
              refine gX7_cursor C hK hP wd_3_85 dX7_next_196 ?_
              refine lv_iconst (v := 1) hx hb dX7_next_199 (by decide) ?_
              refine lv_iadd hx hb dX7_next_200 ?_
              refine pX7_cursor C hK hP hD hS wd_3_85 dX7_next_201 (fun H locs hP hD hS => ?_)
              refine lv_goto (tgt := 180) hx hb dX7_next_204 (by decide) ?_
              exact ih ls (upd mg_13 4 ((mg_13 4) + (1 : Int32))) (up0l (i := mg_13 4) (B := mg_13 3) (la_lt hr_15 (isLetter_ne hr_16.1 c_17)) d1) d2 (ms_up2 (i := mg_13 4) (B := mg_13 3) (la_lt hr_15 (isLetter_ne hr_16.1 c_17)) hm) H locs hP hD hS (lv_sub hl [0, 1] rfl) (fun ls z0 H locs hP hD hS x0 x1 hl he => kont ls z0 H locs hP hD hS x0 x1 hl (he.trans hT))
        refine L_180 ((((upd (upd e_2 5 (e_2 4)) 7 (0 : Int32)) 3).toInt - ((upd (upd e_2 5 (e_2 4)) 7 (0 : Int32)) 4).toInt).toNat + 1) ls (upd (upd e_2 5 (e_2 4)) 7 (0 : Int32)) ax1 ax2 (Nat.lt_succ_self _) H locs hP hD hS (lv_sub hl [1, 0] rfl) (fun ls e_14 H locs hP hD hS dx1 dx2 hl he => ?_)
        have hT := nm_u he hT
        refine lv_aload_n hx hb dX7_next_207 rfl (lv_at hl 0 rfl) ?_
        refine lv_iconst (v := 1) hx hb dX7_next_208 (by decide) ?_
        refine pX7_token C hK hP hD hS wd_3_87 dX7_next_209 (fun H locs hP hD hS => ?_)
        refine lv_aload_n hx hb dX7_next_212 rfl (lv_at hl 0 rfl) ?_
        refine lv_aload_n hx hb dX7_next_213 rfl (lv_at hl 0 rfl) ?_
        refine gX7_cursor C hK hP wd_3_85 dX7_next_214 ?_
        refine lv_aload_n hx hb dX7_next_217 rfl (lv_at hl 0 rfl) ?_
        refine gX7_start C hK hP wd_3_86 dX7_next_218 ?_
        refine lv_isub hx hb dX7_next_221 ?_
        refine lv_iconst (v := 1) hx hb dX7_next_222 (by decide) ?_
        refine lv_icmp_ne (tgt := 230) hx hb dX7_next_223 (by decide) (fun c_18 => ?_) (fun c_18 => ?_)
        · have hT := it_f c_18 hT
          refine lv_iconst (v := 0) hx hb dX7_next_230 (by decide) ?_
          refine pX7_number C hK hP hD hS wd_3_88 dX7_next_231 (fun H locs hP hD hS => ?_)
          refine lv_goto (tgt := 262) hx hb dX7_next_234 (by decide) ?_
          exact hret (upd (upd e_14 6 (1 : Int32)) 7 (0 : Int32)) _ _ _ _ hT hP hD hS dX7_next_262
        · have hT := it_t c_18 hT
          refine lv_iload_n hx hb dX7_next_226 rfl (lv_at hl 1 rfl) ?_
          refine lv_goto (tgt := 231) hx hb dX7_next_227 (by decide) ?_
          refine pX7_number C hK hP hD hS wd_3_88 dX7_next_231 (fun H locs hP hD hS => ?_)
          refine lv_goto (tgt := 262) hx hb dX7_next_234 (by decide) ?_
          exact hret (upd (upd e_14 6 (1 : Int32)) 7 r_5) _ _ _ _ hT hP hD hS dX7_next_262
    · have hT := it_f c_8 hT
      have L_67 : ∀ (n : Nat) (ls : Array Slot) (mg_19 : Nat → Int32) (b1 : 0 ≤ (mg_19 4).toInt) (b2 : 0 ≤ (mg_19 3).toInt ∧ (mg_19 3).toInt ≤ 150) (hm : ((mg_19 3).toInt - (mg_19 4).toInt).toNat < n) (H : Heap) (locs : List Loc) (hP : va_P D vwCl (MW cI cZ mk mg_19 st im ke se tx sh fa mt) H) (hD : va_D A (MW cI cZ mk mg_19 st im ke se tx sh fa mt)) (hS : va_S A s.heap H locs) (hl : lv_has ls 2 [(0, .ref (mk 0)), (1, .int r_5)]) (kont : ∀ (ls : Array Slot) (e_20 : Nat → Int32) (H : Heap) (locs : List Loc), va_P D vwCl (MW cI cZ mk e_20 st im ke se tx sh fa mt) H → va_D A (MW cI cZ mk e_20 st im ke se tx sh fa mt) → va_S A s.heap H locs → 0 ≤ (e_20 4).toInt → 0 ≤ (e_20 3).toInt ∧ (e_20 3).toInt ≤ 150 → lv_has ls 2 [(0, .ref (mk 0)), (1, .int r_5)] → e_20 = lp_X7_next_67 tx n mg_19 → W p l e ({ frames := 2, cells := 0, slots := 0, locals := 42 } : Room) s m args below meth c H locs 0 0 Q (F0 m 133 ls [])), W p l e ({ frames := 2, cells := 0, slots := 0, locals := 42 } : Room) s m args below meth c H locs 0 0 Q (F0 m 67 ls []) := by
        intro n
        induction n with
        | zero => intro ls mg_19 b1 b2 hm; exact absurd hm (Nat.not_lt_zero _)
        | succ n ih =>
          intro ls mg_19 b1 b2 hm H locs hP hD hS hl kont
          have hT := lp_X7_next_67_s tx n mg_19
          refine lv_aload_n hx hb dX7_next_67 rfl (lv_at hl 0 rfl) ?_
          refine lv_aload_n hx hb dX7_next_68 rfl (lv_at hl 0 rfl) ?_
          refine gX7_cursor C hK hP wd_3_85 dX7_next_69 ?_
          refine vp_callSi (run_vP (As := [.int (mg_19 4)]) (rest := []) C hK hP hD hN (c_X7_letterAt (x1 := mg_19 4) (mg := mg_19) b1 b2 _) (rX7_r hK hP) ⟨wd_3_162, wd_3_164, ws_22, wd_1_8, wd_3_165⟩ ⟨rfl, rfl⟩ hv_X7_letterAt ⟨Nat.le_of_ble_eq_true rfl, Nat.le_of_ble_eq_true rfl⟩ rfl hl.1 rfl (Nat.le_of_ble_eq_true rfl) dX7_next_72 ⟨Nat.zero_le _, Nat.zero_le _⟩) (fun r_21 hr_21 => ?_)
          have hT := nm_u hr_21 hT
          refine vp_callSi (run_sP (As := [.int r_21]) (rest := []) C hN (c_X7_isFigure) ⟨wd_3_166, wd_3_167, wd_1_8, wd_3_168⟩ ⟨rfl, rfl⟩ hd_X7_isFigure ⟨Nat.le_of_ble_eq_true rfl, Nat.le_of_ble_eq_true rfl⟩ rfl hl.1 rfl (Nat.le_of_ble_eq_true rfl) dX7_next_75 ⟨Nat.zero_le _, Nat.zero_le _⟩) (fun r_22 hr_22 => ?_)
          have hT := nm_u hr_22.1 hT
          refine lv_if_eq (tgt := 133) hx hb dX7_next_78 (by decide) (fun c_23 => ?_) (fun c_23 => ?_)
          · have hT := it_t c_23 hT
            exact kont ls mg_19 H locs hP hD hS b1 b2 (lv_sub hl [0, 1] rfl) hT
          · have hT := it_f c_23 hT
            refine lv_aload_n hx hb dX7_next_81 rfl (lv_at hl 0 rfl) ?_
            refine lv_aload_n hx hb dX7_next_82 rfl (lv_at hl 0 rfl) ?_
            refine gX7_number C hK hP wd_3_88 dX7_next_83 ?_
            refine lv_bipush (v := 99) hx hb dX7_next_86 (by decide) ?_
            have K_117 : ∀ (ls : Array Slot) (v_24 : Int32) (hl : lv_has ls 2 [(0, .ref (mk 0)), (1, .int r_5)]) (hT0 : jn_X7_next_117 (lp_X7_next_67 tx n) mg_19 v_24 = (lp_X7_next_67 tx (n + 1) mg_19)), W p l e ({ frames := 2, cells := 0, slots := 0, locals := 42 } : Room) s m args below meth c H locs 0 0 Q (F0 m 117 ls [.int v_24, .ref (mk 0)]) := by
              intro ls v_24 hl hT0
              have hT := (jn_X7_next_117_s (lp_X7_next_67 tx n) mg_19 v_24).trans hT0
              refine pX7_number C hK hP hD hS wd_3_88 dX7_next_117 (fun H locs hP hD hS => ?_)
              refine lv_aload_n hx hb dX7_next_120 rfl (lv_at hl 0 rfl) ?_
              refine lv_dup hx hb dX7_next_121 rfl ?_
              refine gX7_cursor C hK hP wd_3_85 dX7_next_122 ?_
              refine lv_iconst (v := 1) hx hb dX7_next_125 (by decide) ?_
              refine lv_iadd hx hb dX7_next_126 ?_
              refine pX7_cursor C hK hP hD hS wd_3_85 dX7_next_127 (fun H locs hP hD hS => ?_)
              refine lv_goto (tgt := 67) hx hb dX7_next_130 (by decide) ?_
              exact ih ls (upd (upd mg_19 7 v_24) 4 (((upd mg_19 7 v_24) 4) + (1 : Int32))) (up0l (i := mg_19 4) (B := mg_19 3) (la_lt hr_21 (isFigure_ne hr_22.1 c_23)) b1) b2 (ms_up2 (i := mg_19 4) (B := mg_19 3) (la_lt hr_21 (isFigure_ne hr_22.1 c_23)) hm) H locs hP hD hS (lv_sub hl [0, 1] rfl) (fun ls z0 H locs hP hD hS x0 x1 hl he => kont ls z0 H locs hP hD hS x0 x1 hl (he.trans hT))
            refine lv_icmp_le (tgt := 98) hx hb dX7_next_88 (by decide) (fun c_25 => ?_) (fun c_25 => ?_)
            · have hT := it_t c_25 hT
              refine lv_bipush (v := 10) hx hb dX7_next_98 (by decide) ?_
              refine lv_aload_n hx hb dX7_next_100 rfl (lv_at hl 0 rfl) ?_
              refine gX7_number C hK hP wd_3_88 dX7_next_101 ?_
              refine lv_imul hx hb dX7_next_104 ?_
              refine lv_aload_n hx hb dX7_next_105 rfl (lv_at hl 0 rfl) ?_
              refine lv_aload_n hx hb dX7_next_106 rfl (lv_at hl 0 rfl) ?_
              refine gX7_cursor C hK hP wd_3_85 dX7_next_107 ?_
              refine vp_callSi (run_vP (As := [.int (mg_19 4)]) (rest := [.int ((10 : Int32) * (mg_19 7)), .ref (mk 0)]) C hK hP hD hN (c_X7_letterAt (x1 := mg_19 4) (mg := mg_19) b1 b2 _) (rX7_r hK hP) ⟨wd_3_162, wd_3_164, ws_22, wd_1_8, wd_3_165⟩ ⟨rfl, rfl⟩ hv_X7_letterAt ⟨Nat.le_of_ble_eq_true rfl, Nat.le_of_ble_eq_true rfl⟩ rfl hl.1 rfl (Nat.le_of_ble_eq_true rfl) dX7_next_110 ⟨Nat.zero_le _, Nat.zero_le _⟩) (fun r_26 hr_26 => ?_)
              have hT := nm_u hr_26 hT
              refine lv_iadd hx hb dX7_next_113 ?_
              refine lv_bipush (v := 48) hx hb dX7_next_114 (by decide) ?_
              refine lv_isub hx hb dX7_next_116 ?_
              exact K_117 ls ((((10 : Int32) * (mg_19 7)) + r_26) - (48 : Int32)) (lv_sub hl [0, 1] rfl) hT
            · have hT := it_f c_25 hT
              refine lv_aload_n hx hb dX7_next_91 rfl (lv_at hl 0 rfl) ?_
              refine gX7_number C hK hP wd_3_88 dX7_next_92 ?_
              refine lv_goto (tgt := 117) hx hb dX7_next_95 (by decide) ?_
              exact K_117 ls (mg_19 7) (lv_sub hl [0, 1] rfl) hT
      refine L_67 ((((upd (upd e_2 5 (e_2 4)) 7 (0 : Int32)) 3).toInt - ((upd (upd e_2 5 (e_2 4)) 7 (0 : Int32)) 4).toInt).toNat + 1) ls (upd (upd e_2 5 (e_2 4)) 7 (0 : Int32)) ax1 ax2 (Nat.lt_succ_self _) H locs hP hD hS (lv_sub hl [1, 0] rfl) (fun ls e_20 H locs hP hD hS bx1 bx2 hl he => ?_)
      have hT := nm_u he hT
      refine lv_aload_n hx hb dX7_next_133 rfl (lv_at hl 0 rfl) ?_
      refine lv_aload_n hx hb dX7_next_134 rfl (lv_at hl 0 rfl) ?_
      refine gX7_number C hK hP wd_3_88 dX7_next_135 ?_
      refine lv_bipush (v := 99) hx hb dX7_next_138 (by decide) ?_
      refine lv_icmp_gt (tgt := 162) hx hb dX7_next_140 (by decide) (fun c_27 => ?_) (fun c_27 => ?_)
      · have hT := it_t c_27 hT
        refine lv_iconst (v := 4) hx hb dX7_next_162 (by decide) ?_
        refine lv_goto (tgt := 167) hx hb dX7_next_163 (by decide) ?_
        refine pX7_token C hK hP hD hS wd_3_87 dX7_next_167 (fun H locs hP hD hS => ?_)
        refine lv_goto (tgt := 262) hx hb dX7_next_170 (by decide) ?_
        exact hret (upd e_20 6 (4 : Int32)) _ _ _ _ hT hP hD hS dX7_next_262
      · have hT := it_f c_27 hT
        refine lv_iload_n hx hb dX7_next_143 rfl (lv_at hl 1 rfl) ?_
        refine lv_bipush (v := 48) hx hb dX7_next_144 (by decide) ?_
        refine lv_icmp_ne (tgt := 166) hx hb dX7_next_146 (by decide) (fun c_28 => ?_) (fun c_28 => ?_)
        · have hT := it_f c_28 hT
          refine lv_iconst (v := 2) hx hb dX7_next_166 (by decide) ?_
          refine pX7_token C hK hP hD hS wd_3_87 dX7_next_167 (fun H locs hP hD hS => ?_)
          refine lv_goto (tgt := 262) hx hb dX7_next_170 (by decide) ?_
          exact hret (upd e_20 6 (2 : Int32)) _ _ _ _ hT hP hD hS dX7_next_262
        · have hT := it_t c_28 hT
          refine lv_aload_n hx hb dX7_next_149 rfl (lv_at hl 0 rfl) ?_
          refine gX7_cursor C hK hP wd_3_85 dX7_next_150 ?_
          refine lv_aload_n hx hb dX7_next_153 rfl (lv_at hl 0 rfl) ?_
          refine gX7_start C hK hP wd_3_86 dX7_next_154 ?_
          refine lv_isub hx hb dX7_next_157 ?_
          refine lv_iconst (v := 1) hx hb dX7_next_158 (by decide) ?_
          refine lv_icmp_le (tgt := 166) hx hb dX7_next_159 (by decide) (fun c_29 => ?_) (fun c_29 => ?_)
          · have hT := it_t c_29 hT
            refine lv_iconst (v := 2) hx hb dX7_next_166 (by decide) ?_
            refine pX7_token C hK hP hD hS wd_3_87 dX7_next_167 (fun H locs hP hD hS => ?_)
            refine lv_goto (tgt := 262) hx hb dX7_next_170 (by decide) ?_
            exact hret (upd e_20 6 (2 : Int32)) _ _ _ _ hT hP hD hS dX7_next_262
          · have hT := it_f c_29 hT
            refine lv_iconst (v := 4) hx hb dX7_next_162 (by decide) ?_
            refine lv_goto (tgt := 167) hx hb dX7_next_163 (by decide) ?_
            refine pX7_token C hK hP hD hS wd_3_87 dX7_next_167 (fun H locs hP hD hS => ?_)
            refine lv_goto (tgt := 262) hx hb dX7_next_170 (by decide) ?_
            exact hret (upd e_20 6 (4 : Int32)) _ _ _ _ hT hP hD hS dX7_next_262
  · have hT := it_f c_6 hT
    refine lv_aload_n hx hb dX7_next_52 rfl (lv_at hl 1 rfl) ?_
    refine lv_iconst (v := 0) hx hb dX7_next_53 (by decide) ?_
    refine pX7_token C hK hP hD hS wd_3_87 dX7_next_54 (fun H locs hP hD hS => ?_)
    refine lv_goto (tgt := 262) hx hb dX7_next_57 (by decide) ?_
    exact hret (upd (upd (upd e_2 5 (e_2 4)) 7 (0 : Int32)) 6 (0 : Int32)) _ _ _ _ hT hP hD hS dX7_next_262
