theorem hv_X7_settles : yX7_settles.cls = RX7 ∧ yX7_settles.cls ≠ "java/lang/invoke/MethodHandle" ∧ yX7_settles.cls ≠ "java/lang/invoke/VarHandle" ∧ (parseMethodDescriptor yX7_settles.desc).map (fun d => d.parameters.length) = some 0 := by decide +kernel
theorem hd_X7_settles : yX7_settles.cls ≠ "java/lang/invoke/MethodHandle" ∧ yX7_settles.cls ≠ "java/lang/invoke/VarHandle" ∧ (parseMethodDescriptor yX7_settles.desc).map (fun d => d.parameters.length) = some 0 := hv_X7_settles.2
def lp_X7_settles_18 (sh : Nat → Int32) : Nat → Int32 → (Nat → Int32) → (Nat → Int32)
  | 0, y_1, st_2 => st_2
  | n + 1, y_1, st_2 => if (254 : Int32) ≤ y_1 then st_2 else (if (20 : Int32) ≤ y_1 then (lp_X7_settles_18 sh n (y_1 + 1) (upd st_2 y_1.toNatClampNeg (0 : Int32))) else (lp_X7_settles_18 sh n (y_1 + 1) (upd st_2 y_1.toNatClampNeg (sh y_1.toNatClampNeg))))
theorem lp_X7_settles_18_s (sh : Nat → Int32) (n : Nat) (y_1 : Int32) (st_2 : Nat → Int32) : (if (254 : Int32) ≤ y_1 then st_2 else (if (20 : Int32) ≤ y_1 then (lp_X7_settles_18 sh n (y_1 + 1) (upd st_2 y_1.toNatClampNeg (0 : Int32))) else (lp_X7_settles_18 sh n (y_1 + 1) (upd st_2 y_1.toNatClampNeg (sh y_1.toNatClampNeg))))) = lp_X7_settles_18 sh (n + 1) y_1 st_2 := rfl
def jn_X7_settles_85 (mg : Nat → Int32) (ke : Nat → Int32) (e_3 : Nat → Int32) (v_6 : Int32) : (Nat → Int32) × (Nat → Int32) × (Nat → Int32) :=
  (upd (upd (upd (upd mg 0 (mg 10)) 1 ((upd mg 0 (mg 10)) 11)) 2 (0 : Int32)) 3 (0 : Int32), upd (upd e_3 (20 : Int32).toNatClampNeg ((upd (upd mg 0 (mg 10)) 1 ((upd mg 0 (mg 10)) 11)) 12)) (21 : Int32).toNatClampNeg v_6, upd (upd ke (0 : Int32).toNatClampNeg (0 : Int32)) (1 : Int32).toNatClampNeg (0 : Int32))
theorem jn_X7_settles_85_s (mg : Nat → Int32) (ke : Nat → Int32) (e_3 : Nat → Int32) (v_6 : Int32) : ((upd (upd (upd (upd mg 0 (mg 10)) 1 ((upd mg 0 (mg 10)) 11)) 2 (0 : Int32)) 3 (0 : Int32), upd (upd e_3 (20 : Int32).toNatClampNeg ((upd (upd mg 0 (mg 10)) 1 ((upd mg 0 (mg 10)) 11)) 12)) (21 : Int32).toNatClampNeg v_6, upd (upd ke (0 : Int32).toNatClampNeg (0 : Int32)) (1 : Int32).toNatClampNeg (0 : Int32))) = jn_X7_settles_85 mg ke e_3 v_6 := rfl
def sp_X7_settles (mg : Nat → Int32) (st : Nat → Int32) (ke : Nat → Int32) (sh : Nat → Int32) : (Nat → Int32) × (Nat → Int32) × (Nat → Int32) :=
  nm (lp_X7_settles_18 sh (((254 : Int32).toInt - (0 : Int32).toInt).toNat + 1) (0 : Int32) st) (fun e_3 => if 0 ≤ ((upd (upd mg 0 (mg 10)) 1 ((upd mg 0 (mg 10)) 11)) 13) then (jn_X7_settles_85 mg ke e_3 ((upd (upd mg 0 (mg 10)) 1 ((upd mg 0 (mg 10)) 11)) 13)) else (jn_X7_settles_85 mg ke e_3 (0 : Int32)))
theorem sp_X7_settles_s (mg : Nat → Int32) (st : Nat → Int32) (ke : Nat → Int32) (sh : Nat → Int32) : (nm (lp_X7_settles_18 sh (((254 : Int32).toInt - (0 : Int32).toInt).toNat + 1) (0 : Int32) st) (fun e_3 => if 0 ≤ ((upd (upd mg 0 (mg 10)) 1 ((upd mg 0 (mg 10)) 11)) 13) then (jn_X7_settles_85 mg ke e_3 ((upd (upd mg 0 (mg 10)) 1 ((upd mg 0 (mg 10)) 11)) 13)) else (jn_X7_settles_85 mg ke e_3 (0 : Int32)))) = sp_X7_settles mg st ke sh := rfl
set_option maxHeartbeats 4000000 in
set_option maxRecDepth 100000 in
theorem c_X7_settles {l : Launch} {D : va_G} {cI cZ cO : ClassId} {mk : Nat → Nat} {mg st im ke se tx sh fa : Nat → Int32} {mt : Int64}   (sz : Nat) : Met l yX7_settles (wm yX7_settles cX7_settles 2 none) ({ frames := 0, cells := 0, slots := 0, locals := 0 } : Room) (GPre D (ty3 cI cZ cO) (MW cI cZ mk mg st im ke se tx sh fa mt) [.ref (mk 0)] sz) (va_Qv (fun (u : (Nat → Int32) × (Nat → Int32) × (Nat → Int32)) => u = sp_X7_settles mg st ke sh) (fun u t => GAt D (ty3 cI cZ cO) (va_A (MW cI cZ mk mg st im ke se tx sh fa mt) sz) (MW cI cZ mk u.1 u.2.1 im u.2.2 se tx sh fa mt) t) (va_A (MW cI cZ mk mg st im ke se tx sh fa mt) sz)) 0 0 (va_A (MW cI cZ mk mg st im ke se tx sh fa mt) sz) := by
  refine metQ_v (W1 := (fun (u : (Nat → Int32) × (Nat → Int32) × (Nat → Int32)) => MW cI cZ mk u.1 u.2.1 im u.2.2 se tx sh fa mt)) (post := (fun (u : (Nat → Int32) × (Nat → Int32) × (Nat → Int32)) => u = sp_X7_settles mg st ke sh)) (by decide) (Nat.le_of_ble_eq_true rfl) ?_
  intro p e s m args below meth c ls A Q C hsz hP hK hD hS hA hN hl hret
  have hx := C.1
  have hb := C.2.1
  have hl : lv_has ls 2 [(0, .ref (mk 0))] := hl
  have hT := sp_X7_settles_s mg st ke sh
  refine lv_aload_n hx hb dX7_settles_0 rfl (lv_at hl 0 rfl) ?_
  refine lv_aload_n hx hb dX7_settles_1 rfl (lv_at hl 0 rfl) ?_
  refine gX7_saidWide C hK hP wd_3_91 dX7_settles_2 ?_
  refine pX7_wide C hK hP hD hS wd_3_75 dX7_settles_5 (fun H locs hP hD hS => ?_)
  refine lv_aload_n hx hb dX7_settles_8 rfl (lv_at hl 0 rfl) ?_
  refine lv_aload_n hx hb dX7_settles_9 rfl (lv_at hl 0 rfl) ?_
  refine gX7_saidRows C hK hP wd_3_92 dX7_settles_10 ?_
  refine pX7_rows C hK hP hD hS wd_3_76 dX7_settles_13 (fun H locs hP hD hS => ?_)
  refine lv_iconst (v := 0) hx hb dX7_settles_16 (by decide) ?_
  refine lv_istore_n (lv' := [(1, .int (0 : Int32)), (0, .ref (mk 0))]) hx hb dX7_settles_17 rfl hl (by decide) rfl (fun ls hl => ?_)
  have L_18 : ∀ (n : Nat) (ls : Array Slot) (y_1 : Int32) (st_2 : Nat → Int32) (z1 : 0 ≤ y_1.toInt) (hm : ((254 : Int32).toInt - y_1.toInt).toNat < n) (H : Heap) (locs : List Loc) (hP : va_P D vwCl (MW cI cZ mk (upd (upd mg 0 (mg 10)) 1 ((upd mg 0 (mg 10)) 11)) st_2 im ke se tx sh fa mt) H) (hD : va_D A (MW cI cZ mk (upd (upd mg 0 (mg 10)) 1 ((upd mg 0 (mg 10)) 11)) st_2 im ke se tx sh fa mt)) (hS : va_S A s.heap H locs) (hl : lv_has ls 2 [(0, .ref (mk 0)), (1, .int y_1)]) (kont : ∀ (ls : Array Slot) (e_3 : Nat → Int32) (H : Heap) (locs : List Loc), va_P D vwCl (MW cI cZ mk (upd (upd mg 0 (mg 10)) 1 ((upd mg 0 (mg 10)) 11)) e_3 im ke se tx sh fa mt) H → va_D A (MW cI cZ mk (upd (upd mg 0 (mg 10)) 1 ((upd mg 0 (mg 10)) 11)) e_3 im ke se tx sh fa mt) → va_S A s.heap H locs → lv_has ls 2 [(0, .ref (mk 0))] → e_3 = lp_X7_settles_18 sh n y_1 st_2 → W p l e ({ frames := 0, cells := 0, slots := 0, locals := 0 } : Room) s m args below meth c H locs 0 0 Q (F0 m 53 ls [])), W p l e ({ frames := 0, cells := 0, slots := 0, locals := 0 } : Room) s m args below meth c H locs 0 0 Q (F0 m 18 ls []) := by
    intro n
    induction n with
    | zero => intro ls y_1 st_2 z1 hm; exact absurd hm (Nat.not_lt_zero _)
    | succ n ih =>
      intro ls y_1 st_2 z1 hm H locs hP hD hS hl kont
      have hT := lp_X7_settles_18_s sh n y_1 st_2
      refine lv_iload_n hx hb dX7_settles_18 rfl (lv_at hl 1 rfl) ?_
      refine lv_sipush (v := 254) hx hb dX7_settles_19 (by decide) ?_
      refine lv_icmp_ge (tgt := 53) hx hb dX7_settles_22 (by decide) (fun c_4 => ?_) (fun c_4 => ?_)
      · have hT := it_t c_4 hT
        exact kont ls st_2 H locs hP hD hS (lv_sub hl [0] rfl) hT
      · have hT := it_f c_4 hT
        refine lv_aload_n hx hb dX7_settles_25 rfl (lv_at hl 0 rfl) ?_
        refine gX7_st C hK hP wd_3_77 dX7_settles_26 ?_
        refine lv_iload_n hx hb dX7_settles_29 rfl (lv_at hl 1 rfl) ?_
        refine lv_iload_n hx hb dX7_settles_30 rfl (lv_at hl 1 rfl) ?_
        refine lv_bipush (v := 20) hx hb dX7_settles_31 (by decide) ?_
        refine lv_icmp_ge (tgt := 45) hx hb dX7_settles_33 (by decide) (fun c_5 => ?_) (fun c_5 => ?_)
        · have hT := it_t c_5 hT
          refine lv_iconst (v := 0) hx hb dX7_settles_45 (by decide) ?_
          refine sM_st C hK hP hD hS (ix_inv_nle z1 c_4) dX7_settles_46 (fun H locs hP hD hS => ?_)
          refine lv_iinc (v := y_1 + 1) (lv' := [(1, .int (y_1 + 1)), (0, .ref (mk 0))]) hx hb dX7_settles_47 hl (k := 1) rfl rfl (by decide) rfl (fun ls hl => ?_)
          refine lv_goto (tgt := 18) hx hb dX7_settles_50 (by decide) ?_
          exact ih ls (y_1 + 1) (upd st_2 y_1.toNatClampNeg (0 : Int32)) (up0 c_4 z1) (ms_up c_4 hm) H locs hP hD hS (lv_sub hl [1, 0] rfl) (fun ls z0 H locs hP hD hS hl he => kont ls z0 H locs hP hD hS hl (he.trans hT))
        · have hT := it_f c_5 hT
          refine lv_aload_n hx hb dX7_settles_36 rfl (lv_at hl 0 rfl) ?_
          refine gX7_saidHolder C hK hP wd_3_93 dX7_settles_37 ?_
          refine lv_iload_n hx hb dX7_settles_40 rfl (lv_at hl 1 rfl) ?_
          refine aM_saidHolder C hK hP (ix_inv_nle z1 c_5) dX7_settles_41 ?_
          refine lv_goto (tgt := 46) hx hb dX7_settles_42 (by decide) ?_
          refine sM_st C hK hP hD hS (ix_inv_nle z1 c_5) dX7_settles_46 (fun H locs hP hD hS => ?_)
          refine lv_iinc (v := y_1 + 1) (lv' := [(1, .int (y_1 + 1)), (0, .ref (mk 0))]) hx hb dX7_settles_47 hl (k := 1) rfl rfl (by decide) rfl (fun ls hl => ?_)
          refine lv_goto (tgt := 18) hx hb dX7_settles_50 (by decide) ?_
          exact ih ls (y_1 + 1) (upd st_2 y_1.toNatClampNeg (sh y_1.toNatClampNeg)) (up0 c_4 z1) (ms_up c_4 hm) H locs hP hD hS (lv_sub hl [1, 0] rfl) (fun ls z0 H locs hP hD hS hl he => kont ls z0 H locs hP hD hS hl (he.trans hT))
  refine L_18 (((254 : Int32).toInt - (0 : Int32).toInt).toNat + 1) ls (0 : Int32) st (by decide) (Nat.lt_succ_self _) H locs hP hD hS (lv_sub hl [1, 0] rfl) (fun ls e_3 H locs hP hD hS hl he => ?_)
  have hT := nm_u he hT
  refine lv_aload_n hx hb dX7_settles_53 rfl (lv_at hl 0 rfl) ?_
  refine gX7_st C hK hP wd_3_77 dX7_settles_54 ?_
  refine lv_bipush (v := 20) hx hb dX7_settles_57 (by decide) ?_
  refine lv_aload_n hx hb dX7_settles_59 rfl (lv_at hl 0 rfl) ?_
  refine gX7_saidCloth C hK hP wd_3_94 dX7_settles_60 ?_
  refine sM_st C hK hP hD hS (ix_of (by decide) (by decide)) dX7_settles_63 (fun H locs hP hD hS => ?_)
  refine lv_aload_n hx hb dX7_settles_64 rfl (lv_at hl 0 rfl) ?_
  refine gX7_st C hK hP wd_3_77 dX7_settles_65 ?_
  refine lv_bipush (v := 21) hx hb dX7_settles_68 (by decide) ?_
  refine lv_aload_n hx hb dX7_settles_70 rfl (lv_at hl 0 rfl) ?_
  refine gX7_saidWind C hK hP wd_3_95 dX7_settles_71 ?_
  have K_85 : ∀ (ls : Array Slot) (v_6 : Int32) (hl : lv_has ls 2 [(0, .ref (mk 0))]) (hT0 : jn_X7_settles_85 mg ke e_3 v_6 = sp_X7_settles mg st ke sh), W p l e ({ frames := 0, cells := 0, slots := 0, locals := 0 } : Room) s m args below meth c H locs 0 0 Q (F0 m 85 ls [.int v_6, .int (21 : Int32), .ref (mk 1)]) := by
    intro ls v_6 hl hT0
    have hT := (jn_X7_settles_85_s mg ke e_3 v_6).trans hT0
    refine sM_st C hK hP hD hS (ix_of (by decide) (by decide)) dX7_settles_85 (fun H locs hP hD hS => ?_)
    refine lv_aload_n hx hb dX7_settles_86 rfl (lv_at hl 0 rfl) ?_
    refine lv_iconst (v := 0) hx hb dX7_settles_87 (by decide) ?_
    refine pX7_seenMany C hK hP hD hS wd_3_80 dX7_settles_88 (fun H locs hP hD hS => ?_)
    refine lv_aload_n hx hb dX7_settles_91 rfl (lv_at hl 0 rfl) ?_
    refine gX7_isKept C hK hP wd_3_79 dX7_settles_92 ?_
    refine lv_iconst (v := 0) hx hb dX7_settles_95 (by decide) ?_
    refine lv_iconst (v := 0) hx hb dX7_settles_96 (by decide) ?_
    refine sM_isKept C hK hP hD hS (Or.inl rfl) (ix_of (by decide) (by decide)) dX7_settles_97 (fun H locs hP hD hS => ?_)
    refine lv_aload_n hx hb dX7_settles_98 rfl (lv_at hl 0 rfl) ?_
    refine gX7_isKept C hK hP wd_3_79 dX7_settles_99 ?_
    refine lv_iconst (v := 1) hx hb dX7_settles_102 (by decide) ?_
    refine lv_iconst (v := 0) hx hb dX7_settles_103 (by decide) ?_
    refine sM_isKept C hK hP hD hS (Or.inl rfl) (ix_of (by decide) (by decide)) dX7_settles_104 (fun H locs hP hD hS => ?_)
    refine lv_aload_n hx hb dX7_settles_105 rfl (lv_at hl 0 rfl) ?_
    refine lv_iconst (v := 0) hx hb dX7_settles_106 (by decide) ?_
    refine pX7_texted C hK hP hD hS wd_3_84 dX7_settles_107 (fun H locs hP hD hS => ?_)
    exact hret (upd (upd (upd (upd mg 0 (mg 10)) 1 ((upd mg 0 (mg 10)) 11)) 2 (0 : Int32)) 3 (0 : Int32), upd (upd e_3 (20 : Int32).toNatClampNeg ((upd (upd mg 0 (mg 10)) 1 ((upd mg 0 (mg 10)) 11)) 12)) (21 : Int32).toNatClampNeg v_6, upd (upd ke (0 : Int32).toNatClampNeg (0 : Int32)) (1 : Int32).toNatClampNeg (0 : Int32)) _ _ _ _ hT hP hD hS dX7_settles_110
  refine lv_if_ge (tgt := 81) hx hb dX7_settles_74 (by decide) (fun c_7 => ?_) (fun c_7 => ?_)
  · have hT := it_t c_7 hT
    refine lv_aload_n hx hb dX7_settles_81 rfl (lv_at hl 0 rfl) ?_
    refine gX7_saidWind C hK hP wd_3_95 dX7_settles_82 ?_
    exact K_85 ls ((upd (upd mg 0 (mg 10)) 1 ((upd mg 0 (mg 10)) 11)) 13) (lv_sub hl [0] rfl) hT
  · have hT := it_f c_7 hT
    refine lv_iconst (v := 0) hx hb dX7_settles_77 (by decide) ?_
    refine lv_goto (tgt := 85) hx hb dX7_settles_78 (by decide) ?_
    exact K_85 ls (0 : Int32) (lv_sub hl [0] rfl) hT
