theorem hv_X7_strand : yX7_strand.cls = RX7 ∧ yX7_strand.cls ≠ "java/lang/invoke/MethodHandle" ∧ yX7_strand.cls ≠ "java/lang/invoke/VarHandle" ∧ (parseMethodDescriptor yX7_strand.desc).map (fun d => d.parameters.length) = some 0 := by decide +kernel
theorem hd_X7_strand : yX7_strand.cls ≠ "java/lang/invoke/MethodHandle" ∧ yX7_strand.cls ≠ "java/lang/invoke/VarHandle" ∧ (parseMethodDescriptor yX7_strand.desc).map (fun d => d.parameters.length) = some 0 := hv_X7_strand.2
def lp_X7_strand_37 : Nat → Int32 → (Nat → Int32) → (Nat → Int32)
  | 0, y_1, sh_2 => sh_2
  | n + 1, y_1, sh_2 => if (20 : Int32) ≤ y_1 then sh_2 else (lp_X7_strand_37 n (y_1 + 1) (upd sh_2 y_1.toNatClampNeg (0 : Int32)))
theorem lp_X7_strand_37_s (n : Nat) (y_1 : Int32) (sh_2 : Nat → Int32) : (if (20 : Int32) ≤ y_1 then sh_2 else (lp_X7_strand_37 n (y_1 + 1) (upd sh_2 y_1.toNatClampNeg (0 : Int32)))) = lp_X7_strand_37 (n + 1) y_1 sh_2 := rfl
def lp_X7_strand_60 (tx : Nat → Int32) : Nat → (Nat → Int32) → (Nat → Int32) → (Nat → Int32) × (Nat → Int32)
  | 0, mg_7, sh_8 => (mg_7, sh_8)
  | n + 1, mg_7, sh_8 => if (mg_7 6) = 0 then (mg_7, sh_8) else (if (mg_7 8) = 0 then (nm2 (sp_X7_readItem mg_7 tx sh_8) (fun mg_13 sh_14 => lp_X7_strand_60 tx n (upd mg_13 9 ((mg_13 9) + (1 : Int32))) sh_14)) else (mg_7, sh_8))
theorem lp_X7_strand_60_s (tx : Nat → Int32) (n : Nat) (mg_7 : Nat → Int32) (sh_8 : Nat → Int32) : (if (mg_7 6) = 0 then (mg_7, sh_8) else (if (mg_7 8) = 0 then (nm2 (sp_X7_readItem mg_7 tx sh_8) (fun mg_13 sh_14 => lp_X7_strand_60 tx n (upd mg_13 9 ((mg_13 9) + (1 : Int32))) sh_14)) else (mg_7, sh_8))) = lp_X7_strand_60 tx (n + 1) mg_7 sh_8 := rfl
def sp_X7_strand (mg : Nat → Int32) (st : Nat → Int32) (ke : Nat → Int32) (tx : Nat → Int32) (sh : Nat → Int32) : Int32 × (Nat → Int32) × (Nat → Int32) × (Nat → Int32) × (Nat → Int32) :=
  nm (lp_X7_strand_37 (((20 : Int32).toInt - (0 : Int32).toInt).toNat + 1) (0 : Int32) sh) (fun e_3 => nm (sp_X7_next (upd (upd (upd (upd (upd (upd (upd mg 4 (0 : Int32)) 8 (0 : Int32)) 9 (0 : Int32)) 10 (3 : Int32)) 11 (3 : Int32)) 12 (0 : Int32)) 13 (-1 : Int32)) tx) (fun mg_5 => nm2 (lp_X7_strand_60 tx ((2 * ((mg_5 3).toInt - (mg_5 4).toInt) + (if mg_5 8 = 0 then 1 else 0)).toNat + 1) mg_5 e_3) (fun e_9 e_10 => if (e_9 8) = 0 then (nm3 (sp_X7_settles e_9 st ke e_10) (fun mg_17 st_18 ke_19 => (mg_17 9, mg_17, st_18, ke_19, e_10))) else ((-10 : Int32) - (e_9 5), e_9, st, ke, e_10))))
theorem sp_X7_strand_s (mg : Nat → Int32) (st : Nat → Int32) (ke : Nat → Int32) (tx : Nat → Int32) (sh : Nat → Int32) : (nm (lp_X7_strand_37 (((20 : Int32).toInt - (0 : Int32).toInt).toNat + 1) (0 : Int32) sh) (fun e_3 => nm (sp_X7_next (upd (upd (upd (upd (upd (upd (upd mg 4 (0 : Int32)) 8 (0 : Int32)) 9 (0 : Int32)) 10 (3 : Int32)) 11 (3 : Int32)) 12 (0 : Int32)) 13 (-1 : Int32)) tx) (fun mg_5 => nm2 (lp_X7_strand_60 tx ((2 * ((mg_5 3).toInt - (mg_5 4).toInt) + (if mg_5 8 = 0 then 1 else 0)).toNat + 1) mg_5 e_3) (fun e_9 e_10 => if (e_9 8) = 0 then (nm3 (sp_X7_settles e_9 st ke e_10) (fun mg_17 st_18 ke_19 => (mg_17 9, mg_17, st_18, ke_19, e_10))) else ((-10 : Int32) - (e_9 5), e_9, st, ke, e_10))))) = sp_X7_strand mg st ke tx sh := rfl
set_option maxHeartbeats 4000000 in
set_option maxRecDepth 100000 in
theorem c_X7_strand {l : Launch} {D : va_G} {cI cZ cO : ClassId} {mk : Nat → Nat} {mg st im ke se tx sh fa : Nat → Int32} {mt : Int64}  {N : Nat} (hNN : N ≤ 150) (hTT : ∀ j, j < N → 0 ≤ tx j) (h3 : mg 3 = nI N) (sz : Nat) : Met l yX7_strand (wm yX7_strand cX7_strand 2 (some .int)) ({ frames := 6, cells := 0, slots := 0, locals := 135 } : Room) (GPre D (ty3 cI cZ cO) (MW cI cZ mk mg st im ke se tx sh fa mt) [.ref (mk 0)] sz) (va_Qi (fun r (u : (Nat → Int32) × (Nat → Int32) × (Nat → Int32) × (Nat → Int32)) => (r, u) = sp_X7_strand mg st ke tx sh) (fun u t => GAt D (ty3 cI cZ cO) (va_A (MW cI cZ mk mg st im ke se tx sh fa mt) sz) (MW cI cZ mk u.1 u.2.1 im u.2.2.1 se tx u.2.2.2 fa mt) t) (va_A (MW cI cZ mk mg st im ke se tx sh fa mt) sz)) 0 0 (va_A (MW cI cZ mk mg st im ke se tx sh fa mt) sz) := by
  refine metQ_i (W1 := (fun (u : (Nat → Int32) × (Nat → Int32) × (Nat → Int32) × (Nat → Int32)) => MW cI cZ mk u.1 u.2.1 im u.2.2.1 se tx u.2.2.2 fa mt)) (post := (fun r (u : (Nat → Int32) × (Nat → Int32) × (Nat → Int32) × (Nat → Int32)) => (r, u) = sp_X7_strand mg st ke tx sh)) (by decide) (Nat.le_of_ble_eq_true rfl) ?_
  intro p e s m args below meth c ls A Q C hsz hP hK hD hS hA hN hl hret
  have hx := C.1
  have hb := C.2.1
  have hl : lv_has ls 2 [(0, .ref (mk 0))] := hl
  have hT := sp_X7_strand_s mg st ke tx sh
  refine lv_aload_n hx hb dX7_strand_0 rfl (lv_at hl 0 rfl) ?_
  refine lv_iconst (v := 0) hx hb dX7_strand_1 (by decide) ?_
  refine pX7_cursor C hK hP hD hS wd_3_85 dX7_strand_2 (fun H locs hP hD hS => ?_)
  refine lv_aload_n hx hb dX7_strand_5 rfl (lv_at hl 0 rfl) ?_
  refine lv_iconst (v := 0) hx hb dX7_strand_6 (by decide) ?_
  refine pX7_isWrong C hK hP hD hS (Or.inl rfl) wd_3_89 dX7_strand_7 (fun H locs hP hD hS => ?_)
  refine lv_aload_n hx hb dX7_strand_10 rfl (lv_at hl 0 rfl) ?_
  refine lv_iconst (v := 0) hx hb dX7_strand_11 (by decide) ?_
  refine pX7_items C hK hP hD hS wd_3_90 dX7_strand_12 (fun H locs hP hD hS => ?_)
  refine lv_aload_n hx hb dX7_strand_15 rfl (lv_at hl 0 rfl) ?_
  refine lv_iconst (v := 3) hx hb dX7_strand_16 (by decide) ?_
  refine pX7_saidWide C hK hP hD hS wd_3_91 dX7_strand_17 (fun H locs hP hD hS => ?_)
  refine lv_aload_n hx hb dX7_strand_20 rfl (lv_at hl 0 rfl) ?_
  refine lv_iconst (v := 3) hx hb dX7_strand_21 (by decide) ?_
  refine pX7_saidRows C hK hP hD hS wd_3_92 dX7_strand_22 (fun H locs hP hD hS => ?_)
  refine lv_aload_n hx hb dX7_strand_25 rfl (lv_at hl 0 rfl) ?_
  refine lv_iconst (v := 0) hx hb dX7_strand_26 (by decide) ?_
  refine pX7_saidCloth C hK hP hD hS wd_3_94 dX7_strand_27 (fun H locs hP hD hS => ?_)
  refine lv_aload_n hx hb dX7_strand_30 rfl (lv_at hl 0 rfl) ?_
  refine lv_iconst (v := -1) hx hb dX7_strand_31 (by decide) ?_
  refine pX7_saidWind C hK hP hD hS wd_3_95 dX7_strand_32 (fun H locs hP hD hS => ?_)
  refine lv_iconst (v := 0) hx hb dX7_strand_35 (by decide) ?_
  refine lv_istore_n (lv' := [(1, .int (0 : Int32)), (0, .ref (mk 0))]) hx hb dX7_strand_36 rfl hl (by decide) rfl (fun ls hl => ?_)
  have L_37 : ∀ (n : Nat) (ls : Array Slot) (y_1 : Int32) (sh_2 : Nat → Int32) (z1 : 0 ≤ y_1.toInt) (hm : ((20 : Int32).toInt - y_1.toInt).toNat < n) (H : Heap) (locs : List Loc) (hP : va_P D vwCl (MW cI cZ mk (upd (upd (upd (upd (upd (upd (upd mg 4 (0 : Int32)) 8 (0 : Int32)) 9 (0 : Int32)) 10 (3 : Int32)) 11 (3 : Int32)) 12 (0 : Int32)) 13 (-1 : Int32)) st im ke se tx sh_2 fa mt) H) (hD : va_D A (MW cI cZ mk (upd (upd (upd (upd (upd (upd (upd mg 4 (0 : Int32)) 8 (0 : Int32)) 9 (0 : Int32)) 10 (3 : Int32)) 11 (3 : Int32)) 12 (0 : Int32)) 13 (-1 : Int32)) st im ke se tx sh_2 fa mt)) (hS : va_S A s.heap H locs) (hl : lv_has ls 2 [(0, .ref (mk 0)), (1, .int y_1)]) (kont : ∀ (ls : Array Slot) (e_3 : Nat → Int32) (H : Heap) (locs : List Loc), va_P D vwCl (MW cI cZ mk (upd (upd (upd (upd (upd (upd (upd mg 4 (0 : Int32)) 8 (0 : Int32)) 9 (0 : Int32)) 10 (3 : Int32)) 11 (3 : Int32)) 12 (0 : Int32)) 13 (-1 : Int32)) st im ke se tx e_3 fa mt) H → va_D A (MW cI cZ mk (upd (upd (upd (upd (upd (upd (upd mg 4 (0 : Int32)) 8 (0 : Int32)) 9 (0 : Int32)) 10 (3 : Int32)) 11 (3 : Int32)) 12 (0 : Int32)) 13 (-1 : Int32)) st im ke se tx e_3 fa mt) → va_S A s.heap H locs → lv_has ls 2 [(0, .ref (mk 0))] → e_3 = lp_X7_strand_37 n y_1 sh_2 → W p l e ({ frames := 6, cells := 0, slots := 0, locals := 135 } : Room) s m args below meth c H locs 0 0 Q (F0 m 56 ls [])), W p l e ({ frames := 6, cells := 0, slots := 0, locals := 135 } : Room) s m args below meth c H locs 0 0 Q (F0 m 37 ls []) := by
    intro n
    induction n with
    | zero => intro ls y_1 sh_2 z1 hm; exact absurd hm (Nat.not_lt_zero _)
    | succ n ih =>
      intro ls y_1 sh_2 z1 hm H locs hP hD hS hl kont
      have hT := lp_X7_strand_37_s n y_1 sh_2
      refine lv_iload_n hx hb dX7_strand_37 rfl (lv_at hl 1 rfl) ?_
      refine lv_bipush (v := 20) hx hb dX7_strand_38 (by decide) ?_
      refine lv_icmp_ge (tgt := 56) hx hb dX7_strand_40 (by decide) (fun c_4 => ?_) (fun c_4 => ?_)
      · have hT := it_t c_4 hT
        exact kont ls sh_2 H locs hP hD hS (lv_sub hl [0] rfl) hT
      · have hT := it_f c_4 hT
        refine lv_aload_n hx hb dX7_strand_43 rfl (lv_at hl 0 rfl) ?_
        refine gX7_saidHolder C hK hP wd_3_93 dX7_strand_44 ?_
        refine lv_iload_n hx hb dX7_strand_47 rfl (lv_at hl 1 rfl) ?_
        refine lv_iconst (v := 0) hx hb dX7_strand_48 (by decide) ?_
        refine sM_saidHolder C hK hP hD hS (ix_inv_nle z1 c_4) dX7_strand_49 (fun H locs hP hD hS => ?_)
        refine lv_iinc (v := y_1 + 1) (lv' := [(1, .int (y_1 + 1)), (0, .ref (mk 0))]) hx hb dX7_strand_50 hl (k := 1) rfl rfl (by decide) rfl (fun ls hl => ?_)
        refine lv_goto (tgt := 37) hx hb dX7_strand_53 (by decide) ?_
        exact ih ls (y_1 + 1) (upd sh_2 y_1.toNatClampNeg (0 : Int32)) (up0 c_4 z1) (ms_up c_4 hm) H locs hP hD hS (lv_sub hl [1, 0] rfl) (fun ls z0 H locs hP hD hS hl he => kont ls z0 H locs hP hD hS hl (he.trans hT))
  refine L_37 (((20 : Int32).toInt - (0 : Int32).toInt).toNat + 1) ls (0 : Int32) sh (by decide) (Nat.lt_succ_self _) H locs hP hD hS (lv_sub hl [1, 0] rfl) (fun ls e_3 H locs hP hD hS hl he => ?_)
  have hT := nm_u he hT
  refine lv_aload_n hx hb dX7_strand_56 rfl (lv_at hl 0 rfl) ?_
  refine on_v (run_vQ (As := []) (rest := []) C hK hP hD hN (c_X7_next (mg := upd (upd (upd (upd (upd (upd (upd mg 4 (0 : Int32)) 8 (0 : Int32)) 9 (0 : Int32)) 10 (3 : Int32)) 11 (3 : Int32)) 12 (0 : Int32)) 13 (-1 : Int32)) (show 0 ≤ (0 : Int32).toInt by decide) (tx_of hNN h3) _) (rX7_r hK hP) ⟨wd_3_158, wd_3_160, ws_21, wd_1_8, wd_3_161⟩ ⟨rfl, rfl⟩ hv_X7_next ⟨Nat.le_of_ble_eq_true rfl, Nat.le_of_ble_eq_true rfl⟩ rfl hl.1 rfl (Nat.le_of_ble_eq_true rfl) dX7_strand_57 ⟨Nat.zero_le _, Nat.zero_le _⟩) hD hS hA (fun u H locs hp_6 hP hD hS => ?_)
  obtain ⟨mg_5, rfl⟩ : ∃ z, z = u := ⟨_, rfl⟩
  have hP : va_P D vwCl (MW cI cZ mk mg_5 st im ke se tx e_3 fa mt) H := hP
  have hD : va_D A (MW cI cZ mk mg_5 st im ke se tx e_3 fa mt) := hD
  have hT := nm_u hp_6 hT
  have t57 := nx_o hp_6 hNN hTT h3 ⟨0, Nat.zero_le _, rfl⟩
  have h57 := st_8 hNN hTT h3 hp_6
  have L_60 : ∀ (n : Nat) (ls : Array Slot) (mg_7 : Nat → Int32) (sh_8 : Nat → Int32) (i3 : mg_7 3 = nI N) (ic : ∃ p, p ≤ N ∧ mg_7 4 = nI p) (iw : mg_7 8 = 0 → WH mg_7) (ib : mg_7 8 = 0 ∨ mg_7 8 = 1) (hm : (2 * ((mg_7 3).toInt - (mg_7 4).toInt) + (if mg_7 8 = 0 then 1 else 0)).toNat < n) (H : Heap) (locs : List Loc) (hP : va_P D vwCl (MW cI cZ mk mg_7 st im ke se tx sh_8 fa mt) H) (hD : va_D A (MW cI cZ mk mg_7 st im ke se tx sh_8 fa mt)) (hS : va_S A s.heap H locs) (hl : lv_has ls 2 [(0, .ref (mk 0))]) (kont : ∀ (ls : Array Slot) (e_9 : Nat → Int32) (e_10 : Nat → Int32) (H : Heap) (locs : List Loc), va_P D vwCl (MW cI cZ mk e_9 st im ke se tx e_10 fa mt) H → va_D A (MW cI cZ mk e_9 st im ke se tx e_10 fa mt) → va_S A s.heap H locs → lv_has ls 2 [(0, .ref (mk 0))] → (e_9, e_10) = lp_X7_strand_60 tx n mg_7 sh_8 → W p l e ({ frames := 6, cells := 0, slots := 0, locals := 135 } : Room) s m args below meth c H locs 0 0 Q (F0 m 91 ls [])), W p l e ({ frames := 6, cells := 0, slots := 0, locals := 135 } : Room) s m args below meth c H locs 0 0 Q (F0 m 60 ls []) := by
    intro n
    induction n with
    | zero => intro ls mg_7 sh_8 i3 ic iw ib hm; exact absurd hm (Nat.not_lt_zero _)
    | succ n ih =>
      intro ls mg_7 sh_8 i3 ic iw ib hm H locs hP hD hS hl kont
      have hT := lp_X7_strand_60_s tx n mg_7 sh_8
      refine lv_aload_n hx hb dX7_strand_60 rfl (lv_at hl 0 rfl) ?_
      refine gX7_token C hK hP wd_3_87 dX7_strand_61 ?_
      refine lv_if_eq (tgt := 91) hx hb dX7_strand_64 (by decide) (fun c_11 => ?_) (fun c_11 => ?_)
      · have hT := it_t c_11 hT
        exact kont ls mg_7 sh_8 H locs hP hD hS (lv_sub hl [0] rfl) hT
      · have hT := it_f c_11 hT
        refine lv_aload_n hx hb dX7_strand_67 rfl (lv_at hl 0 rfl) ?_
        refine gX7_isWrong C hK hP wd_3_89 dX7_strand_68 ?_
        refine lv_if_ne (tgt := 91) hx hb dX7_strand_71 (by decide) (fun c_12 => ?_) (fun c_12 => ?_)
        · have hT := it_f c_12 hT
          exact kont ls mg_7 sh_8 H locs hP hD hS (lv_sub hl [0] rfl) hT
        · have hT := it_t c_12 hT
          refine lv_aload_n hx hb dX7_strand_74 rfl (lv_at hl 0 rfl) ?_
          refine on_v (run_vQ (As := []) (rest := []) C hK hP hD hN (c_X7_readItem (mg := mg_7) (tx := tx) hNN hTT i3 ic ((iw c_12).1) ((iw c_12).2) _) (rX7_r hK hP) ⟨wd_3_172, wd_3_174, ws_23, wd_1_8, wd_3_175⟩ ⟨rfl, rfl⟩ hv_X7_readItem ⟨Nat.le_of_ble_eq_true rfl, Nat.le_of_ble_eq_true rfl⟩ rfl hl.1 rfl (Nat.le_of_ble_eq_true rfl) dX7_strand_75 ⟨Nat.zero_le _, Nat.zero_le _⟩) hD hS hA (fun u H locs hp_15 hP hD hS => ?_)
          obtain ⟨mg_13, sh_14⟩ := u
          have hP : va_P D vwCl (MW cI cZ mk mg_13 st im ke se tx sh_14 fa mt) H := hP
          have hD : va_D A (MW cI cZ mk mg_13 st im ke se tx sh_14 fa mt) := hD
          have hT := nm2_u hp_15 hT
          have t75 := ri_e hp_15 hNN hTT i3 ic (iw c_12)
          refine lv_aload_n hx hb dX7_strand_78 rfl (lv_at hl 0 rfl) ?_
          refine lv_dup hx hb dX7_strand_79 rfl ?_
          refine gX7_items C hK hP wd_3_90 dX7_strand_80 ?_
          refine lv_iconst (v := 1) hx hb dX7_strand_83 (by decide) ?_
          refine lv_iadd hx hb dX7_strand_84 ?_
          refine pX7_items C hK hP hD hS wd_3_90 dX7_strand_85 (fun H locs hP hD hS => ?_)
          refine lv_goto (tgt := 60) hx hb dX7_strand_88 (by decide) ?_
          exact ih ls (upd mg_13 9 ((mg_13 9) + (1 : Int32))) sh_14 t75.1 (st_c t75) t75.2.2.1 t75.2.2.2 (st_mu t75 c_12 i3 hm) H locs hP hD hS (lv_sub hl [0] rfl) (fun ls z0 z1 H locs hP hD hS hl he => kont ls z0 z1 H locs hP hD hS hl (he.trans hT))
  refine L_60 ((2 * ((mg_5 3).toInt - (mg_5 4).toInt) + (if mg_5 8 = 0 then 1 else 0)).toNat + 1) ls mg_5 e_3 t57.1 t57.2.1 (fun _ => st_w t57) (Or.inl h57) (Nat.lt_succ_self _) H locs hP hD hS (lv_sub hl [0] rfl) (fun ls e_9 e_10 H locs hP hD hS hl he => ?_)
  have hT := nm2_u he hT
  refine lv_aload_n hx hb dX7_strand_91 rfl (lv_at hl 0 rfl) ?_
  refine gX7_isWrong C hK hP wd_3_89 dX7_strand_92 ?_
  refine lv_if_eq (tgt := 106) hx hb dX7_strand_95 (by decide) (fun c_16 => ?_) (fun c_16 => ?_)
  · have hT := it_t c_16 hT
    refine lv_aload_n hx hb dX7_strand_106 rfl (lv_at hl 0 rfl) ?_
    refine on_v (run_vQ (As := []) (rest := []) C hK hP hD hN (c_X7_settles _) (rX7_r hK hP) ⟨wd_3_187, wd_3_189, ws_26, wd_1_8, wd_3_190⟩ ⟨rfl, rfl⟩ hv_X7_settles ⟨Nat.le_of_ble_eq_true rfl, Nat.le_of_ble_eq_true rfl⟩ rfl hl.1 rfl (Nat.le_of_ble_eq_true rfl) dX7_strand_107 ⟨Nat.zero_le _, Nat.zero_le _⟩) hD hS hA (fun u H locs hp_20 hP hD hS => ?_)
    obtain ⟨mg_17, st_18, ke_19⟩ := u
    have hP : va_P D vwCl (MW cI cZ mk mg_17 st_18 im ke_19 se tx e_10 fa mt) H := hP
    have hD : va_D A (MW cI cZ mk mg_17 st_18 im ke_19 se tx e_10 fa mt) := hD
    have hT := nm3_u hp_20 hT
    refine lv_aload_n hx hb dX7_strand_110 rfl (lv_at hl 0 rfl) ?_
    refine gX7_items C hK hP wd_3_90 dX7_strand_111 ?_
    exact hret _ (mg_17, st_18, ke_19, e_10) _ _ _ _ hT hP hD hS dX7_strand_114
  · have hT := it_f c_16 hT
    refine lv_bipush (v := -10) hx hb dX7_strand_98 (by decide) ?_
    refine lv_aload_n hx hb dX7_strand_100 rfl (lv_at hl 0 rfl) ?_
    refine gX7_start C hK hP wd_3_86 dX7_strand_101 ?_
    refine lv_isub hx hb dX7_strand_104 ?_
    exact hret _ (e_9, st, ke, e_10) _ _ _ _ hT hP hD hS dX7_strand_105
