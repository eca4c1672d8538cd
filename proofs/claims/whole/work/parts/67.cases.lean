section LW
variable {p : Program} {l : Launch} {e : Env} {s : State} {m : MethodId} {below : List Frame} {meth : Method} {c : Code} {b : Addr} {D : va_G} {cI cZ cO : ClassId} {sk mk : Nat → Nat} {A : Nat → Prop} {Q : State → Prop} {ls : Array Slot} {H : Heap} {locs : List Loc} {w r : Nat} {g tb : Nat → Int32} {V Hd : Nat → Nat → Int32} {tr : Int64} {mg st im ke se tx sh fa : Nat → Int32} {mt : Int64} {L i : Nat} {xs : Nat → Int32}
theorem lg_cmp_self (x : Int64) : lg_cmp x x = 0 := (lg_cmp_eq x x).mpr rfl
set_option maxHeartbeats 4000000 in
set_option maxRecDepth 100000 in
theorem lc_forget (C0 : LC p s m c b L xs D cI cZ cO A) (hL : L ≤ 384) (hi : i + 6 ≤ L) (RH : RE w r g tb V Hd tr mg st im ke se tx mt) (hP : va_P D vwCl (WW cI cO sk g tb V Hd tr ++ MW cI cZ mk mg st im ke se tx sh fa mt) H) (hD : va_D A (WW cI cO sk g tb V Hd tr ++ MW cI cZ mk mg st im ke se tx sh fa mt)) (hS : va_S A s.heap H locs) (hl : lv_has ls 4 [(0, .ref b), (1, .ref (sk 0)), (2, .ref (mk 0)), (3, .int (nI i))]) (kk : KK p l e s m below meth c b D cI cZ cO sk mk A Q ls) : W p l e room_1 s m #[Value.ref b] below meth c H locs 600000 7302250 Q (F0 m 648 ls []) := by
  obtain ⟨C, hK, hN, hX, hbl, hbA, hA⟩ := C0
  have hx := C.1
  have hb := C.2.1
  refine lv_aload_n hx hb dL_law_648 rfl (lv_at hl 1 rfl) ?_
  obtain ⟨p1, p2⟩ := tw_P hP
  obtain ⟨d1, d2, d3⟩ := tw_D hD
  refine on_iL (W1 := fun (u : (Nat → Int32)) => WW cI cO sk u tb V Hd tr) (run_vQ (As := []) (rest := []) C hK p1 d1 hN (c_X6_forget _) (rX6_r hK p1) ⟨wd_2_220, wd_2_221, wd_2_222, wd_1_1, wd_2_223⟩ ⟨rfl, rfl⟩ hv_X6_forget ⟨Nat.le_of_ble_eq_true rfl, Nat.le_of_ble_eq_true rfl⟩ rfl hl.1 rfl (Nat.le_of_ble_eq_true rfl) dL_law_649 ⟨Nat.le_of_ble_eq_true rfl, Nat.le_of_ble_eq_true rfl⟩) hP hD hS hA (fun r1 u H locs hp1 hP hD hS => ?_)
  obtain ⟨p1, p2⟩ := tw_P hP
  obtain ⟨d1, d2, d3⟩ := tw_D hD
  refine lv_aload_n hx hb dL_law_652 rfl (lv_at hl 2 rfl) ?_
  refine on_iR (W1 := fun (u : Nat → Int32) => MW cI cZ mk u st im ke se tx sh fa mt) (run_vQ (As := []) (rest := [.int r1]) C hK p2 d2 hN (c_X7_forget _) (rX7_r hK p2) ⟨wd_4_61, wd_4_62, wd_4_63, wd_1_8, wd_4_64⟩ ⟨rfl, rfl⟩ hv_X7_forget ⟨Nat.le_of_ble_eq_true rfl, Nat.le_of_ble_eq_true rfl⟩ rfl hl.1 rfl (Nat.le_of_ble_eq_true rfl) dL_law_653 ⟨Nat.le_of_ble_eq_true rfl, Nat.le_of_ble_eq_true rfl⟩) hP hD hS hA (fun r2 v H locs hp2 hP hD hS => ?_)
  have h := forget_ok RH 
  rw [← hp1, ← hp2] at h
  obtain ⟨ok, RH2⟩ := h
  have ok : r1 = r2 := ok
  exact lv_icmp_eq (tgt := 810) hx hb dL_law_656 (by decide) (fun _ => kk _ _ _ _ _ _ _ _ _ _ _ _ _ _ _ _ _ _ RH2 hP hD hS) (fun q => absurd ok q)
set_option maxHeartbeats 4000000 in
set_option maxRecDepth 100000 in
theorem lc_moved (C0 : LC p s m c b L xs D cI cZ cO A) (hL : L ≤ 384) (hi : i + 6 ≤ L) (RH : RE w r g tb V Hd tr mg st im ke se tx mt) (hP : va_P D vwCl (WW cI cO sk g tb V Hd tr ++ MW cI cZ mk mg st im ke se tx sh fa mt) H) (hD : va_D A (WW cI cO sk g tb V Hd tr ++ MW cI cZ mk mg st im ke se tx sh fa mt)) (hS : va_S A s.heap H locs) (hl : lv_has ls 4 [(0, .ref b), (1, .ref (sk 0)), (2, .ref (mk 0)), (3, .int (nI i))]) (kk : KK p l e s m below meth c b D cI cZ cO sk mk A Q ls) : W p l e room_1 s m #[Value.ref b] below meth c H locs 600000 7302250 Q (F0 m 661 ls []) := by
  obtain ⟨C, hK, hN, hX, hbl, hbA, hA⟩ := C0
  have hx := C.1
  have hb := C.2.1
  refine lv_aload_n hx hb dL_law_661 rfl (lv_at hl 1 rfl) ?_
  refine lv_aload_n hx hb dL_law_662 rfl (lv_at hl 0 rfl) ?_
  refine lv_iload_n hx hb dL_law_663 rfl (lv_at hl 3 rfl) ?_
  refine lv_iconst (v := 1) hx hb dL_law_664 (by decide) ?_
  refine lv_iadd hx hb dL_law_665 ?_
  refine va_sld hx hb hX hbl hbA hS (sx_in (j := 1) hi hL (by decide)) dL_law_666 ?_
  obtain ⟨p1, p2⟩ := tw_P hP
  obtain ⟨d1, d2, d3⟩ := tw_D hD
  refine vp_callSi (run_vP (As := [.int (xs (nI i + 1).toNatClampNeg)]) (rest := []) C hK p1 d1 hN (c_X6_moved _) (rX6_r hK p1) ⟨wd_2_224, wd_2_225, wd_2_226, wd_1_1, wd_2_227⟩ ⟨rfl, rfl⟩ hv_X6_moved ⟨Nat.le_of_ble_eq_true rfl, Nat.le_of_ble_eq_true rfl⟩ rfl hl.1 rfl (Nat.le_of_ble_eq_true rfl) dL_law_667 ⟨Nat.le_of_ble_eq_true rfl, Nat.le_of_ble_eq_true rfl⟩) (fun r1 hr1 => ?_)
  refine lv_aload_n hx hb dL_law_670 rfl (lv_at hl 2 rfl) ?_
  refine lv_aload_n hx hb dL_law_671 rfl (lv_at hl 0 rfl) ?_
  refine lv_iload_n hx hb dL_law_672 rfl (lv_at hl 3 rfl) ?_
  refine lv_iconst (v := 1) hx hb dL_law_673 (by decide) ?_
  refine lv_iadd hx hb dL_law_674 ?_
  refine va_sld hx hb hX hbl hbA hS (sx_in (j := 1) hi hL (by decide)) dL_law_675 ?_
  refine vp_callSi (run_vP (As := [.int (xs (nI i + 1).toNatClampNeg)]) (rest := [.int r1]) C hK p2 d2 hN (c_X7_moved (RE.hsn RH) _) (rX7_r hK p2) ⟨wd_4_65, wd_4_66, wd_4_67, wd_1_8, wd_4_68⟩ ⟨rfl, rfl⟩ hv_X7_moved ⟨Nat.le_of_ble_eq_true rfl, Nat.le_of_ble_eq_true rfl⟩ rfl hl.1 rfl (Nat.le_of_ble_eq_true rfl) dL_law_676 ⟨Nat.le_of_ble_eq_true rfl, Nat.le_of_ble_eq_true rfl⟩) (fun r2 hr2 => ?_)
  have ok : r1 = r2 := by rw [hr1, hr2]; exact moved_ok RH (xs (nI i + 1).toNatClampNeg)
  exact lv_icmp_eq (tgt := 810) hx hb dL_law_679 (by decide) (fun _ => kk _ _ _ _ _ _ _ _ _ _ _ _ _ _ _ _ _ _ RH hP hD hS) (fun q => absurd ok q)
set_option maxHeartbeats 4000000 in
set_option maxRecDepth 100000 in
theorem lc_mark (C0 : LC p s m c b L xs D cI cZ cO A) (hL : L ≤ 384) (hi : i + 6 ≤ L) (RH : RE w r g tb V Hd tr mg st im ke se tx mt) (hP : va_P D vwCl (WW cI cO sk g tb V Hd tr ++ MW cI cZ mk mg st im ke se tx sh fa mt) H) (hD : va_D A (WW cI cO sk g tb V Hd tr ++ MW cI cZ mk mg st im ke se tx sh fa mt)) (hS : va_S A s.heap H locs) (hl : lv_has ls 4 [(0, .ref b), (1, .ref (sk 0)), (2, .ref (mk 0)), (3, .int (nI i))]) (kk : KK p l e s m below meth c b D cI cZ cO sk mk A Q ls) : W p l e room_1 s m #[Value.ref b] below meth c H locs 600000 7302250 Q (F0 m 684 ls []) := by
  obtain ⟨C, hK, hN, hX, hbl, hbA, hA⟩ := C0
  have hx := C.1
  have hb := C.2.1
  refine lv_aload_n hx hb dL_law_684 rfl (lv_at hl 1 rfl) ?_
  refine lv_aload_n hx hb dL_law_685 rfl (lv_at hl 0 rfl) ?_
  refine lv_iload_n hx hb dL_law_686 rfl (lv_at hl 3 rfl) ?_
  refine lv_iconst (v := 1) hx hb dL_law_687 (by decide) ?_
  refine lv_iadd hx hb dL_law_688 ?_
  refine va_sld hx hb hX hbl hbA hS (sx_in (j := 1) hi hL (by decide)) dL_law_689 ?_
  refine lv_aload_n hx hb dL_law_690 rfl (lv_at hl 0 rfl) ?_
  refine lv_iload_n hx hb dL_law_691 rfl (lv_at hl 3 rfl) ?_
  refine lv_iconst (v := 2) hx hb dL_law_692 (by decide) ?_
  refine lv_iadd hx hb dL_law_693 ?_
  refine va_sld hx hb hX hbl hbA hS (sx_in (j := 2) hi hL (by decide)) dL_law_694 ?_
  refine lv_aload_n hx hb dL_law_695 rfl (lv_at hl 0 rfl) ?_
  refine lv_iload_n hx hb dL_law_696 rfl (lv_at hl 3 rfl) ?_
  refine lv_iconst (v := 3) hx hb dL_law_697 (by decide) ?_
  refine lv_iadd hx hb dL_law_698 ?_
  refine va_sld hx hb hX hbl hbA hS (sx_in (j := 3) hi hL (by decide)) dL_law_699 ?_
  obtain ⟨p1, p2⟩ := tw_P hP
  obtain ⟨d1, d2, d3⟩ := tw_D hD
  refine on_iL (W1 := fun (u : Int64) => WW cI cO sk g tb V Hd u) (run_vQ (As := [.int (xs (nI i + 1).toNatClampNeg), .int (xs (nI i + 2).toNatClampNeg), .int (xs (nI i + 3).toNatClampNeg)]) (rest := []) C hK p1 d1 hN (c_X6_mark _) (rX6_r hK p1) ⟨wd_2_238, wd_2_239, wd_3_0, wd_1_1, wd_3_1⟩ ⟨rfl, rfl⟩ hv_X6_mark ⟨Nat.le_of_ble_eq_true rfl, Nat.le_of_ble_eq_true rfl⟩ rfl hl.1 rfl (Nat.le_of_ble_eq_true rfl) dL_law_700 ⟨Nat.le_of_ble_eq_true rfl, Nat.le_of_ble_eq_true rfl⟩) hP hD hS hA (fun r1 u H locs hp1 hP hD hS => ?_)
  obtain ⟨p1, p2⟩ := tw_P hP
  obtain ⟨d1, d2, d3⟩ := tw_D hD
  refine lv_aload_n hx hb dL_law_703 rfl (lv_at hl 2 rfl) ?_
  refine lv_aload_n hx hb dL_law_704 rfl (lv_at hl 0 rfl) ?_
  refine lv_iload_n hx hb dL_law_705 rfl (lv_at hl 3 rfl) ?_
  refine lv_iconst (v := 1) hx hb dL_law_706 (by decide) ?_
  refine lv_iadd hx hb dL_law_707 ?_
  refine va_sld hx hb hX hbl hbA hS (sx_in (j := 1) hi hL (by decide)) dL_law_708 ?_
  refine lv_aload_n hx hb dL_law_709 rfl (lv_at hl 0 rfl) ?_
  refine lv_iload_n hx hb dL_law_710 rfl (lv_at hl 3 rfl) ?_
  refine lv_iconst (v := 2) hx hb dL_law_711 (by decide) ?_
  refine lv_iadd hx hb dL_law_712 ?_
  refine va_sld hx hb hX hbl hbA hS (sx_in (j := 2) hi hL (by decide)) dL_law_713 ?_
  refine lv_aload_n hx hb dL_law_714 rfl (lv_at hl 0 rfl) ?_
  refine lv_iload_n hx hb dL_law_715 rfl (lv_at hl 3 rfl) ?_
  refine lv_iconst (v := 3) hx hb dL_law_716 (by decide) ?_
  refine lv_iadd hx hb dL_law_717 ?_
  refine va_sld hx hb hX hbl hbA hS (sx_in (j := 3) hi hL (by decide)) dL_law_718 ?_
  refine on_iR (W1 := fun (u : Int64) => MW cI cZ mk mg st im ke se tx sh fa u) (run_vQ (As := [.int (xs (nI i + 1).toNatClampNeg), .int (xs (nI i + 2).toNatClampNeg), .int (xs (nI i + 3).toNatClampNeg)]) (rest := [.int r1]) C hK p2 d2 hN (c_X7_mark (RE.hw RH) (RE.hh RH) _) (rX7_r hK p2) ⟨wd_4_73, wd_4_74, wd_4_75, wd_1_8, wd_4_76⟩ ⟨rfl, rfl⟩ hv_X7_mark ⟨Nat.le_of_ble_eq_true rfl, Nat.le_of_ble_eq_true rfl⟩ rfl hl.1 rfl (Nat.le_of_ble_eq_true rfl) dL_law_719 ⟨Nat.le_of_ble_eq_true rfl, Nat.le_of_ble_eq_true rfl⟩) hP hD hS hA (fun r2 v H locs hp2 hP hD hS => ?_)
  have h := mark_ok RH (xs (nI i + 1).toNatClampNeg) (xs (nI i + 2).toNatClampNeg) (xs (nI i + 3).toNatClampNeg)
  rw [← hp1, ← hp2] at h
  obtain ⟨ok, RH2⟩ := h
  have ok : r1 = r2 := ok
  exact lv_icmp_eq (tgt := 810) hx hb dL_law_722 (by decide) (fun _ => kk _ _ _ _ _ _ _ _ _ _ _ _ _ _ _ _ _ _ RH2 hP hD hS) (fun q => absurd ok q)
set_option maxHeartbeats 4000000 in
set_option maxRecDepth 100000 in
theorem lc_keep (C0 : LC p s m c b L xs D cI cZ cO A) (hL : L ≤ 384) (hi : i + 6 ≤ L) (RH : RE w r g tb V Hd tr mg st im ke se tx mt) (hP : va_P D vwCl (WW cI cO sk g tb V Hd tr ++ MW cI cZ mk mg st im ke se tx sh fa mt) H) (hD : va_D A (WW cI cO sk g tb V Hd tr ++ MW cI cZ mk mg st im ke se tx sh fa mt)) (hS : va_S A s.heap H locs) (hl : lv_has ls 4 [(0, .ref b), (1, .ref (sk 0)), (2, .ref (mk 0)), (3, .int (nI i))]) (kk : KK p l e s m below meth c b D cI cZ cO sk mk A Q ls) : W p l e room_1 s m #[Value.ref b] below meth c H locs 600000 7302250 Q (F0 m 727 ls []) := by
  obtain ⟨C, hK, hN, hX, hbl, hbA, hA⟩ := C0
  have hx := C.1
  have hb := C.2.1
  refine lv_aload_n hx hb dL_law_727 rfl (lv_at hl 1 rfl) ?_
  refine lv_aload_n hx hb dL_law_728 rfl (lv_at hl 0 rfl) ?_
  refine lv_iload_n hx hb dL_law_729 rfl (lv_at hl 3 rfl) ?_
  refine lv_iconst (v := 1) hx hb dL_law_730 (by decide) ?_
  refine lv_iadd hx hb dL_law_731 ?_
  refine va_sld hx hb hX hbl hbA hS (sx_in (j := 1) hi hL (by decide)) dL_law_732 ?_
  obtain ⟨p1, p2⟩ := tw_P hP
  obtain ⟨d1, d2, d3⟩ := tw_D hD
  refine on_iL (W1 := fun (u : (Nat → Int32) × (Nat → Nat → Int32) × (Nat → Nat → Int32)) => WW cI cO sk u.1 tb u.2.1 u.2.2 tr) (run_vQ (As := [.int (xs (nI i + 1).toNatClampNeg)]) (rest := []) C hK p1 d1 hN (c_X6_keep _) (rX6_r hK p1) ⟨wd_3_45, wd_3_46, wd_3_47, wd_1_1, wd_3_48⟩ ⟨rfl, rfl⟩ hv_X6_keep ⟨Nat.le_of_ble_eq_true rfl, Nat.le_of_ble_eq_true rfl⟩ rfl hl.1 rfl (Nat.le_of_ble_eq_true rfl) dL_law_733 ⟨Nat.le_of_ble_eq_true rfl, Nat.le_of_ble_eq_true rfl⟩) hP hD hS hA (fun r1 u H locs hp1 hP hD hS => ?_)
  obtain ⟨p1, p2⟩ := tw_P hP
  obtain ⟨d1, d2, d3⟩ := tw_D hD
  refine lv_aload_n hx hb dL_law_736 rfl (lv_at hl 2 rfl) ?_
  refine lv_aload_n hx hb dL_law_737 rfl (lv_at hl 0 rfl) ?_
  refine lv_iload_n hx hb dL_law_738 rfl (lv_at hl 3 rfl) ?_
  refine lv_iconst (v := 1) hx hb dL_law_739 (by decide) ?_
  refine lv_iadd hx hb dL_law_740 ?_
  refine va_sld hx hb hX hbl hbA hS (sx_in (j := 1) hi hL (by decide)) dL_law_741 ?_
  refine on_iR (W1 := fun (u : (Nat → Int32) × (Nat → Int32)) => MW cI cZ mk mg st u.1 u.2 se tx sh fa mt) (run_vQ (As := [.int (xs (nI i + 1).toNatClampNeg)]) (rest := [.int r1]) C hK p2 d2 hN (c_X7_keep _) (rX7_r hK p2) ⟨wd_4_83, wd_4_84, wd_4_85, wd_1_8, wd_4_86⟩ ⟨rfl, rfl⟩ hv_X7_keep ⟨Nat.le_of_ble_eq_true rfl, Nat.le_of_ble_eq_true rfl⟩ rfl hl.1 rfl (Nat.le_of_ble_eq_true rfl) dL_law_742 ⟨Nat.le_of_ble_eq_true rfl, Nat.le_of_ble_eq_true rfl⟩) hP hD hS hA (fun r2 v H locs hp2 hP hD hS => ?_)
  have h := keep_ok RH (xs (nI i + 1).toNatClampNeg)
  rw [← hp1, ← hp2] at h
  obtain ⟨ok, RH2⟩ := h
  have ok : r1 = r2 := ok
  exact lv_icmp_eq (tgt := 810) hx hb dL_law_745 (by decide) (fun _ => kk _ _ _ _ _ _ _ _ _ _ _ _ _ _ _ _ _ _ RH2 hP hD hS) (fun q => absurd ok q)
set_option maxHeartbeats 4000000 in
set_option maxRecDepth 100000 in
theorem lc_back (C0 : LC p s m c b L xs D cI cZ cO A) (hL : L ≤ 384) (hi : i + 6 ≤ L) (RH : RE w r g tb V Hd tr mg st im ke se tx mt) (hP : va_P D vwCl (WW cI cO sk g tb V Hd tr ++ MW cI cZ mk mg st im ke se tx sh fa mt) H) (hD : va_D A (WW cI cO sk g tb V Hd tr ++ MW cI cZ mk mg st im ke se tx sh fa mt)) (hS : va_S A s.heap H locs) (hl : lv_has ls 4 [(0, .ref b), (1, .ref (sk 0)), (2, .ref (mk 0)), (3, .int (nI i))]) (kk : KK p l e s m below meth c b D cI cZ cO sk mk A Q ls) : W p l e room_1 s m #[Value.ref b] below meth c H locs 600000 7302250 Q (F0 m 750 ls []) := by
  obtain ⟨C, hK, hN, hX, hbl, hbA, hA⟩ := C0
  have hx := C.1
  have hb := C.2.1
  refine lv_aload_n hx hb dL_law_750 rfl (lv_at hl 1 rfl) ?_
  refine lv_aload_n hx hb dL_law_751 rfl (lv_at hl 0 rfl) ?_
  refine lv_iload_n hx hb dL_law_752 rfl (lv_at hl 3 rfl) ?_
  refine lv_iconst (v := 1) hx hb dL_law_753 (by decide) ?_
  refine lv_iadd hx hb dL_law_754 ?_
  refine va_sld hx hb hX hbl hbA hS (sx_in (j := 1) hi hL (by decide)) dL_law_755 ?_
  obtain ⟨p1, p2⟩ := tw_P hP
  obtain ⟨d1, d2, d3⟩ := tw_D hD
  refine on_iL (W1 := fun (u : (Nat → Int32) × (Nat → Nat → Int32) × (Nat → Nat → Int32)) => WW cI cO sk u.1 tb u.2.1 u.2.2 tr) (run_vQ (As := [.int (xs (nI i + 1).toNatClampNeg)]) (rest := []) C hK p1 d1 hN (c_X6_back _) (rX6_r hK p1) ⟨wd_3_57, wd_3_58, wd_3_59, wd_1_1, wd_3_60⟩ ⟨rfl, rfl⟩ hv_X6_back ⟨Nat.le_of_ble_eq_true rfl, Nat.le_of_ble_eq_true rfl⟩ rfl hl.1 rfl (Nat.le_of_ble_eq_true rfl) dL_law_756 ⟨Nat.le_of_ble_eq_true rfl, Nat.le_of_ble_eq_true rfl⟩) hP hD hS hA (fun r1 u H locs hp1 hP hD hS => ?_)
  obtain ⟨p1, p2⟩ := tw_P hP
  obtain ⟨d1, d2, d3⟩ := tw_D hD
  refine lv_aload_n hx hb dL_law_759 rfl (lv_at hl 2 rfl) ?_
  refine lv_aload_n hx hb dL_law_760 rfl (lv_at hl 0 rfl) ?_
  refine lv_iload_n hx hb dL_law_761 rfl (lv_at hl 3 rfl) ?_
  refine lv_iconst (v := 1) hx hb dL_law_762 (by decide) ?_
  refine lv_iadd hx hb dL_law_763 ?_
  refine va_sld hx hb hX hbl hbA hS (sx_in (j := 1) hi hL (by decide)) dL_law_764 ?_
  refine on_iR (W1 := fun (u : Nat → Int32) => MW cI cZ mk mg u im ke se tx sh fa mt) (run_vQ (As := [.int (xs (nI i + 1).toNatClampNeg)]) (rest := [.int r1]) C hK p2 d2 hN (c_X7_back _) (rX7_r hK p2) ⟨wd_4_87, wd_4_88, wd_4_89, wd_1_8, wd_4_90⟩ ⟨rfl, rfl⟩ hv_X7_back ⟨Nat.le_of_ble_eq_true rfl, Nat.le_of_ble_eq_true rfl⟩ rfl hl.1 rfl (Nat.le_of_ble_eq_true rfl) dL_law_765 ⟨Nat.le_of_ble_eq_true rfl, Nat.le_of_ble_eq_true rfl⟩) hP hD hS hA (fun r2 v H locs hp2 hP hD hS => ?_)
  have h := back_ok RH (xs (nI i + 1).toNatClampNeg)
  rw [← hp1, ← hp2] at h
  obtain ⟨ok, RH2⟩ := h
  have ok : r1 = r2 := ok
  exact lv_icmp_eq (tgt := 810) hx hb dL_law_768 (by decide) (fun _ => kk _ _ _ _ _ _ _ _ _ _ _ _ _ _ _ _ _ _ RH2 hP hD hS) (fun q => absurd ok q)
set_option maxHeartbeats 4000000 in
set_option maxRecDepth 100000 in
theorem lc_count (C0 : LC p s m c b L xs D cI cZ cO A) (hL : L ≤ 384) (hi : i + 6 ≤ L) (RH : RE w r g tb V Hd tr mg st im ke se tx mt) (hP : va_P D vwCl (WW cI cO sk g tb V Hd tr ++ MW cI cZ mk mg st im ke se tx sh fa mt) H) (hD : va_D A (WW cI cO sk g tb V Hd tr ++ MW cI cZ mk mg st im ke se tx sh fa mt)) (hS : va_S A s.heap H locs) (hl : lv_has ls 4 [(0, .ref b), (1, .ref (sk 0)), (2, .ref (mk 0)), (3, .int (nI i))]) (kk : KK p l e s m below meth c b D cI cZ cO sk mk A Q ls) : W p l e room_1 s m #[Value.ref b] below meth c H locs 600000 7302250 Q (F0 m 773 ls []) := by
  obtain ⟨C, hK, hN, hX, hbl, hbA, hA⟩ := C0
  have hx := C.1
  have hb := C.2.1
  refine lv_aload_n hx hb dL_law_773 rfl (lv_at hl 1 rfl) ?_
  refine lv_aload_n hx hb dL_law_774 rfl (lv_at hl 0 rfl) ?_
  refine lv_iload_n hx hb dL_law_775 rfl (lv_at hl 3 rfl) ?_
  refine lv_iconst (v := 1) hx hb dL_law_776 (by decide) ?_
  refine lv_iadd hx hb dL_law_777 ?_
  refine va_sld hx hb hX hbl hbA hS (sx_in (j := 1) hi hL (by decide)) dL_law_778 ?_
  obtain ⟨p1, p2⟩ := tw_P hP
  obtain ⟨d1, d2, d3⟩ := tw_D hD
  refine vp_callSi (run_vP (As := [.int (xs (nI i + 1).toNatClampNeg)]) (rest := []) C hK p1 d1 hN (c_X6_count _) (rX6_r hK p1) ⟨wd_3_61, wd_3_62, wd_3_63, wd_1_1, wd_3_64⟩ ⟨rfl, rfl⟩ hv_X6_count ⟨Nat.le_of_ble_eq_true rfl, Nat.le_of_ble_eq_true rfl⟩ rfl hl.1 rfl (Nat.le_of_ble_eq_true rfl) dL_law_779 ⟨Nat.le_of_ble_eq_true rfl, Nat.le_of_ble_eq_true rfl⟩) (fun r1 hr1 => ?_)
  refine lv_aload_n hx hb dL_law_782 rfl (lv_at hl 2 rfl) ?_
  refine lv_aload_n hx hb dL_law_783 rfl (lv_at hl 0 rfl) ?_
  refine lv_iload_n hx hb dL_law_784 rfl (lv_at hl 3 rfl) ?_
  refine lv_iconst (v := 1) hx hb dL_law_785 (by decide) ?_
  refine lv_iadd hx hb dL_law_786 ?_
  refine va_sld hx hb hX hbl hbA hS (sx_in (j := 1) hi hL (by decide)) dL_law_787 ?_
  refine vp_callSi (run_vP (As := [.int (xs (nI i + 1).toNatClampNeg)]) (rest := [.int r1]) C hK p2 d2 hN (c_X7_count _) (rX7_r hK p2) ⟨wd_4_91, wd_4_92, wd_4_93, wd_1_8, wd_4_94⟩ ⟨rfl, rfl⟩ hv_X7_count ⟨Nat.le_of_ble_eq_true rfl, Nat.le_of_ble_eq_true rfl⟩ rfl hl.1 rfl (Nat.le_of_ble_eq_true rfl) dL_law_788 ⟨Nat.le_of_ble_eq_true rfl, Nat.le_of_ble_eq_true rfl⟩) (fun r2 hr2 => ?_)
  have ok : r1 = r2 := by rw [hr1, hr2]; exact count_ok RH (xs (nI i + 1).toNatClampNeg)
  exact lv_icmp_eq (tgt := 810) hx hb dL_law_791 (by decide) (fun _ => kk _ _ _ _ _ _ _ _ _ _ _ _ _ _ _ _ _ _ RH hP hD hS) (fun q => absurd ok q)
set_option maxHeartbeats 4000000 in
set_option maxRecDepth 100000 in
theorem lc_trace (C0 : LC p s m c b L xs D cI cZ cO A) (hL : L ≤ 384) (hi : i + 6 ≤ L) (RH : RE w r g tb V Hd tr mg st im ke se tx mt) (hP : va_P D vwCl (WW cI cO sk g tb V Hd tr ++ MW cI cZ mk mg st im ke se tx sh fa mt) H) (hD : va_D A (WW cI cO sk g tb V Hd tr ++ MW cI cZ mk mg st im ke se tx sh fa mt)) (hS : va_S A s.heap H locs) (hl : lv_has ls 4 [(0, .ref b), (1, .ref (sk 0)), (2, .ref (mk 0)), (3, .int (nI i))]) (kk : KK p l e s m below meth c b D cI cZ cO sk mk A Q ls) : W p l e room_1 s m #[Value.ref b] below meth c H locs 600000 7302250 Q (F0 m 796 ls []) := by
  obtain ⟨C, hK, hN, hX, hbl, hbA, hA⟩ := C0
  have hx := C.1
  have hb := C.2.1
  refine lv_aload_n hx hb dL_law_796 rfl (lv_at hl 1 rfl) ?_
  obtain ⟨p1, p2⟩ := tw_P hP
  obtain ⟨d1, d2, d3⟩ := tw_D hD
  refine vp_callSl (run_vP (As := []) (rest := []) C hK p1 d1 hN (c_X6_trace _) (rX6_r hK p1) ⟨wd_3_65, wd_3_66, wd_3_67, wd_1_1, wd_3_68⟩ ⟨rfl, rfl⟩ hv_X6_trace ⟨Nat.le_of_ble_eq_true rfl, Nat.le_of_ble_eq_true rfl⟩ rfl hl.1 rfl (Nat.le_of_ble_eq_true rfl) dL_law_797 ⟨Nat.le_of_ble_eq_true rfl, Nat.le_of_ble_eq_true rfl⟩) (fun r1 hr1 => ?_)
  refine lv_aload_n hx hb dL_law_800 rfl (lv_at hl 2 rfl) ?_
  refine vp_callSl (run_vP (As := []) (rest := [.long r1]) C hK p2 d2 hN (c_X7_trace _) (rX7_r hK p2) ⟨wd_4_95, wd_4_96, wd_4_97, wd_1_8, wd_4_98⟩ ⟨rfl, rfl⟩ hv_X7_trace ⟨Nat.le_of_ble_eq_true rfl, Nat.le_of_ble_eq_true rfl⟩ rfl hl.1 rfl (Nat.le_of_ble_eq_true rfl) dL_law_801 ⟨Nat.le_of_ble_eq_true rfl, Nat.le_of_ble_eq_true rfl⟩) (fun r2 hr2 => ?_)
  have ok : r1 = r2 := by rw [hr1, hr2]; exact RH.2.2.2.2.2
  refine W.lcmp hx hb dL_law_804 ?_
  refine lv_if_eq (tgt := 810) hx hb dL_law_805 (by decide) (fun _ => kk _ _ _ _ _ _ _ _ _ _ _ _ _ _ _ _ _ _ RH hP hD hS) (fun q => absurd ?_ q)
  rw [ok]
  exact lg_cmp_self r2
end LW
