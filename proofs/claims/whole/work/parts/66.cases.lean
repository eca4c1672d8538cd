section LW
variable {p : Program} {l : Launch} {e : Env} {s : State} {m : MethodId} {below : List Frame} {meth : Method} {c : Code} {b : Addr} {D : va_G} {cI cZ cO : ClassId} {sk mk : Nat → Nat} {A : Nat → Prop} {Q : State → Prop} {ls : Array Slot} {H : Heap} {locs : List Loc} {w r : Nat} {g tb : Nat → Int32} {V Hd : Nat → Nat → Int32} {tr : Int64} {mg st im ke se tx sh fa : Nat → Int32} {mt : Int64} {L i : Nat} {xs : Nat → Int32}
set_option maxHeartbeats 4000000 in
set_option maxRecDepth 100000 in
theorem lc_veers (C0 : LC p s m c b L xs D cI cZ cO A) (hL : L ≤ 384) (hi : i + 6 ≤ L) (RH : RE w r g tb V Hd tr mg st im ke se tx mt) (hP : va_P D vwCl (WW cI cO sk g tb V Hd tr ++ MW cI cZ mk mg st im ke se tx sh fa mt) H) (hD : va_D A (WW cI cO sk g tb V Hd tr ++ MW cI cZ mk mg st im ke se tx sh fa mt)) (hS : va_S A s.heap H locs) (hl : lv_has ls 4 [(0, .ref b), (1, .ref (sk 0)), (2, .ref (mk 0)), (3, .int (nI i))]) (kk : KK p l e s m below meth c b D cI cZ cO sk mk A Q ls) : W p l e room_1 s m #[Value.ref b] below meth c H locs 600000 7302250 Q (F0 m 384 ls []) := by
  obtain ⟨C, hK, hN, hX, hbl, hbA, hA⟩ := C0
  have hx := C.1
  have hb := C.2.1
  refine lv_aload_n hx hb dL_law_384 rfl (lv_at hl 1 rfl) ?_
  obtain ⟨p1, p2⟩ := tw_P hP
  obtain ⟨d1, d2, d3⟩ := tw_D hD
  refine on_iL (W1 := fun (u : (Nat → Int32) × (Nat → Nat → Int32) × (Nat → Nat → Int32)) => WW cI cO sk u.1 tb u.2.1 u.2.2 tr) (run_vQ (As := []) (rest := []) C hK p1 d1 hN (c_X6_veers (RE.hu RH) _) (rX6_r hK p1) ⟨wd_2_144, wd_2_145, wd_2_146, wd_1_1, wd_2_147⟩ ⟨rfl, rfl⟩ hv_X6_veers ⟨Nat.le_of_ble_eq_true rfl, Nat.le_of_ble_eq_true rfl⟩ rfl hl.1 rfl (Nat.le_of_ble_eq_true rfl) dL_law_385 ⟨Nat.le_of_ble_eq_true rfl, Nat.le_of_ble_eq_true rfl⟩) hP hD hS hA (fun r1 u H locs hp1 hP hD hS => ?_)
  obtain ⟨p1, p2⟩ := tw_P hP
  obtain ⟨d1, d2, d3⟩ := tw_D hD
  refine lv_aload_n hx hb dL_law_388 rfl (lv_at hl 2 rfl) ?_
  refine on_iR (W1 := fun (u : Nat → Int32) => MW cI cZ mk mg u im ke se tx sh fa mt) (run_vQ (As := []) (rest := [.int r1]) C hK p2 d2 hN (c_X7_veers (RE.hsu RH) _) (rX7_r hK p2) ⟨wd_4_9, wd_4_10, wd_4_11, wd_1_8, wd_4_12⟩ ⟨rfl, rfl⟩ hv_X7_veers ⟨Nat.le_of_ble_eq_true rfl, Nat.le_of_ble_eq_true rfl⟩ rfl hl.1 rfl (Nat.le_of_ble_eq_true rfl) dL_law_389 ⟨Nat.le_of_ble_eq_true rfl, Nat.le_of_ble_eq_true rfl⟩) hP hD hS hA (fun r2 v H locs hp2 hP hD hS => ?_)
  have h := veers_ok RH 
  rw [← hp1, ← hp2] at h
  obtain ⟨ok, RH2⟩ := h
  have ok : r1 = r2 := ok
  exact lv_icmp_eq (tgt := 810) hx hb dL_law_392 (by decide) (fun _ => kk _ _ _ _ _ _ _ _ _ _ _ _ _ _ _ _ _ _ RH2 hP hD hS) (fun q => absurd ok q)
set_option maxHeartbeats 4000000 in
set_option maxRecDepth 100000 in
theorem lc_tide (C0 : LC p s m c b L xs D cI cZ cO A) (hL : L ≤ 384) (hi : i + 6 ≤ L) (RH : RE w r g tb V Hd tr mg st im ke se tx mt) (hP : va_P D vwCl (WW cI cO sk g tb V Hd tr ++ MW cI cZ mk mg st im ke se tx sh fa mt) H) (hD : va_D A (WW cI cO sk g tb V Hd tr ++ MW cI cZ mk mg st im ke se tx sh fa mt)) (hS : va_S A s.heap H locs) (hl : lv_has ls 4 [(0, .ref b), (1, .ref (sk 0)), (2, .ref (mk 0)), (3, .int (nI i))]) (kk : KK p l e s m below meth c b D cI cZ cO sk mk A Q ls) : W p l e room_1 s m #[Value.ref b] below meth c H locs 600000 7302250 Q (F0 m 397 ls []) := by
  obtain ⟨C, hK, hN, hX, hbl, hbA, hA⟩ := C0
  have hx := C.1
  have hb := C.2.1
  refine lv_aload_n hx hb dL_law_397 rfl (lv_at hl 1 rfl) ?_
  refine lv_aload_n hx hb dL_law_398 rfl (lv_at hl 0 rfl) ?_
  refine lv_iload_n hx hb dL_law_399 rfl (lv_at hl 3 rfl) ?_
  refine lv_iconst (v := 1) hx hb dL_law_400 (by decide) ?_
  refine lv_iadd hx hb dL_law_401 ?_
  refine va_sld hx hb hX hbl hbA hS (sx_in (j := 1) hi hL (by decide)) dL_law_402 ?_
  obtain ⟨p1, p2⟩ := tw_P hP
  obtain ⟨d1, d2, d3⟩ := tw_D hD
  refine on_iL (W1 := fun (u : (Nat → Int32) × (Nat → Nat → Int32) × (Nat → Nat → Int32)) => WW cI cO sk u.1 tb u.2.1 u.2.2 tr) (run_vQ (As := [.int (xs (nI i + 1).toNatClampNeg)]) (rest := []) C hK p1 d1 hN (c_X6_tide (RE.hu RH) _) (rX6_r hK p1) ⟨wd_2_148, wd_2_149, wd_2_150, wd_1_1, wd_2_151⟩ ⟨rfl, rfl⟩ hv_X6_tide ⟨Nat.le_of_ble_eq_true rfl, Nat.le_of_ble_eq_true rfl⟩ rfl hl.1 rfl (Nat.le_of_ble_eq_true rfl) dL_law_403 ⟨Nat.le_of_ble_eq_true rfl, Nat.le_of_ble_eq_true rfl⟩) hP hD hS hA (fun r1 u H locs hp1 hP hD hS => ?_)
  obtain ⟨p1, p2⟩ := tw_P hP
  obtain ⟨d1, d2, d3⟩ := tw_D hD
  refine lv_aload_n hx hb dL_law_406 rfl (lv_at hl 2 rfl) ?_
  refine lv_aload_n hx hb dL_law_407 rfl (lv_at hl 0 rfl) ?_
  refine lv_iload_n hx hb dL_law_408 rfl (lv_at hl 3 rfl) ?_
  refine lv_iconst (v := 1) hx hb dL_law_409 (by decide) ?_
  refine lv_iadd hx hb dL_law_410 ?_
  refine va_sld hx hb hX hbl hbA hS (sx_in (j := 1) hi hL (by decide)) dL_law_411 ?_
  refine on_iR (W1 := fun (u : Nat → Int32) => MW cI cZ mk mg u im ke se tx sh fa mt) (run_vQ (As := [.int (xs (nI i + 1).toNatClampNeg)]) (rest := [.int r1]) C hK p2 d2 hN (c_X7_tide (RE.hsu RH) _) (rX7_r hK p2) ⟨wd_4_13, wd_4_14, wd_4_15, wd_1_8, wd_4_16⟩ ⟨rfl, rfl⟩ hv_X7_tide ⟨Nat.le_of_ble_eq_true rfl, Nat.le_of_ble_eq_true rfl⟩ rfl hl.1 rfl (Nat.le_of_ble_eq_true rfl) dL_law_412 ⟨Nat.le_of_ble_eq_true rfl, Nat.le_of_ble_eq_true rfl⟩) hP hD hS hA (fun r2 v H locs hp2 hP hD hS => ?_)
  have h := tide_ok RH (xs (nI i + 1).toNatClampNeg)
  rw [← hp1, ← hp2] at h
  obtain ⟨ok, RH2⟩ := h
  have ok : r1 = r2 := ok
  exact lv_icmp_eq (tgt := 810) hx hb dL_law_415 (by decide) (fun _ => kk _ _ _ _ _ _ _ _ _ _ _ _ _ _ _ _ _ _ RH2 hP hD hS) (fun q => absurd ok q)
set_option maxHeartbeats 4000000 in
set_option maxRecDepth 100000 in
theorem lc_undo (C0 : LC p s m c b L xs D cI cZ cO A) (hL : L ≤ 384) (hi : i + 6 ≤ L) (RH : RE w r g tb V Hd tr mg st im ke se tx mt) (hP : va_P D vwCl (WW cI cO sk g tb V Hd tr ++ MW cI cZ mk mg st im ke se tx sh fa mt) H) (hD : va_D A (WW cI cO sk g tb V Hd tr ++ MW cI cZ mk mg st im ke se tx sh fa mt)) (hS : va_S A s.heap H locs) (hl : lv_has ls 4 [(0, .ref b), (1, .ref (sk 0)), (2, .ref (mk 0)), (3, .int (nI i))]) (kk : KK p l e s m below meth c b D cI cZ cO sk mk A Q ls) : W p l e room_1 s m #[Value.ref b] below meth c H locs 600000 7302250 Q (F0 m 420 ls []) := by
  obtain ⟨C, hK, hN, hX, hbl, hbA, hA⟩ := C0
  have hx := C.1
  have hb := C.2.1
  refine lv_aload_n hx hb dL_law_420 rfl (lv_at hl 1 rfl) ?_
  obtain ⟨p1, p2⟩ := tw_P hP
  obtain ⟨d1, d2, d3⟩ := tw_D hD
  refine on_iL (W1 := fun (u : (Nat → Int32) × (Nat → Nat → Int32) × (Nat → Nat → Int32)) => WW cI cO sk u.1 tb u.2.1 u.2.2 tr) (run_vQ (As := []) (rest := []) C hK p1 d1 hN (c_X6_undo (RE.hu RH) _) (rX6_r hK p1) ⟨wd_2_156, wd_2_157, wd_2_158, wd_1_1, wd_2_159⟩ ⟨rfl, rfl⟩ hv_X6_undo ⟨Nat.le_of_ble_eq_true rfl, Nat.le_of_ble_eq_true rfl⟩ rfl hl.1 rfl (Nat.le_of_ble_eq_true rfl) dL_law_421 ⟨Nat.le_of_ble_eq_true rfl, Nat.le_of_ble_eq_true rfl⟩) hP hD hS hA (fun r1 u H locs hp1 hP hD hS => ?_)
  obtain ⟨p1, p2⟩ := tw_P hP
  obtain ⟨d1, d2, d3⟩ := tw_D hD
  refine lv_aload_n hx hb dL_law_424 rfl (lv_at hl 2 rfl) ?_
  refine on_iR (W1 := fun (u : Nat → Int32) => MW cI cZ mk mg u im ke se tx sh fa mt) (run_vQ (As := []) (rest := [.int r1]) C hK p2 d2 hN (c_X7_undo (RE.hsu RH) _) (rX7_r hK p2) ⟨wd_4_17, wd_4_18, wd_4_19, wd_1_8, wd_4_20⟩ ⟨rfl, rfl⟩ hv_X7_undo ⟨Nat.le_of_ble_eq_true rfl, Nat.le_of_ble_eq_true rfl⟩ rfl hl.1 rfl (Nat.le_of_ble_eq_true rfl) dL_law_425 ⟨Nat.le_of_ble_eq_true rfl, Nat.le_of_ble_eq_true rfl⟩) hP hD hS hA (fun r2 v H locs hp2 hP hD hS => ?_)
  have h := und_ok RH 
  rw [← hp1, ← hp2] at h
  obtain ⟨ok, RH2⟩ := h
  have ok : r1 = r2 := ok
  exact lv_icmp_eq (tgt := 810) hx hb dL_law_428 (by decide) (fun _ => kk _ _ _ _ _ _ _ _ _ _ _ _ _ _ _ _ _ _ RH2 hP hD hS) (fun q => absurd ok q)
set_option maxHeartbeats 4000000 in
set_option maxRecDepth 100000 in
theorem lc_now (C0 : LC p s m c b L xs D cI cZ cO A) (hL : L ≤ 384) (hi : i + 6 ≤ L) (RH : RE w r g tb V Hd tr mg st im ke se tx mt) (hP : va_P D vwCl (WW cI cO sk g tb V Hd tr ++ MW cI cZ mk mg st im ke se tx sh fa mt) H) (hD : va_D A (WW cI cO sk g tb V Hd tr ++ MW cI cZ mk mg st im ke se tx sh fa mt)) (hS : va_S A s.heap H locs) (hl : lv_has ls 4 [(0, .ref b), (1, .ref (sk 0)), (2, .ref (mk 0)), (3, .int (nI i))]) (kk : KK p l e s m below meth c b D cI cZ cO sk mk A Q ls) : W p l e room_1 s m #[Value.ref b] below meth c H locs 600000 7302250 Q (F0 m 433 ls []) := by
  obtain ⟨C, hK, hN, hX, hbl, hbA, hA⟩ := C0
  have hx := C.1
  have hb := C.2.1
  refine lv_aload_n hx hb dL_law_433 rfl (lv_at hl 1 rfl) ?_
  refine lv_aload_n hx hb dL_law_434 rfl (lv_at hl 0 rfl) ?_
  refine lv_iload_n hx hb dL_law_435 rfl (lv_at hl 3 rfl) ?_
  refine lv_iconst (v := 1) hx hb dL_law_436 (by decide) ?_
  refine lv_iadd hx hb dL_law_437 ?_
  refine va_sld hx hb hX hbl hbA hS (sx_in (j := 1) hi hL (by decide)) dL_law_438 ?_
  obtain ⟨p1, p2⟩ := tw_P hP
  obtain ⟨d1, d2, d3⟩ := tw_D hD
  refine vp_callSi (run_vP (As := [.int (xs (nI i + 1).toNatClampNeg)]) (rest := []) C hK p1 d1 hN (c_X6_now _) (rX6_r hK p1) ⟨wd_2_164, wd_2_165, wd_2_166, wd_1_1, wd_2_167⟩ ⟨rfl, rfl⟩ hv_X6_now ⟨Nat.le_of_ble_eq_true rfl, Nat.le_of_ble_eq_true rfl⟩ rfl hl.1 rfl (Nat.le_of_ble_eq_true rfl) dL_law_439 ⟨Nat.le_of_ble_eq_true rfl, Nat.le_of_ble_eq_true rfl⟩) (fun r1 hr1 => ?_)
  refine lv_aload_n hx hb dL_law_442 rfl (lv_at hl 2 rfl) ?_
  refine lv_aload_n hx hb dL_law_443 rfl (lv_at hl 0 rfl) ?_
  refine lv_iload_n hx hb dL_law_444 rfl (lv_at hl 3 rfl) ?_
  refine lv_iconst (v := 1) hx hb dL_law_445 (by decide) ?_
  refine lv_iadd hx hb dL_law_446 ?_
  refine va_sld hx hb hX hbl hbA hS (sx_in (j := 1) hi hL (by decide)) dL_law_447 ?_
  refine vp_callSi (run_vP (As := [.int (xs (nI i + 1).toNatClampNeg)]) (rest := [.int r1]) C hK p2 d2 hN (c_X7_now (RE.hw RH) (RE.hh RH) _) (rX7_r hK p2) ⟨wd_4_21, wd_4_22, wd_4_23, wd_1_8, wd_4_24⟩ ⟨rfl, rfl⟩ hv_X7_now ⟨Nat.le_of_ble_eq_true rfl, Nat.le_of_ble_eq_true rfl⟩ rfl hl.1 rfl (Nat.le_of_ble_eq_true rfl) dL_law_448 ⟨Nat.le_of_ble_eq_true rfl, Nat.le_of_ble_eq_true rfl⟩) (fun r2 hr2 => ?_)
  have ok : r1 = r2 := by rw [hr1, hr2]; exact now_ok RH (xs (nI i + 1).toNatClampNeg)
  exact lv_icmp_eq (tgt := 810) hx hb dL_law_451 (by decide) (fun _ => kk _ _ _ _ _ _ _ _ _ _ _ _ _ _ _ _ _ _ RH hP hD hS) (fun q => absurd ok q)
set_option maxHeartbeats 4000000 in
set_option maxRecDepth 100000 in
theorem lc_water (C0 : LC p s m c b L xs D cI cZ cO A) (hL : L ≤ 384) (hi : i + 6 ≤ L) (RH : RE w r g tb V Hd tr mg st im ke se tx mt) (hP : va_P D vwCl (WW cI cO sk g tb V Hd tr ++ MW cI cZ mk mg st im ke se tx sh fa mt) H) (hD : va_D A (WW cI cO sk g tb V Hd tr ++ MW cI cZ mk mg st im ke se tx sh fa mt)) (hS : va_S A s.heap H locs) (hl : lv_has ls 4 [(0, .ref b), (1, .ref (sk 0)), (2, .ref (mk 0)), (3, .int (nI i))]) (kk : KK p l e s m below meth c b D cI cZ cO sk mk A Q ls) : W p l e room_1 s m #[Value.ref b] below meth c H locs 600000 7302250 Q (F0 m 456 ls []) := by
  obtain ⟨C, hK, hN, hX, hbl, hbA, hA⟩ := C0
  have hx := C.1
  have hb := C.2.1
  refine lv_aload_n hx hb dL_law_456 rfl (lv_at hl 1 rfl) ?_
  refine lv_aload_n hx hb dL_law_457 rfl (lv_at hl 0 rfl) ?_
  refine lv_iload_n hx hb dL_law_458 rfl (lv_at hl 3 rfl) ?_
  refine lv_iconst (v := 1) hx hb dL_law_459 (by decide) ?_
  refine lv_iadd hx hb dL_law_460 ?_
  refine va_sld hx hb hX hbl hbA hS (sx_in (j := 1) hi hL (by decide)) dL_law_461 ?_
  refine lv_aload_n hx hb dL_law_462 rfl (lv_at hl 0 rfl) ?_
  refine lv_iload_n hx hb dL_law_463 rfl (lv_at hl 3 rfl) ?_
  refine lv_iconst (v := 2) hx hb dL_law_464 (by decide) ?_
  refine lv_iadd hx hb dL_law_465 ?_
  refine va_sld hx hb hX hbl hbA hS (sx_in (j := 2) hi hL (by decide)) dL_law_466 ?_
  refine lv_aload_n hx hb dL_law_467 rfl (lv_at hl 0 rfl) ?_
  refine lv_iload_n hx hb dL_law_468 rfl (lv_at hl 3 rfl) ?_
  refine lv_iconst (v := 3) hx hb dL_law_469 (by decide) ?_
  refine lv_iadd hx hb dL_law_470 ?_
  refine va_sld hx hb hX hbl hbA hS (sx_in (j := 3) hi hL (by decide)) dL_law_471 ?_
  obtain ⟨p1, p2⟩ := tw_P hP
  obtain ⟨d1, d2, d3⟩ := tw_D hD
  refine vp_callSi (run_vP (As := [.int (xs (nI i + 1).toNatClampNeg), .int (xs (nI i + 2).toNatClampNeg), .int (xs (nI i + 3).toNatClampNeg)]) (rest := []) C hK p1 d1 hN (c_X6_water _) (rX6_r hK p1) ⟨wd_2_177, wd_2_178, wd_2_179, wd_1_1, wd_2_180⟩ ⟨rfl, rfl⟩ hv_X6_water ⟨Nat.le_of_ble_eq_true rfl, Nat.le_of_ble_eq_true rfl⟩ rfl hl.1 rfl (Nat.le_of_ble_eq_true rfl) dL_law_472 ⟨Nat.le_of_ble_eq_true rfl, Nat.le_of_ble_eq_true rfl⟩) (fun r1 hr1 => ?_)
  refine lv_aload_n hx hb dL_law_475 rfl (lv_at hl 2 rfl) ?_
  refine lv_aload_n hx hb dL_law_476 rfl (lv_at hl 0 rfl) ?_
  refine lv_iload_n hx hb dL_law_477 rfl (lv_at hl 3 rfl) ?_
  refine lv_iconst (v := 1) hx hb dL_law_478 (by decide) ?_
  refine lv_iadd hx hb dL_law_479 ?_
  refine va_sld hx hb hX hbl hbA hS (sx_in (j := 1) hi hL (by decide)) dL_law_480 ?_
  refine lv_aload_n hx hb dL_law_481 rfl (lv_at hl 0 rfl) ?_
  refine lv_iload_n hx hb dL_law_482 rfl (lv_at hl 3 rfl) ?_
  refine lv_iconst (v := 2) hx hb dL_law_483 (by decide) ?_
  refine lv_iadd hx hb dL_law_484 ?_
  refine va_sld hx hb hX hbl hbA hS (sx_in (j := 2) hi hL (by decide)) dL_law_485 ?_
  refine lv_aload_n hx hb dL_law_486 rfl (lv_at hl 0 rfl) ?_
  refine lv_iload_n hx hb dL_law_487 rfl (lv_at hl 3 rfl) ?_
  refine lv_iconst (v := 3) hx hb dL_law_488 (by decide) ?_
  refine lv_iadd hx hb dL_law_489 ?_
  refine va_sld hx hb hX hbl hbA hS (sx_in (j := 3) hi hL (by decide)) dL_law_490 ?_
  refine on_iR (W1 := fun (u : Nat → Int32) => MW cI cZ mk mg st im ke se tx sh u mt) (run_vQ (As := [.int (xs (nI i + 1).toNatClampNeg), .int (xs (nI i + 2).toNatClampNeg), .int (xs (nI i + 3).toNatClampNeg)]) (rest := [.int r1]) C hK p2 d2 hN (c_X7_water (RE.hw RH) (RE.hh RH) _) (rX7_r hK p2) ⟨wd_4_33, wd_4_34, wd_4_35, wd_1_8, wd_4_36⟩ ⟨rfl, rfl⟩ hv_X7_water ⟨Nat.le_of_ble_eq_true rfl, Nat.le_of_ble_eq_true rfl⟩ rfl hl.1 rfl (Nat.le_of_ble_eq_true rfl) dL_law_491 ⟨Nat.le_of_ble_eq_true rfl, Nat.le_of_ble_eq_true rfl⟩) hP hD hS hA (fun r2 v H locs hp2 hP hD hS => ?_)
  have ok : r1 = r2 := by
    have h := water_ok (fa := fa) RH (xs (nI i + 1).toNatClampNeg) (xs (nI i + 2).toNatClampNeg) (xs (nI i + 3).toNatClampNeg)
    rw [← hr1, ← hp2] at h
    exact h
  exact lv_icmp_eq (tgt := 810) hx hb dL_law_494 (by decide) (fun _ => kk _ _ _ _ _ _ _ _ _ _ _ _ _ _ _ _ _ _ RH hP hD hS) (fun q => absurd ok q)
set_option maxHeartbeats 4000000 in
set_option maxRecDepth 100000 in
theorem lc_help (C0 : LC p s m c b L xs D cI cZ cO A) (hL : L ≤ 384) (hi : i + 6 ≤ L) (RH : RE w r g tb V Hd tr mg st im ke se tx mt) (hP : va_P D vwCl (WW cI cO sk g tb V Hd tr ++ MW cI cZ mk mg st im ke se tx sh fa mt) H) (hD : va_D A (WW cI cO sk g tb V Hd tr ++ MW cI cZ mk mg st im ke se tx sh fa mt)) (hS : va_S A s.heap H locs) (hl : lv_has ls 4 [(0, .ref b), (1, .ref (sk 0)), (2, .ref (mk 0)), (3, .int (nI i))]) (kk : KK p l e s m below meth c b D cI cZ cO sk mk A Q ls) : W p l e room_1 s m #[Value.ref b] below meth c H locs 600000 7302250 Q (F0 m 499 ls []) := by
  obtain ⟨C, hK, hN, hX, hbl, hbA, hA⟩ := C0
  have hx := C.1
  have hb := C.2.1
  refine lv_aload_n hx hb dL_law_499 rfl (lv_at hl 1 rfl) ?_
  refine lv_aload_n hx hb dL_law_500 rfl (lv_at hl 0 rfl) ?_
  refine lv_iload_n hx hb dL_law_501 rfl (lv_at hl 3 rfl) ?_
  refine lv_iconst (v := 1) hx hb dL_law_502 (by decide) ?_
  refine lv_iadd hx hb dL_law_503 ?_
  refine va_sld hx hb hX hbl hbA hS (sx_in (j := 1) hi hL (by decide)) dL_law_504 ?_
  refine lv_aload_n hx hb dL_law_505 rfl (lv_at hl 0 rfl) ?_
  refine lv_iload_n hx hb dL_law_506 rfl (lv_at hl 3 rfl) ?_
  refine lv_iconst (v := 2) hx hb dL_law_507 (by decide) ?_
  refine lv_iadd hx hb dL_law_508 ?_
  refine va_sld hx hb hX hbl hbA hS (sx_in (j := 2) hi hL (by decide)) dL_law_509 ?_
  obtain ⟨p1, p2⟩ := tw_P hP
  obtain ⟨d1, d2, d3⟩ := tw_D hD
  refine vp_callSi (run_vP (As := [.int (xs (nI i + 1).toNatClampNeg), .int (xs (nI i + 2).toNatClampNeg)]) (rest := []) C hK p1 d1 hN (c_X6_help _) (rX6_r hK p1) ⟨wd_2_192, wd_2_193, wd_2_194, wd_1_1, wd_2_195⟩ ⟨rfl, rfl⟩ hv_X6_help ⟨Nat.le_of_ble_eq_true rfl, Nat.le_of_ble_eq_true rfl⟩ rfl hl.1 rfl (Nat.le_of_ble_eq_true rfl) dL_law_510 ⟨Nat.le_of_ble_eq_true rfl, Nat.le_of_ble_eq_true rfl⟩) (fun r1 hr1 => ?_)
  refine lv_aload_n hx hb dL_law_513 rfl (lv_at hl 2 rfl) ?_
  refine lv_aload_n hx hb dL_law_514 rfl (lv_at hl 0 rfl) ?_
  refine lv_iload_n hx hb dL_law_515 rfl (lv_at hl 3 rfl) ?_
  refine lv_iconst (v := 1) hx hb dL_law_516 (by decide) ?_
  refine lv_iadd hx hb dL_law_517 ?_
  refine va_sld hx hb hX hbl hbA hS (sx_in (j := 1) hi hL (by decide)) dL_law_518 ?_
  refine lv_aload_n hx hb dL_law_519 rfl (lv_at hl 0 rfl) ?_
  refine lv_iload_n hx hb dL_law_520 rfl (lv_at hl 3 rfl) ?_
  refine lv_iconst (v := 2) hx hb dL_law_521 (by decide) ?_
  refine lv_iadd hx hb dL_law_522 ?_
  refine va_sld hx hb hX hbl hbA hS (sx_in (j := 2) hi hL (by decide)) dL_law_523 ?_
  refine vp_callSi (run_vP (As := [.int (xs (nI i + 1).toNatClampNeg), .int (xs (nI i + 2).toNatClampNeg)]) (rest := [.int r1]) C hK p2 d2 hN (c_X7_help _) (rX7_r hK p2) ⟨wd_4_49, wd_4_50, wd_4_51, wd_1_8, wd_4_52⟩ ⟨rfl, rfl⟩ hv_X7_help ⟨Nat.le_of_ble_eq_true rfl, Nat.le_of_ble_eq_true rfl⟩ rfl hl.1 rfl (Nat.le_of_ble_eq_true rfl) dL_law_524 ⟨Nat.le_of_ble_eq_true rfl, Nat.le_of_ble_eq_true rfl⟩) (fun r2 hr2 => ?_)
  have ok : r1 = r2 := by rw [hr1, hr2]; exact help_ok RH (xs (nI i + 1).toNatClampNeg) (xs (nI i + 2).toNatClampNeg)
  exact lv_icmp_eq (tgt := 810) hx hb dL_law_527 (by decide) (fun _ => kk _ _ _ _ _ _ _ _ _ _ _ _ _ _ _ _ _ _ RH hP hD hS) (fun q => absurd ok q)
set_option maxHeartbeats 4000000 in
set_option maxRecDepth 100000 in
theorem lc_odds (C0 : LC p s m c b L xs D cI cZ cO A) (hL : L ≤ 384) (hi : i + 6 ≤ L) (RH : RE w r g tb V Hd tr mg st im ke se tx mt) (hP : va_P D vwCl (WW cI cO sk g tb V Hd tr ++ MW cI cZ mk mg st im ke se tx sh fa mt) H) (hD : va_D A (WW cI cO sk g tb V Hd tr ++ MW cI cZ mk mg st im ke se tx sh fa mt)) (hS : va_S A s.heap H locs) (hl : lv_has ls 4 [(0, .ref b), (1, .ref (sk 0)), (2, .ref (mk 0)), (3, .int (nI i))]) (kk : KK p l e s m below meth c b D cI cZ cO sk mk A Q ls) : W p l e room_1 s m #[Value.ref b] below meth c H locs 600000 7302250 Q (F0 m 532 ls []) := by
  obtain ⟨C, hK, hN, hX, hbl, hbA, hA⟩ := C0
  have hx := C.1
  have hb := C.2.1
  refine lv_aload_n hx hb dL_law_532 rfl (lv_at hl 1 rfl) ?_
  refine lv_aload_n hx hb dL_law_533 rfl (lv_at hl 0 rfl) ?_
  refine lv_iload_n hx hb dL_law_534 rfl (lv_at hl 3 rfl) ?_
  refine lv_iconst (v := 1) hx hb dL_law_535 (by decide) ?_
  refine lv_iadd hx hb dL_law_536 ?_
  refine va_sld hx hb hX hbl hbA hS (sx_in (j := 1) hi hL (by decide)) dL_law_537 ?_
  refine lv_aload_n hx hb dL_law_538 rfl (lv_at hl 0 rfl) ?_
  refine lv_iload_n hx hb dL_law_539 rfl (lv_at hl 3 rfl) ?_
  refine lv_iconst (v := 2) hx hb dL_law_540 (by decide) ?_
  refine lv_iadd hx hb dL_law_541 ?_
  refine va_sld hx hb hX hbl hbA hS (sx_in (j := 2) hi hL (by decide)) dL_law_542 ?_
  refine lv_aload_n hx hb dL_law_543 rfl (lv_at hl 0 rfl) ?_
  refine lv_iload_n hx hb dL_law_544 rfl (lv_at hl 3 rfl) ?_
  refine lv_iconst (v := 3) hx hb dL_law_545 (by decide) ?_
  refine lv_iadd hx hb dL_law_546 ?_
  refine va_sld hx hb hX hbl hbA hS (sx_in (j := 3) hi hL (by decide)) dL_law_547 ?_
  refine lv_aload_n hx hb dL_law_548 rfl (lv_at hl 0 rfl) ?_
  refine lv_iload_n hx hb dL_law_549 rfl (lv_at hl 3 rfl) ?_
  refine lv_iconst (v := 4) hx hb dL_law_550 (by decide) ?_
  refine lv_iadd hx hb dL_law_551 ?_
  refine va_sld hx hb hX hbl hbA hS (sx_in (j := 4) hi hL (by decide)) dL_law_552 ?_
  refine lv_aload_n hx hb dL_law_553 rfl (lv_at hl 0 rfl) ?_
  refine lv_iload_n hx hb dL_law_554 rfl (lv_at hl 3 rfl) ?_
  refine lv_iconst (v := 5) hx hb dL_law_555 (by decide) ?_
  refine lv_iadd hx hb dL_law_556 ?_
  refine va_sld hx hb hX hbl hbA hS (sx_in (j := 5) hi hL (by decide)) dL_law_557 ?_
  obtain ⟨p1, p2⟩ := tw_P hP
  obtain ⟨d1, d2, d3⟩ := tw_D hD
  refine vp_callSi (run_vP (As := [.int (xs (nI i + 1).toNatClampNeg), .int (xs (nI i + 2).toNatClampNeg), .int (xs (nI i + 3).toNatClampNeg), .int (xs (nI i + 4).toNatClampNeg), .int (xs (nI i + 5).toNatClampNeg)]) (rest := []) C hK p1 d1 hN (c_X6_odds _) (rX6_r hK p1) ⟨wd_2_205, wd_2_206, wd_2_207, wd_1_1, wd_2_208⟩ ⟨rfl, rfl⟩ hv_X6_odds ⟨Nat.le_of_ble_eq_true rfl, Nat.le_of_ble_eq_true rfl⟩ rfl hl.1 rfl (Nat.le_of_ble_eq_true rfl) dL_law_558 ⟨Nat.le_of_ble_eq_true rfl, Nat.le_of_ble_eq_true rfl⟩) (fun r1 hr1 => ?_)
  refine lv_aload_n hx hb dL_law_561 rfl (lv_at hl 2 rfl) ?_
  refine lv_aload_n hx hb dL_law_562 rfl (lv_at hl 0 rfl) ?_
  refine lv_iload_n hx hb dL_law_563 rfl (lv_at hl 3 rfl) ?_
  refine lv_iconst (v := 1) hx hb dL_law_564 (by decide) ?_
  refine lv_iadd hx hb dL_law_565 ?_
  refine va_sld hx hb hX hbl hbA hS (sx_in (j := 1) hi hL (by decide)) dL_law_566 ?_
  refine lv_aload_n hx hb dL_law_567 rfl (lv_at hl 0 rfl) ?_
  refine lv_iload_n hx hb dL_law_568 rfl (lv_at hl 3 rfl) ?_
  refine lv_iconst (v := 2) hx hb dL_law_569 (by decide) ?_
  refine lv_iadd hx hb dL_law_570 ?_
  refine va_sld hx hb hX hbl hbA hS (sx_in (j := 2) hi hL (by decide)) dL_law_571 ?_
  refine lv_aload_n hx hb dL_law_572 rfl (lv_at hl 0 rfl) ?_
  refine lv_iload_n hx hb dL_law_573 rfl (lv_at hl 3 rfl) ?_
  refine lv_iconst (v := 3) hx hb dL_law_574 (by decide) ?_
  refine lv_iadd hx hb dL_law_575 ?_
  refine va_sld hx hb hX hbl hbA hS (sx_in (j := 3) hi hL (by decide)) dL_law_576 ?_
  refine lv_aload_n hx hb dL_law_577 rfl (lv_at hl 0 rfl) ?_
  refine lv_iload_n hx hb dL_law_578 rfl (lv_at hl 3 rfl) ?_
  refine lv_iconst (v := 4) hx hb dL_law_579 (by decide) ?_
  refine lv_iadd hx hb dL_law_580 ?_
  refine va_sld hx hb hX hbl hbA hS (sx_in (j := 4) hi hL (by decide)) dL_law_581 ?_
  refine lv_aload_n hx hb dL_law_582 rfl (lv_at hl 0 rfl) ?_
  refine lv_iload_n hx hb dL_law_583 rfl (lv_at hl 3 rfl) ?_
  refine lv_iconst (v := 5) hx hb dL_law_584 (by decide) ?_
  refine lv_iadd hx hb dL_law_585 ?_
  refine va_sld hx hb hX hbl hbA hS (sx_in (j := 5) hi hL (by decide)) dL_law_586 ?_
  refine vp_callSi (run_vP (As := [.int (xs (nI i + 1).toNatClampNeg), .int (xs (nI i + 2).toNatClampNeg), .int (xs (nI i + 3).toNatClampNeg), .int (xs (nI i + 4).toNatClampNeg), .int (xs (nI i + 5).toNatClampNeg)]) (rest := [.int r1]) C hK p2 d2 hN (c_X7_odds _) (rX7_r hK p2) ⟨wd_4_53, wd_4_54, wd_4_55, wd_1_8, wd_4_56⟩ ⟨rfl, rfl⟩ hv_X7_odds ⟨Nat.le_of_ble_eq_true rfl, Nat.le_of_ble_eq_true rfl⟩ rfl hl.1 rfl (Nat.le_of_ble_eq_true rfl) dL_law_587 ⟨Nat.le_of_ble_eq_true rfl, Nat.le_of_ble_eq_true rfl⟩) (fun r2 hr2 => ?_)
  have ok : r1 = r2 := by rw [hr1, hr2]; exact odds_ok RH (xs (nI i + 1).toNatClampNeg) (xs (nI i + 2).toNatClampNeg) (xs (nI i + 3).toNatClampNeg) (xs (nI i + 4).toNatClampNeg) (xs (nI i + 5).toNatClampNeg)
  exact lv_icmp_eq (tgt := 810) hx hb dL_law_590 (by decide) (fun _ => kk _ _ _ _ _ _ _ _ _ _ _ _ _ _ _ _ _ _ RH hP hD hS) (fun q => absurd ok q)
set_option maxHeartbeats 4000000 in
set_option maxRecDepth 100000 in
theorem lc_saw (C0 : LC p s m c b L xs D cI cZ cO A) (hL : L ≤ 384) (hi : i + 6 ≤ L) (RH : RE w r g tb V Hd tr mg st im ke se tx mt) (hP : va_P D vwCl (WW cI cO sk g tb V Hd tr ++ MW cI cZ mk mg st im ke se tx sh fa mt) H) (hD : va_D A (WW cI cO sk g tb V Hd tr ++ MW cI cZ mk mg st im ke se tx sh fa mt)) (hS : va_S A s.heap H locs) (hl : lv_has ls 4 [(0, .ref b), (1, .ref (sk 0)), (2, .ref (mk 0)), (3, .int (nI i))]) (kk : KK p l e s m below meth c b D cI cZ cO sk mk A Q ls) : W p l e room_1 s m #[Value.ref b] below meth c H locs 600000 7302250 Q (F0 m 595 ls []) := by
  obtain ⟨C, hK, hN, hX, hbl, hbA, hA⟩ := C0
  have hx := C.1
  have hb := C.2.1
  refine lv_aload_n hx hb dL_law_595 rfl (lv_at hl 1 rfl) ?_
  refine lv_aload_n hx hb dL_law_596 rfl (lv_at hl 0 rfl) ?_
  refine lv_iload_n hx hb dL_law_597 rfl (lv_at hl 3 rfl) ?_
  refine lv_iconst (v := 1) hx hb dL_law_598 (by decide) ?_
  refine lv_iadd hx hb dL_law_599 ?_
  refine va_sld hx hb hX hbl hbA hS (sx_in (j := 1) hi hL (by decide)) dL_law_600 ?_
  refine lv_aload_n hx hb dL_law_601 rfl (lv_at hl 0 rfl) ?_
  refine lv_iload_n hx hb dL_law_602 rfl (lv_at hl 3 rfl) ?_
  refine lv_iconst (v := 2) hx hb dL_law_603 (by decide) ?_
  refine lv_iadd hx hb dL_law_604 ?_
  refine va_sld hx hb hX hbl hbA hS (sx_in (j := 2) hi hL (by decide)) dL_law_605 ?_
  refine lv_aload_n hx hb dL_law_606 rfl (lv_at hl 0 rfl) ?_
  refine lv_iload_n hx hb dL_law_607 rfl (lv_at hl 3 rfl) ?_
  refine lv_iconst (v := 3) hx hb dL_law_608 (by decide) ?_
  refine lv_iadd hx hb dL_law_609 ?_
  refine va_sld hx hb hX hbl hbA hS (sx_in (j := 3) hi hL (by decide)) dL_law_610 ?_
  refine lv_aload_n hx hb dL_law_611 rfl (lv_at hl 0 rfl) ?_
  refine lv_iload_n hx hb dL_law_612 rfl (lv_at hl 3 rfl) ?_
  refine lv_iconst (v := 4) hx hb dL_law_613 (by decide) ?_
  refine lv_iadd hx hb dL_law_614 ?_
  refine va_sld hx hb hX hbl hbA hS (sx_in (j := 4) hi hL (by decide)) dL_law_615 ?_
  obtain ⟨p1, p2⟩ := tw_P hP
  obtain ⟨d1, d2, d3⟩ := tw_D hD
  refine on_iL (W1 := fun (u : (Nat → Int32)) => WW cI cO sk u tb V Hd tr) (run_vQ (As := [.int (xs (nI i + 1).toNatClampNeg), .int (xs (nI i + 2).toNatClampNeg), .int (xs (nI i + 3).toNatClampNeg), .int (xs (nI i + 4).toNatClampNeg)]) (rest := []) C hK p1 d1 hN (c_X6_saw _) (rX6_r hK p1) ⟨wd_2_212, wd_2_213, wd_2_214, wd_1_1, wd_2_215⟩ ⟨rfl, rfl⟩ hv_X6_saw ⟨Nat.le_of_ble_eq_true rfl, Nat.le_of_ble_eq_true rfl⟩ rfl hl.1 rfl (Nat.le_of_ble_eq_true rfl) dL_law_616 ⟨Nat.le_of_ble_eq_true rfl, Nat.le_of_ble_eq_true rfl⟩) hP hD hS hA (fun r1 u H locs hp1 hP hD hS => ?_)
  obtain ⟨p1, p2⟩ := tw_P hP
  obtain ⟨d1, d2, d3⟩ := tw_D hD
  refine lv_aload_n hx hb dL_law_619 rfl (lv_at hl 2 rfl) ?_
  refine lv_aload_n hx hb dL_law_620 rfl (lv_at hl 0 rfl) ?_
  refine lv_iload_n hx hb dL_law_621 rfl (lv_at hl 3 rfl) ?_
  refine lv_iconst (v := 1) hx hb dL_law_622 (by decide) ?_
  refine lv_iadd hx hb dL_law_623 ?_
  refine va_sld hx hb hX hbl hbA hS (sx_in (j := 1) hi hL (by decide)) dL_law_624 ?_
  refine lv_aload_n hx hb dL_law_625 rfl (lv_at hl 0 rfl) ?_
  refine lv_iload_n hx hb dL_law_626 rfl (lv_at hl 3 rfl) ?_
  refine lv_iconst (v := 2) hx hb dL_law_627 (by decide) ?_
  refine lv_iadd hx hb dL_law_628 ?_
  refine va_sld hx hb hX hbl hbA hS (sx_in (j := 2) hi hL (by decide)) dL_law_629 ?_
  refine lv_aload_n hx hb dL_law_630 rfl (lv_at hl 0 rfl) ?_
  refine lv_iload_n hx hb dL_law_631 rfl (lv_at hl 3 rfl) ?_
  refine lv_iconst (v := 3) hx hb dL_law_632 (by decide) ?_
  refine lv_iadd hx hb dL_law_633 ?_
  refine va_sld hx hb hX hbl hbA hS (sx_in (j := 3) hi hL (by decide)) dL_law_634 ?_
  refine lv_aload_n hx hb dL_law_635 rfl (lv_at hl 0 rfl) ?_
  refine lv_iload_n hx hb dL_law_636 rfl (lv_at hl 3 rfl) ?_
  refine lv_iconst (v := 4) hx hb dL_law_637 (by decide) ?_
  refine lv_iadd hx hb dL_law_638 ?_
  refine va_sld hx hb hX hbl hbA hS (sx_in (j := 4) hi hL (by decide)) dL_law_639 ?_
  refine on_iR (W1 := fun (u : (Nat → Int32) × (Nat → Int32)) => MW cI cZ mk u.1 st im ke u.2 tx sh fa mt) (run_vQ (As := [.int (xs (nI i + 1).toNatClampNeg), .int (xs (nI i + 2).toNatClampNeg), .int (xs (nI i + 3).toNatClampNeg), .int (xs (nI i + 4).toNatClampNeg)]) (rest := [.int r1]) C hK p2 d2 hN (c_X7_saw (RE.hsn RH) _) (rX7_r hK p2) ⟨wd_4_57, wd_4_58, wd_4_59, wd_1_8, wd_4_60⟩ ⟨rfl, rfl⟩ hv_X7_saw ⟨Nat.le_of_ble_eq_true rfl, Nat.le_of_ble_eq_true rfl⟩ rfl hl.1 rfl (Nat.le_of_ble_eq_true rfl) dL_law_640 ⟨Nat.le_of_ble_eq_true rfl, Nat.le_of_ble_eq_true rfl⟩) hP hD hS hA (fun r2 v H locs hp2 hP hD hS => ?_)
  have h := saw_ok RH (xs (nI i + 1).toNatClampNeg) (xs (nI i + 2).toNatClampNeg) (xs (nI i + 3).toNatClampNeg) (xs (nI i + 4).toNatClampNeg)
  rw [← hp1, ← hp2] at h
  obtain ⟨ok, RH2⟩ := h
  have ok : r1 = r2 := ok
  exact lv_icmp_eq (tgt := 810) hx hb dL_law_643 (by decide) (fun _ => kk _ _ _ _ _ _ _ _ _ _ _ _ _ _ _ _ _ _ RH2 hP hD hS) (fun q => absurd ok q)
end LW
