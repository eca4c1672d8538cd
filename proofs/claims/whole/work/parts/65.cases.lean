section LW
variable {p : Program} {l : Launch} {e : Env} {s : State} {m : MethodId} {below : List Frame} {meth : Method} {c : Code} {b : Addr} {D : va_G} {cI cZ cO : ClassId} {sk mk : Nat → Nat} {A : Nat → Prop} {Q : State → Prop} {ls : Array Slot} {H : Heap} {locs : List Loc} {w r : Nat} {g tb : Nat → Int32} {V Hd : Nat → Nat → Int32} {tr : Int64} {mg st im ke se tx sh fa : Nat → Int32} {mt : Int64} {L i : Nat} {xs : Nat → Int32}
set_option maxHeartbeats 4000000 in
set_option maxRecDepth 100000 in
theorem lc_type (C0 : LC p s m c b L xs D cI cZ cO A) (hL : L ≤ 384) (hi : i + 6 ≤ L) (RH : RE w r g tb V Hd tr mg st im ke se tx mt) (hP : va_P D vwCl (WW cI cO sk g tb V Hd tr ++ MW cI cZ mk mg st im ke se tx sh fa mt) H) (hD : va_D A (WW cI cO sk g tb V Hd tr ++ MW cI cZ mk mg st im ke se tx sh fa mt)) (hS : va_S A s.heap H locs) (hl : lv_has ls 4 [(0, .ref b), (1, .ref (sk 0)), (2, .ref (mk 0)), (3, .int (nI i))]) (kk : KK p l e s m below meth c b D cI cZ cO sk mk A Q ls) : W p l e room_1 s m #[Value.ref b] below meth c H locs 600000 7302250 Q (F0 m 140 ls []) := by
  obtain ⟨C, hK, hN, hX, hbl, hbA, hA⟩ := C0
  have hx := C.1
  have hb := C.2.1
  refine lv_aload_n hx hb dL_law_140 rfl (lv_at hl 1 rfl) ?_
  refine lv_aload_n hx hb dL_law_141 rfl (lv_at hl 0 rfl) ?_
  refine lv_iload_n hx hb dL_law_142 rfl (lv_at hl 3 rfl) ?_
  refine lv_iconst (v := 1) hx hb dL_law_143 (by decide) ?_
  refine lv_iadd hx hb dL_law_144 ?_
  refine va_sld hx hb hX hbl hbA hS (sx_in (j := 1) hi hL (by decide)) dL_law_145 ?_
  obtain ⟨p1, p2⟩ := tw_P hP
  obtain ⟨d1, d2, d3⟩ := tw_D hD
  refine on_iL (W1 := fun (u : (Nat → Int32) × (Nat → Int32)) => WW cI cO sk u.1 u.2 V Hd tr) (run_vQ (As := [.int (xs (nI i + 1).toNatClampNeg)]) (rest := []) C hK p1 d1 hN (c_X6_type _) (rX6_r hK p1) ⟨wd_1_184, wd_1_185, wd_1_186, wd_1_1, wd_1_187⟩ ⟨rfl, rfl⟩ hv_X6_type ⟨Nat.le_of_ble_eq_true rfl, Nat.le_of_ble_eq_true rfl⟩ rfl hl.1 rfl (Nat.le_of_ble_eq_true rfl) dL_law_146 ⟨Nat.le_of_ble_eq_true rfl, Nat.le_of_ble_eq_true rfl⟩) hP hD hS hA (fun r1 u H locs hp1 hP hD hS => ?_)
  obtain ⟨p1, p2⟩ := tw_P hP
  obtain ⟨d1, d2, d3⟩ := tw_D hD
  refine lv_aload_n hx hb dL_law_149 rfl (lv_at hl 2 rfl) ?_
  refine lv_aload_n hx hb dL_law_150 rfl (lv_at hl 0 rfl) ?_
  refine lv_iload_n hx hb dL_law_151 rfl (lv_at hl 3 rfl) ?_
  refine lv_iconst (v := 1) hx hb dL_law_152 (by decide) ?_
  refine lv_iadd hx hb dL_law_153 ?_
  refine va_sld hx hb hX hbl hbA hS (sx_in (j := 1) hi hL (by decide)) dL_law_154 ?_
  refine on_iR (W1 := fun (u : (Nat → Int32) × (Nat → Int32)) => MW cI cZ mk u.1 st im ke se u.2 sh fa mt) (run_vQ (As := [.int (xs (nI i + 1).toNatClampNeg)]) (rest := [.int r1]) C hK p2 d2 hN (c_X7_type (RE.htx RH) _) (rX7_r hK p2) ⟨wd_3_143, wd_3_144, wd_3_145, wd_1_8, wd_3_146⟩ ⟨rfl, rfl⟩ hv_X7_type ⟨Nat.le_of_ble_eq_true rfl, Nat.le_of_ble_eq_true rfl⟩ rfl hl.1 rfl (Nat.le_of_ble_eq_true rfl) dL_law_155 ⟨Nat.le_of_ble_eq_true rfl, Nat.le_of_ble_eq_true rfl⟩) hP hD hS hA (fun r2 v H locs hp2 hP hD hS => ?_)
  have h := type_ok RH (xs (nI i + 1).toNatClampNeg)
  rw [← hp1, ← hp2] at h
  obtain ⟨ok, RH2⟩ := h
  have ok : r1 = r2 := ok
  exact lv_icmp_eq (tgt := 810) hx hb dL_law_158 (by decide) (fun _ => kk _ _ _ _ _ _ _ _ _ _ _ _ _ _ _ _ _ _ RH2 hP hD hS) (fun q => absurd ok q)
set_option maxHeartbeats 4000000 in
set_option maxRecDepth 100000 in
theorem lc_clear (C0 : LC p s m c b L xs D cI cZ cO A) (hL : L ≤ 384) (hi : i + 6 ≤ L) (RH : RE w r g tb V Hd tr mg st im ke se tx mt) (hP : va_P D vwCl (WW cI cO sk g tb V Hd tr ++ MW cI cZ mk mg st im ke se tx sh fa mt) H) (hD : va_D A (WW cI cO sk g tb V Hd tr ++ MW cI cZ mk mg st im ke se tx sh fa mt)) (hS : va_S A s.heap H locs) (hl : lv_has ls 4 [(0, .ref b), (1, .ref (sk 0)), (2, .ref (mk 0)), (3, .int (nI i))]) (kk : KK p l e s m below meth c b D cI cZ cO sk mk A Q ls) : W p l e room_1 s m #[Value.ref b] below meth c H locs 600000 7302250 Q (F0 m 163 ls []) := by
  obtain ⟨C, hK, hN, hX, hbl, hbA, hA⟩ := C0
  have hx := C.1
  have hb := C.2.1
  refine lv_aload_n hx hb dL_law_163 rfl (lv_at hl 1 rfl) ?_
  obtain ⟨p1, p2⟩ := tw_P hP
  obtain ⟨d1, d2, d3⟩ := tw_D hD
  refine on_iL (W1 := fun (u : (Nat → Int32)) => WW cI cO sk u tb V Hd tr) (run_vQ (As := []) (rest := []) C hK p1 d1 hN (c_X6_clear _) (rX6_r hK p1) ⟨wd_1_195, wd_1_196, wd_1_197, wd_1_1, wd_1_198⟩ ⟨rfl, rfl⟩ hv_X6_clear ⟨Nat.le_of_ble_eq_true rfl, Nat.le_of_ble_eq_true rfl⟩ rfl hl.1 rfl (Nat.le_of_ble_eq_true rfl) dL_law_164 ⟨Nat.le_of_ble_eq_true rfl, Nat.le_of_ble_eq_true rfl⟩) hP hD hS hA (fun r1 u H locs hp1 hP hD hS => ?_)
  obtain ⟨p1, p2⟩ := tw_P hP
  obtain ⟨d1, d2, d3⟩ := tw_D hD
  refine lv_aload_n hx hb dL_law_167 rfl (lv_at hl 2 rfl) ?_
  refine on_iR (W1 := fun (u : Nat → Int32) => MW cI cZ mk u st im ke se tx sh fa mt) (run_vQ (As := []) (rest := [.int r1]) C hK p2 d2 hN (c_X7_clear _) (rX7_r hK p2) ⟨wd_3_150, wd_3_151, wd_3_152, wd_1_8, wd_3_153⟩ ⟨rfl, rfl⟩ hv_X7_clear ⟨Nat.le_of_ble_eq_true rfl, Nat.le_of_ble_eq_true rfl⟩ rfl hl.1 rfl (Nat.le_of_ble_eq_true rfl) dL_law_168 ⟨Nat.le_of_ble_eq_true rfl, Nat.le_of_ble_eq_true rfl⟩) hP hD hS hA (fun r2 v H locs hp2 hP hD hS => ?_)
  have h := clear_ok RH 
  rw [← hp1, ← hp2] at h
  obtain ⟨ok, RH2⟩ := h
  have ok : r1 = r2 := ok
  exact lv_icmp_eq (tgt := 810) hx hb dL_law_171 (by decide) (fun _ => kk _ _ _ _ _ _ _ _ _ _ _ _ _ _ _ _ _ _ RH2 hP hD hS) (fun q => absurd ok q)
set_option maxHeartbeats 4000000 in
set_option maxRecDepth 100000 in
theorem lc_strand (C0 : LC p s m c b L xs D cI cZ cO A) (hL : L ≤ 384) (hi : i + 6 ≤ L) (RH : RE w r g tb V Hd tr mg st im ke se tx mt) (hP : va_P D vwCl (WW cI cO sk g tb V Hd tr ++ MW cI cZ mk mg st im ke se tx sh fa mt) H) (hD : va_D A (WW cI cO sk g tb V Hd tr ++ MW cI cZ mk mg st im ke se tx sh fa mt)) (hS : va_S A s.heap H locs) (hl : lv_has ls 4 [(0, .ref b), (1, .ref (sk 0)), (2, .ref (mk 0)), (3, .int (nI i))]) (kk : KK p l e s m below meth c b D cI cZ cO sk mk A Q ls) : W p l e room_1 s m #[Value.ref b] below meth c H locs 600000 7302250 Q (F0 m 176 ls []) := by
  obtain ⟨C, hK, hN, hX, hbl, hbA, hA⟩ := C0
  have hx := C.1
  have hb := C.2.1
  obtain ⟨T, hT1, hT3, hT2⟩ := RE.hstr RH
  refine lv_aload_n hx hb dL_law_176 rfl (lv_at hl 1 rfl) ?_
  obtain ⟨p1, p2⟩ := tw_P hP
  obtain ⟨d1, d2, d3⟩ := tw_D hD
  refine on_iL (W1 := fun (u : (Nat → Int32) × (Nat → Nat → Int32) × (Nat → Nat → Int32)) => WW cI cO sk u.1 tb u.2.1 u.2.2 tr) (run_vQ (As := []) (rest := []) C hK p1 d1 hN (c_X6_strand _) (rX6_r hK p1) ⟨wd_1_199, wd_1_200, wd_1_201, wd_1_1, wd_1_202⟩ ⟨rfl, rfl⟩ hv_X6_strand ⟨Nat.le_of_ble_eq_true rfl, Nat.le_of_ble_eq_true rfl⟩ rfl hl.1 rfl (Nat.le_of_ble_eq_true rfl) dL_law_177 ⟨Nat.le_of_ble_eq_true rfl, Nat.le_of_ble_eq_true rfl⟩) hP hD hS hA (fun r1 u H locs hp1 hP hD hS => ?_)
  obtain ⟨p1, p2⟩ := tw_P hP
  obtain ⟨d1, d2, d3⟩ := tw_D hD
  refine lv_aload_n hx hb dL_law_180 rfl (lv_at hl 2 rfl) ?_
  refine on_iR (W1 := fun (u : (Nat → Int32) × (Nat → Int32) × (Nat → Int32) × (Nat → Int32)) => MW cI cZ mk u.1 u.2.1 im u.2.2.1 se tx u.2.2.2 fa mt) (run_vQ (As := []) (rest := [.int r1]) C hK p2 d2 hN (c_X7_strand hT1 hT2 hT3 _) (rX7_r hK p2) ⟨wd_3_154, wd_3_155, wd_3_156, wd_1_8, wd_3_157⟩ ⟨rfl, rfl⟩ hv_X7_strand ⟨Nat.le_of_ble_eq_true rfl, Nat.le_of_ble_eq_true rfl⟩ rfl hl.1 rfl (Nat.le_of_ble_eq_true rfl) dL_law_181 ⟨Nat.le_of_ble_eq_true rfl, Nat.le_of_ble_eq_true rfl⟩) hP hD hS hA (fun r2 v H locs hp2 hP hD hS => ?_)
  have h := strand_ok (sh := sh) RH
  rw [← hp1, ← hp2] at h
  obtain ⟨ok, w', r', RH2⟩ := h
  have ok : r1 = r2 := ok
  exact lv_icmp_eq (tgt := 810) hx hb dL_law_184 (by decide) (fun _ => kk _ _ _ _ _ _ _ _ _ _ _ _ _ _ _ _ _ _ RH2 hP hD hS) (fun q => absurd ok q)
set_option maxHeartbeats 4000000 in
set_option maxRecDepth 100000 in
theorem lc_cell (C0 : LC p s m c b L xs D cI cZ cO A) (hL : L ≤ 384) (hi : i + 6 ≤ L) (RH : RE w r g tb V Hd tr mg st im ke se tx mt) (hP : va_P D vwCl (WW cI cO sk g tb V Hd tr ++ MW cI cZ mk mg st im ke se tx sh fa mt) H) (hD : va_D A (WW cI cO sk g tb V Hd tr ++ MW cI cZ mk mg st im ke se tx sh fa mt)) (hS : va_S A s.heap H locs) (hl : lv_has ls 4 [(0, .ref b), (1, .ref (sk 0)), (2, .ref (mk 0)), (3, .int (nI i))]) (kk : KK p l e s m below meth c b D cI cZ cO sk mk A Q ls) : W p l e room_1 s m #[Value.ref b] below meth c H locs 600000 7302250 Q (F0 m 189 ls []) := by
  obtain ⟨C, hK, hN, hX, hbl, hbA, hA⟩ := C0
  have hx := C.1
  have hb := C.2.1
  refine lv_aload_n hx hb dL_law_189 rfl (lv_at hl 1 rfl) ?_
  refine lv_aload_n hx hb dL_law_190 rfl (lv_at hl 0 rfl) ?_
  refine lv_iload_n hx hb dL_law_191 rfl (lv_at hl 3 rfl) ?_
  refine lv_iconst (v := 1) hx hb dL_law_192 (by decide) ?_
  refine lv_iadd hx hb dL_law_193 ?_
  refine va_sld hx hb hX hbl hbA hS (sx_in (j := 1) hi hL (by decide)) dL_law_194 ?_
  refine lv_aload_n hx hb dL_law_195 rfl (lv_at hl 0 rfl) ?_
  refine lv_iload_n hx hb dL_law_196 rfl (lv_at hl 3 rfl) ?_
  refine lv_iconst (v := 2) hx hb dL_law_197 (by decide) ?_
  refine lv_iadd hx hb dL_law_198 ?_
  refine va_sld hx hb hX hbl hbA hS (sx_in (j := 2) hi hL (by decide)) dL_law_199 ?_
  refine lv_aload_n hx hb dL_law_200 rfl (lv_at hl 0 rfl) ?_
  refine lv_iload_n hx hb dL_law_201 rfl (lv_at hl 3 rfl) ?_
  refine lv_iconst (v := 3) hx hb dL_law_202 (by decide) ?_
  refine lv_iadd hx hb dL_law_203 ?_
  refine va_sld hx hb hX hbl hbA hS (sx_in (j := 3) hi hL (by decide)) dL_law_204 ?_
  obtain ⟨p1, p2⟩ := tw_P hP
  obtain ⟨d1, d2, d3⟩ := tw_D hD
  refine vp_callSi (run_vP (As := [.int (xs (nI i + 1).toNatClampNeg), .int (xs (nI i + 2).toNatClampNeg), .int (xs (nI i + 3).toNatClampNeg)]) (rest := []) C hK p1 d1 hN (c_X6_cell _) (rX6_r hK p1) ⟨wd_2_41, wd_2_42, wd_2_43, wd_1_1, wd_2_44⟩ ⟨rfl, rfl⟩ hv_X6_cell ⟨Nat.le_of_ble_eq_true rfl, Nat.le_of_ble_eq_true rfl⟩ rfl hl.1 rfl (Nat.le_of_ble_eq_true rfl) dL_law_205 ⟨Nat.le_of_ble_eq_true rfl, Nat.le_of_ble_eq_true rfl⟩) (fun r1 hr1 => ?_)
  refine lv_aload_n hx hb dL_law_208 rfl (lv_at hl 2 rfl) ?_
  refine lv_aload_n hx hb dL_law_209 rfl (lv_at hl 0 rfl) ?_
  refine lv_iload_n hx hb dL_law_210 rfl (lv_at hl 3 rfl) ?_
  refine lv_iconst (v := 1) hx hb dL_law_211 (by decide) ?_
  refine lv_iadd hx hb dL_law_212 ?_
  refine va_sld hx hb hX hbl hbA hS (sx_in (j := 1) hi hL (by decide)) dL_law_213 ?_
  refine lv_aload_n hx hb dL_law_214 rfl (lv_at hl 0 rfl) ?_
  refine lv_iload_n hx hb dL_law_215 rfl (lv_at hl 3 rfl) ?_
  refine lv_iconst (v := 2) hx hb dL_law_216 (by decide) ?_
  refine lv_iadd hx hb dL_law_217 ?_
  refine va_sld hx hb hX hbl hbA hS (sx_in (j := 2) hi hL (by decide)) dL_law_218 ?_
  refine lv_aload_n hx hb dL_law_219 rfl (lv_at hl 0 rfl) ?_
  refine lv_iload_n hx hb dL_law_220 rfl (lv_at hl 3 rfl) ?_
  refine lv_iconst (v := 3) hx hb dL_law_221 (by decide) ?_
  refine lv_iadd hx hb dL_law_222 ?_
  refine va_sld hx hb hX hbl hbA hS (sx_in (j := 3) hi hL (by decide)) dL_law_223 ?_
  refine vp_callSi (run_vP (As := [.int (xs (nI i + 1).toNatClampNeg), .int (xs (nI i + 2).toNatClampNeg), .int (xs (nI i + 3).toNatClampNeg)]) (rest := [.int r1]) C hK p2 d2 hN (c_X7_cell (RE.hw RH) (RE.hh RH) _) (rX7_r hK p2) ⟨wd_3_191, wd_3_192, wd_3_193, wd_1_8, wd_3_194⟩ ⟨rfl, rfl⟩ hv_X7_cell ⟨Nat.le_of_ble_eq_true rfl, Nat.le_of_ble_eq_true rfl⟩ rfl hl.1 rfl (Nat.le_of_ble_eq_true rfl) dL_law_224 ⟨Nat.le_of_ble_eq_true rfl, Nat.le_of_ble_eq_true rfl⟩) (fun r2 hr2 => ?_)
  have ok : r1 = r2 := by rw [hr1, hr2]; exact cell_ok RH (xs (nI i + 1).toNatClampNeg) (xs (nI i + 2).toNatClampNeg) (xs (nI i + 3).toNatClampNeg)
  exact lv_icmp_eq (tgt := 810) hx hb dL_law_227 (by decide) (fun _ => kk _ _ _ _ _ _ _ _ _ _ _ _ _ _ _ _ _ _ RH hP hD hS) (fun q => absurd ok q)
set_option maxHeartbeats 4000000 in
set_option maxRecDepth 100000 in
theorem lc_family (C0 : LC p s m c b L xs D cI cZ cO A) (hL : L ≤ 384) (hi : i + 6 ≤ L) (RH : RE w r g tb V Hd tr mg st im ke se tx mt) (hP : va_P D vwCl (WW cI cO sk g tb V Hd tr ++ MW cI cZ mk mg st im ke se tx sh fa mt) H) (hD : va_D A (WW cI cO sk g tb V Hd tr ++ MW cI cZ mk mg st im ke se tx sh fa mt)) (hS : va_S A s.heap H locs) (hl : lv_has ls 4 [(0, .ref b), (1, .ref (sk 0)), (2, .ref (mk 0)), (3, .int (nI i))]) (kk : KK p l e s m below meth c b D cI cZ cO sk mk A Q ls) : W p l e room_1 s m #[Value.ref b] below meth c H locs 600000 7302250 Q (F0 m 232 ls []) := by
  obtain ⟨C, hK, hN, hX, hbl, hbA, hA⟩ := C0
  have hx := C.1
  have hb := C.2.1
  refine lv_aload_n hx hb dL_law_232 rfl (lv_at hl 1 rfl) ?_
  refine lv_aload_n hx hb dL_law_233 rfl (lv_at hl 0 rfl) ?_
  refine lv_iload_n hx hb dL_law_234 rfl (lv_at hl 3 rfl) ?_
  refine lv_iconst (v := 1) hx hb dL_law_235 (by decide) ?_
  refine lv_iadd hx hb dL_law_236 ?_
  refine va_sld hx hb hX hbl hbA hS (sx_in (j := 1) hi hL (by decide)) dL_law_237 ?_
  refine lv_aload_n hx hb dL_law_238 rfl (lv_at hl 0 rfl) ?_
  refine lv_iload_n hx hb dL_law_239 rfl (lv_at hl 3 rfl) ?_
  refine lv_iconst (v := 2) hx hb dL_law_240 (by decide) ?_
  refine lv_iadd hx hb dL_law_241 ?_
  refine va_sld hx hb hX hbl hbA hS (sx_in (j := 2) hi hL (by decide)) dL_law_242 ?_
  obtain ⟨p1, p2⟩ := tw_P hP
  obtain ⟨d1, d2, d3⟩ := tw_D hD
  refine vp_callSi (run_vP (As := [.int (xs (nI i + 1).toNatClampNeg), .int (xs (nI i + 2).toNatClampNeg)]) (rest := []) C hK p1 d1 hN (c_X6_family _) (rX6_r hK p1) ⟨wd_2_87, wd_2_88, wd_2_89, wd_1_1, wd_2_90⟩ ⟨rfl, rfl⟩ hv_X6_family ⟨Nat.le_of_ble_eq_true rfl, Nat.le_of_ble_eq_true rfl⟩ rfl hl.1 rfl (Nat.le_of_ble_eq_true rfl) dL_law_243 ⟨Nat.le_of_ble_eq_true rfl, Nat.le_of_ble_eq_true rfl⟩) (fun r1 hr1 => ?_)
  refine lv_aload_n hx hb dL_law_246 rfl (lv_at hl 2 rfl) ?_
  refine lv_aload_n hx hb dL_law_247 rfl (lv_at hl 0 rfl) ?_
  refine lv_iload_n hx hb dL_law_248 rfl (lv_at hl 3 rfl) ?_
  refine lv_iconst (v := 1) hx hb dL_law_249 (by decide) ?_
  refine lv_iadd hx hb dL_law_250 ?_
  refine va_sld hx hb hX hbl hbA hS (sx_in (j := 1) hi hL (by decide)) dL_law_251 ?_
  refine lv_aload_n hx hb dL_law_252 rfl (lv_at hl 0 rfl) ?_
  refine lv_iload_n hx hb dL_law_253 rfl (lv_at hl 3 rfl) ?_
  refine lv_iconst (v := 2) hx hb dL_law_254 (by decide) ?_
  refine lv_iadd hx hb dL_law_255 ?_
  refine va_sld hx hb hX hbl hbA hS (sx_in (j := 2) hi hL (by decide)) dL_law_256 ?_
  refine vp_callSi (run_vP (As := [.int (xs (nI i + 1).toNatClampNeg), .int (xs (nI i + 2).toNatClampNeg)]) (rest := [.int r1]) C hK p2 d2 hN (c_X7_family _) (rX7_r hK p2) ⟨wd_3_211, wd_3_212, wd_3_213, wd_1_8, wd_3_214⟩ ⟨rfl, rfl⟩ hv_X7_family ⟨Nat.le_of_ble_eq_true rfl, Nat.le_of_ble_eq_true rfl⟩ rfl hl.1 rfl (Nat.le_of_ble_eq_true rfl) dL_law_257 ⟨Nat.le_of_ble_eq_true rfl, Nat.le_of_ble_eq_true rfl⟩) (fun r2 hr2 => ?_)
  have ok : r1 = r2 := by rw [hr1, hr2]; exact family_ok RH (xs (nI i + 1).toNatClampNeg) (xs (nI i + 2).toNatClampNeg)
  exact lv_icmp_eq (tgt := 810) hx hb dL_law_260 (by decide) (fun _ => kk _ _ _ _ _ _ _ _ _ _ _ _ _ _ _ _ _ _ RH hP hD hS) (fun q => absurd ok q)
set_option maxHeartbeats 4000000 in
set_option maxRecDepth 100000 in
theorem lc_takes (C0 : LC p s m c b L xs D cI cZ cO A) (hL : L ≤ 384) (hi : i + 6 ≤ L) (RH : RE w r g tb V Hd tr mg st im ke se tx mt) (hP : va_P D vwCl (WW cI cO sk g tb V Hd tr ++ MW cI cZ mk mg st im ke se tx sh fa mt) H) (hD : va_D A (WW cI cO sk g tb V Hd tr ++ MW cI cZ mk mg st im ke se tx sh fa mt)) (hS : va_S A s.heap H locs) (hl : lv_has ls 4 [(0, .ref b), (1, .ref (sk 0)), (2, .ref (mk 0)), (3, .int (nI i))]) (kk : KK p l e s m below meth c b D cI cZ cO sk mk A Q ls) : W p l e room_1 s m #[Value.ref b] below meth c H locs 600000 7302250 Q (F0 m 265 ls []) := by
  obtain ⟨C, hK, hN, hX, hbl, hbA, hA⟩ := C0
  have hx := C.1
  have hb := C.2.1
  refine lv_aload_n hx hb dL_law_265 rfl (lv_at hl 1 rfl) ?_
  refine lv_aload_n hx hb dL_law_266 rfl (lv_at hl 0 rfl) ?_
  refine lv_iload_n hx hb dL_law_267 rfl (lv_at hl 3 rfl) ?_
  refine lv_iconst (v := 1) hx hb dL_law_268 (by decide) ?_
  refine lv_iadd hx hb dL_law_269 ?_
  refine va_sld hx hb hX hbl hbA hS (sx_in (j := 1) hi hL (by decide)) dL_law_270 ?_
  refine lv_aload_n hx hb dL_law_271 rfl (lv_at hl 0 rfl) ?_
  refine lv_iload_n hx hb dL_law_272 rfl (lv_at hl 3 rfl) ?_
  refine lv_iconst (v := 2) hx hb dL_law_273 (by decide) ?_
  refine lv_iadd hx hb dL_law_274 ?_
  refine va_sld hx hb hX hbl hbA hS (sx_in (j := 2) hi hL (by decide)) dL_law_275 ?_
  refine lv_aload_n hx hb dL_law_276 rfl (lv_at hl 0 rfl) ?_
  refine lv_iload_n hx hb dL_law_277 rfl (lv_at hl 3 rfl) ?_
  refine lv_iconst (v := 3) hx hb dL_law_278 (by decide) ?_
  refine lv_iadd hx hb dL_law_279 ?_
  refine va_sld hx hb hX hbl hbA hS (sx_in (j := 3) hi hL (by decide)) dL_law_280 ?_
  obtain ⟨p1, p2⟩ := tw_P hP
  obtain ⟨d1, d2, d3⟩ := tw_D hD
  refine on_iL (W1 := fun (u : (Nat → Int32) × (Nat → Nat → Int32) × (Nat → Nat → Int32)) => WW cI cO sk u.1 tb u.2.1 u.2.2 tr) (run_vQ (As := [.int (xs (nI i + 1).toNatClampNeg), .int (xs (nI i + 2).toNatClampNeg), .int (xs (nI i + 3).toNatClampNeg)]) (rest := []) C hK p1 d1 hN (c_X6_takes (RE.hu RH) _) (rX6_r hK p1) ⟨wd_2_113, wd_2_114, wd_2_115, wd_1_1, wd_2_116⟩ ⟨rfl, rfl⟩ hv_X6_takes ⟨Nat.le_of_ble_eq_true rfl, Nat.le_of_ble_eq_true rfl⟩ rfl hl.1 rfl (Nat.le_of_ble_eq_true rfl) dL_law_281 ⟨Nat.le_of_ble_eq_true rfl, Nat.le_of_ble_eq_true rfl⟩) hP hD hS hA (fun r1 u H locs hp1 hP hD hS => ?_)
  obtain ⟨p1, p2⟩ := tw_P hP
  obtain ⟨d1, d2, d3⟩ := tw_D hD
  refine lv_aload_n hx hb dL_law_284 rfl (lv_at hl 2 rfl) ?_
  refine lv_aload_n hx hb dL_law_285 rfl (lv_at hl 0 rfl) ?_
  refine lv_iload_n hx hb dL_law_286 rfl (lv_at hl 3 rfl) ?_
  refine lv_iconst (v := 1) hx hb dL_law_287 (by decide) ?_
  refine lv_iadd hx hb dL_law_288 ?_
  refine va_sld hx hb hX hbl hbA hS (sx_in (j := 1) hi hL (by decide)) dL_law_289 ?_
  refine lv_aload_n hx hb dL_law_290 rfl (lv_at hl 0 rfl) ?_
  refine lv_iload_n hx hb dL_law_291 rfl (lv_at hl 3 rfl) ?_
  refine lv_iconst (v := 2) hx hb dL_law_292 (by decide) ?_
  refine lv_iadd hx hb dL_law_293 ?_
  refine va_sld hx hb hX hbl hbA hS (sx_in (j := 2) hi hL (by decide)) dL_law_294 ?_
  refine lv_aload_n hx hb dL_law_295 rfl (lv_at hl 0 rfl) ?_
  refine lv_iload_n hx hb dL_law_296 rfl (lv_at hl 3 rfl) ?_
  refine lv_iconst (v := 3) hx hb dL_law_297 (by decide) ?_
  refine lv_iadd hx hb dL_law_298 ?_
  refine va_sld hx hb hX hbl hbA hS (sx_in (j := 3) hi hL (by decide)) dL_law_299 ?_
  refine on_iR (W1 := fun (u : Nat → Int32) => MW cI cZ mk mg u im ke se tx sh fa mt) (run_vQ (As := [.int (xs (nI i + 1).toNatClampNeg), .int (xs (nI i + 2).toNatClampNeg), .int (xs (nI i + 3).toNatClampNeg)]) (rest := [.int r1]) C hK p2 d2 hN (c_X7_takes (RE.hw RH) (RE.hh RH) (RE.hsu RH) _) (rX7_r hK p2) ⟨wd_3_233, wd_3_234, wd_3_235, wd_1_8, wd_3_236⟩ ⟨rfl, rfl⟩ hv_X7_takes ⟨Nat.le_of_ble_eq_true rfl, Nat.le_of_ble_eq_true rfl⟩ rfl hl.1 rfl (Nat.le_of_ble_eq_true rfl) dL_law_300 ⟨Nat.le_of_ble_eq_true rfl, Nat.le_of_ble_eq_true rfl⟩) hP hD hS hA (fun r2 v H locs hp2 hP hD hS => ?_)
  have h := takes_ok RH (xs (nI i + 1).toNatClampNeg) (xs (nI i + 2).toNatClampNeg) (xs (nI i + 3).toNatClampNeg)
  rw [← hp1, ← hp2] at h
  obtain ⟨ok, RH2⟩ := h
  have ok : r1 = r2 := ok
  exact lv_icmp_eq (tgt := 810) hx hb dL_law_303 (by decide) (fun _ => kk _ _ _ _ _ _ _ _ _ _ _ _ _ _ _ _ _ _ RH2 hP hD hS) (fun q => absurd ok q)
set_option maxHeartbeats 4000000 in
set_option maxRecDepth 100000 in
theorem lc_leaves (C0 : LC p s m c b L xs D cI cZ cO A) (hL : L ≤ 384) (hi : i + 6 ≤ L) (RH : RE w r g tb V Hd tr mg st im ke se tx mt) (hP : va_P D vwCl (WW cI cO sk g tb V Hd tr ++ MW cI cZ mk mg st im ke se tx sh fa mt) H) (hD : va_D A (WW cI cO sk g tb V Hd tr ++ MW cI cZ mk mg st im ke se tx sh fa mt)) (hS : va_S A s.heap H locs) (hl : lv_has ls 4 [(0, .ref b), (1, .ref (sk 0)), (2, .ref (mk 0)), (3, .int (nI i))]) (kk : KK p l e s m below meth c b D cI cZ cO sk mk A Q ls) : W p l e room_1 s m #[Value.ref b] below meth c H locs 600000 7302250 Q (F0 m 308 ls []) := by
  obtain ⟨C, hK, hN, hX, hbl, hbA, hA⟩ := C0
  have hx := C.1
  have hb := C.2.1
  refine lv_aload_n hx hb dL_law_308 rfl (lv_at hl 1 rfl) ?_
  refine lv_aload_n hx hb dL_law_309 rfl (lv_at hl 0 rfl) ?_
  refine lv_iload_n hx hb dL_law_310 rfl (lv_at hl 3 rfl) ?_
  refine lv_iconst (v := 1) hx hb dL_law_311 (by decide) ?_
  refine lv_iadd hx hb dL_law_312 ?_
  refine va_sld hx hb hX hbl hbA hS (sx_in (j := 1) hi hL (by decide)) dL_law_313 ?_
  refine lv_aload_n hx hb dL_law_314 rfl (lv_at hl 0 rfl) ?_
  refine lv_iload_n hx hb dL_law_315 rfl (lv_at hl 3 rfl) ?_
  refine lv_iconst (v := 2) hx hb dL_law_316 (by decide) ?_
  refine lv_iadd hx hb dL_law_317 ?_
  refine va_sld hx hb hX hbl hbA hS (sx_in (j := 2) hi hL (by decide)) dL_law_318 ?_
  obtain ⟨p1, p2⟩ := tw_P hP
  obtain ⟨d1, d2, d3⟩ := tw_D hD
  refine on_iL (W1 := fun (u : (Nat → Int32) × (Nat → Nat → Int32) × (Nat → Nat → Int32)) => WW cI cO sk u.1 tb u.2.1 u.2.2 tr) (run_vQ (As := [.int (xs (nI i + 1).toNatClampNeg), .int (xs (nI i + 2).toNatClampNeg)]) (rest := []) C hK p1 d1 hN (c_X6_leaves (RE.hu RH) _) (rX6_r hK p1) ⟨wd_2_135, wd_2_136, wd_2_137, wd_1_1, wd_2_138⟩ ⟨rfl, rfl⟩ hv_X6_leaves ⟨Nat.le_of_ble_eq_true rfl, Nat.le_of_ble_eq_true rfl⟩ rfl hl.1 rfl (Nat.le_of_ble_eq_true rfl) dL_law_319 ⟨Nat.le_of_ble_eq_true rfl, Nat.le_of_ble_eq_true rfl⟩) hP hD hS hA (fun r1 u H locs hp1 hP hD hS => ?_)
  obtain ⟨p1, p2⟩ := tw_P hP
  obtain ⟨d1, d2, d3⟩ := tw_D hD
  refine lv_aload_n hx hb dL_law_322 rfl (lv_at hl 2 rfl) ?_
  refine lv_aload_n hx hb dL_law_323 rfl (lv_at hl 0 rfl) ?_
  refine lv_iload_n hx hb dL_law_324 rfl (lv_at hl 3 rfl) ?_
  refine lv_iconst (v := 1) hx hb dL_law_325 (by decide) ?_
  refine lv_iadd hx hb dL_law_326 ?_
  refine va_sld hx hb hX hbl hbA hS (sx_in (j := 1) hi hL (by decide)) dL_law_327 ?_
  refine lv_aload_n hx hb dL_law_328 rfl (lv_at hl 0 rfl) ?_
  refine lv_iload_n hx hb dL_law_329 rfl (lv_at hl 3 rfl) ?_
  refine lv_iconst (v := 2) hx hb dL_law_330 (by decide) ?_
  refine lv_iadd hx hb dL_law_331 ?_
  refine va_sld hx hb hX hbl hbA hS (sx_in (j := 2) hi hL (by decide)) dL_law_332 ?_
  refine on_iR (W1 := fun (u : Nat → Int32) => MW cI cZ mk mg u im ke se tx sh fa mt) (run_vQ (As := [.int (xs (nI i + 1).toNatClampNeg), .int (xs (nI i + 2).toNatClampNeg)]) (rest := [.int r1]) C hK p2 d2 hN (c_X7_leaves (RE.hw RH) (RE.hh RH) (RE.hsu RH) _) (rX7_r hK p2) ⟨wd_4_1, wd_4_2, wd_4_3, wd_1_8, wd_4_4⟩ ⟨rfl, rfl⟩ hv_X7_leaves ⟨Nat.le_of_ble_eq_true rfl, Nat.le_of_ble_eq_true rfl⟩ rfl hl.1 rfl (Nat.le_of_ble_eq_true rfl) dL_law_333 ⟨Nat.le_of_ble_eq_true rfl, Nat.le_of_ble_eq_true rfl⟩) hP hD hS hA (fun r2 v H locs hp2 hP hD hS => ?_)
  have h := leaves_ok RH (xs (nI i + 1).toNatClampNeg) (xs (nI i + 2).toNatClampNeg)
  rw [← hp1, ← hp2] at h
  obtain ⟨ok, RH2⟩ := h
  have ok : r1 = r2 := ok
  exact lv_icmp_eq (tgt := 810) hx hb dL_law_336 (by decide) (fun _ => kk _ _ _ _ _ _ _ _ _ _ _ _ _ _ _ _ _ _ RH2 hP hD hS) (fun q => absurd ok q)
set_option maxHeartbeats 4000000 in
set_option maxRecDepth 100000 in
theorem lc_puts (C0 : LC p s m c b L xs D cI cZ cO A) (hL : L ≤ 384) (hi : i + 6 ≤ L) (RH : RE w r g tb V Hd tr mg st im ke se tx mt) (hP : va_P D vwCl (WW cI cO sk g tb V Hd tr ++ MW cI cZ mk mg st im ke se tx sh fa mt) H) (hD : va_D A (WW cI cO sk g tb V Hd tr ++ MW cI cZ mk mg st im ke se tx sh fa mt)) (hS : va_S A s.heap H locs) (hl : lv_has ls 4 [(0, .ref b), (1, .ref (sk 0)), (2, .ref (mk 0)), (3, .int (nI i))]) (kk : KK p l e s m below meth c b D cI cZ cO sk mk A Q ls) : W p l e room_1 s m #[Value.ref b] below meth c H locs 600000 7302250 Q (F0 m 341 ls []) := by
  obtain ⟨C, hK, hN, hX, hbl, hbA, hA⟩ := C0
  have hx := C.1
  have hb := C.2.1
  refine lv_aload_n hx hb dL_law_341 rfl (lv_at hl 1 rfl) ?_
  refine lv_aload_n hx hb dL_law_342 rfl (lv_at hl 0 rfl) ?_
  refine lv_iload_n hx hb dL_law_343 rfl (lv_at hl 3 rfl) ?_
  refine lv_iconst (v := 1) hx hb dL_law_344 (by decide) ?_
  refine lv_iadd hx hb dL_law_345 ?_
  refine va_sld hx hb hX hbl hbA hS (sx_in (j := 1) hi hL (by decide)) dL_law_346 ?_
  refine lv_aload_n hx hb dL_law_347 rfl (lv_at hl 0 rfl) ?_
  refine lv_iload_n hx hb dL_law_348 rfl (lv_at hl 3 rfl) ?_
  refine lv_iconst (v := 2) hx hb dL_law_349 (by decide) ?_
  refine lv_iadd hx hb dL_law_350 ?_
  refine va_sld hx hb hX hbl hbA hS (sx_in (j := 2) hi hL (by decide)) dL_law_351 ?_
  refine lv_aload_n hx hb dL_law_352 rfl (lv_at hl 0 rfl) ?_
  refine lv_iload_n hx hb dL_law_353 rfl (lv_at hl 3 rfl) ?_
  refine lv_iconst (v := 3) hx hb dL_law_354 (by decide) ?_
  refine lv_iadd hx hb dL_law_355 ?_
  refine va_sld hx hb hX hbl hbA hS (sx_in (j := 3) hi hL (by decide)) dL_law_356 ?_
  obtain ⟨p1, p2⟩ := tw_P hP
  obtain ⟨d1, d2, d3⟩ := tw_D hD
  refine on_iL (W1 := fun (u : (Nat → Int32) × (Nat → Nat → Int32) × (Nat → Nat → Int32)) => WW cI cO sk u.1 tb u.2.1 u.2.2 tr) (run_vQ (As := [.int (xs (nI i + 1).toNatClampNeg), .int (xs (nI i + 2).toNatClampNeg), .int (xs (nI i + 3).toNatClampNeg)]) (rest := []) C hK p1 d1 hN (c_X6_puts (RE.hu RH) _) (rX6_r hK p1) ⟨wd_2_140, wd_2_141, wd_2_142, wd_1_1, wd_2_143⟩ ⟨rfl, rfl⟩ hv_X6_puts ⟨Nat.le_of_ble_eq_true rfl, Nat.le_of_ble_eq_true rfl⟩ rfl hl.1 rfl (Nat.le_of_ble_eq_true rfl) dL_law_357 ⟨Nat.le_of_ble_eq_true rfl, Nat.le_of_ble_eq_true rfl⟩) hP hD hS hA (fun r1 u H locs hp1 hP hD hS => ?_)
  obtain ⟨p1, p2⟩ := tw_P hP
  obtain ⟨d1, d2, d3⟩ := tw_D hD
  refine lv_aload_n hx hb dL_law_360 rfl (lv_at hl 2 rfl) ?_
  refine lv_aload_n hx hb dL_law_361 rfl (lv_at hl 0 rfl) ?_
  refine lv_iload_n hx hb dL_law_362 rfl (lv_at hl 3 rfl) ?_
  refine lv_iconst (v := 1) hx hb dL_law_363 (by decide) ?_
  refine lv_iadd hx hb dL_law_364 ?_
  refine va_sld hx hb hX hbl hbA hS (sx_in (j := 1) hi hL (by decide)) dL_law_365 ?_
  refine lv_aload_n hx hb dL_law_366 rfl (lv_at hl 0 rfl) ?_
  refine lv_iload_n hx hb dL_law_367 rfl (lv_at hl 3 rfl) ?_
  refine lv_iconst (v := 2) hx hb dL_law_368 (by decide) ?_
  refine lv_iadd hx hb dL_law_369 ?_
  refine va_sld hx hb hX hbl hbA hS (sx_in (j := 2) hi hL (by decide)) dL_law_370 ?_
  refine lv_aload_n hx hb dL_law_371 rfl (lv_at hl 0 rfl) ?_
  refine lv_iload_n hx hb dL_law_372 rfl (lv_at hl 3 rfl) ?_
  refine lv_iconst (v := 3) hx hb dL_law_373 (by decide) ?_
  refine lv_iadd hx hb dL_law_374 ?_
  refine va_sld hx hb hX hbl hbA hS (sx_in (j := 3) hi hL (by decide)) dL_law_375 ?_
  refine on_iR (W1 := fun (u : Nat → Int32) => MW cI cZ mk mg u im ke se tx sh fa mt) (run_vQ (As := [.int (xs (nI i + 1).toNatClampNeg), .int (xs (nI i + 2).toNatClampNeg), .int (xs (nI i + 3).toNatClampNeg)]) (rest := [.int r1]) C hK p2 d2 hN (c_X7_puts (RE.hw RH) (RE.hh RH) (RE.hsu RH) _) (rX7_r hK p2) ⟨wd_4_5, wd_4_6, wd_4_7, wd_1_8, wd_4_8⟩ ⟨rfl, rfl⟩ hv_X7_puts ⟨Nat.le_of_ble_eq_true rfl, Nat.le_of_ble_eq_true rfl⟩ rfl hl.1 rfl (Nat.le_of_ble_eq_true rfl) dL_law_376 ⟨Nat.le_of_ble_eq_true rfl, Nat.le_of_ble_eq_true rfl⟩) hP hD hS hA (fun r2 v H locs hp2 hP hD hS => ?_)
  have h := puts_ok RH (xs (nI i + 1).toNatClampNeg) (xs (nI i + 2).toNatClampNeg) (xs (nI i + 3).toNatClampNeg)
  rw [← hp1, ← hp2] at h
  obtain ⟨ok, RH2⟩ := h
  have ok : r1 = r2 := ok
  exact lv_icmp_eq (tgt := 810) hx hb dL_law_379 (by decide) (fun _ => kk _ _ _ _ _ _ _ _ _ _ _ _ _ _ _ _ _ _ RH2 hP hD hS) (fun q => absurd ok q)
end LW
