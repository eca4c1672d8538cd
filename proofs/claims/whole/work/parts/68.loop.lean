/-! the law's loop -/
section LL
variable {p : Program} {l : Launch} {e : Env} {s : State} {m : MethodId} {below : List Frame} {meth : Method} {c : Code} {b : Addr} {D : va_G} {cI cZ cO : ClassId} {sk mk : Nat → Nat} {A : Nat → Prop} {Q : State → Prop} {L : Nat} {xs : Nat → Int32}
theorem gt_iff {i L : Nat} (hi : i ≤ L) (hL : L ≤ 384) : Int32.ofNat L - (6 : Int32) < nI i ↔ ¬ i + 6 ≤ L := by
  have e : Int32.ofNat L - (6 : Int32) = nI L - nI 6 := rfl
  rw [e, Int32.lt_iff_toInt_lt, pk_sub_toInt (by omega) (by omega), nI_toI (by omega)]
  omega
set_option maxHeartbeats 4000000 in
set_option maxRecDepth 100000 in
theorem law_loop (C0 : LC p s m c b L xs D cI cZ cO A) (hL : L ≤ 384) (hfin : ∀ (ls : Array Slot) (H : Heap) (locs : List Loc), va_S A s.heap H locs → W p l e room_1 s m #[Value.ref b] below meth c H locs 600000 7302250 Q (F0 m 816 ls [])) :
    ∀ (n i : Nat), i ≤ L → L + 1 ≤ i + 6 * n → ∀ (w r : Nat) (g tb : Nat → Int32) (V Hd : Nat → Nat → Int32) (tr : Int64) (mg st im ke se tx sh fa : Nat → Int32) (mt : Int64) (H : Heap) (locs : List Loc), RE w r g tb V Hd tr mg st im ke se tx mt → va_P D vwCl (WW cI cO sk g tb V Hd tr ++ MW cI cZ mk mg st im ke se tx sh fa mt) H → va_D A (WW cI cO sk g tb V Hd tr ++ MW cI cZ mk mg st im ke se tx sh fa mt) → va_S A s.heap H locs → ∀ (ls : Array Slot), lv_has ls 4 [(0, .ref b), (1, .ref (sk 0)), (2, .ref (mk 0)), (3, .int (nI i))] → W p l e room_1 s m #[Value.ref b] below meth c H locs 600000 7302250 Q (F0 m 18 ls []) := by
  intro n
  induction n with
  | zero =>
    intro i h1 h2
    exact absurd h2 (by omega)
  | succ n ih =>
    intro i hi hin w r g tb V Hd tr mg st im ke se tx sh fa mt H locs RH hP hD hS ls hl
    obtain ⟨C, hK, hN, hX, hbl, hbA, hA⟩ := id C0
    have hx := C.1
    have hb := C.2.1
    refine lv_iload_n hx hb dL_law_18 rfl (lv_at hl 3 rfl) ?_
    refine lv_aload_n hx hb dL_law_19 rfl (lv_at hl 0 rfl) ?_
    refine va_slen hx hb hX hbl hbA hS dL_law_20 ?_
    refine lv_bipush (v := 6) hx hb dL_law_21 (by decide) ?_
    refine lv_isub hx hb dL_law_23 ?_
    refine lv_icmp_gt (tgt := 816) hx hb dL_law_24 (by decide) (fun _ => hfin ls H locs hS) (fun q => ?_)
    have hle : i + 6 ≤ L := Classical.byContradiction fun z => q ((gt_iff hi hL).mpr z)
    have KF : KK p l e s m below meth c b D cI cZ cO sk mk A Q ls := by
      intro w r g tb V Hd tr mg st im ke se tx sh fa mt H locs RH hP hD hS
      refine lv_iinc (v := nI (i + 6)) (lv' := [(3, .int (nI (i + 6))), (0, .ref b), (1, .ref (sk 0)), (2, .ref (mk 0))]) hx hb dL_law_810 hl (k := 3) rfl (nI_add i 6) (by decide) rfl (fun ls hl => ?_)
      refine lv_goto (tgt := 18) hx hb dL_law_813 (by decide) ?_
      exact ih (i + 6) hle (by omega) w r g tb V Hd tr mg st im ke se tx sh fa mt H locs RH hP hD hS ls (lv_sub hl [1, 2, 3, 0] rfl)
    refine lv_aload_n hx hb dL_law_27 rfl (lv_at hl 0 rfl) ?_
    refine lv_iload_n hx hb dL_law_28 rfl (lv_at hl 3 rfl) ?_
    refine va_sld hx hb hX hbl hbA hS (vp_in_nI (by omega) (by omega)) dL_law_29 ?_
    refine lv_bipush (v := 31) hx hb dL_law_30 (by decide) ?_
    refine lv_iand hx hb dL_law_32 ?_
    obtain ⟨k, hk, ek⟩ := pk_andE (xs (nI i).toNatClampNeg) (m := 31) 5 rfl
    rw [ek]
    have hk : k < 32 := hk
    rcases (show k = 0 ∨ k = 1 ∨ k = 2 ∨ k = 3 ∨ k = 4 ∨ k = 5 ∨ k = 6 ∨ k = 7 ∨ k = 8 ∨ k = 9 ∨ k = 10 ∨ k = 11 ∨ k = 12 ∨ k = 13 ∨ k = 14 ∨ k = 15 ∨ k = 16 ∨ k = 17 ∨ k = 18 ∨ k = 19 ∨ k = 20 ∨ k = 21 ∨ k = 22 ∨ 22 < k by omega) with rfl | rfl | rfl | rfl | rfl | rfl | rfl | rfl | rfl | rfl | rfl | rfl | rfl | rfl | rfl | rfl | rfl | rfl | rfl | rfl | rfl | rfl | rfl | kb
    · exact lv_tableIn (off := 107) (tgt := 140) hx hb dL_law_33 (by decide) (by decide) rfl (by decide) (lc_type C0 hL hle RH hP hD hS hl KF)
    · exact lv_tableIn (off := 130) (tgt := 163) hx hb dL_law_33 (by decide) (by decide) rfl (by decide) (lc_clear C0 hL hle RH hP hD hS hl KF)
    · exact lv_tableIn (off := 143) (tgt := 176) hx hb dL_law_33 (by decide) (by decide) rfl (by decide) (lc_strand C0 hL hle RH hP hD hS hl KF)
    · exact lv_tableIn (off := 156) (tgt := 189) hx hb dL_law_33 (by decide) (by decide) rfl (by decide) (lc_cell C0 hL hle RH hP hD hS hl KF)
    · exact lv_tableIn (off := 199) (tgt := 232) hx hb dL_law_33 (by decide) (by decide) rfl (by decide) (lc_family C0 hL hle RH hP hD hS hl KF)
    · exact lv_tableIn (off := 232) (tgt := 265) hx hb dL_law_33 (by decide) (by decide) rfl (by decide) (lc_takes C0 hL hle RH hP hD hS hl KF)
    · exact lv_tableIn (off := 275) (tgt := 308) hx hb dL_law_33 (by decide) (by decide) rfl (by decide) (lc_leaves C0 hL hle RH hP hD hS hl KF)
    · exact lv_tableIn (off := 308) (tgt := 341) hx hb dL_law_33 (by decide) (by decide) rfl (by decide) (lc_puts C0 hL hle RH hP hD hS hl KF)
    · exact lv_tableIn (off := 351) (tgt := 384) hx hb dL_law_33 (by decide) (by decide) rfl (by decide) (lc_veers C0 hL hle RH hP hD hS hl KF)
    · exact lv_tableIn (off := 364) (tgt := 397) hx hb dL_law_33 (by decide) (by decide) rfl (by decide) (lc_tide C0 hL hle RH hP hD hS hl KF)
    · exact lv_tableIn (off := 387) (tgt := 420) hx hb dL_law_33 (by decide) (by decide) rfl (by decide) (lc_undo C0 hL hle RH hP hD hS hl KF)
    · exact lv_tableIn (off := 400) (tgt := 433) hx hb dL_law_33 (by decide) (by decide) rfl (by decide) (lc_now C0 hL hle RH hP hD hS hl KF)
    · exact lv_tableIn (off := 423) (tgt := 456) hx hb dL_law_33 (by decide) (by decide) rfl (by decide) (lc_water C0 hL hle RH hP hD hS hl KF)
    · exact lv_tableIn (off := 466) (tgt := 499) hx hb dL_law_33 (by decide) (by decide) rfl (by decide) (lc_help C0 hL hle RH hP hD hS hl KF)
    · exact lv_tableIn (off := 499) (tgt := 532) hx hb dL_law_33 (by decide) (by decide) rfl (by decide) (lc_odds C0 hL hle RH hP hD hS hl KF)
    · exact lv_tableIn (off := 562) (tgt := 595) hx hb dL_law_33 (by decide) (by decide) rfl (by decide) (lc_saw C0 hL hle RH hP hD hS hl KF)
    · exact lv_tableIn (off := 615) (tgt := 648) hx hb dL_law_33 (by decide) (by decide) rfl (by decide) (lc_forget C0 hL hle RH hP hD hS hl KF)
    · exact lv_tableIn (off := 628) (tgt := 661) hx hb dL_law_33 (by decide) (by decide) rfl (by decide) (lc_moved C0 hL hle RH hP hD hS hl KF)
    · exact lv_tableIn (off := 651) (tgt := 684) hx hb dL_law_33 (by decide) (by decide) rfl (by decide) (lc_mark C0 hL hle RH hP hD hS hl KF)
    · exact lv_tableIn (off := 694) (tgt := 727) hx hb dL_law_33 (by decide) (by decide) rfl (by decide) (lc_keep C0 hL hle RH hP hD hS hl KF)
    · exact lv_tableIn (off := 717) (tgt := 750) hx hb dL_law_33 (by decide) (by decide) rfl (by decide) (lc_back C0 hL hle RH hP hD hS hl KF)
    · exact lv_tableIn (off := 740) (tgt := 773) hx hb dL_law_33 (by decide) (by decide) rfl (by decide) (lc_count C0 hL hle RH hP hD hS hl KF)
    · exact lv_tableIn (off := 763) (tgt := 796) hx hb dL_law_33 (by decide) (by decide) rfl (by decide) (lc_trace C0 hL hle RH hP hD hS hl KF)
    · exact lv_tableOut (tgt := 810) hx hb dL_law_33 (Or.inr (by rw [nI_toI (by omega)]; omega)) (by decide) (KF _ _ _ _ _ _ _ _ _ _ _ _ _ _ _ _ _ _ RH hP hD hS)
end LL
