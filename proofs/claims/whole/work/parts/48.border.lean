section BR
variable {w r : Nat} {g tb : Nat → Int32} {V Hd : Nat → Nat → Int32} {tr : Int64} {mg st im ke se tx : Nat → Int32} {mt : Int64}
theorem border_eq (h : RE w r g tb V Hd tr mg st im ke se tx mt) {t : Nat} (S : SN w r t (V (11 * 0 + 10)) (Hd (11 * 0 + 10)) st) : sp_X4_borderLength V Hd (11 * 0 + 10) = sp_X7_border mg st := by
  have hw := h.1.1
  have h0 := h.1.2.1
  have h1 := h.1.2.2
  have w5 := hw.w5
  have r4 := hw.r4
  rw [bl_eq h S]
  have e : sp_X7_border mg st = lp_X7_border_4 mg st (((mg 1).toInt - (0 : Int32).toInt).toNat + 1) (0 : Int32) (0 : Int32) := by unfold sp_X7_border; exact nm_id _
  have hN : r < ((mg 1).toInt - (0 : Int32).toInt).toNat + 1 := by
    rw [h1, nI_toI (by omega)]
    have : (0 : Int32).toInt = 0 := rfl
    omega
  have hM : w < ((mg 0).toInt - (0 : Int32).toInt).toNat + 1 := by
    rw [h0, nI_toI (by omega)]
    have : (0 : Int32).toInt = 0 := rfl
    omega
  rw [e]
  generalize ((mg 1).toInt - (0 : Int32).toInt).toNat + 1 = N at hN ⊢
  have key := lpv (lp := fun n a y => lp_X7_border_4 mg st n a y) (N := r) (P := fun j a => a = nI (ct (r1_ w r t st) (5 * j) + ct (r2_ w r t st) (5 * j))) (fun n a _ => ?_) (fun n a j hj hp => ⟨_, rfl, ?_⟩) r 0 N (nI 0) (by omega) hN rfl
  · have key : lp_X7_border_4 mg st N (nI 0) (nI 0) = nI (ct (r1_ w r t st) (5 * r) + ct (r2_ w r t st) (5 * r)) := key
    have z : ∀ k, 5 * r ≤ k → k < 5 * r + (20 - 5 * r) → dd w r t k = false := fun k k1 k2 => decide_eq_false (fun q => by have := q.2.2; omega)
    rw [nI_0] at key
    rw [key, ← ct_ext (p := r1_ w r t st) (m := 5 * r) (20 - 5 * r) (fun k k1 k2 => by unfold r1_; rw [z k k1 k2]; rfl), ← ct_ext (p := r2_ w r t st) (m := 5 * r) (20 - 5 * r) (fun k k1 k2 => by unfold r2_; rw [z k k1 k2]; rfl), show 5 * r + (20 - 5 * r) = 20 by omega]
  · show lp_X7_border_4 mg st (n + 1) a (nI r) = a
    rw [← lp_X7_border_4_s, h1, if_pos ((leI).mpr (Nat.le_refl _))]
  · show lp_X7_border_4 mg st (n + 1) a (nI j) = lp_X7_border_4 mg st n _ (nI (j + 1))
    have b := bo_in hw h0 h1 S.b22 S.tr hj hM
    rw [nI_0] at b
    rw [← lp_X7_border_4_s, if_neg (show ¬ mg 1 ≤ nI j from by rw [h1]; exact fun q => absurd ((leI).mp q) (by omega)), hp, b, ← nI_succ]
    rfl
end BR
