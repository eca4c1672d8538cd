section BQ
variable {w r : Nat} {g tb : Nat → Int32} {V Hd : Nat → Nat → Int32} {tr : Int64} {mg st im ke se tx : Nat → Int32} {mt : Int64}
theorem bo_in (hw : WR w r) (h0 : mg 0 = nI w) (h1 : mg 1 = nI r) {t : Nat} (ht : st 22 = nI t) (htr : t ≤ r) {j N : Nat} (hj : j < r) (hN : w < N) : lp_X7_border_14 mg st (nI j) N (nI (ct (r1_ w r t st) (5 * j) + ct (r2_ w r t st) (5 * j))) (nI 0) = nI (ct (r1_ w r t st) (5 * (j + 1)) + ct (r2_ w r t st) (5 * (j + 1))) := by
  have w5 := hw.w5
  have r4 := hw.r4
  have key := lpv (lp := fun n a y => lp_X7_border_14 mg st (nI j) n a y) (N := w) (P := fun i a => a = nI (ct (r1_ w r t st) (5 * j + i) + ct (r2_ w r t st) (5 * j + i))) (fun n a _ => ?_) (fun n a i hi hp => ⟨_, rfl, ?_⟩) w 0 N (nI (ct (r1_ w r t st) (5 * j) + ct (r2_ w r t st) (5 * j))) (by omega) hN rfl
  · have key : lp_X7_border_14 mg st (nI j) N (nI (ct (r1_ w r t st) (5 * j) + ct (r2_ w r t st) (5 * j))) (nI 0) = nI (ct (r1_ w r t st) (5 * j + w) + ct (r2_ w r t st) (5 * j + w)) := key
    have z : ∀ k, 5 * j + w ≤ k → k < 5 * j + w + (5 - w) → dd w r t k = false := fun k k1 k2 => decide_eq_false (fun q => by have := q.1; omega)
    rw [key, ← ct_ext (p := r1_ w r t st) (m := 5 * j + w) (5 - w) (fun k k1 k2 => by unfold r1_; rw [z k k1 k2]; rfl), ← ct_ext (p := r2_ w r t st) (m := 5 * j + w) (5 - w) (fun k k1 k2 => by unfold r2_; rw [z k k1 k2]; rfl), show 5 * j + w + (5 - w) = 5 * (j + 1) by omega]
  · show lp_X7_border_14 mg st (nI j) (n + 1) a (nI w) = a
    rw [← lp_X7_border_14_s, h0, if_pos ((leI).mpr (Nat.le_refl _))]
  · show lp_X7_border_14 mg st (nI j) (n + 1) a (nI i) = lp_X7_border_14 mg st (nI j) n _ (nI (i + 1))
    rw [← lp_X7_border_14_s, h0, if_neg (fun q => absurd ((leI).mp q) (by omega)), ib1 hw h0 h1 ht htr hi hj]
    dsimp only [nm]
    rw [b2n_if (r1_ w r t st (5 * j + i)) (fun v => jn_X7_border_41 (lp_X7_border_14 mg st (nI j) n) mg st (nI j) a (nI i) v)]
    unfold jn_X7_border_41
    rw [ib2 hw h0 h1 ht htr hi hj]
    dsimp only [nm]
    rw [b2n_if (r2_ w r t st (5 * j + i)) (fun v => lp_X7_border_14 mg st (nI j) n (a + nI (b2n (r1_ w r t st (5 * j + i))) + v) (nI i + 1)), hp, nI_add, nI_add, ← nI_succ]
    refine congrArg (fun z => lp_X7_border_14 mg st (nI j) n (nI z) (nI (i + 1))) ?_
    rw [show 5 * j + (i + 1) = 5 * j + i + 1 from rfl, ct_s, ct_s]
    omega
end BQ
