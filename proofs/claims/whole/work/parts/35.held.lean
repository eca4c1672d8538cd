/-! who holds -/
theorem hb_bt {st : Nat → Int32} {f : Nat} {k : Nat} (hk : k < 32) : bt (sp_X7_heldBy st (nI f)) k = decide (k < 20 ∧ st k = nI (f + 1)) := by
  show bt (lp_X7_heldBy_4 st (nI f) (((20 : Int32).toInt - (0 : Int32).toInt).toNat + 1) (0 : Int32) (0 : Int32)) k = _
  have key := lpv (lp := fun n a y => lp_X7_heldBy_4 st (nI f) n a y) (N := 20) (P := fun j a => ∀ k, k < 32 → bt a k = decide (k < j ∧ st k = nI (f + 1))) (fun n a _ => ?_) (fun n a i hi hp => ?_) 20 0 (((20 : Int32).toInt - (0 : Int32).toInt).toNat + 1) 0 rfl (by decide) (fun k _ => by rw [bt_0]; simp)
  · exact key k hk
  · show (if (20 : Int32) ≤ nI 20 then a else _) = a
    rw [if_pos (by decide)]
  · have c : ¬ (20 : Int32) ≤ nI i := nI_ge hi (by decide)
    have e : lp_X7_heldBy_4 st (nI f) (n + 1) a (nI i) = (if st i = nI (f + 1) then (lp_X7_heldBy_4 st (nI f) n (a ||| ((1 : Int32) <<< (nI i &&& 31))) (nI (i + 1))) else (lp_X7_heldBy_4 st (nI f) n (a ||| (0 : Int32)) (nI (i + 1)))) := by
      show (if (20 : Int32) ≤ nI i then a else (if st (nI i).toNatClampNeg = nI f + (1 : Int32) then _ else _)) = _
      rw [if_neg c, nI_clamp (by omega), ← nI_succ, ← nI_succ]
    by_cases q : st i = nI (f + 1)
    · refine ⟨a ||| ((1 : Int32) <<< (nI i &&& 31)), fun k hk => ?_, e.trans (if_pos q)⟩
      rw [bt_or, hp k hk, bt_bit (by omega) hk, ← Bool.decide_or]
      congr 1
      apply propext
      constructor
      · rintro (⟨z1, z2⟩ | rfl)
        · exact ⟨by omega, z2⟩
        · exact ⟨by omega, q⟩
      · rintro ⟨z1, z2⟩
        by_cases z : k = i
        · exact Or.inr z
        · exact Or.inl ⟨by omega, z2⟩
    · refine ⟨a ||| (0 : Int32), fun k hk => ?_, e.trans (if_neg q)⟩
      rw [bt_or, hp k hk, bt_0, Bool.or_false]
      congr 1
      apply propext
      constructor
      · rintro ⟨z1, z2⟩
        exact ⟨by omega, z2⟩
      · rintro ⟨z1, z2⟩
        by_cases z : k = i
        · subst z; exact absurd z2 q
        · exact ⟨by omega, z2⟩
theorem hb_eq {w r t f : Nat} {v h b st : Nat → Int32} (S : SN w r t v h b) (hs : ∀ j, j < 23 → st j = b j) (hf : f < 5) : sp_X7_heldBy st (nI f) = h f := bx fun i hi => by
  rw [hb_bt hi, S.held f hf i]
  congr 1
  apply propext
  constructor
  · rintro ⟨z1, z2⟩
    exact ⟨z1, by rw [← hs i (by omega)]; exact z2⟩
  · rintro ⟨z1, z2⟩
    exact ⟨z1, by rw [hs i (by omega)]; exact z2⟩
theorem held_sm {w r t f : Nat} {v h b : Nat → Int32} (S : SN w r t v h b) (hf : f < 5) : sm (h f) := fun i hi => by
  rw [S.held f hf i, decide_eq_false_iff_not]
  omega
