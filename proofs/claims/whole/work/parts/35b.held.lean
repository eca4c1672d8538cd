theorem hb_eq {w r t f : Nat} {v h b st : Nat → Int32} (S : SN w r t v h b) (hs : ∀ j, j < 23 → st j = b j) (hf : f < 5) : sp_X7_heldBy st (nI f) = h f := bx fun i hi => by
  rw [hb_bt hi, S.held f hf i]
  congr 1
  apply propext
  constructor
  · rintro ⟨z1, z2⟩
    exact ⟨z1, by rw [← hs i (by omega)]; exact z2⟩
  · rintro ⟨z1, z2⟩
    exact ⟨z1, by rw [hs i (by omega)]; exact z2⟩
theorem held_sm {w r t f : Nat} {v h b : Nat → Int32} (S : SN w r t v h b) (hf : f < 5) : sm (h f) := fun i hi => by
  rw [S.held f hf i, decide_eq_false_iff_not]
  omega
