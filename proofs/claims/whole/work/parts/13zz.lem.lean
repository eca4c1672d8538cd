theorem cu_of {x : Int32} {N : Nat} (hN : N ≤ 150) (hc : ∃ p, p ≤ N ∧ x = nI p) : 0 ≤ x.toInt := by
  obtain ⟨p, h1, h2⟩ := hc
  rw [h2, nI_toI (by omega)]; omega
theorem tx_of {x : Int32} {N : Nat} (hN : N ≤ 150) (h : x = nI N) : 0 ≤ x.toInt ∧ x.toInt ≤ 150 := by
  rw [h, nI_toI (by omega)]; omega
