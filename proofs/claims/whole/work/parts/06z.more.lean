theorem vpn {x : Int32} {n : Nat} (h : vp_in x n) : ¬ x < 0 := fun q => h (Or.inl q)
theorem vpl {x N : Int32} {n : Nat} (h : vp_in x n) (hN : N.toInt = n := by rfl) : ¬ N ≤ x := fun q => by
  have := (vp_in_iff.mp h).2
  rw [Int32.le_iff_toInt_le] at q
  omega
theorem bf_lt {q : Nat} {x : Int32} (hq : q < 3) (hi : vp_in x 10) : 11 * q + x.toNatClampNeg < 34 := by
  have : x.toNatClampNeg < 10 := Nat.not_le.mp fun z => hi (Or.inr z)
  omega
theorem ix1 {i : Int32} (h : 1 ≤ i.toInt) (h2 : ¬ (10 : Int32) ≤ i) : vp_in i 10 := ix_inv_nle (by omega) h2
theorem dec1 {i : Int32} (h : 1 ≤ i.toInt) : (i - 1).toInt = i.toInt - 1 := by
  rw [Int32.toInt_sub]
  have := Int32.toInt_lt i
  show (i.toInt - 1).bmod (2 ^ 32) = _
  rw [Int.bmod_eq_of_le (by omega) (by omega)]
theorem ix2 {i : Int32} (h : 1 ≤ i.toInt) (h2 : ¬ (10 : Int32) ≤ i) : vp_in (i - 1) 10 := ix_of (by rw [dec1 h]; omega) (by
  have := nle_lt h2
  rw [Int32.lt_iff_toInt_lt] at this
  have e : (10 : Int32).toInt = 10 := rfl
  rw [dec1 h]; omega)
theorem up1z {i B : Int32} (h : ¬ B ≤ i) (h0 : 1 ≤ i.toInt) : 1 ≤ (i + 1).toInt := by rw [up1 (nle_lt h)]; omega
theorem ix_hu {x : Int32} {n : Nat} (h : 0 ≤ x.toInt ∧ x.toInt ≤ n) (h2 : x < (10 : Int32)) : vp_in x 10 := ix_inv_lt h.1 h2
theorem ix_dec {x : Int32} (h : 0 ≤ x.toInt ∧ x.toInt ≤ 10) (h2 : (0 : Int32) < x) : vp_in (x - 1) 10 := by
  rw [Int32.lt_iff_toInt_lt] at h2
  have e : (0 : Int32).toInt = 0 := rfl
  exact ix_of (by rw [dec1 (by omega)]; omega) (by rw [dec1 (by omega)]; omega)
theorem ms_up3 {i B : Int32} {n : Nat} (h : ¬ B < i) (hB : B.toInt < 2147483647) (hm : (B.toInt + 1 - i.toInt).toNat < n + 1) : (B.toInt + 1 - (i + 1).toInt).toNat < n := by
  have h1 : i.toInt ≤ B.toInt := by rw [Int32.lt_iff_toInt_lt] at h; omega
  have h2 : (i + 1).toInt = i.toInt + 1 := by
    rw [Int32.toInt_add]
    have := Int32.le_toInt i
    show (i.toInt + 1).bmod (2 ^ 32) = _
    rw [Int.bmod_eq_of_le (by omega) (by omega)]
  omega
