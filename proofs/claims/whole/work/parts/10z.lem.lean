theorem in_of {x a b r : Int32} (e : r = sp_X7_in x a b) (h : ¬ r = 0) : a.toInt ≤ x.toInt ∧ x.toInt ≤ b.toInt := by
  unfold sp_X7_in at e
  by_cases h1 : x < a
  · rw [if_pos h1] at e; exact absurd e h
  · rw [if_neg h1] at e
    by_cases h2 : b < x
    · rw [if_pos h2] at e; exact absurd e h
    · rw [Int32.lt_iff_toInt_lt] at h1 h2
      omega
theorem cell_of {mg : Nat → Int32} {x y r : Int32} (e : r = sp_X7_isCell mg x y) (h : ¬ r = 0) : (0 ≤ x.toInt ∧ x.toInt ≤ (mg 0 - 1).toInt) ∧ (0 ≤ y.toInt ∧ y.toInt ≤ (mg 1 - 1).toInt) := by
  unfold sp_X7_isCell at e
  simp only [nm] at e
  by_cases h1 : sp_X7_in x 0 (mg 0 - 1) = 0
  · rw [if_pos h1] at e; exact absurd e h
  · rw [if_neg h1] at e
    by_cases h2 : sp_X7_in y 0 (mg 1 - 1) = 0
    · rw [if_pos h2] at e; exact absurd e h
    · exact ⟨in_of rfl h1, in_of rfl h2⟩
theorem addI {x y : Int32} {a b : Int} (hx : x.toInt = a) (hy : y.toInt = b) (h1 : -2147483648 ≤ a + b) (h2 : a + b < 2147483648) : (x + y).toInt = a + b := by
  rw [Int32.toInt_add, hx, hy]
  show (a + b).bmod (2 ^ 32) = _
  exact Int.bmod_eq_of_le (by omega) (by omega)
theorem subI {x y : Int32} {a b : Int} (hx : x.toInt = a) (hy : y.toInt = b) (h1 : -2147483648 ≤ a - b) (h2 : a - b < 2147483648) : (x - y).toInt = a - b := by
  rw [Int32.toInt_sub, hx, hy]
  show (a - b).bmod (2 ^ 32) = _
  exact Int.bmod_eq_of_le (by omega) (by omega)
theorem mulI {x y : Int32} {a b : Int} (hx : x.toInt = a) (hy : y.toInt = b) (h1 : -2147483648 ≤ a * b) (h2 : a * b < 2147483648) : (x * y).toInt = a * b := by
  rw [Int32.toInt_mul, hx, hy]
  show (a * b).bmod (2 ^ 32) = _
  exact Int.bmod_eq_of_le (by omega) (by omega)
theorem m1_of {x : Int32} {a : Int} (h : a ≤ (x - 1).toInt) (h0 : 0 ≤ a) : a + 1 ≤ x.toInt ∨ x.toInt = -2147483648 := by
  by_cases q : x.toInt = -2147483648
  · exact Or.inr q
  · have := Int32.le_toInt x
    rw [subI (a := x.toInt) (b := 1) rfl rfl (by omega) (by have := Int32.toInt_lt x; omega)] at h
    omega
/-- x, y of a cell -/
theorem cell_xy {mg : Nat → Int32} {x y r : Int32} (hw : (mg 0).toInt ≤ 5) (hh : (mg 1).toInt ≤ 4) (e : r = sp_X7_isCell mg x y) (h : ¬ r = 0) : (0 ≤ x.toInt ∧ x.toInt ≤ 4 ∧ x.toInt < (mg 0).toInt ∨ (mg 0).toInt = -2147483648) ∧ (0 ≤ y.toInt ∧ y.toInt ≤ 3 ∧ y.toInt < (mg 1).toInt ∨ (mg 1).toInt = -2147483648) := by
  obtain ⟨⟨a1, a2⟩, b1, b2⟩ := cell_of e h
  refine ⟨?_, ?_⟩
  · rcases m1_of a2 a1 with q | q
    · exact Or.inl (by omega)
    · exact Or.inr q
  · rcases m1_of b2 b1 with q | q
    · exact Or.inl (by omega)
    · exact Or.inr q
theorem k_of {x y : Int32} {a b : Int} (hx : x.toInt = a) (hy : y.toInt = b) (h : -1000 ≤ a ∧ a ≤ 1000 ∧ -1000 ≤ b ∧ b ≤ 1000) : ((5 : Int32) * y + x).toInt = 5 * b + a := addI (mulI (a := 5) rfl hy (by omega) (by omega)) hx (by omega) (by omega)
theorem cell_ix {mg : Nat → Int32} {x y r : Int32} {n : Nat} (hw : 1 ≤ (mg 0).toInt ∧ (mg 0).toInt ≤ 5) (hh : 1 ≤ (mg 1).toInt ∧ (mg 1).toInt ≤ 4) (e : r = sp_X7_isCell mg x y) (h : ¬ r = 0) (hn : 20 ≤ n) : vp_in ((5 : Int32) * y + x) n := by
  obtain ⟨a, b⟩ := cell_xy hw.2 hh.2 e h
  have a := a.resolve_right (by omega)
  have b := b.resolve_right (by omega)
  have k := k_of (x := x) (y := y) rfl rfl (by omega)
  exact ix_of (by rw [k]; omega) (by rw [k]; omega)
theorem ix_dyn {x B : Int32} {n : Nat} (h0 : 0 ≤ x.toInt) (h : x < B) (hB : B.toInt ≤ n) : vp_in x n := ix_of h0 (by rw [Int32.lt_iff_toInt_lt] at h; omega)
theorem vp_le {x : Int32} {m n : Nat} (h : vp_in x m) (hmn : m ≤ n) : vp_in x n := by
  have := vp_in_iff.mp h
  exact ix_of this.1 (by omega)
theorem nle_i {i B : Int32} (h : ¬ B ≤ i) : i.toInt < B.toInt := by rw [Int32.le_iff_toInt_le] at h; omega
theorem up24 {i : Int32} (h : ¬ (231 : Int32) ≤ i) (h0 : 24 ≤ i.toInt) : 24 ≤ (i + 1).toInt := by rw [up1 (nle_lt h)]; omega
theorem clamp_i {i : Int32} (h : 0 ≤ i.toInt) : (i.toNatClampNeg : Int) = i.toInt := by
  show ((i.toInt.toNat : Nat) : Int) = _
  omega
theorem rm_ne {st : Nat → Int32} {i v : Int32} (h : 24 ≤ i.toInt) (c : ¬ (231 : Int32) ≤ i) : upd st i.toNatClampNeg v (23 : Int32).toNatClampNeg = st (23 : Int32).toNatClampNeg := by
  refine pk_un ?_
  have := clamp_i (i := i) (by omega)
  have e : ((23 : Int32).toNatClampNeg : Int) = 23 := rfl
  omega
theorem i231 : (231 : Int32).toInt = 231 := rfl
theorem i23 : (23 : Int32).toInt = 23 := rfl
theorem rm_2 {i : Int32} (h : 24 ≤ i.toInt) (c : ¬ (231 : Int32) ≤ i) : vp_in i 254 := by
  have := nle_i c
  rw [i231] at this
  exact ix_of (by omega) (by omega)
theorem rm_1 {i : Int32} (h : 24 ≤ i.toInt) (c : ¬ (231 : Int32) ≤ i) : vp_in (i + (23 : Int32)) 254 := by
  have := nle_i c
  rw [i231] at this
  have e := addI (x := i) (y := (23 : Int32)) (a := i.toInt) (b := 23) rfl rfl (by omega) (by omega)
  exact ix_of (by rw [e]; omega) (by rw [e]; omega)
theorem rm_j1 {s : Int32} (h : 0 ≤ s.toInt ∧ s.toInt ≤ 10) (c : ¬ s = 10) : 0 ≤ s.toInt ∧ s.toInt ≤ 9 := by
  have : ¬ s.toInt = 10 := fun q => c (Int32.toInt_inj.mp (by rw [q]; rfl))
  omega
theorem rm_j2 {e st : Nat → Int32} (a : e (23 : Int32).toNatClampNeg = st (23 : Int32).toNatClampNeg) (c : st (23 : Int32).toNatClampNeg = 10) : 0 ≤ (upd e (23 : Int32).toNatClampNeg (e (23 : Int32).toNatClampNeg - 1) (23 : Int32).toNatClampNeg).toInt ∧ (upd e (23 : Int32).toNatClampNeg (e (23 : Int32).toNatClampNeg - 1) (23 : Int32).toNatClampNeg).toInt ≤ 9 := by
  rw [pk_us, a, c]
  decide
theorem pl_of {y s : Int32} (ey : y = (24 : Int32) + (23 : Int32) * s) (h : 0 ≤ s.toInt ∧ s.toInt ≤ 9) : y.toInt = 24 + 23 * s.toInt := by
  rw [ey]
  exact addI rfl (mulI (a := 23) rfl rfl (by omega) (by omega)) (by omega) (by omega)
theorem rm_3 {y k s : Int32} (hj : 0 ≤ s.toInt ∧ s.toInt ≤ 9) (ey : y = (24 : Int32) + (23 : Int32) * s) (z2 : 0 ≤ k.toInt) (c : ¬ (23 : Int32) ≤ k) : vp_in (y + k) 254 := by
  have := nle_i c
  rw [i23] at this
  have e := addI (x := y) (y := k) (pl_of ey hj) rfl (by omega) (by omega)
  exact ix_of (by rw [e]; omega) (by rw [e]; omega)
theorem rm_4 {st : Nat → Int32} {y k : Int32} (hsu : 0 ≤ (st (23 : Int32).toNatClampNeg).toInt ∧ (st (23 : Int32).toNatClampNeg).toInt ≤ 10) (c0 : ¬ st (23 : Int32).toNatClampNeg = 0) (ey : y = (24 : Int32) + (23 : Int32) * (upd st (23 : Int32).toNatClampNeg (st (23 : Int32).toNatClampNeg - 1) (23 : Int32).toNatClampNeg)) (z2 : 0 ≤ k.toInt) (c : ¬ (23 : Int32) ≤ k) : vp_in (y + k) 254 := by
  rw [pk_us] at ey
  have h0 : ¬ (st (23 : Int32).toNatClampNeg).toInt = 0 := fun q => c0 (Int32.toInt_inj.mp (by rw [q]; rfl))
  refine rm_3 ?_ ey z2 c
  rw [dec1 (by omega)]
  omega
theorem od_2 {n i b : Int32} (q : ¬ n ≤ i) (h0 : 0 ≤ i.toInt) (h : b = nI (10 ^ i.toInt.toNat)) : b * (10 : Int32) = nI (10 ^ (i + 1).toInt.toNat) := by
  rw [h, show (10 : Int32) = nI 10 from rfl, pk_mul, up1 (nle_lt q)]
  rw [show (i.toInt + 1).toNat = i.toInt.toNat + 1 by omega, Nat.pow_succ]
theorem od_3 {n i : Int32} (q : ¬ n ≤ i) (h : (0 : Int32).toInt ≤ n.toInt ∧ n.toInt ≤ (6 : Int32).toInt) : (i + 1).toInt ≤ 6 := by
  rw [up1 (nle_lt q)]
  have := nle_i q
  have e : (6 : Int32).toInt = 6 := rfl
  omega
theorem od_4 {i b : Int32} (h : b = nI (10 ^ i.toInt.toNat)) (h6 : i.toInt ≤ 6) : ¬ b ≤ 0 := by
  rw [h]
  have h1 : 10 ^ i.toInt.toNat ≤ 10 ^ 6 := Nat.pow_le_pow_right (by decide) (by omega)
  exact nI_nle (Nat.pow_pos (by decide)) (by omega)
theorem ne_of_nle0 {b : Int32} (c : ¬ b ≤ 0) : ¬ b = 0 := fun q => c (by rw [q]; decide)
theorem remI (a b : Int32) : (rem a b).toInt = a.toInt.tmod b.toInt := rem_toInt a b
theorem gc_lt {a b : Int32} {n : Nat} (c : ¬ b ≤ 0) (hm : b.toInt.toNat < n + 1) : (rem a b).toInt.toNat < n := by
  rw [remI]
  have hb : 0 < b.toInt := by rw [Int32.le_iff_toInt_le] at c; have : (0 : Int32).toInt = 0 := rfl; omega
  have := Int.tmod_lt_of_pos a.toInt hb
  omega
theorem sw_b {s : Int32} (hsn : 0 ≤ s.toInt ∧ s.toInt ≤ 6) (c : ¬ s = 6) : s.toInt ≤ 5 := by
  have : ¬ s.toInt = 6 := fun q => c (Int32.toInt_inj.mp (by rw [q]; rfl))
  omega
theorem t3_of {s : Int32} (h : 0 ≤ s.toInt ∧ s.toInt ≤ 5) : ((3 : Int32) * s).toInt = 3 * s.toInt := mulI (a := 3) rfl rfl (by omega) (by omega)
theorem t3_0 {s : Int32} (h : 0 ≤ s.toInt ∧ s.toInt ≤ 5) : vp_in ((3 : Int32) * s) 18 := ix_of (by rw [t3_of h]; omega) (by rw [t3_of h]; omega)
theorem t3_1 {s : Int32} (h : 0 ≤ s.toInt ∧ s.toInt ≤ 5) : vp_in ((3 : Int32) * s + (1 : Int32)) 18 := by
  have e := addI (t3_of h) (y := (1 : Int32)) (b := 1) rfl (by omega) (by omega)
  exact ix_of (by rw [e]; omega) (by rw [e]; omega)
theorem t3_2 {s : Int32} (h : 0 ≤ s.toInt ∧ s.toInt ≤ 5) : vp_in ((3 : Int32) * s + (2 : Int32)) 18 := by
  have e := addI (t3_of h) (y := (2 : Int32)) (b := 2) rfl (by omega) (by omega)
  exact ix_of (by rw [e]; omega) (by rw [e]; omega)
theorem sw_0 {s : Int32} (hsn : 0 ≤ s.toInt ∧ s.toInt ≤ 6) (c : ¬ s = 6) : vp_in ((3 : Int32) * s) 18 := t3_0 ⟨hsn.1, sw_b hsn c⟩
theorem sw_1 {s : Int32} (hsn : 0 ≤ s.toInt ∧ s.toInt ≤ 6) (c : ¬ s = 6) : vp_in ((3 : Int32) * s + (1 : Int32)) 18 := t3_1 ⟨hsn.1, sw_b hsn c⟩
theorem sw_2 {s : Int32} (hsn : 0 ≤ s.toInt ∧ s.toInt ≤ 6) (c : ¬ s = 6) : vp_in ((3 : Int32) * s + (2 : Int32)) 18 := t3_2 ⟨hsn.1, sw_b hsn c⟩
theorem so_0 {k s : Int32} (z : 0 ≤ k.toInt) (c : ¬ s ≤ k) (hsn : 0 ≤ s.toInt ∧ s.toInt ≤ 6) : vp_in ((3 : Int32) * k) 18 := t3_0 ⟨z, by have := nle_i c; omega⟩
theorem so_1 {k s : Int32} (z : 0 ≤ k.toInt) (c : ¬ s ≤ k) (hsn : 0 ≤ s.toInt ∧ s.toInt ≤ 6) : vp_in ((3 : Int32) * k + (1 : Int32)) 18 := t3_1 ⟨z, by have := nle_i c; omega⟩
theorem so_2 {k s : Int32} (z : 0 ≤ k.toInt) (c : ¬ s ≤ k) (hsn : 0 ≤ s.toInt ∧ s.toInt ≤ 6) : vp_in ((3 : Int32) * k + (2 : Int32)) 18 := t3_2 ⟨z, by have := nle_i c; omega⟩
theorem kp_2 {r x : Int32} (e : r = sp_X7_in x (0 : Int32) (1 : Int32)) (h : ¬ r = 0) : vp_in x 2 := by
  have := in_of e h
  have e0 : (0 : Int32).toInt = 0 := rfl
  have e1 : (1 : Int32).toInt = 1 := rfl
  exact ix_of (by omega) (by omega)
theorem kp_1 {r x k : Int32} (e : r = sp_X7_in x (0 : Int32) (1 : Int32)) (h : ¬ r = 0) (z : 0 ≤ k.toInt) (c : ¬ (254 : Int32) ≤ k) : vp_in ((254 : Int32) * x + k) 508 := by
  have h1 := vp_in_iff.mp (kp_2 e h)
  have h2 := nle_i c
  have e2 : (254 : Int32).toInt = 254 := rfl
  have e3 := addI (mulI (x := (254 : Int32)) (y := x) (a := 254) rfl rfl (by omega) (by omega)) (y := k) rfl (by omega) (by omega)
  exact ix_of (by rw [e3]; omega) (by rw [e3]; omega)
theorem ty_1 {t : Int32} (h : 0 ≤ t.toInt ∧ t.toInt ≤ 150) (c : ¬ t = 150) : vp_in t 150 := by
  have : ¬ t.toInt = 150 := fun q => c (Int32.toInt_inj.mp (by rw [q]; rfl))
  exact ix_of (by omega) (by omega)
