theorem in0 {x b r : Int32} (e : r = sp_X7_in x 0 b) (h : ¬ r = 0) : 0 ≤ x.toInt ∧ x.toInt ≤ b.toInt := in_of e h
theorem tc_k {mg b : Nat → Int32} {N : Nat} {r is : Int32} (t8 : Lk N mg b ∧ ((b 8 = 0 ∧ (0 : Int32).toInt ≤ r.toInt ∧ r.toInt ≤ (mg 10 - 1).toInt) ∨ (b 8 = 1 ∧ r = 0))) (hsw : 1 ≤ (mg 10).toInt ∧ (mg 10).toInt ≤ 5) (hsr : 1 ≤ (mg 11).toInt ∧ (mg 11).toInt ≤ 4)
    (hi : is = 0 ∨ (b 8 = 0 ∧ 0 ≤ (b 7).toInt ∧ (b 7).toInt ≤ (b 11 - 1).toInt)) (c : ¬ is = 0) : vp_in ((5 : Int32) * b 7 + r) 20 := by
  obtain ⟨h8, h1, h2⟩ := hi.resolve_left c
  have e11 : b 11 = mg 11 := t8.1.2.2 11 (by decide) (by decide) (by decide) (by decide) (by decide)
  rw [e11, dec1 hsr.1] at h2
  rcases t8.2 with ⟨_, r1, r2⟩ | ⟨q, _⟩
  · rw [dec1 hsw.1] at r2
    have r0 : (0 : Int32).toInt = 0 := rfl
    have k := k_of (x := r) (y := b 7) rfl rfl (by omega)
    exact ix_of (by rw [k]; omega) (by rw [k]; omega)
  · rw [h8] at q; exact absurd q (by decide)
