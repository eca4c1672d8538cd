section BP
variable {w r : Nat} {g tb : Nat → Int32} {V Hd : Nat → Nat → Int32} {tr : Int64} {mg st im ke se tx : Nat → Int32} {mt : Int64}
/-! the reference's borders -/
theorem ic_if (hw : WR w r) (h0 : mg 0 = nI w) (h1 : mg 1 = nI r) {i j : Nat} (hi : i < 1000) (hj : j < 1000) : sp_X7_isCell mg (nI i) (nI j) = if i < w ∧ j < r then 1 else 0 := by
  have w5 := hw.w5
  have r4 := hw.r4
  by_cases c : i < w ∧ j < r
  · rw [if_pos c]; exact ic_1 hw h0 h1 c.1 c.2
  · rw [if_neg c]
    rcases ic_of hw h0 h1 (nI i) (nI j) with z | ⟨_, i', j', hi', hj', ei, ej⟩
    · exact z
    · have a1 := (nI_eq (by omega) (by omega)).mp ei
      have a2 := (nI_eq (by omega) (by omega)).mp ej
      exact absurd ⟨by omega, by omega⟩ c
theorem ibo (hw : WR w r) (h0 : mg 0 = nI w) (h1 : mg 1 = nI r) {t : Nat} (ht : st 22 = nI t) (htr : t ≤ r) {i j i2 j2 : Nat} (hi : i < w) (hj : j < r) (hi2 : i2 < 10) (hj2 : j2 < 10) : sp_X7_isBorder mg st (nI i) (nI j) (nI i2) (nI j2) = if (i2 < w ∧ j2 < r) ∧ t ≤ j ∧ t ≤ j2 ∧ ¬ st (5 * j + i) = st (5 * j2 + i2) then 1 else 0 := by
  have w5 := hw.w5
  have r4 := hw.r4
  have d1 : (5 * j + i) / 5 = j := by omega
  unfold sp_X7_isBorder
  rw [ic_1 hw h0 h1 hi hj, ic_if hw h0 h1 (by omega) (by omega), k_eq, k_eq, idry ht (by omega) (by omega), idry ht (by omega) (by omega), d1, nI_clamp (by omega), nI_clamp (by omega)]
  dsimp only [nm]
  rw [if_neg (show ¬ (1 : Int32) = 0 by decide)]
  by_cases c1 : i2 < w ∧ j2 < r
  · have d2 : (5 * j2 + i2) / 5 = j2 := by omega
    rw [if_pos c1, if_neg (show ¬ (1 : Int32) = 0 by decide), d2]
    by_cases c2 : t ≤ j
    · rw [if_pos c2, if_neg (show ¬ (1 : Int32) = 0 by decide)]
      by_cases c3 : t ≤ j2
      · rw [if_pos c3, if_neg (show ¬ (1 : Int32) = 0 by decide)]
        by_cases c4 : st (5 * j + i) = st (5 * j2 + i2)
        · rw [if_pos c4, if_neg (fun q => q.2.2.2 c4)]
        · rw [if_neg c4, if_pos ⟨c1, c2, c3, c4⟩]
      · rw [if_neg c3, if_pos rfl, if_neg (fun q => c3 q.2.2.1)]
    · rw [if_neg c2, if_pos rfl, if_neg (fun q => c2 q.2.1)]
  · rw [if_neg c1, if_pos rfl, if_neg (fun q => c1 q.1)]
theorem ib1 (hw : WR w r) (h0 : mg 0 = nI w) (h1 : mg 1 = nI r) {t : Nat} (ht : st 22 = nI t) (htr : t ≤ r) {i j : Nat} (hi : i < w) (hj : j < r) : sp_X7_isBorder mg st (nI i) (nI j) (nI i + 1) (nI j) = nI (b2n (r1_ w r t st (5 * j + i))) := by
  have w5 := hw.w5
  rw [← nI_succ, ibo hw h0 h1 ht htr hi hj (by omega) (by have := hw.r4; omega)]
  unfold r1_ dd b2n
  by_cases c : ((i + 1 < w ∧ j < r) ∧ t ≤ j ∧ t ≤ j ∧ ¬ st (5 * j + i) = st (5 * j + (i + 1)))
  · rw [if_pos c, decide_eq_true (show dr w r t (5 * j + i) from ⟨by omega, by omega, by omega⟩), decide_eq_true (show (5 * j + i) % 5 ≠ 4 by omega), decide_eq_true (show dr w r t (5 * j + i + 1) from ⟨by omega, by omega, by omega⟩), decide_eq_false (show ¬ st (5 * j + i) = st (5 * j + i + 1) from c.2.2.2)]
    rfl
  · rw [if_neg c]
    by_cases d1 : dr w r t (5 * j + i)
    · by_cases d2 : (5 * j + i) % 5 ≠ 4
      · by_cases d3 : dr w r t (5 * j + i + 1)
        · by_cases d4 : st (5 * j + i) = st (5 * j + i + 1)
          · rw [decide_eq_true d4]; simp; rfl
          · have y1 := d1.2.1
            have y2 := d3.1
            exact absurd ⟨⟨by omega, hj⟩, by omega, by omega, d4⟩ c
        · rw [decide_eq_false d3]; simp; rfl
      · rw [decide_eq_false d2]; simp; rfl
    · rw [decide_eq_false d1]; simp; rfl
theorem ib2 (hw : WR w r) (h0 : mg 0 = nI w) (h1 : mg 1 = nI r) {t : Nat} (ht : st 22 = nI t) (htr : t ≤ r) {i j : Nat} (hi : i < w) (hj : j < r) : sp_X7_isBorder mg st (nI i) (nI j) (nI i) (nI j + 1) = nI (b2n (r2_ w r t st (5 * j + i))) := by
  have w5 := hw.w5
  have r4 := hw.r4
  have e5 : 5 * (j + 1) + i = 5 * j + i + 5 := by omega
  rw [← nI_succ, ibo hw h0 h1 ht htr hi hj (by omega) (by omega), e5]
  unfold r2_ dd b2n
  by_cases c : ((i < w ∧ j + 1 < r) ∧ t ≤ j ∧ t ≤ j + 1 ∧ ¬ st (5 * j + i) = st (5 * j + i + 5))
  · rw [if_pos c, decide_eq_true (show dr w r t (5 * j + i) from ⟨by omega, by omega, by omega⟩), decide_eq_true (show dr w r t (5 * j + i + 5) from ⟨by omega, by omega, by omega⟩), decide_eq_false c.2.2.2]
    rfl
  · rw [if_neg c]
    by_cases d1 : dr w r t (5 * j + i)
    · by_cases d3 : dr w r t (5 * j + i + 5)
      · by_cases d4 : st (5 * j + i) = st (5 * j + i + 5)
        · rw [decide_eq_true d4]; simp; rfl
        · have y1 := d1.2.1
          have y2 := d3.2.2
          exact absurd ⟨⟨hi, by omega⟩, by omega, by omega, d4⟩ c
      · rw [decide_eq_false d3]; simp; rfl
    · rw [decide_eq_false d1]; simp; rfl
theorem b2n_if (b : Bool) (k : Int32 → Int32) : (if nI (b2n b) = 0 then k 0 else k 1) = k (nI (b2n b)) := by
  cases b
  · rw [show nI (b2n false) = 0 from rfl, if_pos rfl]
  · rw [show nI (b2n true) = 1 from rfl, if_neg (by decide)]
end BP
