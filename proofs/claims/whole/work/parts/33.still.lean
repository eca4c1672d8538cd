/-! cells, cloth, what is still: the class' bits and the reference's single cells -/
theorem inn {x : Int32} {n : Nat} (hn : n < 2 ^ 31) : (sp_X7_in x 0 (nI n) = 0 ∧ ∀ i, i ≤ n → x ≠ nI i) ∨ (sp_X7_in x 0 (nI n) = 1 ∧ ∃ i, i ≤ n ∧ x = nI i) := by
  unfold sp_X7_in
  by_cases h : x < 0
  · left
    rw [if_pos h]
    refine ⟨rfl, fun i hi e => ?_⟩
    rw [e] at h
    exact nI_pos (by omega) h
  · obtain ⟨j, hj, rfl⟩ := nI_of h
    rw [if_neg h]
    by_cases c : j ≤ n
    · right
      rw [if_neg (nI_nlt c (by omega))]
      exact ⟨rfl, j, c, rfl⟩
    · left
      rw [if_pos (nI_lt (by omega) hj)]
      refine ⟨rfl, fun i hi e => ?_⟩
      have := (nI_eq hj (by omega)).mp e
      omega
theorem inn1 {n : Nat} (hn : n < 2 ^ 31) {i : Nat} (hi : i ≤ n) : sp_X7_in (nI i) 0 (nI n) = 1 := by
  rcases inn (x := nI i) hn with ⟨_, h⟩ | ⟨h, _⟩
  · exact absurd rfl (h i hi)
  · exact h
theorem inn0 {n : Nat} (hn : n < 2 ^ 31) {i : Nat} (hi : n < i) (hi2 : i < 2 ^ 31) : sp_X7_in (nI i) 0 (nI n) = 0 := by
  rcases inn (x := nI i) hn with ⟨h, _⟩ | ⟨_, j, hj, e⟩
  · exact h
  · have := (nI_eq hi2 (by omega)).mp e
    omega
section CE
variable {w r t : Nat} {mg st : Nat → Int32}
theorem ic_of (h : WR w r) (h0 : mg 0 = nI w) (h1 : mg 1 = nI r) (x y : Int32) : (sp_X7_isCell mg x y = 0) ∨ (sp_X7_isCell mg x y = 1 ∧ ∃ i j, i < w ∧ j < r ∧ x = nI i ∧ y = nI j) := by
  have a1 := h.w1
  have a2 := h.w5
  have a3 := h.r1
  have a4 := h.r4
  unfold sp_X7_isCell
  rw [h0, h1, show (1 : Int32) = nI 1 from rfl, pk_sub a1, pk_sub a3]
  show (if sp_X7_in x 0 (nI (w - 1)) = 0 then (0 : Int32) else (if sp_X7_in y 0 (nI (r - 1)) = 0 then (0 : Int32) else (1 : Int32))) = 0 ∨ _
  rcases inn (x := x) (n := w - 1) (by omega) with ⟨h, _⟩ | ⟨h, i, hi, ex⟩
  · left; rw [if_pos h]
  · rw [h, if_neg (by decide)]
    rcases inn (x := y) (n := r - 1) (by omega) with ⟨h, _⟩ | ⟨h, j, hj, ey⟩
    · left; rw [if_pos h]
    · right
      refine ⟨?_, i, j, by omega, by omega, ex, ey⟩
      show (if (1 : Int32) = 0 then (0 : Int32) else (if sp_X7_in y 0 (nI (r - 1)) = 0 then (0 : Int32) else (1 : Int32))) = 1
      rw [if_neg (by decide), ey, inn1 (by omega) hj, if_neg (by decide)]
theorem ic_1 (h : WR w r) (h0 : mg 0 = nI w) (h1 : mg 1 = nI r) {i j : Nat} (hi : i < w) (hj : j < r) : sp_X7_isCell mg (nI i) (nI j) = 1 := by
  have a1 := h.w1
  have a2 := h.w5
  have a3 := h.r1
  have a4 := h.r4
  show (if sp_X7_in (nI i) 0 (mg 0 - (1 : Int32)) = 0 then (0 : Int32) else (if sp_X7_in (nI j) 0 (mg 1 - (1 : Int32)) = 0 then (0 : Int32) else (1 : Int32))) = 1
  rw [h0, h1, show (1 : Int32) = nI 1 from rfl, pk_sub a1, pk_sub a3, inn1 (by omega) (by omega), inn1 (by omega) (by omega)]
  rfl
theorem ic_0 (h : WR w r) (h0 : mg 0 = nI w) {i : Nat} {y : Int32} (hi : w ≤ i) (hi2 : i < 2 ^ 31) : sp_X7_isCell mg (nI i) y = 0 := by
  have a1 := h.w1
  have a2 := h.w5
  show (if sp_X7_in (nI i) 0 (mg 0 - (1 : Int32)) = 0 then (0 : Int32) else _) = 0
  rw [h0, show (1 : Int32) = nI 1 from rfl, pk_sub a1, inn0 (by omega) (by omega) hi2]
  rfl
theorem ic_n {x y : Int32} (hx : x < 0) : sp_X7_isCell mg x y = 0 := by
  have e : sp_X7_in x 0 (mg 0 - (1 : Int32)) = 0 := by unfold sp_X7_in; rw [if_pos hx]
  show (if sp_X7_in x 0 (mg 0 - (1 : Int32)) = 0 then (0 : Int32) else _) = 0
  rw [e]
  rfl
theorem icl_0 {c x y : Int32} (hc : sp_X7_isCell mg x y = 0) : sp_X7_isCloth mg c x y = 0 := by
  show (if sp_X7_isCell mg x y = 0 then (0 : Int32) else _) = 0
  rw [if_pos hc]
theorem icl_1 (h : WR w r) (h0 : mg 0 = nI w) (h1 : mg 1 = nI r) {c : Int32} {i j : Nat} (hi : i < w) (hj : j < r) : sp_X7_isCloth mg c (nI i) (nI j) = if bt c (5 * j + i) = true then 1 else 0 := by
  have a2 := h.w5
  have a4 := h.r4
  show (if sp_X7_isCell mg (nI i) (nI j) = 0 then (0 : Int32) else (if sp_X7_has c ((nI 5 * nI j) + nI i) = 0 then (0 : Int32) else (1 : Int32))) = _
  rw [ic_1 h h0 h1 hi hj, if_neg (by decide), pk_mul, nI_add, has_eq (by omega)]
  by_cases q : bt c (5 * j + i) = true
  · rw [if_pos q]; rfl
  · rw [if_neg q]; rfl
/-- what is still -/
def stl (w r t : Nat) (c b : Int32) (k : Nat) : Prop := dr w r t k ∧ ((b = 0 ∧ ((1 ≤ k % 5 ∧ bt c (k - 1) = true) ∨ (2 ≤ k % 5 ∧ bt c (k - 2) = true))) ∨ (b ≠ 0 ∧ (bt c k = true ∨ (k % 5 + 1 < w ∧ bt c (k + 1) = true))))
theorem j64 {y : Nat} {v : Int32} (ht : st 22 = nI t) (hy : y < 100) (ht2 : t < 100) (hv : v = 0 ∨ v = 1) : (jn_X7_isStill_64 st (nI y) v = 0 ∨ jn_X7_isStill_64 st (nI y) v = 1) ∧ (jn_X7_isStill_64 st (nI y) v = 1 ↔ v = 1 ∧ t ≤ y) := by
  show ((if v = 0 then (0 : Int32) else (if nI y < st 22 then (0 : Int32) else (1 : Int32))) = 0 ∨ (if v = 0 then (0 : Int32) else (if nI y < st 22 then (0 : Int32) else (1 : Int32))) = 1) ∧ ((if v = 0 then (0 : Int32) else (if nI y < st 22 then (0 : Int32) else (1 : Int32))) = 1 ↔ _)
  rw [ht]
  rcases hv with rfl | rfl
  · simp
  · rw [if_neg (by decide)]
    by_cases c : y < t
    · rw [if_pos (nI_lt c (by omega))]
      exact ⟨Or.inl rfl, fun q => absurd q (by decide), fun q => absurd q.2 (by omega)⟩
    · rw [if_neg (nI_nlt (by omega) (by omega))]
      exact ⟨Or.inr rfl, fun _ => ⟨rfl, by omega⟩, fun _ => rfl⟩
theorem isx {y p q : Int32} : (if p = 0 then (if q = 0 then (jn_X7_isStill_64 st y (0 : Int32)) else (jn_X7_isStill_64 st y (1 : Int32))) else (jn_X7_isStill_64 st y (1 : Int32))) = jn_X7_isStill_64 st y (if p = 0 ∧ q = 0 then 0 else 1) := by
  by_cases h : p = 0
  · rw [if_pos h]
    by_cases h2 : q = 0
    · rw [if_pos h2, if_pos ⟨h, h2⟩]
    · rw [if_neg h2, if_neg (fun z => h2 z.2)]
  · rw [if_neg h, if_neg (fun z => h z.1)]
theorem icl_m (h : WR w r) (h0 : mg 0 = nI w) (h1 : mg 1 = nI r) {c : Int32} {i j d : Nat} (hi : i < w) (hj : j < r) (hd : d < 10) : sp_X7_isCloth mg c (nI i - nI d) (nI j) = 0 ↔ ¬ (d ≤ i ∧ bt c (5 * j + i - d) = true) := by
  have a2 := h.w5
  by_cases q : d ≤ i
  · rw [pk_sub q, icl_1 h h0 h1 (by omega) hj, show 5 * j + (i - d) = 5 * j + i - d by omega]
    by_cases z : bt c (5 * j + i - d) = true
    · rw [if_pos z]; simp [q, z]
    · rw [if_neg z]; simp [z]
  · rw [icl_0 (ic_n (pk_sneg (by omega) (by omega)))]
    simp [q]
theorem icl_p (h : WR w r) (h0 : mg 0 = nI w) (h1 : mg 1 = nI r) {c : Int32} {i j d : Nat} (hi : i < w) (hj : j < r) (hd : d < 10) : sp_X7_isCloth mg c (nI (i + d)) (nI j) = 0 ↔ ¬ (i + d < w ∧ bt c (5 * j + i + d) = true) := by
  have a2 := h.w5
  by_cases q : i + d < w
  · rw [icl_1 h h0 h1 q hj, show 5 * j + (i + d) = 5 * j + i + d by omega]
    by_cases z : bt c (5 * j + i + d) = true
    · rw [if_pos z]; simp [q, z]
    · rw [if_neg z]; simp [z]
  · rw [icl_0 (ic_0 h h0 (by omega) (by omega))]
    simp [q]
theorem is_of (h : WR w r) (h0 : mg 0 = nI w) (h1 : mg 1 = nI r) (ht : st 22 = nI t) (htr : t ≤ r) {c b : Int32} {i j : Nat} (hi : i < w) (hj : j < r) : (sp_X7_isStill mg st c (nI i) (nI j) b = 0 ∨ sp_X7_isStill mg st c (nI i) (nI j) b = 1) ∧ (sp_X7_isStill mg st c (nI i) (nI j) b = 1 ↔ stl w r t c b (5 * j + i)) := by
  have a2 := h.w5
  have a4 := h.r4
  have hd : dr w r t (5 * j + i) ↔ t ≤ j := by
    show (5 * j + i) % 5 < w ∧ t ≤ (5 * j + i) / 5 ∧ (5 * j + i) / 5 < r ↔ _
    omega
  have hm : (5 * j + i) % 5 = i := by omega
  have hv : ∀ P : Prop, [Decidable P] → ((if P then (0 : Int32) else 1) = 0 ∨ (if P then (0 : Int32) else 1) = 1) ∧ ((if P then (0 : Int32) else 1) = 1 ↔ ¬ P) := by
    intro P _
    by_cases hp : P
    · rw [if_pos hp]; exact ⟨Or.inl rfl, fun q => absurd q (by decide), fun q => absurd hp q⟩
    · rw [if_neg hp]; exact ⟨Or.inr rfl, fun _ => hp, fun _ => rfl⟩
  unfold stl
  rw [hd, hm]
  by_cases hb : b = 0
  · have e : sp_X7_isStill mg st c (nI i) (nI j) b = jn_X7_isStill_64 st (nI j) (if sp_X7_isCloth mg c (nI i - (1 : Int32)) (nI j) = 0 ∧ sp_X7_isCloth mg c (nI i - (2 : Int32)) (nI j) = 0 then 0 else 1) := by
      rw [← isx]
      show (if b = 0 then _ else _) = _
      rw [if_pos hb]
      rfl
    obtain ⟨v1, v2⟩ := hv (sp_X7_isCloth mg c (nI i - (1 : Int32)) (nI j) = 0 ∧ sp_X7_isCloth mg c (nI i - (2 : Int32)) (nI j) = 0)
    obtain ⟨k1, k2⟩ := j64 (st := st) (y := j) ht (by omega) (by omega) v1
    rw [e]
    refine ⟨k1, k2.trans ?_⟩
    have m1 := icl_m h h0 h1 (c := c) (d := 1) hi hj (by omega)
    have m2 := icl_m h h0 h1 (c := c) (d := 2) hi hj (by omega)
    have m1 : sp_X7_isCloth mg c (nI i - (1 : Int32)) (nI j) = 0 ↔ _ := m1
    have m2 : sp_X7_isCloth mg c (nI i - (2 : Int32)) (nI j) = 0 ↔ _ := m2
    rw [v2, m1, m2]
    simp only [hb, ne_eq, not_true, false_and, or_false, true_and]
    by_cases p1 : 1 ≤ i ∧ bt c (5 * j + i - 1) = true <;> by_cases p2 : 2 ≤ i ∧ bt c (5 * j + i - 2) = true <;> simp [p1, p2]
  · have e : sp_X7_isStill mg st c (nI i) (nI j) b = jn_X7_isStill_64 st (nI j) (if sp_X7_isCloth mg c (nI i) (nI j) = 0 ∧ sp_X7_isCloth mg c (nI i + (1 : Int32)) (nI j) = 0 then 0 else 1) := by
      rw [← isx]
      show (if b = 0 then _ else _) = _
      rw [if_neg hb]
      rfl
    obtain ⟨v1, v2⟩ := hv (sp_X7_isCloth mg c (nI i) (nI j) = 0 ∧ sp_X7_isCloth mg c (nI i + (1 : Int32)) (nI j) = 0)
    obtain ⟨k1, k2⟩ := j64 (st := st) (y := j) ht (by omega) (by omega) v1
    rw [e]
    refine ⟨k1, k2.trans ?_⟩
    have m1 := icl_p h h0 h1 (c := c) (d := 0) hi hj (by omega)
    have m2 := icl_p h h0 h1 (c := c) (d := 1) hi hj (by omega)
    rw [nI_succ] at m2
    have m2 : sp_X7_isCloth mg c (nI i + (1 : Int32)) (nI j) = 0 ↔ _ := m2
    have m1 : sp_X7_isCloth mg c (nI i) (nI j) = 0 ↔ ¬ (i < w ∧ bt c (5 * j + i) = true) := m1
    rw [v2, m1, m2]
    simp only [hb, ne_eq, not_false_eq_true, false_and, false_or, true_and]
    by_cases p1 : bt c (5 * j + i) = true <;> by_cases p2 : i + 1 < w ∧ bt c (5 * j + i + 1) = true <;> simp [p1, p2, hi]
end CE
