/-! sets of cells -/
theorem bxi {x y : Int32} (h : ∀ i, i < 32 → (bt x i = true ↔ bt y i = true)) : x = y := bx fun i hi => by
  have := h i hi
  cases h1 : bt x i <;> cases h2 : bt y i <;> simp_all
section ST
variable {w r t k : Nat} {V : Nat → Nat → Int32} {h b : Nat → Int32}
theorem dry_bt (hw : WR w r) (S : SN w r t (V k) h b) {i : Nat} (hi : i < 32) : bt (sp_X4_dryCells V k) i = decide (dr w r t i) := by
  show bt (sp_X4_cellsFrom V k (V k 4)) i = _
  rw [S.v4, S.b22, cf_bt hw S.v0 S.v1 S.tr hi]
theorem dry_sm (hw : WR w r) (S : SN w r t (V k) h b) : sm (sp_X4_dryCells V k) := fun i hi => by
  by_cases c : i < 32
  · rw [dry_bt hw S c, decide_eq_false_iff_not]
    intro q
    have := dr_20 hw q
    omega
  · exact bt_ge (by omega)
theorem dry_iff (hw : WR w r) (S : SN w r t (V k) h b) (i : Nat) : bt (sp_X4_dryCells V k) i = true ↔ dr w r t i := by
  by_cases c : i < 32
  · rw [dry_bt hw S c, decide_eq_true_iff]
  · rw [bt_ge (by omega)]
    refine ⟨fun q => absurd q (by decide), fun q => ?_⟩
    have := dr_20 hw q
    omega
theorem sw_bt (hw : WR w r) (S : SN w r t (V k) h b) {c bl : Int32} (hc : ∀ i, bt c i = true → i < 20 ∧ gr w r i) (i : Nat) : bt (sp_X4_stillWith V k c bl) i = true ↔ stl w r t c bl i := by
  have w5 := hw.w5
  have hsm : sm c := fun i hi => by
    cases hb : bt c i
    · rfl
    · have := (hc i hb).1; omega
  by_cases hd : dr w r t i
  · have hi := dr_20 hw hd
    have hd1 : i % 5 < w := hd.1
    by_cases hb : bl = 0
    · have e : sp_X4_stillWith V k c bl = (sp_X4_rightOf c ||| sp_X4_rightOf (sp_X4_rightOf c)) &&& sp_X4_dryCells V k := by
        show (if bl = 0 then _ else _) = _
        rw [if_pos hb]
        rfl
      rw [e, bt_and, bt_or, right_bt hi, right_bt hi]
      refine Iff.trans ?_ (and_iff_right hd).symm
      have e2 : bt (sp_X4_dryCells V k) i = true := (dry_iff hw S i).mpr hd
      rw [e2]
      by_cases z : i % 5 = 0
      · simp [z, hb]
      · rw [right_bt (show i - 1 < 20 by omega), show i - 1 - 1 = i - 2 by omega]
        simp [z, hb, show 1 ≤ i % 5 by omega, show (¬ (i - 1) % 5 = 0) = (2 ≤ i % 5) from propext (by omega)]
    · have e : sp_X4_stillWith V k c bl = (c ||| sp_X4_leftOf c) &&& sp_X4_dryCells V k := by
        show (if bl = 0 then _ else _) = _
        rw [if_neg hb]
        rfl
      rw [e, bt_and, bt_or, left_bt hsm hi]
      refine Iff.trans ?_ (and_iff_right hd).symm
      have e2 : bt (sp_X4_dryCells V k) i = true := (dry_iff hw S i).mpr hd
      rw [e2]
      simp only [hb, false_and, false_or, true_and, ne_eq, not_false_eq_true, Bool.and_true, Bool.or_eq_true, Bool.and_eq_true, decide_eq_true_eq]
      constructor
      · rintro (q | ⟨q1, q2⟩)
        · exact Or.inl q
        · have := (hc _ q2).2.1
          exact Or.inr ⟨by omega, q2⟩
      · rintro (q | ⟨q1, q2⟩)
        · exact Or.inl q
        · exact Or.inr ⟨by omega, q2⟩
  · have e : ∃ z, sp_X4_stillWith V k c bl = z &&& sp_X4_dryCells V k := by
      by_cases hb : bl = 0
      · exact ⟨sp_X4_rightOf c ||| sp_X4_rightOf (sp_X4_rightOf c), by show (if bl = 0 then _ else _) = _; rw [if_pos hb]; rfl⟩
      · exact ⟨c ||| sp_X4_leftOf c, by show (if bl = 0 then _ else _) = _; rw [if_neg hb]; rfl⟩
    obtain ⟨z, e⟩ := e
    have e2 : bt (sp_X4_dryCells V k) i = false := by
      cases q : bt (sp_X4_dryCells V k) i
      · rfl
      · exact absurd ((dry_iff hw S i).mp q) hd
    rw [e, bt_and, e2]
    refine ⟨fun q => absurd q (by simp), fun q => absurd q.1 hd⟩
end ST
section SO
variable {w r t : Nat} {mg st : Nat → Int32}
theorem so_bt (h : WR w r) (h0 : mg 0 = nI w) (h1 : mg 1 = nI r) (ht : st 22 = nI t) (htr : t ≤ r) {c b : Int32} {k : Nat} (hk : k < 32) : bt (sp_X7_stillOnes mg st c b) k = true ↔ stl w r t c b k := by
  have w5 := h.w5
  have r4 := h.r4
  have inner : ∀ (j : Nat) (a : Int32), j < r → (∀ k, k < 32 → (bt a k = true ↔ stl w r t c b k ∧ k / 5 < j)) → ∀ k, k < 32 → (bt (lp_X7_stillOnes_17 mg st c b (nI j) (((mg 0).toInt - (0 : Int32).toInt).toNat + 1) a (0 : Int32)) k = true ↔ stl w r t c b k ∧ k / 5 < j + 1) := by
    intro j a hj hp
    have key := lpv (lp := fun n a y => lp_X7_stillOnes_17 mg st c b (nI j) n a y) (N := w) (P := fun i a => ∀ k, k < 32 → (bt a k = true ↔ stl w r t c b k ∧ (k / 5 < j ∨ (k / 5 = j ∧ k % 5 < i)))) (fun n a _ => ?_) (fun n a i hi hq => ?_) w 0 (((mg 0).toInt - (0 : Int32).toInt).toNat + 1) a (by omega) (by rw [h0, nI_toI (by omega)]; show w < ((w : Int) - 0).toNat + 1; omega) (fun k hk => by rw [hp k hk]; constructor <;> rintro ⟨q1, q2⟩ <;> exact ⟨q1, by omega⟩)
    · intro k hk
      refine (key k hk).trans ?_
      constructor
      · rintro ⟨q1, q2⟩
        exact ⟨q1, by omega⟩
      · rintro ⟨q1, q2⟩
        have := q1.1.1
        exact ⟨q1, by omega⟩
    · show (if mg 0 ≤ nI w then a else _) = a
      rw [h0, if_pos ((leI).mpr (Nat.le_refl _))]
    · obtain ⟨s1, s2⟩ := is_of h h0 h1 ht htr (c := c) (b := b) hi hj
      have ez : lp_X7_stillOnes_17 mg st c b (nI j) (n + 1) a (nI i) = (if sp_X7_isStill mg st c (nI i) (nI j) b = 0 then (lp_X7_stillOnes_17 mg st c b (nI j) n (a ||| (0 : Int32)) (nI i + 1)) else (lp_X7_stillOnes_17 mg st c b (nI j) n (a ||| ((1 : Int32) <<< ((((5 : Int32) * nI j) + nI i) &&& 31))) (nI i + 1))) := by
        show (if mg 0 ≤ nI i then a else _) = _
        rw [h0, if_neg (fun q => absurd ((leI).mp q) (by omega))]
        rfl
      have e5 : ((5 : Int32) * nI j) + nI i = nI (5 * j + i) := by rw [show (5 : Int32) = nI 5 from rfl, pk_mul, nI_add]
      by_cases q : sp_X7_isStill mg st c (nI i) (nI j) b = 0
      · refine ⟨a, fun k hk => ?_, ?_⟩
        · rw [hq k hk]
          constructor
          · rintro ⟨q1, q2⟩
            exact ⟨q1, by omega⟩
          · rintro ⟨q1, q2⟩
            refine ⟨q1, ?_⟩
            by_cases z : k = 5 * j + i
            · subst z
              have := s2.mpr q1
              rw [q] at this
              exact absurd this (by decide)
            · omega
        · show lp_X7_stillOnes_17 mg st c b (nI j) (n + 1) a (nI i) = _
          rw [ez, if_pos q, nI_succ]
          congr 1
          exact bx fun i _ => by rw [bt_or, bt_0]; simp
      · refine ⟨a ||| ((1 : Int32) <<< ((((5 : Int32) * nI j) + nI i) &&& 31)), fun k hk => ?_, ?_⟩
        · rw [e5, bt_or, bt_bit (by omega) hk, Bool.or_eq_true, hq k hk, decide_eq_true_iff]
          constructor
          · rintro (⟨q1, q2⟩ | rfl)
            · exact ⟨q1, by omega⟩
            · exact ⟨s2.mp (by rcases s1 with z | z; exact absurd z q; exact z), by omega⟩
          · rintro ⟨q1, q2⟩
            by_cases z : k = 5 * j + i
            · exact Or.inr z
            · exact Or.inl ⟨q1, by omega⟩
        · show lp_X7_stillOnes_17 mg st c b (nI j) (n + 1) a (nI i) = _
          rw [ez, if_neg q, nI_succ]
  have key := lpv (lp := fun n a y => lp_X7_stillOnes_5 mg st c b n a y) (N := r) (P := fun j a => ∀ k, k < 32 → (bt a k = true ↔ stl w r t c b k ∧ k / 5 < j)) (fun n a _ => ?_) (fun n a j hj hq => ⟨_, inner j a hj hq, ?_⟩) r 0 (((mg 1).toInt - (0 : Int32).toInt).toNat + 1) 0 (by omega) (by rw [h1, nI_toI (by omega)]; show r < ((r : Int) - 0).toNat + 1; omega) (fun k hk => by rw [bt_0]; simp)
  · refine (key k hk).trans ⟨fun q => q.1, fun q => ⟨q, q.1.2.2⟩⟩
  · show (if mg 1 ≤ nI r then a else _) = a
    rw [h1, if_pos ((leI).mpr (Nat.le_refl _))]
  · show (if mg 1 ≤ nI j then a else _) = _
    rw [h1, if_neg (fun q => absurd ((leI).mp q) (by omega)), nI_succ]
    rfl
end SO
