theorem la_lt {mg tx : Nat → Int32} {x r : Int32} (e : r = sp_X7_letterAt mg tx x) (h : ¬ r = -1) : x < mg 3 := by
  unfold sp_X7_letterAt at e
  by_cases c : mg 3 ≤ x
  · rw [if_pos c] at e; exact absurd e h
  · exact nle_lt c
theorem up0l {i B : Int32} (h : i < B) (h0 : 0 ≤ i.toInt) : 0 ≤ (i + 1).toInt := by rw [up1 h]; omega
theorem isFigure_ne {x r : Int32} (e : r = sp_X7_isFigure x) (h : ¬ r = 0) : ¬ x = -1 := by
  intro q
  subst q
  rw [e] at h
  exact h (by decide)
theorem isLetter_ne {x r : Int32} (e : r = sp_X7_isLetter x) (h : ¬ r = 0) : ¬ x = -1 := by
  intro q
  subst q
  rw [e] at h
  exact h (by decide)
