section HO
variable {w r t k : Nat} {h b : Nat → Int32} {V Hd : Nat → Nat → Int32}
theorem wh_eq {f : Nat} (hf : f < 5) : sp_X4_heldBy Hd k (nI f) = Hd k f := by
  have c1 : ¬ nI f < 0 := nI_pos (by omega)
  have c2 : ¬ (5 : Int32) ≤ nI f := nI_ge hf (by decide)
  show (if nI f < 0 then (0 : Int32) else (if (5 : Int32) ≤ nI f then (0 : Int32) else Hd k (nI f).toNatClampNeg)) = _
  rw [if_neg c1, if_neg c2, nI_clamp (by omega)]
theorem any_bt (S : SN w r t (V k) (Hd k) b) (i : Nat) : bt (sp_X4_heldByAny Hd k) i = true ↔ i < 20 ∧ b i ≠ 0 := by
  show bt (lp_X4_heldByAny_4 Hd k (((5 : Int32).toInt - (0 : Int32).toInt).toNat + 1) (0 : Int32) (0 : Int32)) i = true ↔ _
  have key := lpv (lp := fun n a y => lp_X4_heldByAny_4 Hd k n a y) (N := 5) (P := fun j a => ∀ i, bt a i = true ↔ i < 20 ∧ ∃ q, 1 ≤ q ∧ q ≤ j ∧ b i = nI q) (fun n a _ => ?_) (fun n a j hj hp => ⟨a ||| Hd k j, fun i => ?_, ?_⟩) 5 0 (((5 : Int32).toInt - (0 : Int32).toInt).toNat + 1) 0 rfl (by decide) (fun i => by rw [bt_0]; exact ⟨fun q => absurd q (by decide), fun q => by obtain ⟨_, z, _, _, _⟩ := q; omega⟩)
  · refine (key i).trans ⟨?_, ?_⟩
    · rintro ⟨h1, q, h2, h3, h4⟩
      exact ⟨h1, by rw [h4]; exact nI_ne0 (by omega) (by omega)⟩
    · rintro ⟨h1, h2⟩
      obtain ⟨q, h3, h4, -⟩ := S.hold i h1
      refine ⟨h1, q, ?_, h3, h4⟩
      by_cases z : q = 0
      · subst z; exact absurd h4 h2
      · omega
  · show (if (5 : Int32) ≤ nI 5 then a else _) = a
    rw [if_pos (by decide)]
  · rw [bt_or, Bool.or_eq_true, hp i, S.held j hj i, decide_eq_true_iff]
    constructor
    · rintro (⟨h1, q, h2, h3, h4⟩ | ⟨h1, h2⟩)
      · exact ⟨h1, q, h2, by omega, h4⟩
      · exact ⟨h1, j + 1, by omega, by omega, h2⟩
    · rintro ⟨h1, q, h2, h3, h4⟩
      by_cases z : q = j + 1
      · subst z; exact Or.inr ⟨h1, h4⟩
      · exact Or.inl ⟨h1, q, h2, by omega, h4⟩
  · have c : ¬ (5 : Int32) ≤ nI j := nI_ge hj (by decide)
    show (if (5 : Int32) ≤ nI j then a else lp_X4_heldByAny_4 Hd k n (a ||| Hd k (nI j).toNatClampNeg) (nI j + 1)) = _
    rw [if_neg c, nI_clamp (by omega), nI_succ]
end HO
