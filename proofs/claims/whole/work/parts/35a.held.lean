/-! who holds -/
theorem hb_lp {st : Nat → Int32} {f N : Nat} (hN : 20 < N) : ∀ k, k < 32 → bt (lp_X7_heldBy_4 st (nI f) N (0 : Int32) (0 : Int32)) k = decide (k < 20 ∧ st k = nI (f + 1)) := by
  rw [show (0 : Int32) = nI 0 from nI_0.symm]
  refine lpv (lp := fun n a y => lp_X7_heldBy_4 st (nI f) n a y) (N := 20) (P := fun j a => ∀ k, k < 32 → bt a k = decide (k < j ∧ st k = nI (f + 1))) (fun n a _ => ?_) (fun n a i hi hp => ?_) 20 0 N (nI 0) rfl hN (fun k _ => by rw [nI_0, bt_0, decide_eq_false (fun q => absurd q.1 (Nat.not_lt_zero _))])
  · show (if (20 : Int32) ≤ nI 20 then a else _) = a
    rw [if_pos (by decide)]
  · have c : ¬ (20 : Int32) ≤ nI i := nI_ge (b := 20) hi (by decide)
    have e : lp_X7_heldBy_4 st (nI f) (n + 1) a (nI i) = (if st i = nI (f + 1) then (lp_X7_heldBy_4 st (nI f) n (a ||| ((1 : Int32) <<< (nI i &&& 31))) (nI (i + 1))) else (lp_X7_heldBy_4 st (nI f) n (a ||| (0 : Int32)) (nI (i + 1)))) := by
      show (if (20 : Int32) ≤ nI i then a else (if st (nI i).toNatClampNeg = nI f + (1 : Int32) then (lp_X7_heldBy_4 st (nI f) n (a ||| ((1 : Int32) <<< (nI i &&& 31))) (nI i + 1)) else (lp_X7_heldBy_4 st (nI f) n (a ||| (0 : Int32)) (nI i + 1)))) = _
      rw [if_neg c, nI_clamp (by omega), ← nI_succ, ← nI_succ]
    by_cases q : st i = nI (f + 1)
    · refine ⟨a ||| ((1 : Int32) <<< (nI i &&& 31)), fun k hk => ?_, by show lp_X7_heldBy_4 st (nI f) (n + 1) a (nI i) = _; rw [e, if_pos q]⟩
      rw [bt_or, hp k hk, bt_bit (by omega) hk, ← Bool.decide_or]
      congr 1
      apply propext
      constructor
      · rintro (⟨z1, z2⟩ | rfl)
        · exact ⟨by omega, z2⟩
        · exact ⟨by omega, q⟩
      · rintro ⟨z1, z2⟩
        by_cases z : k = i
        · exact Or.inr z
        · exact Or.inl ⟨by omega, z2⟩
    · refine ⟨a ||| (0 : Int32), fun k hk => ?_, by show lp_X7_heldBy_4 st (nI f) (n + 1) a (nI i) = _; rw [e, if_neg q]⟩
      rw [bt_or, hp k hk, bt_0, Bool.or_false]
      congr 1
      apply propext
      constructor
      · rintro ⟨z1, z2⟩
        exact ⟨by omega, z2⟩
      · rintro ⟨z1, z2⟩
        by_cases z : k = i
        · subst z; exact absurd z2 q
        · exact ⟨by omega, z2⟩
theorem nm_id {α : Type} (v : α) : nm v (fun e => e) = v := rfl
theorem hb_bt {st : Nat → Int32} {f : Nat} {k : Nat} (hk : k < 32) : bt (sp_X7_heldBy st (nI f)) k = decide (k < 20 ∧ st k = nI (f + 1)) := by
  have e : sp_X7_heldBy st (nI f) = lp_X7_heldBy_4 st (nI f) (((20 : Int32).toInt - (0 : Int32).toInt).toNat + 1) (0 : Int32) (0 : Int32) := by unfold sp_X7_heldBy; exact nm_id _
  have hn : 20 < ((20 : Int32).toInt - (0 : Int32).toInt).toNat + 1 := by decide
  rw [e]
  generalize ((20 : Int32).toInt - (0 : Int32).toInt).toNat + 1 = N at hn ⊢
  exact hb_lp hn k hk
