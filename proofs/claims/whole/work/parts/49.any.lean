section BS
variable {w r : Nat} {g tb : Nat → Int32} {V Hd : Nat → Nat → Int32} {tr : Int64} {mg st im ke se tx : Nat → Int32} {mt : Int64}
theorem any_eq (h : RE w r g tb V Hd tr mg st im ke se tx mt) {t : Nat} (S : SN w r t (V (11 * 0 + 10)) (Hd (11 * 0 + 10)) st) {N : Nat} (hN : 20 < N) : sp_X4_heldByAny Hd (11 * 0 + 10) = lp_X7_now_4 st N (0 : Int32) (nI 0) := by
  have key := lpv (lp := fun n a y => lp_X7_now_4 st n a y) (N := 20) (P := fun j a => ∀ k, k < 32 → bt a k = decide (k < j ∧ ¬ st k ≤ 0)) (fun n a _ => ?_) (fun n a i hi hp => ?_) 20 0 N 0 rfl hN (fun k _ => by rw [bt_0, decide_eq_false (fun q => absurd q.1 (Nat.not_lt_zero _))])
  · refine bxi fun k hk => ?_
    have key : bt (lp_X7_now_4 st N (0 : Int32) (nI 0)) k = decide (k < 20 ∧ ¬ st k ≤ 0) := key k hk
    rw [key, any_bt S k, decide_eq_true_iff]
    constructor
    · rintro ⟨a, b⟩
      obtain ⟨q, hq5, hbq, hqd⟩ := S.hold k a
      refine ⟨a, ?_⟩
      rw [hbq]
      refine nI_nle ?_ (by omega)
      by_cases z : q = 0
      · subst z; exact absurd hbq b
      · omega
    · rintro ⟨a, b⟩
      exact ⟨a, fun z => b (by rw [z]; decide)⟩
  · show lp_X7_now_4 st (n + 1) a (nI 20) = a
    rw [← lp_X7_now_4_s, if_pos (show (20 : Int32) ≤ nI 20 by decide)]
  · show ∃ a', (∀ k, k < 32 → bt a' k = decide (k < i + 1 ∧ ¬ st k ≤ 0)) ∧ lp_X7_now_4 st (n + 1) a (nI i) = lp_X7_now_4 st n a' (nI (i + 1))
    rw [← lp_X7_now_4_s, if_neg (show ¬ (20 : Int32) ≤ nI i from nI_ge (b := 20) hi (by decide)), nI_clamp (by omega), ← nI_succ]
    by_cases q : st i ≤ 0
    · rw [if_pos q]
      refine ⟨_, fun k hk => ?_, rfl⟩
      rw [bt_or, bt_0, Bool.or_false, hp k hk]
      apply decide_eq_decide.mpr
      constructor
      · rintro ⟨a1, a2⟩; exact ⟨by omega, a2⟩
      · rintro ⟨a1, a2⟩
        by_cases z : k = i
        · subst z; exact absurd q a2
        · exact ⟨by omega, a2⟩
    · rw [if_neg q]
      refine ⟨_, fun k hk => ?_, rfl⟩
      rw [bt_or, hp k hk, bt_bit (by omega) hk, ← Bool.decide_or]
      apply decide_eq_decide.mpr
      constructor
      · rintro (⟨a1, a2⟩ | a1)
        · exact ⟨by omega, a2⟩
        · subst a1; exact ⟨by omega, q⟩
      · rintro ⟨a1, a2⟩
        by_cases z : k = i
        · exact Or.inr z
        · exact Or.inl ⟨by omega, a2⟩
end BS
