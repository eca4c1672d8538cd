/-! who holds -/
theorem hb_bt {st : Nat → Int32} {f : Nat} {k : Nat} (hk : k < 32) : bt (sp_X7_heldBy st (nI f)) k = decide (k < 20 ∧ st k = nI (f + 1)) := by
  show bt (lp_X7_heldBy_4 st (nI f) (((20 : Int32).toInt - (0 : Int32).toInt).toNat + 1) (0 : Int32) (0 : Int32)) k = _
  have key := lpv (lp := fun n a y => lp_X7_heldBy_4 st (nI f) n a y) (N := 20) (P := fun j a => ∀ k, k < 32 → bt a k = decide (k < j ∧ st k = nI (f + 1))) (fun n a _ => ?_) (fun n a i hi hp => ?_) 20 0 (((20 : Int32).toInt - (0 : Int32).toInt).toNat + 1) 0 rfl (by decide) (fun k _ => by rw [bt_0]; simp)
  · exact key k hk
  · show (if (20 : Int32) ≤ nI 20 then a else _) = a
    rw [if_pos (by decide)]
  · have c : ¬ (20 : Int32) ≤ nI i := nI_ge hi (by decide)
    have e : lp_X7_heldBy_4 st (nI f) (n + 1) a (nI i) = (if st i = nI (f + 1) then (lp_X7_heldBy_4 st (nI f) n (a ||| ((1 : Int32) <<< (nI i &&& 31))) (nI (i + 1))) else (lp_X7_heldBy_4 st (nI f) n (a ||| (0 : Int32)) (nI (i + 1)))) := by
      show (if (20 : Int32) ≤ nI i then a else (if st (nI i).toNatClampNeg = nI f + (1 : Int32) then _ else _)) = _
      rw [if_neg c, nI_clamp (by omega), ← nI_succ, ← nI_succ]
    by_cases q : st i = nI (f + 1)
    · refine ⟨a ||| ((1 : Int32) <<< (nI i &&& 31)), fun k hk => ?_, e.trans (if_pos q)⟩
      rw [bt_or, hp k hk, bt_bit (by omega) hk, ← Bool.decide_or]
      congr 1
      apply propext
      constructor
      · rintro (⟨z1, z2⟩ | rfl)
        · exact ⟨by omega, z2⟩
        · exact ⟨by omega, q⟩
      · rintro ⟨z1, z2⟩
        by_cases z : k = i
        · exact Or.inr z
        · exact Or.inl ⟨by omega, z2⟩
    · refine ⟨a ||| (0 : Int32), fun k hk => ?_, e.trans (if_neg q)⟩
      rw [bt_or, hp k hk, bt_0, Bool.or_false]
      congr 1
      apply propext
      constructor
      · rintro ⟨z1, z2⟩
        exact ⟨by omega, z2⟩
      · rintro ⟨z1, z2⟩
        by_cases z : k = i
        · subst z; exact absurd z2 q
        · exact ⟨by omega, z2⟩
theorem hb_eq {w r t f : Nat} {v h b st : Nat → Int32} (S : SN w r t v h b) (hs : ∀ j, j < 23 → st j = b j) (hf : f < 5) : sp_X7_heldBy st (nI f) = h f := bx fun i hi => by
  rw [hb_bt hi, S.held f hf i]
  congr 1
  apply propext
  constructor
  · rintro ⟨z1, z2⟩
    exact ⟨z1, by rw [← hs i (by omega)]; exact z2⟩
  · rintro ⟨z1, z2⟩
    exact ⟨z1, by rw [hs i (by omega)]; exact z2⟩
theorem held_sm {w r t f : Nat} {v h b : Nat → Int32} (S : SN w r t v h b) (hf : f < 5) : sm (h f) := fun i hi => by
  rw [S.held f hf i, decide_eq_false_iff_not]
  omega
section HO
variable {w r t k : Nat} {h b : Nat → Int32} {V Hd : Nat → Nat → Int32}
theorem wh_eq {f : Nat} (hf : f < 5) : sp_X4_heldBy Hd k (nI f) = Hd k f := by
  have c1 : ¬ nI f < 0 := nI_pos (by omega)
  have c2 : ¬ (5 : Int32) ≤ nI f := nI_ge hf (by decide)
  show (if nI f < 0 then (0 : Int32) else (if (5 : Int32) ≤ nI f then (0 : Int32) else Hd k (nI f).toNatClampNeg)) = _
  rw [if_neg c1, if_neg c2, nI_clamp (by omega)]
theorem any_bt (S : SN w r t (V k) (Hd k) b) (i : Nat) : bt (sp_X4_heldByAny Hd k) i = true ↔ i < 20 ∧ b i ≠ 0 := by
  show bt (lp_X4_heldByAny_4 Hd k (((5 : Int32).toInt - (0 : Int32).toInt).toNat + 1) (0 : Int32) (0 : Int32)) i = true ↔ _
  have key := lpv (lp := fun n a y => lp_X4_heldByAny_4 Hd k n a y) (N := 5) (P := fun j a => ∀ i, bt a i = true ↔ i < 20 ∧ ∃ q, 1 ≤ q ∧ q ≤ j ∧ b i = nI q) (fun n a _ => ?_) (fun n a j hj hp => ⟨a ||| Hd k j, fun i => ?_, ?_⟩) 5 0 (((5 : Int32).toInt - (0 : Int32).toInt).toNat + 1) 0 rfl (by decide) (fun i => by rw [bt_0]; exact ⟨fun q => absurd q (by decide), fun q => by obtain ⟨_, z, _, _, _⟩ := q; omega⟩)
  · refine (key i).trans ⟨?_, ?_⟩
    · rintro ⟨h1, q, h2, h3, h4⟩
      exact ⟨h1, by rw [h4]; exact nI_ne0 (by omega) (by omega)⟩
    · rintro ⟨h1, h2⟩
      obtain ⟨q, h3, h4, -⟩ := S.hold i h1
      refine ⟨h1, q, ?_, h3, h4⟩
      by_cases z : q = 0
      · subst z; exact absurd h4 h2
      · omega
  · show (if (5 : Int32) ≤ nI 5 then a else _) = a
    rw [if_pos (by decide)]
  · rw [bt_or, Bool.or_eq_true, hp i, S.held j hj i, decide_eq_true_iff]
    constructor
    · rintro (⟨h1, q, h2, h3, h4⟩ | ⟨h1, h2⟩)
      · exact ⟨h1, q, h2, by omega, h4⟩
      · exact ⟨h1, j + 1, by omega, by omega, h2⟩
    · rintro ⟨h1, q, h2, h3, h4⟩
      by_cases z : q = j + 1
      · subst z; exact Or.inr ⟨h1, h4⟩
      · exact Or.inl ⟨h1, q, h2, by omega, h4⟩
  · have c : ¬ (5 : Int32) ≤ nI j := nI_ge hj (by decide)
    show (if (5 : Int32) ≤ nI j then a else lp_X4_heldByAny_4 Hd k n (a ||| Hd k (nI j).toNatClampNeg) (nI j + 1)) = _
    rw [if_neg c, nI_clamp (by omega), nI_succ]
theorem ho_eq (S : SN w r t (V k) (Hd k) b) {i q : Nat} (hi : i < 20) (hq : q ≤ 5) (hb : b i = nI q) : sp_X4_holderOf Hd k ((1 : Int32) <<< (nI i &&& 31)) = if q = 0 then (-9 : Int32) else nI (q - 1) := by
  have key : ∀ (c j n : Nat), j + c = 5 → c < n → (q = 0 ∨ j < q) → lp_X4_holderOf_2 Hd k ((1 : Int32) <<< (nI i &&& 31)) n (nI j) = if q = 0 then (-9 : Int32) else nI (q - 1) := by
    intro c
    induction c with
    | zero =>
      intro j n hj hn hz
      obtain ⟨m, rfl⟩ : ∃ m, n = m + 1 := ⟨n - 1, by omega⟩
      have hj5 : j = 5 := by omega
      subst hj5
      show (if (5 : Int32) ≤ nI 5 then (-9 : Int32) else _) = _
      rw [if_pos (by decide), if_pos (by omega)]
    | succ c ih =>
      intro j n hj hn hz
      obtain ⟨m, rfl⟩ : ∃ m, n = m + 1 := ⟨n - 1, by omega⟩
      have c1 : ¬ (5 : Int32) ≤ nI j := nI_ge (b := 5) (by omega) (by decide)
      show (if (5 : Int32) ≤ nI j then (-9 : Int32) else (if Hd k (nI j).toNatClampNeg &&& ((1 : Int32) <<< (nI i &&& 31)) = 0 then lp_X4_holderOf_2 Hd k ((1 : Int32) <<< (nI i &&& 31)) m (nI j + 1) else nI j)) = _
      rw [if_neg c1, nI_clamp (by omega), ← nI_succ]
      have e := S.held j (by omega) i
      by_cases z : q = j + 1
      · have e1 : ¬ (Hd k j &&& ((1 : Int32) <<< (nI i &&& 31)) = 0) := by
          rw [and_bit (by omega), e, decide_eq_false_iff_not]
          exact fun n => n ⟨hi, by rw [hb, z]⟩
        rw [if_neg e1, if_neg (by omega)]
        congr 1
        omega
      · have e1 : Hd k j &&& ((1 : Int32) <<< (nI i &&& 31)) = 0 := by
          rw [and_bit (by omega), e, decide_eq_false_iff_not]
          rintro ⟨-, n⟩
          rw [hb] at n
          have := (nI_eq (by omega) (by omega)).mp n
          omega
        rw [if_pos e1]
        exact ih (j + 1) m (by omega) (by omega) (by omega)
  exact key 5 0 _ rfl (by decide) (by omega)
end HO
