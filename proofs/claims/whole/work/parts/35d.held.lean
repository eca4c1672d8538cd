section HO
variable {w r t k : Nat} {h b : Nat → Int32} {V Hd : Nat → Nat → Int32}
theorem ho_eq (S : SN w r t (V k) (Hd k) b) {i q : Nat} (hi : i < 20) (hq : q ≤ 5) (hb : b i = nI q) : sp_X4_holderOf Hd k ((1 : Int32) <<< (nI i &&& 31)) = if q = 0 then (-9 : Int32) else nI (q - 1) := by
  have key : ∀ (c j n : Nat), j + c = 5 → c < n → (q = 0 ∨ j < q) → lp_X4_holderOf_2 Hd k ((1 : Int32) <<< (nI i &&& 31)) n (nI j) = if q = 0 then (-9 : Int32) else nI (q - 1) := by
    intro c
    induction c with
    | zero =>
      intro j n hj hn hz
      obtain ⟨m, rfl⟩ : ∃ m, n = m + 1 := ⟨n - 1, by omega⟩
      have hj5 : j = 5 := by omega
      subst hj5
      show (if (5 : Int32) ≤ nI 5 then (-9 : Int32) else _) = _
      rw [if_pos (by decide), if_pos (by omega)]
    | succ c ih =>
      intro j n hj hn hz
      obtain ⟨m, rfl⟩ : ∃ m, n = m + 1 := ⟨n - 1, by omega⟩
      have c1 : ¬ (5 : Int32) ≤ nI j := nI_ge (b := 5) (by omega) (by decide)
      show (if (5 : Int32) ≤ nI j then (-9 : Int32) else (if Hd k (nI j).toNatClampNeg &&& ((1 : Int32) <<< (nI i &&& 31)) = 0 then lp_X4_holderOf_2 Hd k ((1 : Int32) <<< (nI i &&& 31)) m (nI j + 1) else nI j)) = _
      rw [if_neg c1, nI_clamp (by omega), ← nI_succ]
      have e := S.held j (by omega) i
      by_cases z : q = j + 1
      · have e1 : ¬ (Hd k j &&& ((1 : Int32) <<< (nI i &&& 31)) = 0) := by
          rw [and_bit (by omega), e, decide_eq_false_iff_not]
          exact fun n => n ⟨hi, by rw [hb, z]⟩
        rw [if_neg e1, if_neg (by omega)]
        congr 1
        omega
      · have e1 : Hd k j &&& ((1 : Int32) <<< (nI i &&& 31)) = 0 := by
          rw [and_bit (by omega), e, decide_eq_false_iff_not]
          rintro ⟨-, n⟩
          rw [hb] at n
          have := (nI_eq (by omega) (by omega)).mp n
          omega
        rw [if_pos e1]
        exact ih (j + 1) m (by omega) (by omega) (by omega)
  exact key 5 0 _ rfl (by decide) (by omega)
end HO
