theorem st_8 {mg tx b : Nat → Int32} {N : Nat} (hN : N ≤ 150) (hT : ∀ j, j < N → 0 ≤ tx j) (h3 : mg 3 = nI N) (e : b = sp_X7_next (upd (upd (upd (upd (upd (upd (upd mg 4 (0 : Int32)) 8 (0 : Int32)) 9 (0 : Int32)) 10 (3 : Int32)) 11 (3 : Int32)) 12 (0 : Int32)) 13 (-1 : Int32)) tx) : b 8 = 0 := by
  rw [next_eq (mg := upd (upd (upd (upd (upd (upd (upd mg 4 (0 : Int32)) 8 (0 : Int32)) 9 (0 : Int32)) 10 (3 : Int32)) 11 (3 : Int32)) 12 (0 : Int32)) 13 (-1 : Int32)) (N := N) (p := 0) hN hT h3 rfl (Nat.zero_le _)] at e
  rw [e]; rfl
theorem st_w {mg b : Nat → Int32} {N : Nat} (h : Lk N (upd (upd (upd (upd (upd (upd (upd mg 4 (0 : Int32)) 8 (0 : Int32)) 9 (0 : Int32)) 10 (3 : Int32)) 11 (3 : Int32)) 12 (0 : Int32)) 13 (-1 : Int32)) b) : WH b := ⟨h.s10 (show 1 ≤ (3 : Int32).toInt ∧ (3 : Int32).toInt ≤ 5 by decide), h.s11 (show 1 ≤ (3 : Int32).toInt ∧ (3 : Int32).toInt ≤ 4 by decide)⟩
theorem ri_e {mg tx sh b s : Nat → Int32} {N : Nat} (e : (b, s) = sp_X7_readItem mg tx sh) (hN : N ≤ 150) (hT : ∀ j, j < N → 0 ≤ tx j) (h3 : mg 3 = nI N) (hc : ∃ p, p ≤ N ∧ mg 4 = nI p) (hw : WH mg) :
    b 3 = nI N ∧ (∃ p p', p ≤ p' ∧ p' ≤ N ∧ mg 4 = nI p ∧ b 4 = nI p' ∧ (b 8 = 0 → p < p') ∧ N ≤ 150) ∧ (b 8 = 0 → WH b) ∧ (b 8 = 0 ∨ b 8 = 1) := by
  obtain ⟨p, hp, h4⟩ := hc
  obtain ⟨a, ⟨p', b1, b2, b3, b4⟩, d⟩ := ri_ok hN hT h3 h4 hp hw e
  exact ⟨a, ⟨p, p', b1, b2, h4, b3, b4, hN⟩, d⟩
theorem st_c {mg b : Nat → Int32} {N : Nat} {v : Int32} (t : b 3 = nI N ∧ (∃ p p', p ≤ p' ∧ p' ≤ N ∧ mg 4 = nI p ∧ b 4 = nI p' ∧ (b 8 = 0 → p < p') ∧ N ≤ 150) ∧ (b 8 = 0 → WH b) ∧ (b 8 = 0 ∨ b 8 = 1)) : ∃ p, p ≤ N ∧ (upd b 9 v) 4 = nI p := by
  obtain ⟨_, ⟨p, p', b1, b2, h4, b3, b4, _⟩, _⟩ := t
  exact ⟨p', b2, b3⟩
theorem st_mu {mg b : Nat → Int32} {N n : Nat} {v : Int32} (t : b 3 = nI N ∧ (∃ p p', p ≤ p' ∧ p' ≤ N ∧ mg 4 = nI p ∧ b 4 = nI p' ∧ (b 8 = 0 → p < p') ∧ N ≤ 150) ∧ (b 8 = 0 → WH b) ∧ (b 8 = 0 ∨ b 8 = 1)) (c : mg 8 = 0) (i3 : mg 3 = nI N)
    (hm : (2 * ((mg 3).toInt - (mg 4).toInt) + (if mg 8 = 0 then 1 else 0)).toNat < n + 1) : (2 * (((upd b 9 v) 3).toInt - ((upd b 9 v) 4).toInt) + (if (upd b 9 v) 8 = 0 then 1 else 0)).toNat < n := by
  obtain ⟨t3, ⟨p, p', b1, b2, h4, b3, b4, hN⟩, _⟩ := t
  show (2 * ((b 3).toInt - (b 4).toInt) + (if b 8 = 0 then 1 else 0)).toNat < n
  rw [i3, h4, if_pos c, nI_toI (by omega), nI_toI (by omega)] at hm
  rw [t3, b3, nI_toI (by omega), nI_toI (by omega)]
  by_cases q : b 8 = 0
  · rw [if_pos q]
    have := b4 q
    omega
  · rw [if_neg q]
    omega
