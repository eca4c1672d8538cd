theorem tn_eq {mg tx : Nat → Int32} {N p : Nat} (l m : Int32) (hN : N ≤ 150) (hT : ∀ j, j < N → 0 ≤ tx j) (h3 : mg 3 = nI N) (h4 : mg 4 = nI p) (hp : p ≤ N) :
    sp_X7_takesNumber mg tx l m = if mg 8 = 0 ∧ mg 6 = 2 ∧ ¬ sp_X7_in (mg 7) l m = 0 then (mg 7, nxt tx N p (upd mg 8 0)) else (0, upd mg 8 1) := by
  have hn : sp_X7_next (upd mg 8 0) tx = nxt tx N p (upd mg 8 0) := next_eq hN hT (by simpa [upd] using h3) (by simpa [upd] using h4) hp
  have h7 : (upd mg 8 (0 : Int32)) 7 = mg 7 := rfl
  unfold sp_X7_takesNumber
  simp only [nm, jn_X7_takesNumber_32, jn_X7_takesNumber_43]
  simp only [show ((1 : Int32) = 0) = False by decide, if_true, if_false, hn, h7]
  by_cases c8 : mg 8 = 0
  · rw [if_pos c8]
    by_cases c6 : mg 6 = 2
    · rw [if_pos c6]
      by_cases ci : sp_X7_in (mg 7) l m = 0
      · rw [if_pos ci, if_neg (fun q => q.2.2 ci)]
      · rw [if_neg ci, if_pos ⟨c8, c6, ci⟩]
    · rw [if_neg c6, if_neg (fun q => c6 q.2.1)]
  · rw [if_neg c8, if_neg (fun q => c8 q.1)]
theorem nxt_o {T : Nat → Int32} {N p : Nat} {mg : Nat → Int32} {j : Nat} (h : j ≠ 4 ∧ j ≠ 5 ∧ j ≠ 6 ∧ j ≠ 7) : nxt T N p mg j = mg j := by
  unfold nxt
  rw [if_neg h.1, if_neg h.2.1, if_neg h.2.2.1, if_neg h.2.2.2]
theorem upd_o {f : Nat → Int32} {k j : Nat} {x : Int32} (h : j ≠ k) : upd f k x j = f j := pk_un h
/-- what the reading keeps -/
def Lk (N : Nat) (a b : Nat → Int32) : Prop := b 3 = nI N ∧ (∃ p, p ≤ N ∧ b 4 = nI p) ∧ ∀ j, j ≠ 4 → j ≠ 5 → j ≠ 6 → j ≠ 7 → j ≠ 8 → b j = a j
theorem nx_ok {mg tx b : Nat → Int32} {N : Nat} (hN : N ≤ 150) (hT : ∀ j, j < N → 0 ≤ tx j) (h3 : mg 3 = nI N) (hc : ∃ p, p ≤ N ∧ mg 4 = nI p) (e : b = sp_X7_next mg tx) : Lk N mg b := by
  obtain ⟨p, hp, h4⟩ := hc
  rw [next_eq hN hT h3 h4 hp] at e
  subst e
  exact ⟨(nxt_o (by decide)).trans h3, ⟨tkE tx N p, tkE_le hT hp, rfl⟩, fun j h4 h5 h6 h7 _ => nxt_o ⟨h4, h5, h6, h7⟩⟩
theorem tn_ok {mg tx b : Nat → Int32} {N : Nat} {l m r : Int32} (hN : N ≤ 150) (hT : ∀ j, j < N → 0 ≤ tx j) (h3 : mg 3 = nI N) (hc : ∃ p, p ≤ N ∧ mg 4 = nI p) (e : (r, b) = sp_X7_takesNumber mg tx l m) :
    Lk N mg b ∧ ((b 8 = 0 ∧ l.toInt ≤ r.toInt ∧ r.toInt ≤ m.toInt) ∨ (b 8 = 1 ∧ r = 0)) := by
  obtain ⟨p, hp, h4⟩ := hc
  rw [tn_eq l m hN hT h3 h4 hp] at e
  by_cases c : mg 8 = 0 ∧ mg 6 = 2 ∧ ¬ sp_X7_in (mg 7) l m = 0
  · rw [if_pos c] at e
    obtain ⟨e1, e2⟩ := Prod.mk.inj e
    subst e1 e2
    have hi := in_of rfl c.2.2
    exact ⟨⟨(nxt_o (by decide)).trans ((upd_o (by decide)).trans h3), ⟨tkE tx N p, tkE_le hT hp, rfl⟩, fun j h4 h5 h6 h7 h8 => (nxt_o ⟨h4, h5, h6, h7⟩).trans (upd_o h8)⟩, Or.inl ⟨rfl, hi.1, hi.2⟩⟩
  · rw [if_neg c] at e
    obtain ⟨e1, e2⟩ := Prod.mk.inj e
    subst e1 e2
    exact ⟨⟨(upd_o (by decide)).trans h3, ⟨p, hp, (upd_o (by decide)).trans h4⟩, fun j _ _ _ _ h8 => upd_o h8⟩, Or.inr ⟨rfl, rfl⟩⟩
