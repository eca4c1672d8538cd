/-- the cursor stands behind p, or at it with nothing more to read -/
def Adv (N p : Nat) (b : Nat → Int32) : Prop := b 3 = nI N ∧ ∃ p', p ≤ p' ∧ p' ≤ N ∧ b 4 = nI p' ∧ (b 6 = 0 ∨ p < p')
theorem tkK_0 {T : Nat → Int32} {N p : Nat} (h : ch T N (tkS T N p) < 0) : tkK T N p = 0 := by unfold tkK; rw [if_pos h]
theorem nx_a {T mg : Nat → Int32} {N p p1 : Nat} (hT : ∀ j, j < N → 0 ≤ T j) (h3 : mg 3 = nI N) (h : p ≤ p1) (h1 : p1 ≤ N) : Adv N p (nxt T N p1 mg) := by
  refine ⟨h3, tkE T N p1, Nat.le_trans h (Nat.le_trans (tkS_ge T N p1) (tkE_ge T N p1)), tkE_le hT h1, rfl, ?_⟩
  by_cases c : ch T N (tkS T N p1) < 0
  · exact Or.inl (tkK_0 c)
  · exact Or.inr (by have := tkE_gt c; have := tkS_ge T N p1; omega)
theorem Adv.u {N p : Nat} {b : Nat → Int32} (h : Adv N p b) {k : Nat} (hk : k ≠ 3 ∧ k ≠ 4 ∧ k ≠ 6) (v : Int32) : Adv N p (upd b k v) := by
  obtain ⟨h3, p', a1, a2, a3, a4⟩ := h
  exact ⟨(upd_o (Ne.symm hk.1)).trans h3, p', a1, a2, (upd_o (Ne.symm hk.2.1)).trans a3, by rw [upd_o (Ne.symm hk.2.2)]; exact a4⟩
theorem tn_a {mg tx b : Nat → Int32} {N p : Nat} {l m r : Int32} (e : (r, b) = sp_X7_takesNumber mg tx l m) (hN : N ≤ 150) (hT : ∀ j, j < N → 0 ≤ tx j) (h : Adv N p mg) : Adv N p b ∧ (b 8 = 0 → mg 8 = 0 ∧ l.toInt ≤ r.toInt ∧ r.toInt ≤ m.toInt) ∧ (b 8 = 0 ∨ b 8 = 1) := by
  obtain ⟨h3, p', a1, a2, a3, a4⟩ := id h
  rw [tn_eq l m hN hT h3 a3 a2] at e
  by_cases c : mg 8 = 0 ∧ mg 6 = 2 ∧ ¬ sp_X7_in (mg 7) l m = 0
  · rw [if_pos c] at e
    obtain ⟨e1, e2⟩ := Prod.mk.inj e
    subst e1 e2
    have hi := in_of rfl c.2.2
    exact ⟨nx_a hT ((upd_o (by decide)).trans h3) a1 a2, fun _ => ⟨c.1, hi.1, hi.2⟩, Or.inl rfl⟩
  · rw [if_neg c] at e
    obtain ⟨e1, e2⟩ := Prod.mk.inj e
    subst e1 e2
    exact ⟨h.u (by decide) 1, fun q => absurd q (by show ¬ (1 : Int32) = 0; decide), Or.inr rfl⟩
theorem tc_a {mg tx sh b : Nat → Int32} {N p : Nat} {x1 r : Int32} (e : (r, b) = sp_X7_takesCell mg tx sh x1) (hN : N ≤ 150) (hT : ∀ j, j < N → 0 ≤ tx j) (h : Adv N p mg) : Adv N p b ∧ (b 8 = 0 → mg 8 = 0) ∧ (b 8 = 0 ∨ b 8 = 1) := by
  obtain ⟨h3, p', a1, a2, a3, a4⟩ := id h
  rw [tc_eq x1 hN hT h3 a3 a2] at e
  unfold tcR at e
  have h3' : upd mg 8 (0 : Int32) 3 = nI N := h3
  have A1 : Adv N p (nxt tx N p' (upd mg 8 0)) := nx_a hT h3' a1 a2
  have n1 : ¬ (1 : Int32) = 0 := by decide
  by_cases c : mg 8 = 0 ∧ mg 6 = 2 ∧ ¬ sp_X7_in (mg 7) 0 (mg 10 - 1) = 0
  · rw [if_pos c] at e
    by_cases k : tkK tx N p' = 2 ∧ ¬ sp_X7_in (tkV tx N p') 0 (mg 11 - 1) = 0
    · rw [if_pos k] at e
      by_cases u : (x1 = 0 ∧ ¬ sh ((5 : Int32) * tkV tx N p' + mg 7).toNatClampNeg ≤ 0) ∨ (¬ x1 = 0 ∧ ¬ sp_X7_has (mg 12) ((5 : Int32) * tkV tx N p' + mg 7) = 0)
      · rw [if_pos u] at e
        obtain ⟨e1, e2⟩ := Prod.mk.inj e
        subst e1 e2
        exact ⟨A1.u (by decide) 1, fun q => absurd q n1, Or.inr rfl⟩
      · rw [if_neg u] at e
        obtain ⟨e1, e2⟩ := Prod.mk.inj e
        subst e1 e2
        exact ⟨nx_a hT h3' (Nat.le_trans a1 (Nat.le_trans (tkS_ge tx N p') (tkE_ge tx N p'))) (tkE_le hT a2), fun _ => c.1, Or.inl rfl⟩
    · rw [if_neg k] at e
      obtain ⟨e1, e2⟩ := Prod.mk.inj e
      subst e1 e2
      exact ⟨A1.u (by decide) 1, fun q => absurd q n1, Or.inr rfl⟩
  · rw [if_neg c] at e
    obtain ⟨e1, e2⟩ := Prod.mk.inj e
    subst e1 e2
    exact ⟨h.u (by decide) 1, fun q => absurd q n1, Or.inr rfl⟩
def WH (b : Nat → Int32) : Prop := (1 ≤ (b 10).toInt ∧ (b 10).toInt ≤ 5) ∧ (1 ≤ (b 11).toInt ∧ (b 11).toInt ≤ 4)
theorem ri_214 {tx m6 s7 b s : Nat → Int32} {N p : Nat} (hN : N ≤ 150) (hT : ∀ j, j < N → 0 ≤ tx j) (h : Adv N p m6) (hw : m6 8 = 0 → WH m6) (e : (b, s) = jn_X7_readItem_214 tx m6 s7) :
    b 3 = nI N ∧ (∃ p', p ≤ p' ∧ p' ≤ N ∧ b 4 = nI p' ∧ (b 8 = 0 → p < p')) ∧ (b 8 = 0 → WH b) ∧ (b 8 = 0 ∨ b 8 = 1) := by
  obtain ⟨h3, p', a1, a2, a3, a4⟩ := h
  have n1 : ¬ (1 : Int32) = 0 := by decide
  have bad : (b, s) = jn_X7_readItem_235 tx m6 s7 1 → b 3 = nI N ∧ (∃ p', p ≤ p' ∧ p' ≤ N ∧ b 4 = nI p' ∧ (b 8 = 0 → p < p')) ∧ (b 8 = 0 → WH b) ∧ (b 8 = 0 ∨ b 8 = 1) := by
    intro e
    unfold jn_X7_readItem_235 at e
    rw [if_neg (show ¬ (upd m6 8 1) 8 = 0 from n1)] at e
    obtain ⟨e1, e2⟩ := Prod.mk.inj e
    subst e1 e2
    exact ⟨h3, ⟨p', a1, a2, a3, fun q => absurd q n1⟩, fun q => absurd q n1, Or.inr rfl⟩
  unfold jn_X7_readItem_214 at e
  by_cases c8 : m6 8 = 0
  · rw [if_pos c8] at e
    by_cases c6 : m6 6 = 3
    · rw [if_pos c6] at e
      unfold jn_X7_readItem_235 at e
      rw [if_pos (show (upd m6 8 0) 8 = 0 from rfl)] at e
      unfold nm at e
      try dsimp only at e
      rw [next_eq (mg := upd m6 8 0) hN hT ((upd_o (by decide)).trans h3) ((upd_o (by decide)).trans a3) a2] at e
      obtain ⟨e1, e2⟩ := Prod.mk.inj e
      subst e1 e2
      have hlt : p < p' := a4.resolve_left (fun q => by rw [c6] at q; exact absurd q (by decide))
      exact ⟨h3, ⟨tkE tx N p', by have := tkS_ge tx N p'; have := tkE_ge tx N p'; omega, tkE_le hT a2, rfl, fun _ => by have := tkS_ge tx N p'; have := tkE_ge tx N p'; omega⟩, fun _ => hw c8, Or.inl rfl⟩
    · rw [if_neg c6] at e; exact bad e
  · rw [if_neg c8] at e; exact bad e
theorem ri_ok {mg tx sh b s : Nat → Int32} {N p : Nat} (hN : N ≤ 150) (hT : ∀ j, j < N → 0 ≤ tx j) (h3 : mg 3 = nI N) (h4 : mg 4 = nI p) (hp : p ≤ N) (hw : WH mg) (e : (b, s) = sp_X7_readItem mg tx sh) :
    b 3 = nI N ∧ (∃ p', p ≤ p' ∧ p' ≤ N ∧ b 4 = nI p' ∧ (b 8 = 0 → p < p')) ∧ (b 8 = 0 → WH b) ∧ (b 8 = 0 ∨ b 8 = 1) := by
  have n1 : ¬ (1 : Int32) = 0 := by decide
  have bad : (b, s) = (upd mg 8 (1 : Int32), sh) → b 3 = nI N ∧ (∃ p', p ≤ p' ∧ p' ≤ N ∧ b 4 = nI p' ∧ (b 8 = 0 → p < p')) ∧ (b 8 = 0 → WH b) ∧ (b 8 = 0 ∨ b 8 = 1) := by
    intro e
    obtain ⟨e1, e2⟩ := Prod.mk.inj e
    subst e1 e2
    exact ⟨h3, ⟨p, Nat.le_refl p, hp, h4, fun q => absurd q n1⟩, fun q => absurd q n1, Or.inr rfl⟩
  have key : ∀ v : Int32, (b, s) = jn_X7_readItem_64 mg tx sh v → b 3 = nI N ∧ (∃ p', p ≤ p' ∧ p' ≤ N ∧ b 4 = nI p' ∧ (b 8 = 0 → p < p')) ∧ (b 8 = 0 → WH b) ∧ (b 8 = 0 ∨ b 8 = 1) := by
    intro v e
    unfold jn_X7_readItem_64 at e
    by_cases c6 : mg 6 = 1
    · rw [if_pos c6] at e
      by_cases cv : v = 0
      · rw [if_pos cv] at e; exact bad e
      · rw [if_neg cv] at e
        unfold nm at e
        try dsimp only at e
        rw [next_eq hN hT h3 h4 hp] at e
        have A := nx_a (T := tx) (mg := mg) hT h3 (Nat.le_refl p) hp
        have W0 : WH (nxt tx N p mg) := hw
        by_cases cg : mg 7 = 103
        · rw [if_pos cg] at e
          unfold nm2 at e
          try dsimp only at e
          obtain ⟨t1, t2, t3⟩ := tn_a (r := (sp_X7_takesNumber (nxt tx N p mg) tx 1 5).1) (b := (sp_X7_takesNumber (nxt tx N p mg) tx 1 5).2) rfl hN hT A
          generalize (sp_X7_takesNumber (nxt tx N p mg) tx 1 5).1 = r1 at e t2
          generalize (sp_X7_takesNumber (nxt tx N p mg) tx 1 5).2 = b1 at e t1 t2 t3
          obtain ⟨u1, u2, u3⟩ := tn_a (r := (sp_X7_takesNumber (upd b1 10 r1) tx 1 4).1) (b := (sp_X7_takesNumber (upd b1 10 r1) tx 1 4).2) rfl hN hT (t1.u (k := 10) (by decide) r1)
          have k10 : ∀ j, j ≠ 4 → j ≠ 5 → j ≠ 6 → j ≠ 7 → j ≠ 8 → (sp_X7_takesNumber (upd b1 10 r1) tx 1 4).2 j = (upd b1 10 r1) j := by
            obtain ⟨h3', p', a1, a2, a3, _⟩ := t1
            exact (tn_o (mg := upd b1 10 r1) (r := (sp_X7_takesNumber (upd b1 10 r1) tx 1 4).1) (b := (sp_X7_takesNumber (upd b1 10 r1) tx 1 4).2) rfl hN hT h3' ⟨p', a2, a3⟩).1.2.2
          generalize (sp_X7_takesNumber (upd b1 10 r1) tx 1 4).1 = r2 at e u2
          generalize (sp_X7_takesNumber (upd b1 10 r1) tx 1 4).2 = b2 at e u1 u2 u3 k10
          refine ri_214 hN hT (u1.u (k := 11) (by decide) r2) (fun q => ?_) e
          have q8 : b2 8 = 0 := q
          have x2 := u2 q8
          have x1 := t2 x2.1
          have e1 : (1 : Int32).toInt = 1 := rfl
          have e5 : (5 : Int32).toInt = 5 := rfl
          have e4 : (4 : Int32).toInt = 4 := rfl
          refine ⟨?_, ?_⟩
          · show 1 ≤ (b2 10).toInt ∧ (b2 10).toInt ≤ 5
            rw [k10 10 (by decide) (by decide) (by decide) (by decide) (by decide)]
            show 1 ≤ r1.toInt ∧ r1.toInt ≤ 5
            omega
          · show 1 ≤ r2.toInt ∧ r2.toInt ≤ 4
            omega
        · rw [if_neg cg] at e
          by_cases cw : mg 7 = 119
          · rw [if_pos cw] at e
            unfold nm2 at e
            try dsimp only at e
            obtain ⟨t1, t2, t3⟩ := tn_a (r := (sp_X7_takesNumber (nxt tx N p mg) tx 0 1).1) (b := (sp_X7_takesNumber (nxt tx N p mg) tx 0 1).2) rfl hN hT A
            have k1 := (tn_o (mg := nxt tx N p mg) (r := (sp_X7_takesNumber (nxt tx N p mg) tx 0 1).1) (b := (sp_X7_takesNumber (nxt tx N p mg) tx 0 1).2) rfl hN hT h3 ⟨tkE tx N p, tkE_le hT hp, rfl⟩).1
            refine ri_214 hN hT (t1.u (k := 13) (by decide) _) (fun _ => ⟨?_, ?_⟩) e
            · exact k1.s10 W0.1
            · exact k1.s11 W0.2
          · rw [if_neg cw] at e
            by_cases co : mg 7 = 111
            · rw [if_pos co] at e
              unfold nm2 at e
              try dsimp only at e
              obtain ⟨t1, t2, t3⟩ := tn_a (r := (sp_X7_takesNumber (nxt tx N p mg) tx 0 4).1) (b := (sp_X7_takesNumber (nxt tx N p mg) tx 0 4).2) rfl hN hT A
              have k1 := (tn_o (mg := nxt tx N p mg) (r := (sp_X7_takesNumber (nxt tx N p mg) tx 0 4).1) (b := (sp_X7_takesNumber (nxt tx N p mg) tx 0 4).2) rfl hN hT h3 ⟨tkE tx N p, tkE_le hT hp, rfl⟩).1
              generalize (sp_X7_takesNumber (nxt tx N p mg) tx 0 4).1 = r1 at e
              generalize (sp_X7_takesNumber (nxt tx N p mg) tx 0 4).2 = b1 at e t1 k1
              obtain ⟨u1, u2, u3⟩ := tc_a (sh := sh) (x1 := 0) (r := (sp_X7_takesCell b1 tx sh 0).1) (b := (sp_X7_takesCell b1 tx sh 0).2) rfl hN hT t1
              have k2 := (tc_o (mg := b1) (r := (sp_X7_takesCell b1 tx sh 0).1) (b := (sp_X7_takesCell b1 tx sh 0).2) rfl hN hT k1.1 k1.2.1 (k1.s10 W0.1) (k1.s11 W0.2)).1
              have W2 : WH (sp_X7_takesCell b1 tx sh 0).2 := ⟨k2.s10 (k1.s10 W0.1), k2.s11 (k1.s11 W0.2)⟩
              by_cases c8 : (sp_X7_takesCell b1 tx sh 0).2 8 = 0
              · rw [if_pos c8] at e; exact ri_214 hN hT u1 (fun _ => W2) e
              · rw [if_neg c8] at e; exact ri_214 hN hT u1 (fun _ => W2) e
            · rw [if_neg co] at e
              unfold nm2 at e
              try dsimp only at e
              obtain ⟨u1, u2, u3⟩ := tc_a (sh := sh) (x1 := 1) (r := (sp_X7_takesCell (nxt tx N p mg) tx sh 1).1) (b := (sp_X7_takesCell (nxt tx N p mg) tx sh 1).2) rfl hN hT A
              have k2 := (tc_o (mg := nxt tx N p mg) (r := (sp_X7_takesCell (nxt tx N p mg) tx sh 1).1) (b := (sp_X7_takesCell (nxt tx N p mg) tx sh 1).2) rfl hN hT h3 ⟨tkE tx N p, tkE_le hT hp, rfl⟩ W0.1 W0.2).1
              have W2 : WH (sp_X7_takesCell (nxt tx N p mg) tx sh 1).2 := ⟨k2.s10 W0.1, k2.s11 W0.2⟩
              by_cases c8 : (sp_X7_takesCell (nxt tx N p mg) tx sh 1).2 8 = 0
              · rw [if_pos c8] at e; exact ri_214 hN hT (u1.u (k := 12) (by decide) _) (fun _ => W2) e
              · rw [if_neg c8] at e; exact ri_214 hN hT (u1.u (k := 12) (by decide) _) (fun _ => W2) e
    · rw [if_neg c6] at e; exact bad e
  unfold sp_X7_readItem at e
  by_cases cg : mg 7 = 103
  · rw [if_pos cg] at e
    by_cases c9 : mg 9 = 0
    · rw [if_pos c9] at e; exact key _ e
    · rw [if_neg c9] at e; exact key _ e
  · rw [if_neg cg] at e
    by_cases cw : mg 7 = 119
    · rw [if_pos cw] at e
      by_cases c13 : 0 ≤ mg 13
      · rw [if_pos c13] at e; exact key _ e
      · rw [if_neg c13] at e; exact key _ e
    · rw [if_neg cw] at e
      by_cases co : mg 7 = 111
      · rw [if_pos co] at e; exact key _ e
      · rw [if_neg co] at e
        by_cases cc : mg 7 = 99
        · rw [if_pos cc] at e; exact key _ e
        · rw [if_neg cc] at e; exact key _ e
