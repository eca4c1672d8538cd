def tcR (tx sh : Nat → Int32) (N : Nat) (x1 : Int32) (p : Nat) (mg : Nat → Int32) : Int32 × (Nat → Int32) :=
  if mg 8 = 0 ∧ mg 6 = 2 ∧ ¬ sp_X7_in (mg 7) 0 (mg 10 - 1) = 0 then
    (if tkK tx N p = 2 ∧ ¬ sp_X7_in (tkV tx N p) 0 (mg 11 - 1) = 0 then
      (if (x1 = 0 ∧ ¬ sh ((5 : Int32) * tkV tx N p + mg 7).toNatClampNeg ≤ 0) ∨ (¬ x1 = 0 ∧ ¬ sp_X7_has (mg 12) ((5 : Int32) * tkV tx N p + mg 7) = 0) then ((5 : Int32) * tkV tx N p + mg 7, upd (nxt tx N p (upd mg 8 0)) 8 1)
        else ((5 : Int32) * tkV tx N p + mg 7, nxt tx N (tkE tx N p) (nxt tx N p (upd mg 8 0))))
      else (0, upd (nxt tx N p (upd mg 8 0)) 8 1))
    else (0, upd mg 8 1)
theorem tc_eq {mg tx sh : Nat → Int32} {N p : Nat} (x1 : Int32) (hN : N ≤ 150) (hT : ∀ j, j < N → 0 ≤ tx j) (h3 : mg 3 = nI N) (h4 : mg 4 = nI p) (hp : p ≤ N) : sp_X7_takesCell mg tx sh x1 = tcR tx sh N x1 p mg := by
  unfold sp_X7_takesCell
  rw [tn_eq _ _ hN hT h3 h4 hp]
  unfold tcR
  by_cases c : mg 8 = 0 ∧ mg 6 = 2 ∧ ¬ sp_X7_in (mg 7) 0 (mg 10 - 1) = 0
  · rw [if_pos c, if_pos c]
    have e8 : nxt tx N p (upd mg 8 0) 8 = 0 := rfl
    have e6 : nxt tx N p (upd mg 8 0) 6 = tkK tx N p := rfl
    have e7 : nxt tx N p (upd mg 8 0) 7 = tkV tx N p := rfl
    have e11 : nxt tx N p (upd mg 8 0) 11 = mg 11 := rfl
    have e12 : nxt tx N p (upd mg 8 0) 12 = mg 12 := rfl
    have eu : upd (nxt tx N p (upd mg 8 0)) 8 0 = nxt tx N p (upd mg 8 0) := upd_id e8
    have en : sp_X7_next (nxt tx N p (upd mg 8 0)) tx = nxt tx N (tkE tx N p) (nxt tx N p (upd mg 8 0)) := next_eq hN hT h3 rfl (tkE_le hT hp)
    have h11 : ∀ v : Int32, (upd (nxt tx N p (upd mg 8 0)) 8 v) 8 = v := fun v => rfl
    simp only [nm2, e8, if_true, e6, e7, e11]
    have h107 : ∀ k v : Int32, v = 0 ∨ v = 1 → jn_X7_takesCell_107 tx (nxt tx N p (upd mg 8 0)) k v = if v = 0 then (k, nxt tx N (tkE tx N p) (nxt tx N p (upd mg 8 0))) else (k, upd (nxt tx N p (upd mg 8 0)) 8 1) := by
      intro k v hv
      unfold jn_X7_takesCell_107
      rw [h11]
      rcases hv with rfl | rfl
      · rw [if_pos rfl, if_pos rfl, eu, en]; rfl
      · rw [if_neg (by decide), if_neg (by decide)]
    have h66 : ∀ k : Int32, jn_X7_takesCell_66 tx sh x1 (nxt tx N p (upd mg 8 0)) 1 k = if (x1 = 0 ∧ ¬ sh k.toNatClampNeg ≤ 0) ∨ (¬ x1 = 0 ∧ ¬ sp_X7_has (mg 12) k = 0) then (k, upd (nxt tx N p (upd mg 8 0)) 8 1) else (k, nxt tx N (tkE tx N p) (nxt tx N p (upd mg 8 0))) := by
      intro k
      unfold jn_X7_takesCell_66
      rw [if_neg (show ¬ (1 : Int32) = 0 by decide), h107 k 0 (Or.inl rfl), h107 k 1 (Or.inr rfl), if_pos rfl, if_neg (show ¬ (1 : Int32) = 0 by decide), e12]
      unfold nm
      by_cases x0 : x1 = 0
      · rw [if_pos x0]
        by_cases hs : sh k.toNatClampNeg ≤ 0
        · rw [if_pos hs, if_neg (fun q => q.elim (fun q => q.2 hs) (fun q => q.1 x0))]
        · rw [if_neg hs, if_pos (Or.inl ⟨x0, hs⟩)]
      · rw [if_neg x0]
        by_cases hs : sp_X7_has (mg 12) k = 0
        · rw [if_neg (fun q => q.elim (fun q => x0 q.1) (fun q => q.2 hs))]
          simp only [hs, if_true]
        · rw [if_pos (Or.inr ⟨x0, hs⟩)]
          simp only [hs, if_false]
    have h49 : jn_X7_takesCell_49 tx sh x1 (nxt tx N p (upd mg 8 0)) (mg 7) 0 = (0, upd (nxt tx N p (upd mg 8 0)) 8 1) := by
      unfold jn_X7_takesCell_49 jn_X7_takesCell_66
      rw [if_pos rfl, if_pos rfl, h107 0 1 (Or.inr rfl), if_neg (by decide)]
    by_cases k2 : tkK tx N p = 2
    · rw [if_pos k2]
      unfold nm
      by_cases ki : sp_X7_in (tkV tx N p) 0 (mg 11 - 1) = 0
      · rw [if_neg (fun q : tkK tx N p = 2 ∧ ¬ sp_X7_in (tkV tx N p) 0 (mg 11 - 1) = 0 => q.2 ki)]
        simp only [ki, if_true]
        exact h49
      · rw [if_pos (show tkK tx N p = 2 ∧ ¬ sp_X7_in (tkV tx N p) 0 (mg 11 - 1) = 0 from ⟨k2, ki⟩), ← h66]
        simp only [ki, if_false]
        unfold jn_X7_takesCell_49
        rw [if_neg (show ¬ (1 : Int32) = 0 by decide), e7]
    · rw [if_neg k2, if_neg (fun q : tkK tx N p = 2 ∧ ¬ sp_X7_in (tkV tx N p) 0 (mg 11 - 1) = 0 => k2 q.1)]
      exact h49
  · rw [if_neg c, if_neg c]
    have e8 : upd mg 8 (1 : Int32) 8 = 1 := rfl
    have eu : upd (upd mg 8 (1 : Int32)) 8 1 = upd mg 8 1 := upd_id e8
    simp only [nm2, e8, show ((1 : Int32) = 0) = False by decide, if_false, jn_X7_takesCell_49, jn_X7_takesCell_66, jn_X7_takesCell_107, eu, if_true]
theorem nxt_Lk {T : Nat → Int32} {N p : Nat} {mg : Nat → Int32} (hT : ∀ j, j < N → 0 ≤ T j) (hp : p ≤ N) (h3 : mg 3 = nI N) : Lk N mg (nxt T N p mg) := ⟨h3, ⟨tkE T N p, tkE_le hT hp, rfl⟩, fun j h4 h5 h6 h7 _ => nxt_o ⟨h4, h5, h6, h7⟩⟩
theorem Lk.tr {N : Nat} {a b c : Nat → Int32} (h1 : Lk N a b) (h2 : Lk N b c) : Lk N a c := ⟨h2.1, h2.2.1, fun j h4 h5 h6 h7 h8 => (h2.2.2 j h4 h5 h6 h7 h8).trans (h1.2.2 j h4 h5 h6 h7 h8)⟩
theorem Lk.u8 {N : Nat} {a b : Nat → Int32} (h : Lk N a b) (v : Int32) : Lk N a (upd b 8 v) := ⟨(upd_o (by decide)).trans h.1, by obtain ⟨p, h1, h2⟩ := h.2.1; exact ⟨p, h1, (upd_o (by decide)).trans h2⟩, fun j h4 h5 h6 h7 h8 => (upd_o h8).trans (h.2.2 j h4 h5 h6 h7 h8)⟩
theorem Lk.rf {N p : Nat} {a : Nat → Int32} (h3 : a 3 = nI N) (hp : p ≤ N) (h4 : a 4 = nI p) : Lk N a a := ⟨h3, ⟨p, hp, h4⟩, fun _ _ _ _ _ _ => rfl⟩
theorem tc_ok {mg tx sh b : Nat → Int32} {N : Nat} {x1 r : Int32} (hN : N ≤ 150) (hT : ∀ j, j < N → 0 ≤ tx j) (h3 : mg 3 = nI N) (hc : ∃ p, p ≤ N ∧ mg 4 = nI p) (hsw : 1 ≤ (mg 10).toInt ∧ (mg 10).toInt ≤ 5) (hsr : 1 ≤ (mg 11).toInt ∧ (mg 11).toInt ≤ 4) (e : (r, b) = sp_X7_takesCell mg tx sh x1) :
    Lk N mg b ∧ vp_in r 20 ∧ (b 8 = 0 ∨ b 8 = 1) := by
  obtain ⟨p, hp, h4⟩ := hc
  rw [tc_eq x1 hN hT h3 h4 hp] at e
  unfold tcR at e
  have z20 : vp_in 0 20 := ix_of (by decide) (by decide)
  have h3' : upd mg 8 (0 : Int32) 3 = nI N := h3
  have L0 : Lk N mg (upd mg 8 0) := (Lk.rf h3 hp h4).u8 0
  have L1 : Lk N mg (nxt tx N p (upd mg 8 0)) := L0.tr (nxt_Lk hT hp h3')
  by_cases c : mg 8 = 0 ∧ mg 6 = 2 ∧ ¬ sp_X7_in (mg 7) 0 (mg 10 - 1) = 0
  · rw [if_pos c] at e
    by_cases k : tkK tx N p = 2 ∧ ¬ sp_X7_in (tkV tx N p) 0 (mg 11 - 1) = 0
    · rw [if_pos k] at e
      have a1 := in0 rfl c.2.2
      have a2 := in0 rfl k.2
      rw [dec1 hsw.1] at a1
      rw [dec1 hsr.1] at a2
      have kk := k_of (x := mg 7) (y := tkV tx N p) rfl rfl (by omega)
      have hk : vp_in ((5 : Int32) * tkV tx N p + mg 7) 20 := ix_of (by rw [kk]; omega) (by rw [kk]; omega)
      by_cases u : (x1 = 0 ∧ ¬ sh ((5 : Int32) * tkV tx N p + mg 7).toNatClampNeg ≤ 0) ∨ (¬ x1 = 0 ∧ ¬ sp_X7_has (mg 12) ((5 : Int32) * tkV tx N p + mg 7) = 0)
      · rw [if_pos u] at e
        obtain ⟨e1, e2⟩ := Prod.mk.inj e
        subst e1 e2
        exact ⟨L1.u8 1, hk, Or.inr rfl⟩
      · rw [if_neg u] at e
        obtain ⟨e1, e2⟩ := Prod.mk.inj e
        subst e1 e2
        exact ⟨L1.tr (nxt_Lk hT (tkE_le hT hp) L1.1), hk, Or.inl rfl⟩
    · rw [if_neg k] at e
      obtain ⟨e1, e2⟩ := Prod.mk.inj e
      subst e1 e2
      exact ⟨L1.u8 1, z20, Or.inr rfl⟩
  · rw [if_neg c] at e
    obtain ⟨e1, e2⟩ := Prod.mk.inj e
    subst e1 e2
    exact ⟨(Lk.rf h3 hp h4).u8 1, z20, Or.inr rfl⟩
theorem nx_o {mg tx b : Nat → Int32} {N : Nat} (e : b = sp_X7_next mg tx) (hN : N ≤ 150) (hT : ∀ j, j < N → 0 ≤ tx j) (h3 : mg 3 = nI N) (hc : ∃ p, p ≤ N ∧ mg 4 = nI p) : Lk N mg b := nx_ok hN hT h3 hc e
theorem tn_o {mg tx b : Nat → Int32} {N : Nat} {l m r : Int32} (e : (r, b) = sp_X7_takesNumber mg tx l m) (hN : N ≤ 150) (hT : ∀ j, j < N → 0 ≤ tx j) (h3 : mg 3 = nI N) (hc : ∃ p, p ≤ N ∧ mg 4 = nI p) :
    Lk N mg b ∧ ((b 8 = 0 ∧ l.toInt ≤ r.toInt ∧ r.toInt ≤ m.toInt) ∨ (b 8 = 1 ∧ r = 0)) := tn_ok hN hT h3 hc e
theorem tc_o {mg tx sh b : Nat → Int32} {N : Nat} {x1 r : Int32} (e : (r, b) = sp_X7_takesCell mg tx sh x1) (hN : N ≤ 150) (hT : ∀ j, j < N → 0 ≤ tx j) (h3 : mg 3 = nI N) (hc : ∃ p, p ≤ N ∧ mg 4 = nI p) (hsw : 1 ≤ (mg 10).toInt ∧ (mg 10).toInt ≤ 5) (hsr : 1 ≤ (mg 11).toInt ∧ (mg 11).toInt ≤ 4) :
    Lk N mg b ∧ vp_in r 20 ∧ (b 8 = 0 ∨ b 8 = 1) := tc_ok hN hT h3 hc hsw hsr e
theorem Lk.s10 {N : Nat} {a b : Nat → Int32} (h : Lk N a b) (hs : 1 ≤ (a 10).toInt ∧ (a 10).toInt ≤ 5) : 1 ≤ (b 10).toInt ∧ (b 10).toInt ≤ 5 := by rw [h.2.2 10 (by decide) (by decide) (by decide) (by decide) (by decide)]; exact hs
theorem Lk.s11 {N : Nat} {a b : Nat → Int32} (h : Lk N a b) (hs : 1 ≤ (a 11).toInt ∧ (a 11).toInt ≤ 4) : 1 ≤ (b 11).toInt ∧ (b 11).toInt ≤ 4 := by rw [h.2.2 11 (by decide) (by decide) (by decide) (by decide) (by decide)]; exact hs
