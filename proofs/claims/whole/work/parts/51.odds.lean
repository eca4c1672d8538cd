section OD
variable {w r : Nat} {g tb : Nat → Int32} {V Hd : Nat → Nat → Int32} {tr : Int64} {mg st im ke se tx : Nat → Int32} {mt : Int64}
theorem is_b (c x y b : Int32) : sp_X7_isStill mg st c x y b = if b = 0 then sp_X7_isStill mg st c x y 0 else sp_X7_isStill mg st c x y 1 := by
  by_cases h : b = 0
  · rw [if_pos h, h]
  · rw [if_neg h]
    unfold sp_X7_isStill
    rw [if_neg h, if_neg (show ¬ (1 : Int32) = 0 by decide)]
theorem od74_eq (x1 x2 x3 x4 : Int32) : ∀ (n : Nat) (a s : Int32), lp_X7_odds_74 mg st x1 x2 x3 x4 n a s = od74 (st 21) (sp_X7_isStill mg st (st 20) x1 x2 0) (sp_X7_isStill mg st (st 20) x1 x2 1) x3 x4 n a s := by
  intro n
  induction n with
  | zero => intro a s; rfl
  | succ n ih =>
    intro a s
    rw [← lp_X7_odds_74_s, c20, c21]
    have e : od74 (st 21) (sp_X7_isStill mg st (st 20) x1 x2 0) (sp_X7_isStill mg st (st 20) x1 x2 1) x3 x4 (n + 1) a s = if ((1 : Int32) <<< (x4 &&& 31)) ≤ s then a else (nm2 (lp_X7_odds_98 x3 x4 s ((x4.toInt - (0 : Int32).toInt).toNat + 1) (st 21) (1 : Int32) (0 : Int32)) (fun e f => if (if e = 0 then (sp_X7_isStill mg st (st 20) x1 x2 0) else (sp_X7_isStill mg st (st 20) x1 x2 1)) = 0 then od74 (st 21) (sp_X7_isStill mg st (st 20) x1 x2 0) (sp_X7_isStill mg st (st 20) x1 x2 1) x3 x4 n (a + (0 : Int32)) (s + 1) else od74 (st 21) (sp_X7_isStill mg st (st 20) x1 x2 0) (sp_X7_isStill mg st (st 20) x1 x2 1) x3 x4 n (a + f) (s + 1))) := rfl
    rw [e]
    by_cases c : ((1 : Int32) <<< (x4 &&& 31)) ≤ s
    · rw [if_pos c, if_pos c]
    · rw [if_neg c, if_neg c]
      generalize lp_X7_odds_98 x3 x4 s ((x4.toInt - (0 : Int32).toInt).toNat + 1) (st 21) (1 : Int32) (0 : Int32) = L
      obtain ⟨e1, f1⟩ := L
      show nm (sp_X7_isStill mg st (st 20) x1 x2 e1) (fun r_28 => if r_28 = 0 then (lp_X7_odds_74 mg st x1 x2 x3 x4 n (a + (0 : Int32)) (s + 1)) else (lp_X7_odds_74 mg st x1 x2 x3 x4 n (a + f1) (s + 1))) = (if (if e1 = 0 then (sp_X7_isStill mg st (st 20) x1 x2 0) else (sp_X7_isStill mg st (st 20) x1 x2 1)) = 0 then od74 (st 21) (sp_X7_isStill mg st (st 20) x1 x2 0) (sp_X7_isStill mg st (st 20) x1 x2 1) x3 x4 n (a + (0 : Int32)) (s + 1) else od74 (st 21) (sp_X7_isStill mg st (st 20) x1 x2 0) (sp_X7_isStill mg st (st 20) x1 x2 1) x3 x4 n (a + f1) (s + 1))
      rw [nm_b, ih, ih, ← is_b]
theorem nm3_b {α β γ δ : Type} (v : α × β × γ) (k : α → β → γ → δ) : nm3 v k = k v.1 v.2.1 v.2.2 := nm_c (v, k) (fun q => nm3 q.1 q.2) rfl
theorem jn139_e (x5 a b q v : Int32) : jn_X6_odds_139 V x5 a b q v = if (sp_X4_stillBy V (11 * 0 + 10) ((1 : Int32) - (V (11 * 0 + 10) 3)) &&& q) = 0 then sp_X6_inLeastTerms (v + (0 : Int32)) b x5 else sp_X6_inLeastTerms (v + a) b x5 := by
  unfold jn_X6_odds_139
  rw [nm_b, nm_id, nm_id]
/-- the two sides at their ends -/
theorem od_end {p n a b x : Nat} {c d : Int32} (hc : c = 0 ↔ a = 0) (hd : d = 0 ↔ b = 0) : (if c = 0 then (if d = 0 then sp_X6_inLeastTerms ((0 : Int32) + (0 : Int32)) (odA p n).2.2 (nI x) else sp_X6_inLeastTerms ((0 : Int32) + (odA p n).2.1) (odA p n).2.2 (nI x)) else (if d = 0 then sp_X6_inLeastTerms ((odA p n).1 + (0 : Int32)) (odA p n).2.2 (nI x) else sp_X6_inLeastTerms ((odA p n).1 + (odA p n).2.1) (odA p n).2.2 (nI x))) = odX p n a b x := by
  unfold odX odS
  by_cases q1 : c = 0
  · rw [if_pos q1, if_pos (hc.mp q1)]
    by_cases q2 : d = 0
    · rw [if_pos q2, if_pos (hd.mp q2)]
    · rw [if_neg q2, if_neg (fun z => q2 (hd.mpr z))]
  · rw [if_neg q1, if_neg (fun z => q1 (hc.mpr z))]
    by_cases q2 : d = 0
    · rw [if_pos q2, if_pos (hd.mp q2)]
    · rw [if_neg q2, if_neg (fun z => q2 (hd.mpr z))]
theorem odds_ok (h : RE w r g tb V Hd tr mg st im ke se tx mt) (x1 x2 x3 x4 x5 : Int32) : sp_X6_odds V x1 x2 x3 x4 x5 = sp_X7_odds mg st x1 x2 x3 x4 x5 := by
  obtain ⟨e1, e2⟩ := ic_x h x1 x2
  unfold sp_X6_odds sp_X7_odds
  rw [nm_b (sp_X4_isCell V (11 * 0 + 10) x1 x2), nm_b (sp_X7_isCell mg x1 x2), e1]
  rcases e2 with hc | ⟨hc, i, j, hi, hj, rfl, rfl⟩
  · rw [if_pos hc, if_pos hc]
  have nc : ¬ sp_X7_isCell mg (nI i) (nI j) = 0 := by rw [hc]; decide
  rw [if_neg nc, if_neg nc, nm_b (sp_X6_isWithin x3 10), nm_b (sp_X7_in x3 0 10), within_in]
  rcases in_of2 x3 (n := 10) (by decide) with hs | ⟨hs, p, hp, rfl⟩
  · have hs : sp_X7_in x3 0 10 = 0 := hs
    rw [if_pos hs, if_pos hs]
  have hs : sp_X7_in (nI p) 0 10 = 1 := hs
  have ns : ¬ sp_X7_in (nI p) 0 10 = 0 := by rw [hs]; decide
  rw [if_neg ns, if_neg ns, nm_b (sp_X6_isWithin x4 6), nm_b (sp_X7_in x4 0 6), within_in]
  rcases in_of2 x4 (n := 6) (by decide) with hs | ⟨hs, n, hn, rfl⟩
  · have hs : sp_X7_in x4 0 6 = 0 := hs
    rw [if_pos hs, if_pos hs]
  have hs : sp_X7_in (nI n) 0 6 = 1 := hs
  have ns : ¬ sp_X7_in (nI n) 0 6 = 0 := by rw [hs]; decide
  rw [if_neg ns, if_neg ns, nm_b (sp_X6_isWithin x5 1), nm_b (sp_X7_in x5 0 1), within_in]
  rcases in_of2 x5 (n := 1) (by decide) with hs | ⟨hs, x, hx, rfl⟩
  · have hs : sp_X7_in x5 0 1 = 0 := hs
    rw [if_pos hs, if_pos hs]
  have hs : sp_X7_in (nI x) 0 1 = 1 := hs
  have ns : ¬ sp_X7_in (nI x) 0 1 = 0 := by rw [hs]; decide
  rw [if_neg ns, if_neg ns]
  obtain ⟨t, S⟩ := h.now
  obtain ⟨k20, kg, km, kd⟩ := gr_k h.1.1 hi hj
  obtain ⟨f1, f2, f3⟩ := od_f3 n (by omega)
  have eA : lp_X6_odds_54 (nI p) (nI n) (n + 1) (1 : Int32) (0 : Int32) (1 : Int32) (0 : Int32) = odA p n := rfl
  have v3 : V (11 * 0 + 10) 3 = st 21 := S.v3
  rw [f2, f1, f3, od74_eq, nm_b, nm_b, eA, nm3_b, nm_b, nm_b, jn139_e, jn139_e, v3, bit_eq]
  have is0 := is_of h.1.1 h.1.2.1 h.1.2.2 S.b22 S.tr (c := st 20) (b := 0) hi hj
  have is1 := is_of h.1.1 h.1.2.1 h.1.2.2 S.b22 S.tr (c := st 20) (b := 1) hi hj
  have z0 := stb0 h S (b := 0) k20
  have z1 := stb0 h S (b := 1) k20
  generalize sp_X7_isStill mg st (st 20) (nI i) (nI j) 0 = w0 at is0 ⊢
  generalize sp_X7_isStill mg st (st 20) (nI i) (nI j) 1 = w1 at is1 ⊢
  have n0 : ∃ v0, v0 < 2 ∧ w0 = nI v0 ∧ (sp_X4_stillBy V (11 * 0 + 10) 0 &&& ((1 : Int32) <<< (nI (5 * j + i) &&& 31)) = 0 ↔ v0 = 0) := by
    rcases is0.1 with y | y
    · exact ⟨0, by decide, y, fun _ => rfl, fun _ => z0.mpr (fun q => by have := is0.2.mpr q; rw [y] at this; exact absurd this (by decide))⟩
    · exact ⟨1, by decide, y, fun q => absurd (is0.2.mp y) (z0.mp q), fun q => absurd q (by decide)⟩
  have n1 : ∃ v1, v1 < 2 ∧ w1 = nI v1 ∧ (sp_X4_stillBy V (11 * 0 + 10) 1 &&& ((1 : Int32) <<< (nI (5 * j + i) &&& 31)) = 0 ↔ v1 = 0) := by
    rcases is1.1 with y | y
    · exact ⟨0, by decide, y, fun _ => rfl, fun _ => z1.mpr (fun q => by have := is1.2.mpr q; rw [y] at this; exact absurd this (by decide))⟩
    · exact ⟨1, by decide, y, fun q => absurd (is1.2.mp y) (z1.mp q), fun q => absurd q (by decide)⟩
  obtain ⟨v0, v02, rfl, hv0⟩ := n0
  obtain ⟨v1, v12, rfl, hv1⟩ := n1
  obtain ⟨g1, g2⟩ := od_f1 n (by omega) p (by omega) v0 v02 v1 v12
  rcases S.b21 with y | y
  · have g1' : od74 0 (nI v0) (nI v1) (nI p) (nI n) (2 ^ n + 1) 0 0 = odS p n v0 v1 := g1
    have h10 : (1 : Int32) - 0 = 1 := by decide
    rw [y, g1', h10, od_end hv0 hv1]
    exact od_f2 n (by omega) p (by omega) v0 v02 v1 v12 x (by omega)
  · have g2' : od74 1 (nI v0) (nI v1) (nI p) (nI n) (2 ^ n + 1) 0 0 = odS p n v1 v0 := g2
    have h11 : (1 : Int32) - 1 = 0 := by decide
    rw [y, g2', h11, od_end hv1 hv0]
    exact od_f2 n (by omega) p (by omega) v1 v12 v0 v02 x (by omega)
end OD
