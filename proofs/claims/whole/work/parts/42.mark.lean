section MA
variable {w r : Nat} {g tb : Nat → Int32} {V Hd : Nat → Nat → Int32} {tr : Int64} {mg st im ke se tx : Nat → Int32} {mt : Int64}
/-- the reference's mark, its four truths named -/
theorem mk_e {x1 x2 x3 : Int32} : jn_X7_mark_31 mg st mt x1 x2 x3 (if x2 ≤ 0 then (0 : Int32) else 1) = jn_X7_mark_73 st mt x1 x2 x3 (if x2 ≤ 0 then (0 : Int32) else 1) (if x3 ≤ 0 then (0 : Int32) else 1) (if mg 0 ≤ x2 + 1 then (0 : Int32) else 1) (if mg 1 ≤ x3 + 1 then (0 : Int32) else 1) := by
  generalize (if x2 ≤ 0 then (0 : Int32) else 1) = v
  unfold jn_X7_mark_31
  by_cases a : x3 ≤ 0
  · rw [if_pos a, if_pos a]
    unfold jn_X7_mark_41
    by_cases b : mg 0 ≤ x2 + 1
    · rw [if_pos b, if_pos b]
      unfold jn_X7_mark_57
      by_cases c : mg 1 ≤ x3 + 1
      · rw [if_pos c, if_pos c]
      · rw [if_neg c, if_neg c]
    · rw [if_neg b, if_neg b]
      unfold jn_X7_mark_57
      by_cases c : mg 1 ≤ x3 + 1
      · rw [if_pos c, if_pos c]
      · rw [if_neg c, if_neg c]
  · rw [if_neg a, if_neg a]
    unfold jn_X7_mark_41
    by_cases b : mg 0 ≤ x2 + 1
    · rw [if_pos b, if_pos b]
      unfold jn_X7_mark_57
      by_cases c : mg 1 ≤ x3 + 1
      · rw [if_pos c, if_pos c]
      · rw [if_neg c, if_neg c]
    · rw [if_neg b, if_neg b]
      unfold jn_X7_mark_57
      by_cases c : mg 1 ≤ x3 + 1
      · rw [if_pos c, if_pos c]
      · rw [if_neg c, if_neg c]
theorem mk_f {x1 x2 x3 : Int32} : (if x2 ≤ 0 then (jn_X7_mark_31 mg st mt x1 x2 x3 (0 : Int32)) else (jn_X7_mark_31 mg st mt x1 x2 x3 (1 : Int32))) = jn_X7_mark_73 st mt x1 x2 x3 (if x2 ≤ 0 then (0 : Int32) else 1) (if x3 ≤ 0 then (0 : Int32) else 1) (if mg 0 ≤ x2 + 1 then (0 : Int32) else 1) (if mg 1 ≤ x3 + 1 then (0 : Int32) else 1) := by
  rw [← mk_e]
  by_cases a : x2 ≤ 0
  · rw [if_pos a, if_pos a]
  · rw [if_neg a, if_neg a]
theorem mark_ok (h : RE w r g tb V Hd tr mg st im ke se tx mt) (x1 x2 x3 : Int32) : (sp_X6_mark V Hd tr x1 x2 x3).1 = (sp_X7_mark mg st mt x1 x2 x3).1 ∧ RE w r g tb V Hd (sp_X6_mark V Hd tr x1 x2 x3).2 mg st im ke se tx (sp_X7_mark mg st mt x1 x2 x3).2 := by
  have R : ∀ a b : Int64, a = b → RE w r g tb V Hd a mg st im ke se tx b := fun a b e => ⟨h.1, h.2.1, h.2.2.1, h.2.2.2.1, h.2.2.2.2.1, e⟩
  suffices H : sp_X6_mark V Hd tr x1 x2 x3 = sp_X7_mark mg st mt x1 x2 x3 by rw [H]; exact ⟨rfl, R _ _ rfl⟩
  have et : mt = tr := h.2.2.2.2.2.symm
  obtain ⟨e1, e2⟩ := ic_x h x2 x3
  have E6 : sp_X6_mark V Hd tr x1 x2 x3 = if sp_X4_isCell V (11 * 0 + 10) x2 x3 = 0 then ((-1000000 : Int32), tr) else sp_X0_markAs V Hd tr x1 (11 * 0 + 10) x2 x3 := rfl
  have E7 : sp_X7_mark mg st mt x1 x2 x3 = if sp_X7_in x1 (0 : Int32) (5 : Int32) = 0 then ((-1000000 : Int32), mt) else (if sp_X7_isCell mg x2 x3 = 0 then ((-1000000 : Int32), mt) else (if x2 ≤ 0 then (jn_X7_mark_31 mg st mt x1 x2 x3 (0 : Int32)) else (jn_X7_mark_31 mg st mt x1 x2 x3 (1 : Int32)))) := rfl
  rw [E6, E7, e1, mk_f, et]
  rcases e2 with hc | ⟨hc, i, j, hi, hj, rfl, rfl⟩
  · rw [if_pos hc, if_pos hc, ite_self]
  have nc : ¬ sp_X7_isCell mg (nI i) (nI j) = 0 := by rw [hc]; decide
  rw [if_neg nc, if_neg nc]
  obtain ⟨t, S⟩ := h.now
  obtain ⟨k20, kg, km, kd⟩ := gr_k h.1.1 hi hj
  have w5 := h.1.1.w5
  have r4 := h.1.1.r4
  have hb := bs_fin w (by omega) r (by omega) i hi j hj
  have hbs := beside_eq h i j
  rw [h.1.2.1, h.1.2.2]
  have hcast : nI j + bs_ w r i j = nI j + (if nI i ≤ 0 then (0 : Int32) else 1) + (if nI j ≤ 0 then (0 : Int32) else 1) + (if nI w ≤ nI i + 1 then (0 : Int32) else 1) + (if nI r ≤ nI j + 1 then (0 : Int32) else 1) := by rw [hb, ← Int32.add_assoc, ← Int32.add_assoc, ← Int32.add_assoc]
  generalize (if nI i ≤ 0 then (0 : Int32) else 1) = v1 at hcast ⊢
  generalize (if nI j ≤ 0 then (0 : Int32) else 1) = v2 at hcast ⊢
  generalize (if nI w ≤ nI i + 1 then (0 : Int32) else 1) = v3 at hcast ⊢
  generalize (if nI r ≤ nI j + 1 then (0 : Int32) else 1) = v4 at hcast ⊢
  have q1 : tr + 10 + 1 = tr + 11 := i64_2 _ _ _ _ (by decide)
  have q2 : tr + 100 + 1 = tr + 101 := i64_2 _ _ _ _ (by decide)
  have q3 : tr + 1000 + 10 + 1 = tr + 1011 := by rw [i64_2 tr 1000 10 1010 (by decide)]; exact i64_2 _ _ _ _ (by decide)
  have q4 : tr + 10000 + 100 + 1 = tr + 10101 := by rw [i64_2 tr 10000 100 10100 (by decide)]; exact i64_2 _ _ _ _ (by decide)
  have q5 : tr + 100000 + 1 = tr + 100001 := i64_2 _ _ _ _ (by decide)
  unfold sp_X0_markAs jn_X7_mark_73
  rcases inn (x := x1) (n := 5) (by decide) with ⟨hs, hn⟩ | ⟨hs, s, hs1, rfl⟩
  · have hs : sp_X7_in x1 0 5 = 0 := hs
    rw [if_pos hs, if_neg (show ¬ x1 = (0 : Int32) from hn 0 (by decide)), if_neg (show ¬ x1 = (1 : Int32) from hn 1 (by decide)), if_neg (show ¬ x1 = (2 : Int32) from hn 2 (by decide)), if_neg (show ¬ x1 = (3 : Int32) from hn 3 (by decide)), if_neg (show ¬ x1 = (4 : Int32) from hn 4 (by decide)), if_neg (show ¬ x1 = (5 : Int32) from hn 5 (by decide))]
  have ns : ¬ sp_X7_in (nI s) 0 5 = 0 := by rw [show sp_X7_in (nI s) 0 5 = 1 from hs]; decide
  rw [if_neg ns]
  rcases (show s = 0 ∨ s = 1 ∨ s = 2 ∨ s = 3 ∨ s = 4 ∨ s = 5 by omega) with rfl | rfl | rfl | rfl | rfl | rfl
  · rw [if_pos (show nI 0 = (0 : Int32) from rfl), if_neg (show ¬ nI 0 = (1 : Int32) by decide), if_neg (show ¬ nI 0 = (2 : Int32) by decide), if_neg (show ¬ nI 0 = (3 : Int32) by decide), if_neg (show ¬ nI 0 = (4 : Int32) by decide), if_neg (show ¬ nI 0 = (5 : Int32) by decide)]
    rfl
  · rw [if_neg (show ¬ nI 1 = (0 : Int32) by decide), if_pos (show nI 1 = (1 : Int32) from rfl), if_pos (show nI 1 = (1 : Int32) from rfl)]
    unfold sp_X0_asCastle sp_X0_asCell
    dsimp only [nm, nm2]
    rw [bit_eq, hbs, hcast, q1]
  · rw [if_neg (show ¬ nI 2 = (0 : Int32) by decide), if_neg (show ¬ nI 2 = (1 : Int32) by decide), if_pos (show nI 2 = (2 : Int32) from rfl), if_neg (show ¬ nI 2 = (1 : Int32) by decide), if_pos (show nI 2 = (2 : Int32) from rfl)]
    unfold sp_X0_asCorridor sp_X0_asCell
    dsimp only [nm, nm2]
    rw [q2]
  · rw [if_neg (show ¬ nI 3 = (0 : Int32) by decide), if_neg (show ¬ nI 3 = (1 : Int32) by decide), if_neg (show ¬ nI 3 = (2 : Int32) by decide), if_pos (show nI 3 = (3 : Int32) from rfl), if_neg (show ¬ nI 3 = (1 : Int32) by decide), if_neg (show ¬ nI 3 = (2 : Int32) by decide), if_pos (show nI 3 = (3 : Int32) from rfl)]
    unfold sp_X0_asEmpire sp_X0_asCastle sp_X0_asCell
    dsimp only [nm, nm2]
    rw [bit_eq, hbs, hcast, q3, Int32.mul_comm _ (2 : Int32)]
  · rw [if_neg (show ¬ nI 4 = (0 : Int32) by decide), if_neg (show ¬ nI 4 = (1 : Int32) by decide), if_neg (show ¬ nI 4 = (2 : Int32) by decide), if_neg (show ¬ nI 4 = (3 : Int32) by decide), if_pos (show nI 4 = (4 : Int32) from rfl), if_neg (show ¬ nI 4 = (1 : Int32) by decide), if_neg (show ¬ nI 4 = (2 : Int32) by decide), if_neg (show ¬ nI 4 = (3 : Int32) by decide), if_pos (show nI 4 = (4 : Int32) from rfl)]
    obtain ⟨q, hq5, hbq, hqd⟩ := S.hold _ k20
    unfold sp_X0_asPoland sp_X0_asCorridor sp_X0_asCell
    dsimp only [nm, nm2]
    rw [bit_eq, k_eq, nI_clamp (by omega), ho_eq S k20 hq5 hbq, hbq, q4]
    by_cases hq : q = 0
    · subst hq
      rw [if_pos rfl, if_pos (show nI 0 = 0 from rfl)]
      have e9 : sp_X4_heldBy Hd (11 * 0 + 10) (-9 : Int32) = 0 := by unfold sp_X4_heldBy; rw [if_pos (by decide)]
      rw [e9, show sp_J6_bitCount_0f7a4 0 = 0 by decide]
    · have e9 : nI q - (1 : Int32) = nI (q - 1) := pk_sub (b := 1) (by omega)
      rw [if_neg hq, if_neg (nI_ne0 (by omega) (by omega)), e9, wh_eq (by omega), hb_eq S (fun _ _ => rfl) (by omega), pop_eq (held_sm S (by omega)), bits_eq]
  · rw [if_neg (show ¬ nI 5 = (0 : Int32) by decide), if_neg (show ¬ nI 5 = (1 : Int32) by decide), if_neg (show ¬ nI 5 = (2 : Int32) by decide), if_neg (show ¬ nI 5 = (3 : Int32) by decide), if_neg (show ¬ nI 5 = (4 : Int32) by decide), if_pos (show nI 5 = (5 : Int32) from rfl), if_neg (show ¬ nI 5 = (1 : Int32) by decide), if_neg (show ¬ nI 5 = (2 : Int32) by decide), if_neg (show ¬ nI 5 = (3 : Int32) by decide), if_neg (show ¬ nI 5 = (4 : Int32) by decide), if_pos (show nI 5 = (5 : Int32) from rfl)]
    unfold sp_X0_asSalient sp_X0_asCell
    dsimp only [nm, nm2]
    rw [S.v4, q5, c22]
end MA
