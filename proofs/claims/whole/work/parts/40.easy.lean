section EA
variable {w r : Nat} {g tb : Nat → Int32} {V Hd : Nat → Nat → Int32} {tr : Int64} {mg st im ke se tx : Nat → Int32} {mt : Int64}
theorem RE.txt (h : RE w r g tb V Hd tr mg st im ke se tx mt) {g' tb' mg' tx' : Nat → Int32} (hg : ∀ j, j ≠ 6 → g' j = g j) (hm : ∀ j, j ≠ 3 → mg' j = mg j) (hT : TX g' tb' mg' tx') : RE w r g' tb' V Hd tr mg' st im ke se tx' mt := by
  refine ⟨⟨h.1.1, (hm 0 (by decide)).trans h.1.2.1, (hm 1 (by decide)).trans h.1.2.2⟩, hT, SE_cg h.2.2.1 (fun j h1 _ => hg j (by omega)) (hm 2 (by decide)), ?_, KE_cg h.2.2.2.2.1 (fun j h1 _ => hg j (by omega)) (fun c _ _ => cp_rf _ c), h.2.2.2.2.2⟩
  rw [hg 7 (by decide)]; exact h.2.2.2.1
theorem RE.sn (h : RE w r g tb V Hd tr mg st im ke se tx mt) {g' mg' se' : Nat → Int32} (hg : ∀ j, j < 13 → g' j = g j) (hm : ∀ j, j ≠ 2 → mg' j = mg j) (hS : SE w r g' mg' se') : RE w r g' tb V Hd tr mg' st im ke se' tx mt := by
  refine ⟨⟨h.1.1, (hm 0 (by decide)).trans h.1.2.1, (hm 1 (by decide)).trans h.1.2.2⟩, TX_cg h.2.1 (hg 6 (by decide)) (hm 3 (by decide)), hS, ?_, KE_cg h.2.2.2.2.1 (fun j _ h1 => hg j (by omega)) (fun c _ _ => cp_rf _ c), h.2.2.2.2.2⟩
  rw [hg 7 (by decide)]; exact h.2.2.2.1
theorem type_ok (h : RE w r g tb V Hd tr mg st im ke se tx mt) (x1 : Int32) : (sp_X6_type g tb x1).1 = (sp_X7_type mg tx x1).1 ∧ RE w r (sp_X6_type g tb x1).2.1 (sp_X6_type g tb x1).2.2 V Hd tr (sp_X7_type mg tx x1).2.1 st im ke se (sp_X7_type mg tx x1).2.2 mt := by
  unfold sp_X6_type sp_X7_type sp_X5_append
  dsimp only [nm, nm3]
  rw [within_in]
  rcases in_of2 x1 (n := 255) (by decide) with hs | ⟨hs, c, hc, rfl⟩
  · have hs : sp_X7_in x1 0 255 = 0 := hs
    rw [if_pos hs, if_pos hs]; exact ⟨rfl, h⟩
  have hs : sp_X7_in (nI c) 0 255 = 1 := hs
  have ns : ¬ sp_X7_in (nI c) 0 255 = 0 := by rw [hs]; decide
  rw [if_neg ns, if_neg ns]
  obtain ⟨T, t1, t2, t3, t4⟩ := h.2.1
  rw [t2, t3, if_neg (nI_pos (by omega))]
  by_cases c1 : T = 150
  · subst c1
    rw [if_neg (show ¬ nI 150 < (150 : Int32) by decide), if_pos (show nI 150 = (150 : Int32) from rfl)]
    dsimp only
    rw [if_pos rfl]; exact ⟨rfl, h⟩
  · rw [if_pos (show nI T < (150 : Int32) from nI_lt (b := 150) (by omega) (by decide)), if_neg (show ¬ nI T = (150 : Int32) from fun q => c1 ((nI_eq (b := 150) (by omega) (by decide)).mp q)), nI_clamp (by omega)]
    dsimp only
    rw [if_neg (by decide), pk_us, pk_us]
    dsimp only
    refine ⟨rfl, h.txt (fun j hj => pk_un hj) (fun j hj => pk_un hj) ⟨T + 1, by omega, by rw [pk_us, nI_succ], by rw [pk_us, nI_succ], fun j hj => ?_⟩⟩
    by_cases e : j = T
    · subst e
      rw [pk_us, pk_us]
      exact ⟨rfl, c, hc, rfl⟩
    · rw [pk_un e, pk_un e]
      exact t4 j (by omega)
theorem clear_ok (h : RE w r g tb V Hd tr mg st im ke se tx mt) : (sp_X6_clear g).1 = (sp_X7_clear mg).1 ∧ RE w r (sp_X6_clear g).2 tb V Hd tr (sp_X7_clear mg).2 st im ke se tx mt := by
  unfold sp_X6_clear sp_X7_clear
  dsimp only
  obtain ⟨T, t1, t2, t3, t4⟩ := h.2.1
  exact ⟨t2.trans t3.symm, h.txt (fun j hj => pk_un hj) (fun j hj => pk_un hj) ⟨0, by omega, pk_us, pk_us, fun j hj => absurd hj (Nat.not_lt_zero _)⟩⟩
theorem drop_se {g' mg' : Nat → Int32} (h13 : g' 13 = 0) (h14 : g' 14 = 0) (h15 : g' 15 = 0) (h16 : g' 16 = 0) (h17 : g' 17 = 0) (h2 : mg' 2 = 0) : SE w r g' mg' se := by
  have hz : ∀ B S : Int32, ∀ i, bt 0 i = true ↔ i < 20 ∧ ∃ k, k < 0 ∧ se (3 * k) = nI i ∧ se (3 * k + 1) = B ∧ se (3 * k + 2) = S := fun B S i => by
    rw [bt_0]
    exact ⟨fun q => absurd q (by decide), fun q => by obtain ⟨_, k, hk, _⟩ := q; omega⟩
  refine ⟨0, by omega, h13, h2, fun k hk => absurd hk (Nat.not_lt_zero _), ?_, ?_, ?_, ?_⟩
  · rw [h14]; exact hz _ _
  · rw [h15]; exact hz _ _
  · rw [h16]; exact hz _ _
  · rw [h17]; exact hz _ _
theorem forget_ok (h : RE w r g tb V Hd tr mg st im ke se tx mt) : (sp_X6_forget g).1 = (sp_X7_forget mg).1 ∧ RE w r (sp_X6_forget g).2 tb V Hd tr (sp_X7_forget mg).2 st im ke se tx mt := by
  unfold sp_X6_forget sp_X7_forget sp_X2_dropAll
  dsimp only [nm]
  obtain ⟨n, n1, n2, n3, _⟩ := h.2.2.1
  refine ⟨n2.trans n3.symm, h.sn (fun j hj => ?_) (fun j hj => pk_un hj) (drop_se ?_ ?_ ?_ ?_ ?_ pk_us)⟩
  · rw [pk_un (by omega), pk_un (by omega), pk_un (by omega), pk_un (by omega), pk_un (by omega)]
  · rw [pk_un (by decide), pk_un (by decide), pk_un (by decide), pk_un (by decide), pk_us]
  · rw [pk_un (by decide), pk_un (by decide), pk_un (by decide), pk_us]
  · rw [pk_un (by decide), pk_un (by decide), pk_us]
  · rw [pk_un (by decide), pk_us]
  · rw [pk_us]
theorem count_ok (h : RE w r g tb V Hd tr mg st im ke se tx mt) (x1 : Int32) : sp_X6_count g V x1 = sp_X7_count mg st x1 := by
  obtain ⟨t, S⟩ := h.now
  obtain ⟨T, t1, t2, t3, t4⟩ := h.2.1
  obtain ⟨n, n1, n2, n3, _⟩ := h.2.2.1
  obtain ⟨u, u1, u2, u3, _⟩ := h.2.2.2.1
  have e0 : V (11 * 0 + 10) 0 = mg 0 := S.v0.trans h.1.2.1.symm
  have e1 : V (11 * 0 + 10) 1 = mg 1 := S.v1.trans h.1.2.2.symm
  have e2 : g 13 = mg 2 := n2.trans n3.symm
  have e3 : g (7 + 0) = st 23 := (show g (7 + 0) = nI u from u2).trans u3.symm
  have e4 : g 6 = mg 3 := t2.trans t3.symm
  unfold sp_X6_count sp_X7_count
  rw [e0, e1, e2, e3, e4, c23]
/-- one more thing seen -/
theorem sem {x v : Int32} {n kk b s : Nat} {B S : Int32} (hk : kk < 20) (h : ∀ i, bt x i = true ↔ i < 20 ∧ ∃ k, k < n ∧ se (3 * k) = nI i ∧ se (3 * k + 1) = B ∧ se (3 * k + 2) = S) (hv : (nI b = B ∧ nI s = S ∧ v = (1 : Int32) <<< (nI kk &&& 31)) ∨ (¬ (nI b = B ∧ nI s = S) ∧ v = 0)) : ∀ i, bt (x ||| v) i = true ↔ i < 20 ∧ ∃ k, k < n + 1 ∧ upd (upd (upd se (3 * n) (nI kk)) (3 * n + 1) (nI b)) (3 * n + 2) (nI s) (3 * k) = nI i ∧ upd (upd (upd se (3 * n) (nI kk)) (3 * n + 1) (nI b)) (3 * n + 2) (nI s) (3 * k + 1) = B ∧ upd (upd (upd se (3 * n) (nI kk)) (3 * n + 1) (nI b)) (3 * n + 2) (nI s) (3 * k + 2) = S := by
  intro i
  have o : ∀ k, k < n → upd (upd (upd se (3 * n) (nI kk)) (3 * n + 1) (nI b)) (3 * n + 2) (nI s) (3 * k) = se (3 * k) ∧ upd (upd (upd se (3 * n) (nI kk)) (3 * n + 1) (nI b)) (3 * n + 2) (nI s) (3 * k + 1) = se (3 * k + 1) ∧ upd (upd (upd se (3 * n) (nI kk)) (3 * n + 1) (nI b)) (3 * n + 2) (nI s) (3 * k + 2) = se (3 * k + 2) := fun k hk => by
    refine ⟨?_, ?_, ?_⟩
    · rw [pk_un (by omega), pk_un (by omega), pk_un (by omega)]
    · rw [pk_un (by omega), pk_un (by omega), pk_un (by omega)]
    · rw [pk_un (by omega), pk_un (by omega), pk_un (by omega)]
  have l0 : upd (upd (upd se (3 * n) (nI kk)) (3 * n + 1) (nI b)) (3 * n + 2) (nI s) (3 * n) = nI kk := by rw [pk_un (by omega), pk_un (by omega), pk_us]
  have l1 : upd (upd (upd se (3 * n) (nI kk)) (3 * n + 1) (nI b)) (3 * n + 2) (nI s) (3 * n + 1) = nI b := by rw [pk_un (by omega), pk_us]
  have l2 : upd (upd (upd se (3 * n) (nI kk)) (3 * n + 1) (nI b)) (3 * n + 2) (nI s) (3 * n + 2) = nI s := by rw [pk_us]
  have hb : bt v i = true ↔ i = kk ∧ nI b = B ∧ nI s = S := by
    rcases hv with ⟨v1, v2, v3⟩ | ⟨v1, v2⟩
    · rw [v3]
      by_cases c32 : i < 32
      · rw [bt_bit (by omega) c32, decide_eq_true_iff]
        exact ⟨fun q => ⟨q, v1, v2⟩, fun q => q.1⟩
      · rw [bt_ge (by omega)]
        exact ⟨fun q => absurd q (by decide), fun q => by omega⟩
    · rw [v2, bt_0]
      exact ⟨fun q => absurd q (by decide), fun q => absurd q.2 v1⟩
  rw [bt_or, Bool.or_eq_true, h i, hb]
  constructor
  · rintro (⟨h1, k, h2, h3, h4, h5⟩ | ⟨h1, h2, h3⟩)
    · obtain ⟨o1, o2, o3⟩ := o k h2
      exact ⟨h1, k, by omega, by rw [o1]; exact h3, by rw [o2]; exact h4, by rw [o3]; exact h5⟩
    · exact ⟨by omega, n, by omega, by rw [l0, h1], by rw [l1]; exact h2, by rw [l2]; exact h3⟩
  · rintro ⟨h1, k, h2, h3, h4, h5⟩
    by_cases e : k = n
    · subst e
      rw [l0] at h3
      rw [l1] at h4
      rw [l2] at h5
      exact Or.inr ⟨((nI_eq (by omega) (by omega)).mp h3).symm, h4, h5⟩
    · obtain ⟨o1, o2, o3⟩ := o k (by omega)
      rw [o1] at h3
      rw [o2] at h4
      rw [o3] at h5
      exact Or.inl ⟨h1, k, by omega, h3, h4, h5⟩
theorem add_eq {n b s : Nat} {x : Int32} (h13 : g 13 = nI n) (hn : n < 6) (hb : b ≤ 1) (hs : s ≤ 1) : ∃ a0 a1 a2 a3 : Int32, sp_X2_add g x (nI b) (nI s) = (1, upd (upd (upd (upd (upd g 14 (g 14 ||| a0)) 15 (g 15 ||| a1)) 16 (g 16 ||| a2)) 17 (g 17 ||| a3)) 13 (nI (n + 1))) ∧
    ((nI b = 0 ∧ nI s = 1 ∧ a0 = x) ∨ (¬ (nI b = 0 ∧ nI s = 1) ∧ a0 = 0)) ∧ ((nI b = 1 ∧ nI s = 1 ∧ a1 = x) ∨ (¬ (nI b = 1 ∧ nI s = 1) ∧ a1 = 0)) ∧ ((nI b = 0 ∧ nI s = 0 ∧ a2 = x) ∨ (¬ (nI b = 0 ∧ nI s = 0) ∧ a2 = 0)) ∧ ((nI b = 1 ∧ nI s = 0 ∧ a3 = x) ∨ (¬ (nI b = 1 ∧ nI s = 0) ∧ a3 = 0)) := by
  have c : nI n < (6 : Int32) := nI_lt (b := 6) hn (by decide)
  have e : ∀ v2 v3 v4 v5, jn_X2_add_99 g v2 v3 v4 v5 = (1, upd (upd (upd (upd (upd g 14 (g 14 ||| v2)) 15 (g 15 ||| v3)) 16 (g 16 ||| v4)) 17 (g 17 ||| v5)) 13 (nI (n + 1))) := by
    intro v2 v3 v4 v5
    unfold jn_X2_add_99
    rw [pk_un (show 15 ≠ 14 by decide), pk_un (show 16 ≠ 15 by decide), pk_un (show 16 ≠ 14 by decide), pk_un (show 17 ≠ 16 by decide), pk_un (show 17 ≠ 15 by decide), pk_un (show 17 ≠ 14 by decide), pk_un (show 13 ≠ 17 by decide), pk_un (show 13 ≠ 16 by decide), pk_un (show 13 ≠ 15 by decide), pk_un (show 13 ≠ 14 by decide), h13, nI_succ]
  unfold sp_X2_add jn_X2_add_30 jn_X2_add_54 jn_X2_add_76
  rw [h13, if_pos c]
  rcases (show b = 0 ∨ b = 1 by omega) with rfl | rfl <;> rcases (show s = 0 ∨ s = 1 by omega) with rfl | rfl
  · exact ⟨0, 0, x, 0, e _ _ _ _, Or.inr ⟨by decide, rfl⟩, Or.inr ⟨by decide, rfl⟩, Or.inl ⟨rfl, rfl, rfl⟩, Or.inr ⟨by decide, rfl⟩⟩
  · exact ⟨x, 0, 0, 0, e _ _ _ _, Or.inl ⟨rfl, rfl, rfl⟩, Or.inr ⟨by decide, rfl⟩, Or.inr ⟨by decide, rfl⟩, Or.inr ⟨by decide, rfl⟩⟩
  · exact ⟨0, 0, 0, x, e _ _ _ _, Or.inr ⟨by decide, rfl⟩, Or.inr ⟨by decide, rfl⟩, Or.inr ⟨by decide, rfl⟩, Or.inl ⟨rfl, rfl, rfl⟩⟩
  · exact ⟨0, x, 0, 0, e _ _ _ _, Or.inr ⟨by decide, rfl⟩, Or.inl ⟨rfl, rfl, rfl⟩, Or.inr ⟨by decide, rfl⟩, Or.inr ⟨by decide, rfl⟩⟩
theorem saw_ok (h : RE w r g tb V Hd tr mg st im ke se tx mt) (x1 x2 x3 x4 : Int32) : (sp_X6_saw g V x1 x2 x3 x4).1 = (sp_X7_saw mg se x1 x2 x3 x4).1 ∧ RE w r (sp_X6_saw g V x1 x2 x3 x4).2 tb V Hd tr (sp_X7_saw mg se x1 x2 x3 x4).2.1 st im ke (sp_X7_saw mg se x1 x2 x3 x4).2.2 tx mt := by
  obtain ⟨e1, e2⟩ := ic_x h x1 x2
  unfold sp_X6_saw sp_X7_saw
  dsimp only [nm, nm2]
  rw [e1, within_in, within_in]
  rcases e2 with hc | ⟨hc, i, j, hi, hj, rfl, rfl⟩
  · rw [if_pos hc, if_pos hc]; exact ⟨rfl, h⟩
  have nc : ¬ sp_X7_isCell mg (nI i) (nI j) = 0 := by rw [hc]; decide
  rw [if_neg nc, if_neg nc]
  rcases in_of2 x3 (n := 1) (by decide) with hs | ⟨hs, b, hb1, rfl⟩
  · have hs : sp_X7_in x3 0 1 = 0 := hs
    rw [if_pos hs, if_pos hs]; exact ⟨rfl, h⟩
  have hs : sp_X7_in (nI b) 0 1 = 1 := hs
  have ns : ¬ sp_X7_in (nI b) 0 1 = 0 := by rw [hs]; decide
  rw [if_neg ns, if_neg ns]
  rcases in_of2 x4 (n := 1) (by decide) with hs | ⟨hs, s, hs1, rfl⟩
  · have hs : sp_X7_in x4 0 1 = 0 := hs
    rw [if_pos hs, if_pos hs]; exact ⟨rfl, h⟩
  have hs : sp_X7_in (nI s) 0 1 = 1 := hs
  have ns : ¬ sp_X7_in (nI s) 0 1 = 0 := by rw [hs]; decide
  rw [if_neg ns, if_neg ns]
  obtain ⟨n, n1, n2, n3, n4, s14, s15, s16, s17⟩ := h.2.2.1
  obtain ⟨k20, kg, km, kd⟩ := gr_k h.1.1 hi hj
  rw [bit_eq, k_eq, n3]
  by_cases c6 : n = 6
  · subst c6
    have ea : sp_X2_add g ((1 : Int32) <<< (nI (5 * j + i) &&& 31)) (nI b) (nI s) = (0, g) := by
      unfold sp_X2_add
      rw [n2, if_neg (show ¬ nI 6 < (6 : Int32) by decide)]
    rw [ea, if_pos (show nI 6 = (6 : Int32) from rfl)]
    dsimp only
    rw [if_pos rfl]; exact ⟨rfl, h⟩
  · rw [if_neg (show ¬ nI n = (6 : Int32) from fun q => c6 ((nI_eq (b := 6) (by omega) (by decide)).mp q))]
    obtain ⟨a0, a1, a2, a3, ea, f0, f1, f2, f3⟩ := add_eq (x := (1 : Int32) <<< (nI (5 * j + i) &&& 31)) n2 (by omega) hb1 hs1
    have x0 : (3 : Int32) * nI n = nI (3 * n) := by rw [show (3 : Int32) = nI 3 from rfl, pk_mul]
    have x1 : nI (3 * n) + (1 : Int32) = nI (3 * n + 1) := nI_add (3 * n) 1
    have x2 : nI (3 * n) + (2 : Int32) = nI (3 * n + 2) := nI_add (3 * n) 2
    rw [ea, x0, x1, x2, nI_clamp (by omega), nI_clamp (by omega), nI_clamp (by omega)]
    dsimp only
    rw [if_neg (by decide), pk_us, pk_us, ← nI_succ]
    dsimp only
    refine ⟨rfl, h.sn (fun j hj => ?_) (fun j hj => pk_un hj) ⟨n + 1, by omega, pk_us, pk_us, fun k hk => ?_, ?_, ?_, ?_, ?_⟩⟩
    · rw [pk_un (by omega), pk_un (by omega), pk_un (by omega), pk_un (by omega), pk_un (by omega)]
    · by_cases e : k = n
      · subst e
        exact ⟨5 * j + i, b, s, kg, hb1, hs1, by rw [pk_un (by omega), pk_un (by omega), pk_us], by rw [pk_un (by omega), pk_us], by rw [pk_us]⟩
      · obtain ⟨i', b', s', y1, y2, y3, y4, y5, y6⟩ := n4 k (by omega)
        exact ⟨i', b', s', y1, y2, y3, by rw [pk_un (by omega), pk_un (by omega), pk_un (by omega)]; exact y4, by rw [pk_un (by omega), pk_un (by omega), pk_un (by omega)]; exact y5, by rw [pk_un (by omega), pk_un (by omega), pk_un (by omega)]; exact y6⟩
    · rw [pk_un (by decide), pk_un (by decide), pk_un (by decide), pk_un (by decide), pk_us]
      exact sem k20 s14 f0
    · rw [pk_un (by decide), pk_un (by decide), pk_un (by decide), pk_us]
      exact sem k20 s15 f1
    · rw [pk_un (by decide), pk_un (by decide), pk_us]
      exact sem k20 s16 f2
    · rw [pk_un (by decide), pk_us]
      exact sem k20 s17 f3
/-! one cell -/
theorem oi0 : sp_X6_oneIf 0 = 0 := rfl
theorem oi1 : sp_X6_oneIf 1 = 1 := rfl
theorem cloth_gr {t : Nat} {v hh : Nat → Int32} (S : SN w r t v hh st) : ∀ i, bt (st 20) i = true → i < 20 ∧ gr w r i := fun i hi => ⟨(S.cloth i hi).1, dr_gr (S.cloth i hi).2⟩
theorem stb0 (h : RE w r g tb V Hd tr mg st im ke se tx mt) {t : Nat} (S : SN w r t (V (11 * 0 + 10)) (Hd (11 * 0 + 10)) st) {b : Int32} {k : Nat} (hk : k < 20) : sp_X4_stillBy V (11 * 0 + 10) b &&& ((1 : Int32) <<< (nI k &&& 31)) = 0 ↔ ¬ stl w r t (st 20) b k := by
  have e : sp_X4_stillBy V (11 * 0 + 10) b = sp_X4_stillWith V (11 * 0 + 10) (V (11 * 0 + 10) 2) b := rfl
  rw [cl0 (by omega), e, S.v2, sw_bt h.1.1 S (cloth_gr S)]
theorem cell_ok (h : RE w r g tb V Hd tr mg st im ke se tx mt) (x1 x2 x3 : Int32) : sp_X6_cell V Hd x1 x2 x3 = sp_X7_cell mg st x1 x2 x3 := by
  obtain ⟨e1, e2⟩ := ic_x h x1 x2
  unfold sp_X6_cell sp_X7_cell jn_X7_cell_113
  dsimp only [nm]
  rw [e1]
  rcases e2 with hc | ⟨hc, i, j, hi, hj, rfl, rfl⟩
  · rw [if_pos hc, if_pos hc]
  have nc : ¬ sp_X7_isCell mg (nI i) (nI j) = 0 := by rw [hc]; decide
  rw [if_neg nc, if_neg nc]
  obtain ⟨t, S⟩ := h.now
  obtain ⟨k20, kg, km, kd⟩ := gr_k h.1.1 hi hj
  have r4 := h.1.1.r4
  have htr := S.tr
  obtain ⟨q, hq5, hbq, hqd⟩ := S.hold _ k20
  have v2 : V (11 * 0 + 10) 2 = st 20 := S.v2
  rw [bit_eq, k_eq, c20, nI_clamp (by omega), oi0, oi1, ho_eq S k20 hq5 hbq, hbq, v2, has_eq (by omega), idry S.b22 (by omega) (by omega)]
  by_cases z0 : x3 = 0
  · rw [if_pos z0, if_pos z0]
    by_cases hq : q = 0
    · subst hq
      rw [if_pos rfl, if_pos (show nI 0 = 0 from rfl)]
    · rw [if_neg hq, if_neg (nI_ne0 (by omega) (by omega))]
      exact (pk_sub (b := 1) (by omega)).symm
  rw [if_neg z0, if_neg z0]
  by_cases z1 : x3 = 1
  · rw [if_pos z1, if_pos z1]
    by_cases hb : bt (st 20) (5 * j + i) = true
    · rw [if_pos hb, if_neg (show ¬ (st 20 &&& ((1 : Int32) <<< (nI (5 * j + i) &&& 31)) = 0) from fun z => (cl0 (by omega)).mp z hb), if_neg (by decide)]
    · rw [if_neg hb, if_pos ((cl0 (by omega)).mpr hb), if_pos rfl]
  rw [if_neg z1, if_neg z1]
  by_cases z2 : x3 = 2
  · rw [if_pos z2, if_pos z2, kd]
    by_cases hd : t ≤ j
    · have hdr : dr w r t (5 * j + i) := ⟨by rw [km]; exact hi, by rw [kd]; exact hd, by rw [kd]; exact hj⟩
      rw [if_neg (show ¬ (sp_X4_dryCells V (11 * 0 + 10) &&& ((1 : Int32) <<< (nI (5 * j + i) &&& 31)) = 0) from fun z => (dry0 h.1.1 S (by omega)).mp z hdr), if_pos hd, if_neg (by decide)]
    · have hdr : ¬ dr w r t (5 * j + i) := fun z => hd (by have := z.2.1; omega)
      rw [if_pos ((dry0 h.1.1 S (by omega)).mpr hdr), if_neg hd, if_pos rfl]
  rw [if_neg z2, if_neg z2]
  have key : ∀ b : Int32, (if sp_X4_stillBy V (11 * 0 + 10) b &&& ((1 : Int32) <<< (nI (5 * j + i) &&& 31)) = 0 then (0 : Int32) else 1) = if sp_X7_isStill mg st (st 20) (nI i) (nI j) b = 0 then 0 else 1 := by
    intro b
    obtain ⟨s1, s2⟩ := is_of h.1.1 h.1.2.1 h.1.2.2 S.b22 S.tr (c := st 20) (b := b) hi hj
    by_cases hs : stl w r t (st 20) b (5 * j + i)
    · rw [if_neg (fun z => (stb0 h S k20).mp z hs), s2.mpr hs, if_neg (by decide)]
    · rw [if_pos ((stb0 h S k20).mpr hs)]
      rcases s1 with z | z
      · rw [if_pos z]
      · exact absurd (s2.mp z) hs
  by_cases z3 : x3 = 3
  · subst z3
    rw [if_pos rfl, if_pos rfl]
    exact key 0
  rw [if_neg z3, if_neg z3]
  by_cases z4 : x3 = 4
  · subst z4
    rw [if_pos rfl, if_pos rfl]
    exact key 1
  rw [if_neg z4, if_neg z4]
/-! marks -/
def zz (w r : Nat) : Int32 := sp_X4_cellsFrom (fun _ j => if j = 0 then nI w else nI r) 0 (nI 0)
def bs_ (w r i j : Nat) : Int32 := sp_J6_bitCount_0f7a4 (sp_X4_besideAny ((1 : Int32) <<< (nI (5 * j + i) &&& 31)) &&& zz w r)
theorem bs_fin : ∀ w, w < 6 → ∀ r, r < 5 → ∀ i, i < w → ∀ j, j < r → bs_ w r i j = (if nI i ≤ 0 then (0 : Int32) else 1) + (if nI j ≤ 0 then (0 : Int32) else 1) + (if nI w ≤ nI i + 1 then (0 : Int32) else 1) + (if nI r ≤ nI j + 1 then (0 : Int32) else 1) := by decide +kernel
theorem beside_eq (h : RE w r g tb V Hd tr mg st im ke se tx mt) (i j : Nat) : sp_X4_cellsBeside V (11 * 0 + 10) ((1 : Int32) <<< (nI (5 * j + i) &&& 31)) = bs_ w r i j := by
  obtain ⟨t, S⟩ := h.now
  have e : sp_X4_cellsFrom V (11 * 0 + 10) (0 : Int32) = zz w r := by
    refine bx fun i hi => ?_
    show bt (sp_X4_cellsFrom V (11 * 0 + 10) (nI 0)) i = bt (sp_X4_cellsFrom (fun _ j => if j = 0 then nI w else nI r) 0 (nI 0)) i
    rw [cf_bt h.1.1 S.v0 S.v1 (Nat.zero_le _) hi, cf_bt (V := fun _ j => if j = 0 then nI w else nI r) h.1.1 rfl rfl (Nat.zero_le _) hi]
  unfold sp_X4_cellsBeside bs_
  dsimp only [nm]
  rw [e]
theorem i64_2 (a b c d : Int64) (h : b + c = d) : a + b + c = a + d := by rw [Int64.add_assoc, h]
end EA
