section AD
variable {w r : Nat} {g tb : Nat → Int32} {V Hd : Nat → Nat → Int32} {tr : Int64} {mg st im ke se tx : Nat → Int32} {mt : Int64}
theorem ti63 {s : Nat → Int32} {t : Nat} (ht : s 22 = nI t) (ht4 : t ≤ 4) : (lp_X7_tide_63 (((20 : Int32).toInt - (0 : Int32).toInt).toNat + 1) (0 : Int32) s) 22 = nI t ∧ (∀ j, j ≠ 20 → j ≠ 22 → (lp_X7_tide_63 (((20 : Int32).toInt - (0 : Int32).toInt).toNat + 1) (0 : Int32) s) j = if j < 20 ∧ j / 5 < t then 0 else s j) ∧ (∀ c, c < 32 → bt ((lp_X7_tide_63 (((20 : Int32).toInt - (0 : Int32).toInt).toNat + 1) (0 : Int32) s) 20) c = (bt (s 20) c && !decide (c < 20 ∧ c / 5 < t))) := by
  refine lpv (lp := fun n (a : Nat → Int32) y => lp_X7_tide_63 n y a) (N := 20) (P := fun i a => a 22 = nI t ∧ (∀ j, j ≠ 20 → j ≠ 22 → a j = if j < i ∧ j / 5 < t then 0 else s j) ∧ (∀ c, c < 32 → bt (a 20) c = (bt (s 20) c && !decide (c < i ∧ c / 5 < t)))) (fun n a _ => ?_) (fun n a i hi hp => ?_) 20 0 (((20 : Int32).toInt - (0 : Int32).toInt).toNat + 1) s rfl (by decide) ⟨ht, fun j _ _ => by rw [if_neg (by omega)], fun c _ => by simp⟩
  · show (if (20 : Int32) ≤ nI 20 then a else _) = a
    rw [if_pos (by decide)]
  · obtain ⟨p1, p2, p3⟩ := hp
    have c' : ¬ (20 : Int32) ≤ nI i := nI_ge (b := 20) hi (by decide)
    have e : lp_X7_tide_63 (n + 1) (nI i) a = if t ≤ i / 5 then lp_X7_tide_63 n (nI (i + 1)) a else lp_X7_tide_63 n (nI (i + 1)) (upd (upd a i 0) 20 (a 20 &&& (((1 : Int32) <<< (nI i &&& 31)) ^^^ (-1 : Int32)))) := by
      show (if (20 : Int32) ≤ nI i then a else nm (sp_X7_isDry a (nI i)) (fun r_12 => if r_12 = 0 then (lp_X7_tide_63 n (nI i + 1) (upd (upd a (nI i).toNatClampNeg (0 : Int32)) (20 : Int32).toNatClampNeg (((upd a (nI i).toNatClampNeg (0 : Int32)) (20 : Int32).toNatClampNeg) &&& (((1 : Int32) <<< (nI i &&& 31)) ^^^ (-1 : Int32))))) else (lp_X7_tide_63 n (nI i + 1) a))) = _
      rw [if_neg c', idry p1 (by omega) (by omega), c20, nI_clamp (by omega), ← nI_succ, pk_un (show 20 ≠ i by omega)]
      dsimp only [nm]
      by_cases z : t ≤ i / 5
      · rw [if_pos z, if_pos z, if_neg (by decide)]
      · rw [if_neg z, if_neg z, if_pos rfl]
    by_cases z : t ≤ i / 5
    · refine ⟨a, ⟨p1, fun j h1 h2 => ?_, fun c hc => ?_⟩, by show lp_X7_tide_63 (n + 1) (nI i) a = _; rw [e, if_pos z]⟩
      · rw [p2 j h1 h2]
        by_cases y : j < i ∧ j / 5 < t
        · rw [if_pos y, if_pos (by omega)]
        · by_cases ej : j = i
          · subst ej; rw [if_neg (by omega), if_neg (by omega)]
          · rw [if_neg y, if_neg (by omega)]
      · rw [p3 c hc]
        congr 2
        apply decide_eq_decide.mpr
        by_cases ej : c = i
        · subst ej; omega
        · omega
    · refine ⟨_, ⟨?_, fun j h1 h2 => ?_, fun c hc => ?_⟩, by show lp_X7_tide_63 (n + 1) (nI i) a = _; rw [e, if_neg z]⟩
      · rw [pk_un (by decide), pk_un (by omega)]; exact p1
      · rw [pk_un h1]
        by_cases ej : j = i
        · subst ej; rw [pk_us, if_pos (by omega)]
        · rw [pk_un ej, p2 j h1 h2]
          by_cases y : j < i ∧ j / 5 < t
          · rw [if_pos y, if_pos (by omega)]
          · rw [if_neg y, if_neg (by omega)]
      · rw [pk_us, bt_and, p3 c hc, bt_not _ hc, bt_bit (by omega) hc]
        by_cases ej : c = i
        · subst ej
          simp [show c / 5 < t from Nat.lt_of_not_le z]
        · have e2 : decide (c < i + 1 ∧ c / 5 < t) = decide (c < i ∧ c / 5 < t) := decide_eq_decide.mpr (by omega)
          rw [e2]; simp [ej]
theorem td_ok (h : RE w r g tb V Hd tr mg st im ke se tx mt) {t' : Nat} (ht' : t' ≤ r) : RE w r (sp_X3_remember g V Hd 0).1 tb (sp_X4_tideBecomes (sp_X3_remember g V Hd 0).2.1 (sp_X3_remember g V Hd 0).2.2 (11 * 0 + 10) (nI t')).1 (sp_X4_tideBecomes (sp_X3_remember g V Hd 0).2.1 (sp_X3_remember g V Hd 0).2.2 (11 * 0 + 10) (nI t')).2 tr mg (lp_X7_tide_63 (((20 : Int32).toInt - (0 : Int32).toInt).toNat + 1) (0 : Int32) (upd (sp_X7_remembers st) 22 (nI t'))) im ke se tx mt ∧ (lp_X7_tide_63 (((20 : Int32).toInt - (0 : Int32).toInt).toNat + 1) (0 : Int32) (upd (sp_X7_remembers st) 22 (nI t'))) 22 = nI t' := by
  obtain ⟨t, S⟩ := h.now
  have M := h.mid S
  have hw := h.1.1
  have r4 := hw.r4
  obtain ⟨a1, a2, a3⟩ := ti63 (s := upd (sp_X7_remembers st) 22 (nI t')) (t := t') pk_us (by omega)
  refine ⟨?_, a1⟩
  generalize hs : lp_X7_tide_63 (((20 : Int32).toInt - (0 : Int32).toInt).toNat + 1) (0 : Int32) (upd (sp_X7_remembers st) 22 (nI t')) = s at a1 a2 a3 ⊢
  rw [pk_un (show 20 ≠ 22 by decide)] at a3
  have hd : ∀ i, i < 32 → bt (sp_X4_dryCells (vs (sp_X3_remember g V Hd 0).2.1 (11 * 0 + 10) 4 (nI t')) (11 * 0 + 10)) i = decide (dr w r t' i) := by
    intro i hi
    show bt (sp_X4_cellsFrom (vs (sp_X3_remember g V Hd 0).2.1 (11 * 0 + 10) 4 (nI t')) (11 * 0 + 10) (vs (sp_X3_remember g V Hd 0).2.1 (11 * 0 + 10) 4 (nI t') (11 * 0 + 10) 4)) i = _
    rw [vs_s]
    exact cf_bt hw (by rw [vs_j (by decide)]; exact M.v0) (by rw [vs_j (by decide)]; exact M.v1) ht' hi
  have eT : sp_X4_tideBecomes (sp_X3_remember g V Hd 0).2.1 (sp_X3_remember g V Hd 0).2.2 (11 * 0 + 10) (nI t') = (vs (vs (sp_X3_remember g V Hd 0).2.1 (11 * 0 + 10) 4 (nI t')) (11 * 0 + 10) 2 ((sp_X3_remember g V Hd 0).2.1 (11 * 0 + 10) 2 &&& sp_X4_dryCells (vs (sp_X3_remember g V Hd 0).2.1 (11 * 0 + 10) 4 (nI t')) (11 * 0 + 10)), sp_X4_freeAllBut (sp_X3_remember g V Hd 0).2.2 (11 * 0 + 10) (sp_X4_dryCells (vs (sp_X3_remember g V Hd 0).2.1 (11 * 0 + 10) 4 (nI t')) (11 * 0 + 10))) := by
    have e2 : vs (sp_X3_remember g V Hd 0).2.1 (11 * 0 + 10) 4 (nI t') (11 * 0 + 10) 2 = (sp_X3_remember g V Hd 0).2.1 (11 * 0 + 10) 2 := vs_j (by decide)
    unfold sp_X4_tideBecomes
    dsimp only [nm]
    rw [e2]
  rw [eT]
  dsimp only
  generalize hD : sp_X4_dryCells (vs (sp_X3_remember g V Hd 0).2.1 (11 * 0 + 10) 4 (nI t')) (11 * 0 + 10) = D at hd ⊢
  have fr := free_ok (Hd := (sp_X3_remember g V Hd 0).2.2) (k := 11 * 0 + 10) D
  refine h.rem (t := t') ⟨⟨?_, ?_, ?_, ?_, ?_⟩, ⟨a1, ht', ?_⟩, fun f hf i => ?_, fun k hk => ?_, fun i hi => ?_⟩ (fun c hc => by rw [vs_o hc, vs_o hc]) fr.2 (fun j hj => ?_)
  · rw [vs_j (by decide), vs_j (by decide)]; exact M.v0
  · rw [vs_j (by decide), vs_j (by decide)]; exact M.v1
  · rw [vs_s, M.v2]
    refine bx fun i hi => ?_
    rw [bt_and, hd i hi, a3 i hi]
    cases hb : bt (sp_X7_remembers st 20) i
    · rfl
    · have hc := M.cloth i hb
      have h1 := hc.1
      have h2 := hc.2.1
      have h3 := hc.2.2.2
      rw [Bool.true_and, Bool.true_and, ← decide_not]
      apply decide_eq_decide.mpr
      constructor
      · intro z; have := z.2.1; omega
      · intro z; exact ⟨h2, by omega, h3⟩
  · rw [vs_j (by decide), vs_j (by decide), a2 21 (by decide) (by decide), if_neg (by omega), pk_un (by decide)]; exact M.v3
  · rw [vs_j (by decide), vs_s, a1]
  · rw [a2 21 (by decide) (by decide), if_neg (by omega), pk_un (by decide)]; exact M.b21
  · rw [fr.1 f hf, bt_and, M.held f hf i]
    by_cases c20 : i < 20
    · rw [hd i (by omega), a2 i (by omega) (by omega), pk_un (by omega), ← Bool.decide_and]
      apply decide_eq_decide.mpr
      obtain ⟨q, hq5, hbq, hqd⟩ := M.hold i c20
      constructor
      · rintro ⟨⟨_, z1⟩, z2⟩
        have := z2.2.1
        rw [if_neg (by omega)]
        exact ⟨c20, z1⟩
      · rintro ⟨_, z1⟩
        by_cases y : i < 20 ∧ i / 5 < t'
        · rw [if_pos y] at z1
          exact absurd ((nI_eq (a := 0) (b := f + 1) (by omega) (by omega)).mp z1) (by omega)
        · rw [if_neg y] at z1
          refine ⟨⟨c20, z1⟩, ?_⟩
          rw [hbq] at z1
          have := (nI_eq (by omega) (by omega)).mp z1
          have hz := hqd (by omega)
          have hz1 := hz.1
          have hz2 := hz.2.2
          exact ⟨hz1, by omega, hz2⟩
    · rw [decide_eq_false (fun z : i < 20 ∧ _ => c20 z.1), decide_eq_false (fun z : i < 20 ∧ _ => c20 z.1)]; rfl
  · rw [a2 k (by omega) (by omega), pk_un (by omega)]
    by_cases y : k < 20 ∧ k / 5 < t'
    · rw [if_pos y]; exact ⟨0, by omega, rfl, fun z => absurd z (by omega)⟩
    · rw [if_neg y]
      obtain ⟨q, hq5, hbq, hqd⟩ := M.hold k hk
      refine ⟨q, hq5, hbq, fun z => ?_⟩
      have hz := hqd z
      have hz1 := hz.1
      have hz2 := hz.2.2
      exact ⟨hz1, by omega, hz2⟩
  · by_cases c32 : i < 32
    · rw [a3 i c32] at hi
      simp only [Bool.and_eq_true, Bool.not_eq_true', decide_eq_false_iff_not] at hi
      have hc := M.cloth i hi.1
      have h1 := hc.1
      have h2 := hc.2.1
      have h3 := hc.2.2.2
      exact ⟨h1, h2, by omega, h3⟩
    · rw [bt_ge (by omega)] at hi; cases hi
  · rw [a2 j (by omega) (by omega), if_neg (by omega), pk_un (by omega)]
theorem tide_ok (h : RE w r g tb V Hd tr mg st im ke se tx mt) (x1 : Int32) : (sp_X6_tide g V Hd x1).1 = (sp_X7_tide mg st x1).1 ∧ RE w r (sp_X6_tide g V Hd x1).2.1 tb (sp_X6_tide g V Hd x1).2.2.1 (sp_X6_tide g V Hd x1).2.2.2 tr mg (sp_X7_tide mg st x1).2 im ke se tx mt := by
  obtain ⟨t, S⟩ := h.now
  have hw := h.1.1
  have r4 := hw.r4
  have r1 := hw.r1
  have htr := S.tr
  have M := h.mid S
  have e4 : V (11 * 0 + 10) 4 = nI t := S.v4.trans S.b22
  have e22 : st 22 = nI t := S.b22
  have e1 : V (11 * 0 + 10) 1 = nI r := S.v1
  have m22 : sp_X7_remembers st 22 = nI t := M.b22
  unfold sp_X6_tide sp_X7_tide jn_X6_tide_36 jn_X7_tide_31 jn_X7_tide_59
  dsimp only [nm, nm2, nm3]
  rw [within_in, e4, e1, h.1.2.2, c22, e22, m22]
  rcases in_of2 x1 (n := 1) (by decide) with hs | ⟨hs, s, hs1, rfl⟩
  · have hs : sp_X7_in x1 0 1 = 0 := hs
    rw [if_pos hs, if_pos hs]; exact ⟨rfl, h⟩
  have hs : sp_X7_in (nI s) 0 1 = 1 := hs
  have ns : ¬ sp_X7_in (nI s) 0 1 = 0 := by rw [hs]; decide
  rw [if_neg ns, if_neg ns]
  rcases (show s = 0 ∨ s = 1 by omega) with rfl | rfl
  · rw [if_neg (show ¬ nI 0 = (1 : Int32) by decide), if_neg (show ¬ nI 0 = (1 : Int32) by decide), if_neg (show ¬ nI 0 = (1 : Int32) by decide)]
    by_cases c : t = 0
    · subst c
      have z : sp_X6_isWithin (nI 0 - (1 : Int32)) (nI r) = 0 := by
        unfold sp_X6_isWithin
        rw [if_pos (show nI 0 - (1 : Int32) < 0 by decide)]
      rw [if_pos z, if_pos (show nI 0 = (0 : Int32) by decide)]
      exact ⟨rfl, h⟩
    · have e5 : nI t - (1 : Int32) = nI (t - 1) := pk_sub (b := 1) (by omega)
      have e6 : nI t + (-1 : Int32) = nI (t - 1) := by
        have := pk_m1 (t - 1)
        rw [show t - 1 + 1 = t by omega] at this
        exact this
      have z : sp_X6_isWithin (nI (t - 1)) (nI r) = 1 := inn1 (by omega) (by omega)
      rw [e5, e6, if_neg (by rw [z]; decide), if_neg (show ¬ nI t = 0 from nI_ne0 (by omega) (by omega))]
      obtain ⟨d1, d2⟩ := td_ok h (t' := t - 1) (by omega)
      exact ⟨d2.symm, d1⟩
  · rw [if_pos (show nI 1 = (1 : Int32) from rfl), if_pos (show nI 1 = (1 : Int32) from rfl), if_pos (show nI 1 = (1 : Int32) from rfl)]
    have e5 : nI t + (1 : Int32) = nI (t + 1) := (nI_succ t).symm
    rw [e5]
    by_cases c : t = r
    · have z : sp_X6_isWithin (nI (t + 1)) (nI r) = 0 := inn0 (by omega) (by omega) (by omega)
      rw [if_pos z, if_pos (by rw [c])]
      exact ⟨rfl, h⟩
    · have z : sp_X6_isWithin (nI (t + 1)) (nI r) = 1 := inn1 (by omega) (by omega)
      rw [if_neg (by rw [z]; decide), if_neg (fun q => c ((nI_eq (by omega) (by omega)).mp q))]
      obtain ⟨d1, d2⟩ := td_ok h (t' := t + 1) (by omega)
      exact ⟨d2.symm, d1⟩
theorem und_ok (h : RE w r g tb V Hd tr mg st im ke se tx mt) : (sp_X6_undo g V Hd).1 = (sp_X7_undo st).1 ∧ RE w r (sp_X6_undo g V Hd).2.1 tb (sp_X6_undo g V Hd).2.2.1 (sp_X6_undo g V Hd).2.2.2 tr mg (sp_X7_undo st).2 im ke se tx mt := by
  obtain ⟨u1, u2, u3, u4⟩ := undo_ok h.2.2.2.1
  exact ⟨u1, h.act u2 u4 u3⟩
theorem keep_q (h : RE w r g tb V Hd tr mg st im ke se tx mt) {q p0 a0 : Nat} (hq : q < 2) (hp0 : p0 = q + 1) (ha0 : a0 = 11 + q) : RE w r (upd (sp_X3_becomes g V Hd p0 0).1 a0 1) tb (sp_X3_becomes g V Hd p0 0).2.1 (sp_X3_becomes g V Hd p0 0).2.2 tr mg st (lp_X7_keep_13 st (nI q) (((254 : Int32).toInt - (0 : Int32).toInt).toNat + 1) (0 : Int32) im) (upd ke q 1) se tx mt ∧ (sp_X3_becomes g V Hd p0 0).2.1 (11 * 0 + 10) 4 = st 22 := by
  subst hp0 ha0
  obtain ⟨b1, b2, b3⟩ := sbec (g := g) (V := V) (Hd := Hd) (q := q + 1) (q0 := 0) (by omega)
  obtain ⟨t, S⟩ := h.now
  have hg : ∀ j, j ≠ 8 + q → j ≠ 11 + q → upd (sp_X3_becomes g V Hd (q + 1) 0).1 (11 + q) 1 j = g j := fun j h1 h2 => by rw [pk_un h2, b1, pk_un (by omega)]
  refine ⟨⟨h.1, TX_cg h.2.1 (hg 6 (by omega) (by omega)) rfl, SE_cg h.2.2.1 (fun j h1 _ => hg j (by omega) (by omega)) rfl, ?_, fun p hp => ?_, h.2.2.2.2.2⟩, ?_⟩
  · rw [hg 7 (by omega) (by omega)]
    exact SY_cp h.2.2.2.1 (fun j hj => b3 _ (by omega)) (fun _ _ => rfl)
  · by_cases e : p = q
    · subst e
      refine ⟨Or.inr pk_us, by rw [pk_us, pk_us], fun _ => ?_⟩
      rw [pk_un (show 8 + p ≠ 11 + p by omega), b1, show 8 + p = 7 + (p + 1) by omega, pk_us]
      refine SY_cp h.2.2.2.1 (fun j hj => b2 j hj) (fun j hj => ?_)
      rw [kp13 st im hq, if_pos (by omega)]
      congr 1
      omega
    · obtain ⟨k1, k2, k3⟩ := h.2.2.2.2.1 p hp
      rw [hg (11 + p) (by omega) (by omega), hg (8 + p) (by omega) (by omega), pk_un e]
      refine ⟨k1, k2, fun z => SY_cp (k3 z) (fun j hj => b3 _ (by omega)) (fun j hj => ?_)⟩
      rw [kp13 st im hq, if_neg (by omega)]
  · exact ((b3 (11 * 0 + 10) (by omega)).1 4 (by decide)).trans S.v4
theorem keep_ok (h : RE w r g tb V Hd tr mg st im ke se tx mt) (x1 : Int32) : (sp_X6_keep g V Hd x1).1 = (sp_X7_keep st im ke x1).1 ∧ RE w r (sp_X6_keep g V Hd x1).2.1 tb (sp_X6_keep g V Hd x1).2.2.1 (sp_X6_keep g V Hd x1).2.2.2 tr mg st (sp_X7_keep st im ke x1).2.1 (sp_X7_keep st im ke x1).2.2 se tx mt := by
  unfold sp_X6_keep sp_X7_keep
  dsimp only [nm, nm3]
  rw [c22]
  rcases inn (x := x1) (n := 1) (by decide) with ⟨hs, hn⟩ | ⟨hs, q, hq, rfl⟩
  · have hs : sp_X7_in x1 0 1 = 0 := hs
    rw [if_pos hs, if_neg (show ¬ x1 = (0 : Int32) from hn 0 (by decide)), if_neg (show ¬ x1 = (1 : Int32) from hn 1 (by decide))]
    exact ⟨rfl, h⟩
  · have hs : sp_X7_in (nI q) 0 1 = 1 := hs
    rw [if_neg (show ¬ sp_X7_in (nI q) 0 1 = 0 by rw [hs]; decide), nI_clamp (by omega)]
    rcases (show q = 0 ∨ q = 1 by omega) with rfl | rfl
    · rw [if_pos (show nI 0 = (0 : Int32) from rfl)]
      obtain ⟨k1, k2⟩ := keep_q h (q := 0) (p0 := 1) (a0 := 10 + 1) (by omega) rfl rfl
      dsimp only; exact ⟨k2, k1⟩
    · rw [if_neg (show ¬ nI 1 = (0 : Int32) by decide), if_pos (show nI 1 = (1 : Int32) from rfl)]
      obtain ⟨k1, k2⟩ := keep_q h (q := 1) (p0 := 2) (a0 := 10 + 2) (by omega) rfl rfl
      dsimp only; exact ⟨k2, k1⟩
theorem back_q (h : RE w r g tb V Hd tr mg st im ke se tx mt) {q p0 : Nat} (hq : q < 2) (hp0 : p0 = q + 1) (hk : ke q = 1) : RE w r (sp_X3_becomes g V Hd 0 p0).1 tb (sp_X3_becomes g V Hd 0 p0).2.1 (sp_X3_becomes g V Hd 0 p0).2.2 tr mg (lp_X7_back_25 im (nI q) (((254 : Int32).toInt - (0 : Int32).toInt).toNat + 1) (0 : Int32) st) im ke se tx mt ∧ (sp_X3_becomes g V Hd 0 p0).2.1 (11 * 0 + 10) 4 = (lp_X7_back_25 im (nI q) (((254 : Int32).toInt - (0 : Int32).toInt).toNat + 1) (0 : Int32) st) 22 := by
  subst hp0
  obtain ⟨b1, b2, b3⟩ := sbec (g := g) (V := V) (Hd := Hd) (q := 0) (q0 := q + 1) (by omega)
  obtain ⟨k1, k2, k3⟩ := h.2.2.2.2.1 q hq
  have hs : SY w r (sp_X3_becomes g V Hd 0 (q + 1)).2.1 (sp_X3_becomes g V Hd 0 (q + 1)).2.2 0 ((sp_X3_becomes g V Hd 0 (q + 1)).1 7) (lp_X7_back_25 im (nI q) (((254 : Int32).toInt - (0 : Int32).toInt).toNat + 1) (0 : Int32) st) := by
    have e : (sp_X3_becomes g V Hd 0 (q + 1)).1 7 = g (8 + q) := by
      rw [b1, show 7 + (q + 1) = 8 + q by omega]
      exact pk_us
    rw [e]
    refine SY_cp (k3 hk) (fun j hj => b2 j hj) (fun j hj => ?_)
    rw [bk25 st im hq, if_pos hj]
  have H := h.act (V' := (sp_X3_becomes g V Hd 0 (q + 1)).2.1) (Hd' := (sp_X3_becomes g V Hd 0 (q + 1)).2.2) hs (fun j hj => by rw [b1, pk_un hj]) (fun c hc => b3 c (by omega))
  refine ⟨H, ?_⟩
  obtain ⟨t, S⟩ := H.now
  exact S.v4
theorem back_ok (h : RE w r g tb V Hd tr mg st im ke se tx mt) (x1 : Int32) : (sp_X6_back g V Hd x1).1 = (sp_X7_back st im ke x1).1 ∧ RE w r (sp_X6_back g V Hd x1).2.1 tb (sp_X6_back g V Hd x1).2.2.1 (sp_X6_back g V Hd x1).2.2.2 tr mg (sp_X7_back st im ke x1).2 im ke se tx mt := by
  unfold sp_X6_back sp_X7_back
  dsimp only [nm, nm3]
  rw [c22]
  rcases inn (x := x1) (n := 1) (by decide) with ⟨hs, hn⟩ | ⟨hs, q, hq, rfl⟩
  · have hs : sp_X7_in x1 0 1 = 0 := hs
    rw [if_pos hs, if_neg (show ¬ x1 = (0 : Int32) from hn 0 (by decide)), if_neg (show ¬ x1 = (1 : Int32) from hn 1 (by decide))]
    exact ⟨rfl, h⟩
  · have hs : sp_X7_in (nI q) 0 1 = 1 := hs
    rw [if_neg (show ¬ sp_X7_in (nI q) 0 1 = 0 by rw [hs]; decide), nI_clamp (by omega)]
    obtain ⟨k1, k2, k3⟩ := h.2.2.2.2.1 q (by omega)
    rcases (show q = 0 ∨ q = 1 by omega) with rfl | rfl
    · rw [if_pos (show nI 0 = (0 : Int32) from rfl)]
      have k2 : ke 0 = g (10 + 1) := k2
      rw [k2]
      rcases k1 with z | z
      · have z : g (10 + 1) = 0 := z
        rw [if_pos z, if_pos z]; exact ⟨rfl, h⟩
      · have z : g (10 + 1) = 1 := z
        rw [if_neg (by rw [z]; decide), if_neg (by rw [z]; decide)]
        obtain ⟨m1, m2⟩ := back_q h (q := 0) (p0 := 1) (by omega) rfl (k2.trans z)
        dsimp only; exact ⟨m2, m1⟩
    · rw [if_neg (show ¬ nI 1 = (0 : Int32) by decide), if_pos (show nI 1 = (1 : Int32) from rfl)]
      have k2 : ke 1 = g (10 + 2) := k2
      rw [k2]
      rcases k1 with z | z
      · have z : g (10 + 2) = 0 := z
        rw [if_pos z, if_pos z]; exact ⟨rfl, h⟩
      · have z : g (10 + 2) = 1 := z
        rw [if_neg (by rw [z]; decide), if_neg (by rw [z]; decide)]
        obtain ⟨m1, m2⟩ := back_q h (q := 1) (p0 := 2) (by omega) rfl (k2.trans z)
        dsimp only; exact ⟨m2, m1⟩
end AD
