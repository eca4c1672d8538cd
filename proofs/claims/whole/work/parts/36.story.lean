/-! one strand copied; a story remembered, undone, kept -/
theorem SN_cg {w r t : Nat} {v h b v' h' b' : Nat → Int32} (S : SN w r t v h b) (hv : ∀ j, j < 5 → v' j = v j) (hh : ∀ f, f < 5 → h' f = h f) (hb : ∀ j, j < 23 → b' j = b j) : SN w r t v' h' b' := by
  refine ⟨⟨?_, ?_, ?_, ?_, ?_⟩, ⟨?_, S.tr, ?_⟩, ?_, ?_, ?_⟩
  · rw [hv 0 (by decide)]; exact S.v0
  · rw [hv 1 (by decide)]; exact S.v1
  · rw [hv 2 (by decide), hb 20 (by decide)]; exact S.v2
  · rw [hv 3 (by decide), hb 21 (by decide)]; exact S.v3
  · rw [hv 4 (by decide), hb 22 (by decide)]; exact S.v4
  · rw [hb 22 (by decide)]; exact S.b22
  · rw [hb 21 (by decide)]; exact S.b21
  · intro f hf i
    rw [hh f hf, S.held f hf i]
    congr 1
    apply propext
    constructor
    · rintro ⟨a, e⟩; exact ⟨a, by rw [hb i (by omega)]; exact e⟩
    · rintro ⟨a, e⟩; exact ⟨a, by rw [← hb i (by omega)]; exact e⟩
  · intro k hk; rw [hb k (by omega)]; exact S.hold k hk
  · intro i; rw [hb 20 (by decide)]; exact S.cloth i
theorem vs_s {V : Nat → Nat → Int32} {k j : Nat} {x : Int32} : vs V k j x k j = x := by unfold vs; rw [if_pos ⟨rfl, rfl⟩]
theorem vs_j {V : Nat → Nat → Int32} {k j i : Nat} {x : Int32} (h : i ≠ j) : vs V k j x k i = V k i := by unfold vs; rw [if_neg (fun q => h q.2)]
theorem vs_o {V : Nat → Nat → Int32} {k j c : Nat} {x : Int32} (h : c ≠ k) : vs V k j x c = V c := by funext i; unfold vs; rw [if_neg (fun q => h q.1)]
def cp (a : (Nat → Nat → Int32) × (Nat → Nat → Int32)) (k : Nat) (b : (Nat → Nat → Int32) × (Nat → Nat → Int32)) (k' : Nat) : Prop := (∀ j, j < 5 → a.1 k j = b.1 k' j) ∧ (∀ j, j < 5 → a.2 k j = b.2 k' j)
theorem cp_rf (a : (Nat → Nat → Int32) × (Nat → Nat → Int32)) (k : Nat) : cp a k a k := ⟨fun _ _ => rfl, fun _ _ => rfl⟩
theorem cp_tr {a b c : (Nat → Nat → Int32) × (Nat → Nat → Int32)} {k k1 k2 : Nat} (h1 : cp a k b k1) (h2 : cp b k1 c k2) : cp a k c k2 := ⟨fun j hj => (h1.1 j hj).trans (h2.1 j hj), fun j hj => (h1.2 j hj).trans (h2.2 j hj)⟩
theorem SN_cp {w r t : Nat} {a b : (Nat → Nat → Int32) × (Nat → Nat → Int32)} {k k' : Nat} {s : Nat → Int32} (h : cp a k b k') (S : SN w r t (b.1 k') (b.2 k') s) : SN w r t (a.1 k) (a.2 k) s := SN_cg S h.1 h.2 (fun _ _ => rfl)
theorem bec_h {Hd : Nat → Nat → Int32} {k k0 : Nat} (h : k ≠ k0) : (∀ j, j < 5 → lp_X4_becomes_42 k k0 (((5 : Int32).toInt - (0 : Int32).toInt).toNat + 1) (0 : Int32) Hd k j = Hd k0 j) ∧ ∀ c, c ≠ k → lp_X4_becomes_42 k k0 (((5 : Int32).toInt - (0 : Int32).toInt).toNat + 1) (0 : Int32) Hd c = Hd c := by
  refine lpv (lp := fun n a y => lp_X4_becomes_42 k k0 n y a) (N := 5) (P := fun i a => (∀ j, j < i → a k j = Hd k0 j) ∧ ∀ c, c ≠ k → a c = Hd c) (fun n a _ => ?_) (fun n a i hi hp => ⟨vs a k i (a k0 i), ⟨fun j hj => ?_, fun c hc => ?_⟩, ?_⟩) 5 0 _ Hd rfl (by decide) ⟨fun j hj => absurd hj (Nat.not_lt_zero _), fun _ _ => rfl⟩
  · show (if (5 : Int32) ≤ nI 5 then a else _) = a
    rw [if_pos (by decide)]
  · by_cases e : j = i
    · subst e; rw [vs_s, hp.2 k0 (Ne.symm h)]
    · rw [vs_j e]; exact hp.1 j (by omega)
  · rw [vs_o hc]; exact hp.2 c hc
  · have c : ¬ (5 : Int32) ≤ nI i := nI_ge (b := 5) hi (by decide)
    show (if (5 : Int32) ≤ nI i then a else lp_X4_becomes_42 k k0 n (nI i + 1) (vs a k (nI i).toNatClampNeg (sp_X4_heldBy a k0 (nI i)))) = _
    rw [if_neg c, wh_eq hi, nI_clamp (by omega), nI_succ]
theorem bec {V Hd : Nat → Nat → Int32} {k k0 : Nat} (h : k ≠ k0) : cp (sp_X4_becomes V Hd k k0) k (V, Hd) k0 ∧ ∀ c, c ≠ k → cp (sp_X4_becomes V Hd k k0) c (V, Hd) c := by
  obtain ⟨h1, h2⟩ := bec_h (Hd := Hd) h
  refine ⟨⟨fun j hj => ?_, fun j hj => h1 j hj⟩, fun c hc => ⟨fun j hj => ?_, fun j hj => congrFun (h2 c hc) j⟩⟩
  · have h' := Ne.symm h
    unfold sp_X4_becomes nm
    match j, hj with
    | 0, _ => simp [vs, h']
    | 1, _ => simp [vs, h']
    | 2, _ => simp [vs, h']
    | 3, _ => simp [vs, h']
    | 4, _ => simp [vs, h']
  · unfold sp_X4_becomes nm
    simp [vs, hc]
theorem cop {V Hd : Nat → Nat → Int32} {k k0 : Nat} (h : k ≠ k0) : cp (sp_X3_copy V Hd k0 k) k (V, Hd) k0 ∧ ∀ c, c ≠ k → cp (sp_X3_copy V Hd k0 k) c (V, Hd) c := bec h
theorem drop_lp {V Hd : Nat → Nat → Int32} {q n : Nat} (hn : 9 < n) : (∀ k, k < 9 → cp (lp_X3_dropOldest_2 q n (1 : Int32) V Hd) (11 * q + k) (V, Hd) (11 * q + k + 1)) ∧ (∀ c, (c < 11 * q ∨ 11 * q + 9 ≤ c) → cp (lp_X3_dropOldest_2 q n (1 : Int32) V Hd) c (V, Hd) c) := by
  have key := lpv (lp := fun n (a : (Nat → Nat → Int32) × (Nat → Nat → Int32)) y => lp_X3_dropOldest_2 q n y a.1 a.2) (N := 10) (P := fun i a => 1 ≤ i ∧ (∀ k, k + 1 < i → cp a (11 * q + k) (V, Hd) (11 * q + k + 1)) ∧ (∀ c, (c < 11 * q ∨ 11 * q + i ≤ c + 1) → cp a c (V, Hd) c)) (fun n a _ => ?_) (fun n a i hi hp => ⟨sp_X3_copy a.1 a.2 (11 * q + i) (11 * q + (i - 1)), ⟨by omega, fun k hk => ?_, fun c hc => ?_⟩, ?_⟩) 9 1 n (V, Hd) rfl hn ⟨Nat.le_refl _, fun k hk => by omega, fun c _ => cp_rf _ c⟩
  · exact ⟨fun k hk => key.2.1 k (by omega), fun c hc => key.2.2 c (by omega)⟩
  · show (if (10 : Int32) ≤ nI 10 then (a.1, a.2) else _) = a
    rw [if_pos (by decide)]
  · have hc := cop (V := a.1) (Hd := a.2) (k := 11 * q + (i - 1)) (k0 := 11 * q + i) (by omega)
    by_cases e : k + 1 = i
    · have e2 : k = i - 1 := by omega
      rw [e2, show 11 * q + (i - 1) + 1 = 11 * q + i by omega]
      exact cp_tr hc.1 (hp.2.2 _ (by omega))
    · exact cp_tr (hc.2 (11 * q + k) (by omega)) (hp.2.1 k (by omega))
  · have hz := cop (V := a.1) (Hd := a.2) (k := 11 * q + (i - 1)) (k0 := 11 * q + i) (by omega)
    exact cp_tr (hz.2 c (by omega)) (hp.2.2 c (by omega))
  · have c : ¬ (10 : Int32) ≤ nI i := nI_ge (b := 10) hi (by decide)
    have e1 : nI i - (1 : Int32) = nI (i - 1) := pk_sub (b := 1) hp.1
    show (if (10 : Int32) ≤ nI i then (a.1, a.2) else nm2 (sp_X3_copy a.1 a.2 (11 * q + (nI i).toNatClampNeg) (11 * q + (nI i - (1 : Int32)).toNatClampNeg)) (fun V_7 Hd_8 => lp_X3_dropOldest_2 q n (nI i + 1) V_7 Hd_8)) = _
    rw [if_neg c, e1, nI_clamp (by omega), nI_clamp (by omega), nI_succ]
    rfl
theorem drop_ok {g : Nat → Int32} {V Hd : Nat → Nat → Int32} {q : Nat} : (∀ k, k < 9 → cp (sp_X3_dropOldest g V Hd q).2 (11 * q + k) (V, Hd) (11 * q + k + 1)) ∧ (∀ c, (c < 11 * q ∨ 11 * q + 9 ≤ c) → cp (sp_X3_dropOldest g V Hd q).2 c (V, Hd) c) ∧ (sp_X3_dropOldest g V Hd q).1 = upd g (7 + q) (nI 9) := by
  have e : sp_X3_dropOldest g V Hd q = nm2 (lp_X3_dropOldest_2 q (((10 : Int32).toInt - (1 : Int32).toInt).toNat + 1) (1 : Int32) V Hd) (fun e_4 e_5 => (upd g (7 + q) ((10 : Int32) - (1 : Int32)), e_4, e_5)) := rfl
  have key := drop_lp (V := V) (Hd := Hd) (q := q) (n := ((10 : Int32).toInt - (1 : Int32).toInt).toNat + 1) (by decide)
  rw [e]
  generalize lp_X3_dropOldest_2 q (((10 : Int32).toInt - (1 : Int32).toInt).toNat + 1) (1 : Int32) V Hd = L at key ⊢
  exact ⟨key.1, key.2, rfl⟩
/-- the reference: one row later, a row put -/
theorem c23 : (23 : Int32).toNatClampNeg = 23 := rfl
theorem c22 : (22 : Int32).toNatClampNeg = 22 := rfl
theorem c21 : (21 : Int32).toNatClampNeg = 21 := rfl
theorem c20 : (20 : Int32).toNatClampNeg = 20 := rfl
theorem rm15 (st : Nat → Int32) (j : Nat) : lp_X7_remembers_15 (((231 : Int32).toInt - (24 : Int32).toInt).toNat + 1) (24 : Int32) st j = if 24 ≤ j ∧ j < 231 then st (j + 23) else st j := by
  have key := lpv (lp := fun n (a : Nat → Int32) y => lp_X7_remembers_15 n y a) (N := 231) (P := fun i a => 24 ≤ i ∧ ∀ j, a j = if 24 ≤ j ∧ j < i then st (j + 23) else st j) (fun n a _ => ?_) (fun n a i hi hp => ⟨upd a i (a (i + 23)), ⟨by omega, fun j => ?_⟩, ?_⟩) 207 24 (((231 : Int32).toInt - (24 : Int32).toInt).toNat + 1) st rfl (by decide) ⟨Nat.le_refl _, fun j => by rw [if_neg (by omega)]⟩
  · exact key.2 j
  · show (if (231 : Int32) ≤ nI 231 then a else _) = a
    rw [if_pos (by decide)]
  · by_cases e : j = i
    · subst e
      rw [pk_us, hp.2, if_neg (by omega), if_pos (by omega)]
    · rw [pk_un e, hp.2]
      by_cases z : 24 ≤ j ∧ j < i
      · rw [if_pos z, if_pos (by omega)]
      · rw [if_neg z, if_neg (by omega)]
  · have c : ¬ (231 : Int32) ≤ nI i := nI_ge (b := 231) hi (by decide)
    have e1 : nI i + (23 : Int32) = nI (i + 23) := nI_add i 23
    show (if (231 : Int32) ≤ nI i then a else lp_X7_remembers_15 n (nI i + 1) (upd a (nI i).toNatClampNeg (a (nI i + (23 : Int32)).toNatClampNeg))) = _
    rw [if_neg c, e1, nI_clamp (by omega), nI_clamp (by omega), nI_succ]
theorem rm70 (st : Nat → Int32) {p : Nat} (hp1 : 23 ≤ p) (hp2 : p < 1000) (j : Nat) : lp_X7_remembers_70 (nI p) (((23 : Int32).toInt - (0 : Int32).toInt).toNat + 1) (0 : Int32) st j = if p ≤ j ∧ j < p + 23 then st (j - p) else st j := by
  have key := lpv (lp := fun n (a : Nat → Int32) y => lp_X7_remembers_70 (nI p) n y a) (N := 23) (P := fun i a => ∀ j, a j = if p ≤ j ∧ j < p + i then st (j - p) else st j) (fun n a _ => ?_) (fun n a i hi hp => ⟨upd a (p + i) (a i), fun j => ?_, ?_⟩) 23 0 (((23 : Int32).toInt - (0 : Int32).toInt).toNat + 1) st rfl (by decide) (fun j => by rw [if_neg (by omega)])
  · exact key j
  · show (if (23 : Int32) ≤ nI 23 then a else _) = a
    rw [if_pos (by decide)]
  · by_cases e : j = p + i
    · subst e
      rw [pk_us, hp, if_neg (by omega), if_pos (by omega), show p + i - p = i by omega]
    · rw [pk_un e, hp]
      by_cases z : p ≤ j ∧ j < p + i
      · rw [if_pos z, if_pos (by omega)]
      · rw [if_neg z, if_neg (by omega)]
  · have c : ¬ (23 : Int32) ≤ nI i := nI_ge (b := 23) hi (by decide)
    show (if (23 : Int32) ≤ nI i then a else lp_X7_remembers_70 (nI p) n (nI i + 1) (upd a (nI p + nI i).toNatClampNeg (a (nI i).toNatClampNeg))) = _
    rw [if_neg c, nI_add, nI_clamp (by omega), nI_clamp (by omega), nI_succ]
theorem rm54 {st : Nat → Int32} {n : Nat} (hn : n ≤ 9) (h : st 23 = nI n) (j : Nat) : jn_X7_remembers_54 st j = if j = 23 then nI (n + 1) else if 24 + 23 * n ≤ j ∧ j < 24 + 23 * n + 23 then st (j - (24 + 23 * n)) else st j := by
  have e1 : (24 : Int32) + (23 : Int32) * (st (23 : Int32).toNatClampNeg) = nI (24 + 23 * n) := by
    rw [c23, h, show (23 : Int32) = nI 23 from rfl, pk_mul]
    exact nI_add 24 (23 * n)
  unfold jn_X7_remembers_54
  dsimp only [nm]
  rw [e1, c23]
  by_cases e : j = 23
  · subst e
    rw [pk_us, if_pos rfl, rm70 st (by omega) (by omega), if_neg (by omega), h, nI_succ]
  · rw [pk_un e, if_neg e, rm70 st (by omega) (by omega)]
def SY (w r : Nat) (V Hd : Nat → Nat → Int32) (q : Nat) (u : Int32) (s : Nat → Int32) : Prop := ∃ n, n ≤ 10 ∧ u = nI n ∧ s 23 = nI n ∧ (∃ t, SN w r t (V (11 * q + 10)) (Hd (11 * q + 10)) s) ∧ ∀ j, j < n → ∃ t, SN w r t (V (11 * q + j)) (Hd (11 * q + j)) (fun i => s (24 + 23 * j + i))
theorem SY_cp {w r : Nat} {V Hd V' Hd' : Nat → Nat → Int32} {q q' : Nat} {u : Int32} {s s' : Nat → Int32} (S : SY w r V Hd q u s) (h : ∀ j, j ≤ 10 → cp (V', Hd') (11 * q' + j) (V, Hd) (11 * q + j)) (hs : ∀ j, j < 254 → s' j = s j) : SY w r V' Hd' q' u s' := by
  obtain ⟨n, h1, h2, h3, ⟨t, h4⟩, h5⟩ := S
  refine ⟨n, h1, h2, by rw [hs 23 (by decide)]; exact h3, ⟨t, SN_cg h4 (h 10 (by decide)).1 (h 10 (by decide)).2 (fun j hj => hs j (by omega))⟩, fun j hj => ?_⟩
  obtain ⟨t, h6⟩ := h5 j hj
  exact ⟨t, SN_cg h6 (h j (by omega)).1 (h j (by omega)).2 (fun i hi => hs _ (by omega))⟩
/-- remember, remembers -/
theorem rem_ok {w r : Nat} {g : Nat → Int32} {V Hd : Nat → Nat → Int32} {st : Nat → Int32} (S : SY w r V Hd 0 (g 7) st) : SY w r (sp_X3_remember g V Hd 0).2.1 (sp_X3_remember g V Hd 0).2.2 0 ((sp_X3_remember g V Hd 0).1 7) (sp_X7_remembers st) ∧ (∀ c, 10 ≤ c → cp (sp_X3_remember g V Hd 0).2 c (V, Hd) c) ∧ (∀ j, j < 23 → sp_X7_remembers st j = st j) ∧ (∀ j, j ≠ 7 → (sp_X3_remember g V Hd 0).1 j = g j) := by
  obtain ⟨n, h1, h2, h3, ⟨t, h4⟩, h5⟩ := S
  have h2' : g (7 + 0) = nI n := h2
  by_cases c : n < 10
  · have ea : sp_X3_remember g V Hd 0 = (upd g 7 (nI (n + 1)), (sp_X3_copy V Hd (11 * 0 + 10) (11 * 0 + n)).1, (sp_X3_copy V Hd (11 * 0 + 10) (11 * 0 + n)).2) := by
      unfold sp_X3_remember
      rw [h2', if_pos (show nI n < (10 : Int32) from nI_lt (b := 10) c (by decide)), nI_clamp (by omega), nI_succ]
      rfl
    have eb : sp_X7_remembers st = jn_X7_remembers_54 st := by
      unfold sp_X7_remembers
      rw [c23, h3, if_neg (fun q => by have := (nI_eq (b := 10) (by omega) (by decide)).mp q; omega)]
    have hc := cop (V := V) (Hd := Hd) (k := 11 * 0 + n) (k0 := 11 * 0 + 10) (by omega)
    have hr := fun j => rm54 (j := j) (show n ≤ 9 by omega) h3
    rw [ea, eb]
    refine ⟨⟨n + 1, by omega, by dsimp only; exact pk_us, by rw [hr, if_pos rfl], ⟨t, ?_⟩, fun j hj => ?_⟩, fun c hc2 => hc.2 c (by omega), fun j hj => ?_, fun j hj => pk_un hj⟩
    · refine SN_cg h4 (hc.2 (11 * 0 + 10) (by omega)).1 (hc.2 (11 * 0 + 10) (by omega)).2 (fun j hj => ?_)
      rw [hr, if_neg (by omega), if_neg (by omega)]
    · by_cases e : j = n
      · subst e
        refine ⟨t, SN_cg h4 hc.1.1 hc.1.2 (fun i hi => ?_)⟩
        show jn_X7_remembers_54 st (24 + 23 * j + i) = st i
        rw [hr, if_neg (by omega), if_pos (by omega), show 24 + 23 * j + i - (24 + 23 * j) = i by omega]
      · obtain ⟨t', h6⟩ := h5 j (by omega)
        refine ⟨t', SN_cg h6 (hc.2 (11 * 0 + j) (by omega)).1 (hc.2 (11 * 0 + j) (by omega)).2 (fun i hi => ?_)⟩
        show jn_X7_remembers_54 st (24 + 23 * j + i) = st (24 + 23 * j + i)
        rw [hr, if_neg (by omega), if_neg (by omega)]
    · rw [hr, if_neg (by omega), if_neg (by omega)]
  · have e10 : n = 10 := by omega
    subst e10
    obtain ⟨d1, d2, d3⟩ := drop_ok (g := g) (V := V) (Hd := Hd) (q := 0)
    have ea : sp_X3_remember g V Hd 0 = (upd g 7 (nI 10), (sp_X3_copy (sp_X3_dropOldest g V Hd 0).2.1 (sp_X3_dropOldest g V Hd 0).2.2 (11 * 0 + 10) (11 * 0 + 9)).1, (sp_X3_copy (sp_X3_dropOldest g V Hd 0).2.1 (sp_X3_dropOldest g V Hd 0).2.2 (11 * 0 + 10) (11 * 0 + 9)).2) := by
      unfold sp_X3_remember
      rw [h2', if_neg (show ¬ nI 10 < (10 : Int32) by decide)]
      dsimp only [nm3]
      rw [d3, show upd g (7 + 0) (nI 9) (7 + 0) = nI 9 from pk_us, nI_clamp (by decide), upd_upd]
      rfl
    have hz : st 23 = 10 := h3
    have eb : ∀ j, sp_X7_remembers st j = if j = 23 then nI 10 else if 231 ≤ j ∧ j < 254 then st (j - 231) else if 24 ≤ j ∧ j < 231 then st (j + 23) else st j := by
      intro j
      unfold sp_X7_remembers
      rw [c23, hz, if_pos rfl]
      dsimp only [nm]
      have hu : ∀ j, j ≠ 23 → upd (lp_X7_remembers_15 (((231 : Int32).toInt - (24 : Int32).toInt).toNat + 1) (24 : Int32) st) 23 ((lp_X7_remembers_15 (((231 : Int32).toInt - (24 : Int32).toInt).toNat + 1) (24 : Int32) st) 23 - (1 : Int32)) j = if 24 ≤ j ∧ j < 231 then st (j + 23) else st j := fun j hj => by rw [pk_un hj, rm15]
      have h9 : upd (lp_X7_remembers_15 (((231 : Int32).toInt - (24 : Int32).toInt).toNat + 1) (24 : Int32) st) 23 ((lp_X7_remembers_15 (((231 : Int32).toInt - (24 : Int32).toInt).toNat + 1) (24 : Int32) st) 23 - (1 : Int32)) 23 = nI 9 := by
        rw [pk_us, rm15, if_neg (by omega), hz]; rfl
      rw [rm54 (n := 9) (by omega) h9 j]
      by_cases z : j = 23
      · rw [if_pos z, if_pos z]
      · rw [if_neg z, if_neg z]
        by_cases y : 231 ≤ j ∧ j < 254
        · rw [if_pos (by omega), if_pos y, hu _ (by omega), if_neg (by omega)]
        · rw [if_neg (by omega), if_neg y, hu j z]
    have hc := cop (V := (sp_X3_dropOldest g V Hd 0).2.1) (Hd := (sp_X3_dropOldest g V Hd 0).2.2) (k := 11 * 0 + 9) (k0 := 11 * 0 + 10) (by omega)
    rw [ea]
    generalize sp_X3_copy (sp_X3_dropOldest g V Hd 0).2.1 (sp_X3_dropOldest g V Hd 0).2.2 (11 * 0 + 10) (11 * 0 + 9) = A at hc ⊢
    refine ⟨⟨10, by omega, by dsimp only; exact pk_us, by rw [eb, if_pos rfl], ⟨t, ?_⟩, fun j hj => ?_⟩, fun c hc2 => cp_tr (hc.2 c (by omega)) (d2 c (by omega)), fun j hj => ?_, fun j hj => pk_un hj⟩
    · have hz := cp_tr (hc.2 (11 * 0 + 10) (by omega)) (d2 (11 * 0 + 10) (by omega))
      refine SN_cg h4 hz.1 hz.2 (fun j hj => ?_)
      rw [eb, if_neg (by omega), if_neg (by omega), if_neg (by omega)]
    · by_cases e : j = 9
      · subst e
        have hz := cp_tr hc.1 (d2 (11 * 0 + 10) (by omega))
        refine ⟨t, SN_cg h4 hz.1 hz.2 (fun i hi => ?_)⟩
        show sp_X7_remembers st (24 + 23 * 9 + i) = st i
        rw [eb, if_neg (by omega), if_pos (by omega), show 24 + 23 * 9 + i - 231 = i by omega]
      · obtain ⟨t', h6⟩ := h5 (j + 1) (by omega)
        have hz := cp_tr (hc.2 (11 * 0 + j) (by omega)) (d1 j (by omega))
        refine ⟨t', SN_cg h6 hz.1 hz.2 (fun i hi => ?_)⟩
        show sp_X7_remembers st (24 + 23 * j + i) = st (24 + 23 * (j + 1) + i)
        rw [eb, if_neg (by omega), if_neg (by omega), if_pos (by omega), show 24 + 23 * j + i + 23 = 24 + 23 * (j + 1) + i by omega]
    · rw [eb, if_neg (by omega), if_neg (by omega), if_neg (by omega)]
/-- undone -/
theorem un40 (st : Nat → Int32) {p : Nat} (hp1 : 23 ≤ p) (hp2 : p < 1000) (j : Nat) : lp_X7_undo_40 (nI p) (((23 : Int32).toInt - (0 : Int32).toInt).toNat + 1) (0 : Int32) st j = if j < 23 then st (p + j) else st j := by
  have key := lpv (lp := fun n (a : Nat → Int32) y => lp_X7_undo_40 (nI p) n y a) (N := 23) (P := fun i a => ∀ j, a j = if j < i then st (p + j) else st j) (fun n a _ => ?_) (fun n a i hi hp => ⟨upd a i (a (p + i)), fun j => ?_, ?_⟩) 23 0 (((23 : Int32).toInt - (0 : Int32).toInt).toNat + 1) st rfl (by decide) (fun j => by rw [if_neg (by omega)])
  · exact key j
  · show (if (23 : Int32) ≤ nI 23 then a else _) = a
    rw [if_pos (by decide)]
  · by_cases e : j = i
    · subst e
      rw [pk_us, hp, if_neg (by omega), if_pos (by omega)]
    · rw [pk_un e, hp]
      by_cases z : j < i
      · rw [if_pos z, if_pos (by omega)]
      · rw [if_neg z, if_neg (by omega)]
  · have c : ¬ (23 : Int32) ≤ nI i := nI_ge (b := 23) hi (by decide)
    show (if (23 : Int32) ≤ nI i then a else lp_X7_undo_40 (nI p) n (nI i + 1) (upd a (nI i).toNatClampNeg (a (nI p + nI i).toNatClampNeg))) = _
    rw [if_neg c, nI_add, nI_clamp (by omega), nI_clamp (by omega), nI_succ]
theorem undo_ok {w r : Nat} {g : Nat → Int32} {V Hd : Nat → Nat → Int32} {st : Nat → Int32} (S : SY w r V Hd 0 (g 7) st) : (sp_X6_undo g V Hd).1 = (sp_X7_undo st).1 ∧ SY w r (sp_X6_undo g V Hd).2.2.1 (sp_X6_undo g V Hd).2.2.2 0 ((sp_X6_undo g V Hd).2.1 7) (sp_X7_undo st).2 ∧ (∀ c, 11 ≤ c → cp (sp_X6_undo g V Hd).2.2 c (V, Hd) c) ∧ (∀ j, j ≠ 7 → (sp_X6_undo g V Hd).2.1 j = g j) := by
  have S0 := S
  obtain ⟨n, h1, h2, h3, ⟨t, h4⟩, h5⟩ := S
  have h2' : g (7 + 0) = nI n := h2
  by_cases c : n = 0
  · subst c
    have ea : sp_X6_undo g V Hd = ((-2 : Int32), g, V, Hd) := by
      unfold sp_X6_undo sp_X3_goBack
      rw [h2', if_neg (show ¬ (0 : Int32) < nI 0 by decide)]
      rfl
    have eb : sp_X7_undo st = ((-2 : Int32), st) := by
      unfold sp_X7_undo
      rw [c23, h3, if_pos (show nI 0 = 0 by decide)]
    rw [ea, eb]
    exact ⟨rfl, S0, fun c _ => cp_rf _ c, fun _ _ => rfl⟩
  · have hn1 : nI n - (1 : Int32) = nI (n - 1) := pk_sub (b := 1) (by omega)
    have ea : sp_X6_undo g V Hd = (nI (n - 1), upd g 7 (nI (n - 1)), (sp_X3_copy V Hd (11 * 0 + (n - 1)) (11 * 0 + 10)).1, (sp_X3_copy V Hd (11 * 0 + (n - 1)) (11 * 0 + 10)).2) := by
      unfold sp_X6_undo sp_X3_goBack
      rw [h2', if_pos (show (0 : Int32) < nI n from nI_lt (a := 0) (by omega) (by omega)), hn1, show upd g (7 + 0) (nI (n - 1)) (7 + 0) = nI (n - 1) from pk_us, nI_clamp (by omega)]
      rfl
    have e1 : (24 : Int32) + (23 : Int32) * nI (n - 1) = nI (24 + 23 * (n - 1)) := by
      rw [show (23 : Int32) = nI 23 from rfl, pk_mul]
      exact nI_add 24 (23 * (n - 1))
    have eb : ∀ j, (sp_X7_undo st).2 j = if j < 23 then st (24 + 23 * (n - 1) + j) else if j = 23 then nI (n - 1) else st j := by
      intro j
      unfold sp_X7_undo
      rw [c23, h3, if_neg (show ¬ nI n = 0 from nI_ne0 (by omega) (by omega)), hn1, pk_us, e1]
      show lp_X7_undo_40 (nI (24 + 23 * (n - 1))) _ _ _ j = _
      rw [un40 _ (by omega) (by omega)]
      by_cases z : j < 23
      · rw [if_pos z, if_pos z, pk_un (by omega)]
      · rw [if_neg z, if_neg z]
        rfl
    have eb1 : (sp_X7_undo st).1 = (sp_X7_undo st).2 23 := by
      unfold sp_X7_undo
      rw [c23, h3, if_neg (show ¬ nI n = 0 from nI_ne0 (by omega) (by omega))]
      rfl
    have hc := cop (V := V) (Hd := Hd) (k := 11 * 0 + 10) (k0 := 11 * 0 + (n - 1)) (by omega)
    rw [eb1, eb, ea]
    refine ⟨by rw [if_neg (by omega), if_pos rfl], ⟨n - 1, by omega, by dsimp only; exact pk_us, by rw [eb, if_neg (by omega), if_pos rfl], ?_, fun j hj => ?_⟩, fun c hc2 => hc.2 c (by omega), fun j hj => pk_un hj⟩
    · obtain ⟨t', h6⟩ := h5 (n - 1) (by omega)
      exact ⟨t', SN_cg h6 hc.1.1 hc.1.2 (fun j hj => by rw [eb, if_pos (by omega)])⟩
    · obtain ⟨t', h6⟩ := h5 j (by omega)
      exact ⟨t', SN_cg h6 (hc.2 (11 * 0 + j) (by omega)).1 (hc.2 (11 * 0 + j) (by omega)).2 (fun i hi => by
        show (sp_X7_undo st).2 (24 + 23 * j + i) = st (24 + 23 * j + i)
        rw [eb, if_neg (by omega), if_neg (by omega)])⟩
/-- a story kept, and taken back -/
theorem sb_lp {V Hd : Nat → Nat → Int32} {q q0 n : Nat} (h : q ≠ q0) (hn : 10 < n) (A : (Nat → Nat → Int32) × (Nat → Nat → Int32)) (hA : cp A (11 * q + 10) (V, Hd) (11 * q0 + 10) ∧ ∀ c, c ≠ 11 * q + 10 → cp A c (V, Hd) c) : (∀ k, k ≤ 10 → cp (lp_X3_becomes_13 q q0 n (0 : Int32) A.1 A.2) (11 * q + k) (V, Hd) (11 * q0 + k)) ∧ ∀ c, (c < 11 * q ∨ 11 * q + 11 ≤ c) → cp (lp_X3_becomes_13 q q0 n (0 : Int32) A.1 A.2) c (V, Hd) c := by
  have key := lpv (lp := fun n (a : (Nat → Nat → Int32) × (Nat → Nat → Int32)) y => lp_X3_becomes_13 q q0 n y a.1 a.2) (N := 10) (P := fun i a => (∀ k, k < i → cp a (11 * q + k) (V, Hd) (11 * q0 + k)) ∧ (cp a (11 * q + 10) (V, Hd) (11 * q0 + 10)) ∧ ∀ c, (c < 11 * q ∨ 11 * q + 11 ≤ c) → cp a c (V, Hd) c) (fun n a _ => ?_) (fun n a i hi hp => ⟨sp_X3_copy a.1 a.2 (11 * q0 + i) (11 * q + i), ?_, ?_⟩) 10 0 n A rfl hn ⟨fun k hk => absurd hk (Nat.not_lt_zero _), hA.1, fun c hc => hA.2 c (by omega)⟩
  · refine ⟨fun k hk => ?_, key.2.2⟩
    by_cases e : k = 10
    · subst e; exact key.2.1
    · exact key.1 k (by omega)
  · show (if (10 : Int32) ≤ nI 10 then (a.1, a.2) else _) = a
    rw [if_pos (by decide)]
  · have hz := cop (V := a.1) (Hd := a.2) (k := 11 * q + i) (k0 := 11 * q0 + i) (by omega)
    refine ⟨fun k hk => ?_, cp_tr (hz.2 _ (by omega)) hp.2.1, fun c hc => cp_tr (hz.2 c (by omega)) (hp.2.2 c hc)⟩
    by_cases e : k = i
    · subst e
      exact cp_tr hz.1 (hp.2.2 _ (by omega))
    · exact cp_tr (hz.2 _ (by omega)) (hp.1 k (by omega))
  · have c : ¬ (10 : Int32) ≤ nI i := nI_ge (b := 10) hi (by decide)
    show (if (10 : Int32) ≤ nI i then (a.1, a.2) else nm2 (sp_X3_copy a.1 a.2 (11 * q0 + (nI i).toNatClampNeg) (11 * q + (nI i).toNatClampNeg)) (fun V_10 Hd_11 => lp_X3_becomes_13 q q0 n (nI i + 1) V_10 Hd_11)) = _
    rw [if_neg c, nI_clamp (by omega), nI_succ]
    rfl
theorem sbec {g : Nat → Int32} {V Hd : Nat → Nat → Int32} {q q0 : Nat} (h : q ≠ q0) : (sp_X3_becomes g V Hd q q0).1 = upd g (7 + q) (g (7 + q0)) ∧ (∀ k, k ≤ 10 → cp (sp_X3_becomes g V Hd q q0).2 (11 * q + k) (V, Hd) (11 * q0 + k)) ∧ ∀ c, (c < 11 * q ∨ 11 * q + 11 ≤ c) → cp (sp_X3_becomes g V Hd q q0).2 c (V, Hd) c := by
  have h1 := bec (V := V) (Hd := Hd) (k := 11 * q + 10) (k0 := 11 * q0 + 10) (by omega)
  have e : sp_X3_becomes g V Hd q q0 = nm2 (sp_X4_becomes V Hd (11 * q + 10) (11 * q0 + 10)) (fun V_1 Hd_2 => nm2 (lp_X3_becomes_13 q q0 (((10 : Int32).toInt - (0 : Int32).toInt).toNat + 1) (0 : Int32) V_1 Hd_2) (fun e_7 e_8 => (upd g (7 + q) (g (7 + q0)), e_7, e_8))) := rfl
  rw [e]
  generalize sp_X4_becomes V Hd (11 * q + 10) (11 * q0 + 10) = A at h1 ⊢
  have key := sb_lp (V := V) (Hd := Hd) (q := q) (q0 := q0) (n := ((10 : Int32).toInt - (0 : Int32).toInt).toNat + 1) h (by decide) A h1
  have e2 : nm2 A (fun V_1 Hd_2 => nm2 (lp_X3_becomes_13 q q0 (((10 : Int32).toInt - (0 : Int32).toInt).toNat + 1) (0 : Int32) V_1 Hd_2) (fun e_7 e_8 => (upd g (7 + q) (g (7 + q0)), e_7, e_8))) = nm2 (lp_X3_becomes_13 q q0 (((10 : Int32).toInt - (0 : Int32).toInt).toNat + 1) (0 : Int32) A.1 A.2) (fun e_7 e_8 => (upd g (7 + q) (g (7 + q0)), e_7, e_8)) := rfl
  rw [e2]
  generalize lp_X3_becomes_13 q q0 (((10 : Int32).toInt - (0 : Int32).toInt).toNat + 1) (0 : Int32) A.1 A.2 = L at key ⊢
  exact ⟨rfl, key.1, key.2⟩
theorem kp13 (st im : Nat → Int32) {q : Nat} (hq : q < 2) (j : Nat) : lp_X7_keep_13 st (nI q) (((254 : Int32).toInt - (0 : Int32).toInt).toNat + 1) (0 : Int32) im j = if 254 * q ≤ j ∧ j < 254 * q + 254 then st (j - 254 * q) else im j := by
  have key := lpv (lp := fun n (a : Nat → Int32) y => lp_X7_keep_13 st (nI q) n y a) (N := 254) (P := fun i a => ∀ j, a j = if 254 * q ≤ j ∧ j < 254 * q + i then st (j - 254 * q) else im j) (fun n a _ => ?_) (fun n a i hi hp => ⟨upd a (254 * q + i) (st i), fun j => ?_, ?_⟩) 254 0 (((254 : Int32).toInt - (0 : Int32).toInt).toNat + 1) im rfl (by decide) (fun j => by rw [if_neg (by omega)])
  · exact key j
  · show (if (254 : Int32) ≤ nI 254 then a else _) = a
    rw [if_pos (by decide)]
  · by_cases e : j = 254 * q + i
    · subst e
      rw [pk_us, if_pos (by omega), show 254 * q + i - 254 * q = i by omega]
    · rw [pk_un e, hp]
      by_cases z : 254 * q ≤ j ∧ j < 254 * q + i
      · rw [if_pos z, if_pos (by omega)]
      · rw [if_neg z, if_neg (by omega)]
  · have c : ¬ (254 : Int32) ≤ nI i := nI_ge (b := 254) hi (by decide)
    have e1 : ((254 : Int32) * nI q) + nI i = nI (254 * q + i) := by rw [show (254 : Int32) = nI 254 from rfl, pk_mul, nI_add]
    show (if (254 : Int32) ≤ nI i then a else lp_X7_keep_13 st (nI q) n (nI i + 1) (upd a (((254 : Int32) * nI q) + nI i).toNatClampNeg (st (nI i).toNatClampNeg))) = _
    rw [if_neg c, e1, nI_clamp (by omega), nI_clamp (by omega), nI_succ]
theorem bk25 (st im : Nat → Int32) {q : Nat} (hq : q < 2) (j : Nat) : lp_X7_back_25 im (nI q) (((254 : Int32).toInt - (0 : Int32).toInt).toNat + 1) (0 : Int32) st j = if j < 254 then im (254 * q + j) else st j := by
  have key := lpv (lp := fun n (a : Nat → Int32) y => lp_X7_back_25 im (nI q) n y a) (N := 254) (P := fun i a => ∀ j, a j = if j < i then im (254 * q + j) else st j) (fun n a _ => ?_) (fun n a i hi hp => ⟨upd a i (im (254 * q + i)), fun j => ?_, ?_⟩) 254 0 (((254 : Int32).toInt - (0 : Int32).toInt).toNat + 1) st rfl (by decide) (fun j => by rw [if_neg (by omega)])
  · exact key j
  · show (if (254 : Int32) ≤ nI 254 then a else _) = a
    rw [if_pos (by decide)]
  · by_cases e : j = i
    · subst e
      rw [pk_us, if_pos (by omega)]
    · rw [pk_un e, hp]
      by_cases z : j < i
      · rw [if_pos z, if_pos (by omega)]
      · rw [if_neg z, if_neg (by omega)]
  · have c : ¬ (254 : Int32) ≤ nI i := nI_ge (b := 254) hi (by decide)
    have e1 : ((254 : Int32) * nI q) + nI i = nI (254 * q + i) := by rw [show (254 : Int32) = nI 254 from rfl, pk_mul, nI_add]
    show (if (254 : Int32) ≤ nI i then a else lp_X7_back_25 im (nI q) n (nI i + 1) (upd a (nI i).toNatClampNeg (im (((254 : Int32) * nI q) + nI i).toNatClampNeg))) = _
    rw [if_neg c, e1, nI_clamp (by omega), nI_clamp (by omega), nI_succ]
