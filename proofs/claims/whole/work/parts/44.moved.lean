section MO
variable {w r : Nat} {g tb : Nat → Int32} {V Hd : Nat → Nat → Int32} {tr : Int64} {mg st im ke se tx : Nat → Int32} {mt : Int64}
/-- all that was seen is so -/
def alls (w r t : Nat) (se : Nat → Int32) (n : Nat) (c : Int32) : Prop := ∀ k i, k < n → se (3 * k) = nI i → i < 20 → (stl w r t c (se (3 * k + 1)) i ↔ se (3 * k + 2) = 1)
theorem so_lp (h : RE w r g tb V Hd tr mg st im ke se tx mt) {t n : Nat} (ht : st 22 = nI t) (htr : t ≤ r) (n6 : n ≤ 6) (n3 : mg 2 = nI n) (n4 : ∀ k, k < n → ∃ i b s, gr w r i ∧ b ≤ 1 ∧ s ≤ 1 ∧ se (3 * k) = nI i ∧ se (3 * k + 1) = nI b ∧ se (3 * k + 2) = nI s) (c : Int32) {N : Nat} (hN : n < N) : (lp_X7_isSo_4 mg st se c N (1 : Int32) (nI 0) = 0 ∨ lp_X7_isSo_4 mg st se c N (1 : Int32) (nI 0) = 1) ∧ (lp_X7_isSo_4 mg st se c N (1 : Int32) (nI 0) = 1 ↔ alls w r t se n c) := by
  have hw := h.1.1
  have w5 := hw.w5
  have r4 := hw.r4
  have key := lpv (lp := fun N a y => lp_X7_isSo_4 mg st se c N a y) (N := n) (P := fun j a => (a = 0 ∨ a = 1) ∧ (a = 1 ↔ alls w r t se j c)) (fun m a _ => ?_) (fun m a j hj hp => ?_) n 0 N 1 (by omega) hN ⟨Or.inr rfl, fun _ k i hk => absurd hk (Nat.not_lt_zero _), fun _ => rfl⟩
  · exact key
  · show lp_X7_isSo_4 mg st se c (m + 1) a (nI n) = a
    rw [← lp_X7_isSo_4_s, n3, if_pos ((leI).mpr (Nat.le_refl _))]
  · obtain ⟨i, b, s, g1, b1, s1, e0, e1, e2⟩ := n4 j hj
    have i20 := gr_20 hw g1
    have c1 : ¬ nI n ≤ nI j := nI_ge hj (by omega)
    have x0 : (3 : Int32) * nI j = nI (3 * j) := by rw [show (3 : Int32) = nI 3 from rfl, pk_mul]
    have x1 : nI (3 * j) + (1 : Int32) = nI (3 * j + 1) := nI_add (3 * j) 1
    have x2 : nI (3 * j) + (2 : Int32) = nI (3 * j + 2) := nI_add (3 * j) 2
    have hs : ∀ a' : Int32, (a' = 0 ∨ a' = 1) → (a' = 1 ↔ a = 1 ∧ (stl w r t c (nI b) i ↔ nI s = (1 : Int32))) → (a' = 0 ∨ a' = 1) ∧ (a' = 1 ↔ alls w r t se (j + 1) c) := by
      intro a' h1 h2
      refine ⟨h1, h2.trans ?_⟩
      rw [hp.2]
      constructor
      · rintro ⟨z1, z2⟩ k i' hk hi hi2
        by_cases ek : k = j
        · subst ek
          rw [e0] at hi
          have := (nI_eq (by omega) (by omega)).mp hi
          subst this
          rw [e1, e2]; exact z2
        · exact z1 k i' (by omega) hi hi2
      · intro z
        refine ⟨fun k i' hk hi hi2 => z k i' (by omega) hi hi2, ?_⟩
        have := z j i (by omega) e0 i20
        rw [e1, e2] at this
        exact this
    show ∃ a', ((a' = 0 ∨ a' = 1) ∧ (a' = 1 ↔ alls w r t se (j + 1) c)) ∧ lp_X7_isSo_4 mg st se c (m + 1) a (nI j) = lp_X7_isSo_4 mg st se c m a' (nI (j + 1))
    rw [← lp_X7_isSo_4_s, n3, if_neg c1, x0, x1, x2, nI_clamp (by omega), nI_clamp (by omega), nI_clamp (by omega), e0, e1, e2, rem5 (by omega), div5 (by omega), ← nI_succ]
    dsimp only [nm]
    rcases hp.1 with za | za
    · rw [if_pos za]
      exact ⟨0, hs 0 (Or.inl rfl) ⟨fun q => absurd q (by decide), fun q => by rw [za] at q; exact absurd q.1 (by decide)⟩, rfl⟩
    · rw [if_neg (by rw [za]; decide)]
      obtain ⟨s1', s2'⟩ := is_of hw h.1.2.1 h.1.2.2 ht htr (c := c) (b := nI b) (i := i % 5) (j := i / 5) g1.1 g1.2
      rw [show 5 * (i / 5) + i % 5 = i by omega] at s2'
      unfold jn_X7_isSo_68
      have hz : ∀ v : Int32, (v = 1 ↔ nI s = (1 : Int32)) → (v = 0 ∨ v = 1) → ∃ a', ((a' = 0 ∨ a' = 1) ∧ (a' = 1 ↔ alls w r t se (j + 1) c)) ∧ (if sp_X7_isStill mg st c (nI (i % 5)) (nI (i / 5)) (nI b) = v then lp_X7_isSo_4 mg st se c m 1 (nI j + 1) else lp_X7_isSo_4 mg st se c m 0 (nI j + 1)) = lp_X7_isSo_4 mg st se c m a' (nI (j + 1)) := by
        intro v hv hv2
        rw [← nI_succ]
        by_cases e : sp_X7_isStill mg st c (nI (i % 5)) (nI (i / 5)) (nI b) = v
        · rw [if_pos e]
          refine ⟨1, hs 1 (Or.inr rfl) ⟨fun _ => ⟨za, ?_⟩, fun _ => rfl⟩, rfl⟩
          rw [← s2', e]; exact hv
        · rw [if_neg e]
          refine ⟨0, hs 0 (Or.inl rfl) ⟨fun q => absurd q (by decide), fun q => ?_⟩, rfl⟩
          have q2 := q.2
          rw [← s2', ← hv] at q2
          exfalso
          rcases s1' with y | y <;> rcases hv2 with y2 | y2
          · exact e (y.trans y2.symm)
          · rw [y, y2] at q2; exact absurd (q2.mpr rfl) (by decide)
          · rw [y, y2] at q2; exact absurd (q2.mp rfl) (by decide)
          · exact e (y.trans y2.symm)
      by_cases zs : nI s = (1 : Int32)
      · rw [if_pos zs]; exact hz 1 ⟨fun _ => zs, fun _ => rfl⟩ (Or.inr rfl)
      · rw [if_neg zs]; exact hz 0 ⟨fun q => absurd q (by decide), fun q => absurd q zs⟩ (Or.inl rfl)
theorem nand0 {x y : Int32} : x &&& (y ^^^ (-1 : Int32)) = 0 ↔ ∀ i, i < 32 → bt x i = true → bt y i = true := by
  rw [bt_eq0]
  constructor
  · intro h i hi hx
    have := h i hi
    rw [bt_and, bt_not _ hi, hx] at this
    cases hb : bt y i
    · rw [hb] at this; cases this
    · rfl
  · intro h i hi
    rw [bt_and, bt_not _ hi]
    cases hb : bt x i
    · rfl
    · rw [h i hi hb]; rfl
theorem andz0 {x y : Int32} : x &&& y = 0 ↔ ∀ i, i < 32 → bt x i = true → ¬ bt y i = true := by
  rw [bt_eq0]
  constructor
  · intro h i hi hx hy
    have := h i hi
    rw [bt_and, hx, hy] at this
    cases this
  · intro h i hi
    rw [bt_and]
    cases hb : bt x i
    · rfl
    · have := h i hi hb
      cases hc : bt y i
      · rfl
      · exact absurd hc this
theorem agr (h : RE w r g tb V Hd tr mg st im ke se tx mt) {t n : Nat} (S : SN w r t (V (11 * 0 + 10)) (Hd (11 * 0 + 10)) st) (n4 : ∀ k, k < n → ∃ i b s, gr w r i ∧ b ≤ 1 ∧ s ≤ 1 ∧ se (3 * k) = nI i ∧ se (3 * k + 1) = nI b ∧ se (3 * k + 2) = nI s)
    (s14 : ∀ i, bt (g 14) i = true ↔ i < 20 ∧ ∃ k, k < n ∧ se (3 * k) = nI i ∧ se (3 * k + 1) = 0 ∧ se (3 * k + 2) = 1) (s15 : ∀ i, bt (g 15) i = true ↔ i < 20 ∧ ∃ k, k < n ∧ se (3 * k) = nI i ∧ se (3 * k + 1) = 1 ∧ se (3 * k + 2) = 1)
    (s16 : ∀ i, bt (g 16) i = true ↔ i < 20 ∧ ∃ k, k < n ∧ se (3 * k) = nI i ∧ se (3 * k + 1) = 0 ∧ se (3 * k + 2) = 0) (s17 : ∀ i, bt (g 17) i = true ↔ i < 20 ∧ ∃ k, k < n ∧ se (3 * k) = nI i ∧ se (3 * k + 1) = 1 ∧ se (3 * k + 2) = 0) {c : Int32} (hc : cok w r c) :
    (sp_X2_agrees g (sp_X4_stillWith V (11 * 0 + 10) c 0) (sp_X4_stillWith V (11 * 0 + 10) c 1) = 0 ∨ sp_X2_agrees g (sp_X4_stillWith V (11 * 0 + 10) c 0) (sp_X4_stillWith V (11 * 0 + 10) c 1) = 1) ∧ (sp_X2_agrees g (sp_X4_stillWith V (11 * 0 + 10) c 0) (sp_X4_stillWith V (11 * 0 + 10) c 1) = 1 ↔ alls w r t se n c) := by
  have hb : ∀ (b : Int32) (i : Nat), bt (sp_X4_stillWith V (11 * 0 + 10) c b) i = true ↔ stl w r t c b i := fun b => sw_bt h.1.1 S hc (bl := b)
  have ha : alls w r t se n c ↔ (∀ i, i < 32 → bt (g 14) i = true → bt (sp_X4_stillWith V (11 * 0 + 10) c 0) i = true) ∧ (∀ i, i < 32 → bt (g 16) i = true → ¬ bt (sp_X4_stillWith V (11 * 0 + 10) c 0) i = true) ∧ (∀ i, i < 32 → bt (g 15) i = true → bt (sp_X4_stillWith V (11 * 0 + 10) c 1) i = true) ∧ (∀ i, i < 32 → bt (g 17) i = true → ¬ bt (sp_X4_stillWith V (11 * 0 + 10) c 1) i = true) := by
    constructor
    · intro z
      refine ⟨fun i hi hx => ?_, fun i hi hx => ?_, fun i hi hx => ?_, fun i hi hx => ?_⟩
      · obtain ⟨i20, k, hk, e0, e1, e2⟩ := (s14 i).mp hx
        have := z k i hk e0 i20
        rw [e1, e2] at this
        rw [hb]; exact this.mpr rfl
      · obtain ⟨i20, k, hk, e0, e1, e2⟩ := (s16 i).mp hx
        have := z k i hk e0 i20
        rw [e1, e2] at this
        rw [hb]; exact fun q => absurd (this.mp q) (by decide)
      · obtain ⟨i20, k, hk, e0, e1, e2⟩ := (s15 i).mp hx
        have := z k i hk e0 i20
        rw [e1, e2] at this
        rw [hb]; exact this.mpr rfl
      · obtain ⟨i20, k, hk, e0, e1, e2⟩ := (s17 i).mp hx
        have := z k i hk e0 i20
        rw [e1, e2] at this
        rw [hb]; exact fun q => absurd (this.mp q) (by decide)
    · rintro ⟨z14, z16, z15, z17⟩ k i hk e0 i20
      obtain ⟨i', b, s, g1, b1, s1, f0, f1, f2⟩ := n4 k hk
      rw [f1, f2]
      rcases (show b = 0 ∨ b = 1 by omega) with rfl | rfl <;> rcases (show s = 0 ∨ s = 1 by omega) with rfl | rfl
      · have := z16 i (by omega) ((s16 i).mpr ⟨i20, k, hk, e0, f1, f2⟩)
        rw [hb] at this
        exact ⟨fun q => absurd q this, fun q => absurd q (by decide)⟩
      · have := z14 i (by omega) ((s14 i).mpr ⟨i20, k, hk, e0, f1, f2⟩)
        rw [hb] at this
        exact ⟨fun _ => rfl, fun _ => this⟩
      · have := z17 i (by omega) ((s17 i).mpr ⟨i20, k, hk, e0, f1, f2⟩)
        rw [hb] at this
        exact ⟨fun q => absurd q this, fun q => absurd q (by decide)⟩
      · have := z15 i (by omega) ((s15 i).mpr ⟨i20, k, hk, e0, f1, f2⟩)
        rw [hb] at this
        exact ⟨fun _ => rfl, fun _ => this⟩
  rw [ha, ← nand0, ← andz0, ← nand0, ← andz0]
  unfold sp_X2_agrees
  by_cases a1 : g 14 &&& (sp_X4_stillWith V (11 * 0 + 10) c 0 ^^^ (-1 : Int32)) = 0
  · rw [if_pos a1]
    by_cases a2 : g 16 &&& sp_X4_stillWith V (11 * 0 + 10) c 0 = 0
    · rw [if_pos a2]
      by_cases a3 : g 15 &&& (sp_X4_stillWith V (11 * 0 + 10) c 1 ^^^ (-1 : Int32)) = 0
      · rw [if_pos a3]
        by_cases a4 : g 17 &&& sp_X4_stillWith V (11 * 0 + 10) c 1 = 0
        · rw [if_pos a4]; exact ⟨Or.inr rfl, fun _ => ⟨a1, a2, a3, a4⟩, fun _ => rfl⟩
        · rw [if_neg a4]; exact ⟨Or.inl rfl, fun q => absurd q (by decide), fun q => absurd q.2.2.2 a4⟩
      · rw [if_neg a3]; exact ⟨Or.inl rfl, fun q => absurd q (by decide), fun q => absurd q.2.2.1 a3⟩
    · rw [if_neg a2]; exact ⟨Or.inl rfl, fun q => absurd q (by decide), fun q => absurd q.2.1 a2⟩
  · rw [if_neg a1]; exact ⟨Or.inl rfl, fun q => absurd q (by decide), fun q => absurd q.1 a1⟩
/-- from, to: the one and the other -/
theorem may_eq (h : RE w r g tb V Hd tr mg st im ke se tx mt) {t : Nat} (S : SN w r t (V (11 * 0 + 10)) (Hd (11 * 0 + 10)) st) {a b : Nat} (ha : a < 20) (hb : b < 20) (h1 : bt (st 20) a = true) (hd : dr w r t b) (h2 : ¬ bt (st 20) b = true) : sp_X6_mayHaveMoved g V (nI a) (nI b) = sp_X7_isSo mg st se (st 20 ^^^ (((1 : Int32) <<< (nI a &&& 31)) ||| ((1 : Int32) <<< (nI b &&& 31)))) := by
  obtain ⟨n, n6, n2, n3, n4, s14, s15, s16, s17⟩ := h.2.2.1
  have hab : a ≠ b := fun e => h2 (e ▸ h1)
  have ec : (st 20 ^^^ ((1 : Int32) <<< (nI a &&& 31))) ^^^ ((1 : Int32) <<< (nI b &&& 31)) = st 20 ^^^ (((1 : Int32) <<< (nI a &&& 31)) ||| ((1 : Int32) <<< (nI b &&& 31))) := by
    refine bx fun i hi => ?_
    rw [bt_xor, bt_xor, bt_xor, bt_or, bt_bit (by omega) hi, bt_bit (by omega) hi]
    by_cases e1 : i = a
    · by_cases e2 : i = b
      · exact absurd (e1.symm.trans e2) hab
      · simp [e1, e2, hab]
    · by_cases e2 : i = b
      · simp [e2, Ne.symm hab]
      · simp [e1, e2]
  have hc : cok w r (st 20 ^^^ (((1 : Int32) <<< (nI a &&& 31)) ||| ((1 : Int32) <<< (nI b &&& 31)))) := by
    intro i hi
    by_cases c32 : i < 32
    · rw [bt_xor, bt_or, bt_bit (by omega) c32, bt_bit (by omega) c32] at hi
      by_cases e2 : i = b
      · subst e2; exact ⟨hb, dr_gr hd⟩
      · by_cases e1 : i = a
        · subst e1; exact cloth_gr S i h1
        · simp [e1, e2] at hi
          exact cloth_gr S i hi
    · rw [bt_ge (by omega)] at hi; cases hi
  have e6 : sp_X6_mayHaveMoved g V (nI a) (nI b) = sp_X2_agrees g (sp_X4_stillWith V (11 * 0 + 10) (st 20 ^^^ (((1 : Int32) <<< (nI a &&& 31)) ||| ((1 : Int32) <<< (nI b &&& 31)))) 0) (sp_X4_stillWith V (11 * 0 + 10) (st 20 ^^^ (((1 : Int32) <<< (nI a &&& 31)) ||| ((1 : Int32) <<< (nI b &&& 31)))) 1) := by
    unfold sp_X6_mayHaveMoved
    rw [S.v2, if_neg (show ¬ (st 20 &&& ((1 : Int32) <<< (nI a &&& 31)) = 0) from fun z => (cl0 (by omega)).mp z h1)]
    dsimp only [nm]
    rw [if_neg (fun z => (bare0 h.1.1 S hb).mp z ⟨hd, h2⟩), ec]
  rw [e6]
  obtain ⟨p1, p2⟩ := agr h S n4 s14 s15 s16 s17 hc
  have e7 : sp_X7_isSo mg st se (st 20 ^^^ (((1 : Int32) <<< (nI a &&& 31)) ||| ((1 : Int32) <<< (nI b &&& 31)))) = lp_X7_isSo_4 mg st se (st 20 ^^^ (((1 : Int32) <<< (nI a &&& 31)) ||| ((1 : Int32) <<< (nI b &&& 31)))) (((mg 2).toInt - (0 : Int32).toInt).toNat + 1) (1 : Int32) (0 : Int32) := by unfold sp_X7_isSo; exact nm_id _
  have hN : n < ((mg 2).toInt - (0 : Int32).toInt).toNat + 1 := by
    rw [n3, nI_toI (by omega)]
    have : (0 : Int32).toInt = 0 := rfl
    omega
  rw [e7]
  generalize ((mg 2).toInt - (0 : Int32).toInt).toNat + 1 = N at hN ⊢
  obtain ⟨q1, q2⟩ := so_lp h S.b22 S.tr n6 n3 n4 (st 20 ^^^ (((1 : Int32) <<< (nI a &&& 31)) ||| ((1 : Int32) <<< (nI b &&& 31)))) hN
  rw [nI_0] at q1 q2
  rcases p1 with y | y <;> rcases q1 with y2 | y2
  · rw [y, y2]
  · exact absurd (p2.mpr (q2.mp y2)) (by rw [y]; decide)
  · exact absurd (q2.mpr (p2.mp y)) (by rw [y2]; decide)
  · rw [y, y2]
theorem may_no (h : RE w r g tb V Hd tr mg st im ke se tx mt) {t : Nat} (S : SN w r t (V (11 * 0 + 10)) (Hd (11 * 0 + 10)) st) {a b : Nat} (ha : a < 20) (hb : b < 20) (hn : ¬ (bt (st 20) a = true ∧ dr w r t b ∧ ¬ bt (st 20) b = true)) : sp_X6_mayHaveMoved g V (nI a) (nI b) = 0 := by
  unfold sp_X6_mayHaveMoved
  rw [S.v2]
  by_cases h1 : bt (st 20) a = true
  · rw [if_neg (show ¬ (st 20 &&& ((1 : Int32) <<< (nI a &&& 31)) = 0) from fun z => (cl0 (by omega)).mp z h1)]
    dsimp only [nm]
    rw [if_pos ((bare0 h.1.1 S hb).mpr (fun z => hn ⟨h1, z⟩))]
  · rw [if_pos ((cl0 (by omega)).mpr h1)]
theorem mv_in (h : RE w r g tb V Hd tr mg st im ke se tx mt) {t : Nat} (S : SN w r t (V (11 * 0 + 10)) (Hd (11 * 0 + 10)) st) {a : Nat} (ha : a < 20) : ∀ (n j : Nat) (y z : Int32), j ≤ 20 → lp_X6_moved_28 g V (nI a) n y z (nI j) = lp_X7_moved_29 mg st se (nI a) n y z (nI j) := by
  have r4 := h.1.1.r4
  have htr := S.tr
  intro n
  induction n with
  | zero => intro j y z _; rfl
  | succ n ih =>
    intro j y z hj
    rw [← lp_X6_moved_28_s, ← lp_X7_moved_29_s]
    by_cases c : j = 20
    · subst c
      rw [if_pos (show (20 : Int32) ≤ nI 20 by decide), if_pos (show (20 : Int32) ≤ nI 20 by decide)]
    · have c1 : ¬ (20 : Int32) ≤ nI j := nI_ge (b := 20) (by omega) (by decide)
      rw [if_neg c1, if_neg c1, c20, has_eq (by omega), has_eq (by omega), gic h.1.1 h.1.2.1 h.1.2.2 (by omega), idry S.b22 (by omega) (by omega)]
      unfold jn_X7_moved_95
      dsimp only [nm]
      rw [c20]
      rw [if_pos (show (0 : Int32) = 0 from rfl), if_neg (show ¬ (1 : Int32) = 0 by decide), ← nI_succ]
      have no : ¬ (bt (st 20) a = true ∧ dr w r t j ∧ ¬ bt (st 20) j = true) → (if sp_X6_mayHaveMoved g V (nI a) (nI j) = 0 then lp_X6_moved_28 g V (nI a) n y z (nI (j + 1)) else if y = 0 then lp_X6_moved_28 g V (nI a) n (y + 1) (100 * nI a + nI j) (nI (j + 1)) else lp_X6_moved_28 g V (nI a) n (y + 1) z (nI (j + 1))) = lp_X7_moved_29 mg st se (nI a) n y z (nI (j + 1)) := fun q => by
        rw [may_no h S ha (by omega) q, if_pos rfl]
        exact ih (j + 1) y z (by omega)
      by_cases q1 : bt (st 20) a = true
      · rw [if_pos q1, if_neg (show ¬ (1 : Int32) = 0 by decide)]
        by_cases q2 : gr w r j
        · rw [if_pos q2, if_neg (show ¬ (1 : Int32) = 0 by decide)]
          by_cases q3 : t ≤ j / 5
          · rw [if_pos q3, if_neg (show ¬ (1 : Int32) = 0 by decide)]
            by_cases q4 : bt (st 20) j = true
            · rw [if_pos q4, if_neg (show ¬ (1 : Int32) = 0 by decide)]
              exact no (fun q => q.2.2 q4)
            · rw [if_neg q4, if_pos (show (0 : Int32) = 0 from rfl), may_eq h S ha (by omega) q1 ⟨q2.1, q3, q2.2⟩ q4]
              rw [ih (j + 1) y z (by omega), ih (j + 1) (y + 1) z (by omega), ih (j + 1) (y + 1) (100 * nI a + nI j) (by omega)]
          · rw [if_neg q3, if_pos (show (0 : Int32) = 0 from rfl)]
            exact no (fun q => q3 q.2.1.2.1)
        · rw [if_neg q2, if_pos (show (0 : Int32) = 0 from rfl)]
          exact no (fun q => q2 (dr_gr q.2.1))
      · rw [if_neg q1, if_pos (show (0 : Int32) = 0 from rfl)]
        exact no (fun q => q1 q.1)
theorem mv_out (h : RE w r g tb V Hd tr mg st im ke se tx mt) {t : Nat} (S : SN w r t (V (11 * 0 + 10)) (Hd (11 * 0 + 10)) st) : ∀ (n j : Nat) (y z : Int32), j ≤ 20 → lp_X6_moved_18 g V n y z (nI j) = lp_X7_moved_19 mg st se n y z (nI j) := by
  intro n
  induction n with
  | zero => intro j y z _; rfl
  | succ n ih =>
    intro j y z hj
    rw [← lp_X6_moved_18_s, ← lp_X7_moved_19_s]
    by_cases c : j = 20
    · subst c
      rw [if_pos (show (20 : Int32) ≤ nI 20 by decide), if_pos (show (20 : Int32) ≤ nI 20 by decide)]
    · have c1 : ¬ (20 : Int32) ≤ nI j := nI_ge (b := 20) (by omega) (by decide)
      have e := mv_in h S (a := j) (by omega) (((20 : Int32).toInt - (0 : Int32).toInt).toNat + 1) 0 y z (by omega)
      rw [nI_0] at e
      rw [if_neg c1, if_neg c1, e, ← nI_succ]
      generalize lp_X7_moved_29 mg st se (nI j) (((20 : Int32).toInt - (0 : Int32).toInt).toNat + 1) y z 0 = L
      dsimp only [nm2]
      exact ih (j + 1) _ _ (by omega)
theorem moved_ok (h : RE w r g tb V Hd tr mg st im ke se tx mt) (x1 : Int32) : sp_X6_moved g V x1 = sp_X7_moved mg st se x1 := by
  obtain ⟨t, S⟩ := h.now
  have e := mv_out h S (((20 : Int32).toInt - (0 : Int32).toInt).toNat + 1) 0 0 (-9) (by omega)
  rw [nI_0] at e
  unfold sp_X6_moved sp_X7_moved
  rw [e]
  rfl
end MO
