section IT
variable {N : Nat} {g tb T mg sh : Nat → Int32} {V Hd : Nat → Nat → Int32} {p w r : Nat}
theorem nm2_b {α β γ : Type} (v : α × β) (k : α → β → γ) : nm2 v k = k v.1 v.2 := nm_c (v, k) (fun q => nm2 q.1 q.2) rfl
theorem RB.of {g' : Nat → Int32} (h : RB N g tb T) (hg : ∀ j, 4 ≤ j → g' j = g j) : RB N g' tb T := ⟨(hg 6 (by decide)).trans h.1, h.2⟩
/-- a cell's two numbers -/
theorem fb {used x1 : Int32} (hB : RB N g tb T) (h0 : g 0 = nI p) (hp : p ≤ N) (hA : LA T N p mg) (h8 : mg 8 = 0) (hw : WR w r) (v0 : V 33 0 = nI w) (v1 : V 33 1 = nI r) (m10 : mg 10 = nI w) (m11 : mg 11 = nI r)
    (hu : ∀ k, k < 20 → (bt used k = true ↔ ((x1 = 0 ∧ ¬ sh k ≤ 0) ∨ (¬ x1 = 0 ∧ ¬ sp_X7_has (mg 12) (nI k) = 0)))) :
    (∃ g' k mg', sp_X1_readFreeBit g tb V used = (0, g') ∧ sp_X7_takesCell mg T sh x1 = (k, mg') ∧ ¬ mg' 8 = 0 ∧ g' 1 = mg' 5 ∧ (∃ S, S ≤ N ∧ g' 1 = nI S) ∧ (∀ j, 4 ≤ j → g' j = g j) ∧ (∀ j, j ≠ 4 → j ≠ 5 → j ≠ 6 → j ≠ 7 → j ≠ 8 → mg' j = mg j)) ∨
    (∃ i j g' mg' p', i < w ∧ j < r ∧ ¬ bt used (5 * j + i) = true ∧ sp_X1_readFreeBit g tb V used = ((1 : Int32) <<< (nI (5 * j + i) &&& 31), g') ∧ sp_X7_takesCell mg T sh x1 = (nI (5 * j + i), mg') ∧ g' 0 = nI p' ∧ p ≤ p' ∧ p' ≤ N ∧ LA T N p' mg' ∧ mg' 8 = 0 ∧ (∀ j, 4 ≤ j → g' j = g j) ∧ (∀ j, j ≠ 4 → j ≠ 5 → j ≠ 6 → j ≠ 7 → j ≠ 8 → mg' j = mg j)) := by
  have w1 := hw.w1
  have w5 := hw.w5
  have r1 := hw.r1
  have r4 := hw.r4
  have hN := hB.2.1
  have hT := hB.t0
  have hE := tkE_le hT hp
  have hEg : p ≤ tkE T N p := Nat.le_trans (tkS_ge T N p) (tkE_ge T N p)
  have ew : V 33 0 - (1 : Int32) = nI (w - 1) := by rw [v0]; exact pk_sub (b := 1) w1
  have er : V 33 1 - (1 : Int32) = nI (r - 1) := by rw [v1]; exact pk_sub (b := 1) r1
  have ew2 : mg 10 - (1 : Int32) = nI (w - 1) := by rw [m10]; exact pk_sub (b := 1) w1
  have er2 : mg 11 - (1 : Int32) = nI (r - 1) := by rw [m11]; exact pk_sub (b := 1) r1
  have t1 := rt hB h0 hp
  have hc : sp_X7_takesCell mg T sh x1 = tcR T sh N x1 (tkE T N p) mg := tc_eq x1 hN hT hA.1 hA.2.1 hE
  have e6 : sp_X1_readFreeBit g tb V used = nm (sp_X1_readToken g tb) (fun g_1 => nm (sp_X1_isNumber g_1 (0 : Int32) (nI (w - 1))) (fun r_3 => if r_3 = 0 then ((0 : Int32), g_1) else (nm (sp_X1_readToken g_1 tb) (fun g_5 => nm (sp_X1_isNumber g_5 (0 : Int32) (nI (r - 1))) (fun r_7 => if r_7 = 0 then ((0 : Int32), g_5) else (nm (sp_X6_bitOf (g_1 3) (g_5 3)) (fun r_9 => (r_9 &&& (used ^^^ (-1 : Int32)), g_5)))))))) := by
    rw [← ew, ← er]; rfl
  generalize sp_X1_readToken g tb = g1 at t1 e6
  rw [nm_b, nm_b] at e6
  have c1 : (mg 8 = 0 ∧ mg 6 = 2 ∧ ¬ sp_X7_in (mg 7) 0 (mg 10 - 1) = 0) ↔ okn T N p (nI 0) (nI (w - 1)) := by
    rw [ew2, hA.2.2.2.1, hA.2.2.2.2]
    exact ⟨fun q => ⟨q.2.1, q.2.2⟩, fun q => ⟨h8, q.1, q.2⟩⟩
  unfold tcR at hc
  by_cases k1 : okn T N p (nI 0) (nI (w - 1))
  · obtain ⟨n1, n2, n3⟩ := num_y t1 (by omega) k1
    obtain ⟨i, _, hi, ei⟩ := okn_nat (by omega) (by omega) k1
    have n1 : ¬ sp_X1_isNumber g1 0 (nI (w - 1)) = 0 := n1
    rw [if_neg n1] at e6
    rw [if_pos (c1.mpr k1)] at hc
    have hB1 : RB N g1 tb T := hB.of t1.2.2.2
    have t2 := rt hB1 n3 hE
    generalize sp_X1_readToken g1 tb = g2 at t2 e6
    rw [nm_b, nm_b, nm_b] at e6
    have eu : upd mg 8 0 = mg := upd_id h8
    have c2 : (tkK T N (tkE T N p) = 2 ∧ ¬ sp_X7_in (tkV T N (tkE T N p)) 0 (mg 11 - 1) = 0) ↔ okn T N (tkE T N p) (nI 0) (nI (r - 1)) := by
      rw [er2]; exact Iff.rfl
    rw [eu] at hc
    have hgg : ∀ j, 4 ≤ j → g2 j = g j := fun j hj => (t2.2.2.2 j hj).trans (t1.2.2.2 j hj)
    have hmm : ∀ j, j ≠ 4 → j ≠ 5 → j ≠ 6 → j ≠ 7 → j ≠ 8 → nxt T N (tkE T N p) mg j = mg j := fun j a b c d _ => nxt_o ⟨a, b, c, d⟩
    by_cases k2 : okn T N (tkE T N p) (nI 0) (nI (r - 1))
    · obtain ⟨y1, y2, y3⟩ := num_y t2 (by omega) k2
      obtain ⟨j, _, hj, ej⟩ := okn_nat (by omega) (by omega) k2
      have y1 : ¬ sp_X1_isNumber g2 0 (nI (r - 1)) = 0 := y1
      have k20 : 5 * j + i < 20 := by omega
      have ek : (5 : Int32) * tkV T N (tkE T N p) + mg 7 = nI (5 * j + i) := by rw [hA.2.2.2.2, ei, ej, k_eq]
      rw [if_neg y1, n2, y2, ei, ej, bit_eq, bit_free k20] at e6
      rw [if_pos (c2.mpr k2), ek, nI_clamp (by omega)] at hc
      by_cases u : bt used (5 * j + i) = true
      · rw [if_pos u] at e6
        rw [if_pos ((hu _ k20).mp u)] at hc
        refine Or.inl ⟨g2, _, _, e6, hc, ?_, ?_, ⟨_, tkS_le T hE, t2.1⟩, hgg, fun j a b c d e => ?_⟩
        · rw [pk_us]; decide
        · rw [upd_o (by decide)]; exact t2.1
        · rw [upd_o e]; exact hmm j a b c d e
      · rw [if_neg u] at e6
        rw [if_neg (fun q => u ((hu _ k20).mpr q))] at hc
        refine Or.inr ⟨i, j, g2, _, tkE T N (tkE T N p), by omega, by omega, u, e6, hc, y3, ?_, tkE_le hT hE, LA_nxt hA.1, h8, hgg, fun j a b c d e => ?_⟩
        · exact Nat.le_trans hEg (Nat.le_trans (tkS_ge T N _) (tkE_ge T N _))
        · exact (nxt_o ⟨a, b, c, d⟩).trans (hmm j a b c d e)
    · have y1 : sp_X1_isNumber g2 0 (nI (r - 1)) = 0 := num_n (l := 0) (m := r - 1) t2 (by omega) (by omega) k2
      rw [if_pos y1] at e6
      rw [if_neg (fun q => k2 (c2.mp q))] at hc
      refine Or.inl ⟨g2, _, _, e6, hc, ?_, ?_, ⟨_, tkS_le T hE, t2.1⟩, hgg, fun j a b c d e => ?_⟩
      · rw [pk_us]; decide
      · rw [upd_o (by decide)]; exact t2.1
      · rw [upd_o e]; exact hmm j a b c d e
  · have n1 : sp_X1_isNumber g1 0 (nI (w - 1)) = 0 := num_n (l := 0) (m := w - 1) t1 (by omega) (by omega) k1
    rw [if_pos n1] at e6
    rw [if_neg (fun q => k1 (c1.mp q))] at hc
    refine Or.inl ⟨g1, _, _, e6, hc, ?_, ?_, ⟨_, tkS_le T hp, t1.1⟩, t1.2.2.2, fun j a b c d e => upd_o e⟩
    · rw [pk_us]; decide
    · rw [upd_o (by decide), hA.2.2.1]; exact t1.1
/-! the draft -/
def bk (sh : Nat → Int32) (c wd : Int32) : Nat → Int32 := fun i => if i < 20 then sh i else if i = 20 then c else if i = 21 then wd else 0
def DI (w r : Nat) (wt : Int32) (V Hd : Nat → Nat → Int32) (mg sh : Nat → Int32) : Prop := WR w r ∧ mg 10 = nI w ∧ mg 11 = nI r ∧ SN w r 0 (V 33) (Hd 33) (bk sh (mg 12) (V 33 3)) ∧ ((wt = 0 ∧ mg 13 = -1 ∧ V 33 3 = 0) ∨ (wt = 1 ∧ mg 13 = V 33 3 ∧ (V 33 3 = 0 ∨ V 33 3 = 1)))
theorem DI_cg {wt : Int32} {mg' : Nat → Int32} (h : DI w r wt V Hd mg sh) (hm : ∀ j, 10 ≤ j → mg' j = mg j) : DI w r wt V Hd mg' sh := by
  obtain ⟨a, b, c, d, e⟩ := h
  refine ⟨a, (hm 10 (by decide)).trans b, (hm 11 (by decide)).trans c, ?_, ?_⟩
  · rw [hm 12 (by decide)]; exact d
  · rw [hm 13 (by decide)]; exact e
/-- an item read by both -/
def RES (N : Nat) (T tb : Nat → Int32) (p : Nat) (g : Nat → Int32) (V Hd : Nat → Nat → Int32) (mg : Nat → Int32) (A : Int32 × (Nat → Int32) × (Nat → Nat → Int32) × (Nat → Nat → Int32)) (B : (Nat → Int32) × (Nat → Int32)) : Prop :=
  ((A.1 = 0 ∧ A.2.1 1 = B.1 5 ∧ (∃ S, S ≤ N ∧ A.2.1 1 = nI S) ∧ ¬ B.1 8 = 0) ∨ (A.1 = 1 ∧ ∃ w' r' p', tkE T N p < p' ∧ p' ≤ N ∧ A.2.1 0 = nI p' ∧ LA T N p' B.1 ∧ B.1 8 = 0 ∧ DI w' r' (A.2.1 5) A.2.2.1 A.2.2.2 B.1 B.2)) ∧ (∀ j, 6 ≤ j → A.2.1 j = g j) ∧ A.2.1 4 = g 4 ∧ (∀ j, j < 4 → B.1 j = mg j) ∧ B.1 9 = mg 9 ∧ ∀ c, c ≠ 33 → A.2.2.1 c = V c ∧ A.2.2.2 c = Hd c
/-- the stop behind an item -/
theorem fin_ok {q : Nat} {g3 m6 s7 : Nat → Int32} {V4 Hd4 : Nat → Nat → Int32} (hB : RB N g3 tb T) (h0 : g3 0 = nI q) (hpq : tkE T N p ≤ q) (hq : q ≤ N) (hA : LA T N q m6) (h8 : m6 8 = 0) (hD : DI w r (g3 5) V4 Hd4 m6 s7) (hg : ∀ j, 6 ≤ j → g3 j = g j) (hg4 : g3 4 = g 4) (hm : ∀ j, j < 4 → m6 j = mg j) (hm9 : m6 9 = mg 9) (hV : ∀ c, c ≠ 33 → V4 c = V c ∧ Hd4 c = Hd c) : RES N T tb p g V Hd mg (nm2 (sp_X1_isStop g3 tb) (fun r_10 g_8 => if r_10 = 0 then ((0 : Int32), g_8, V4, Hd4) else ((1 : Int32), g_8, V4, Hd4))) (jn_X7_readItem_214 T m6 s7) := by
  have hN := hB.2.1
  have hT := hB.t0
  have t := rt hB h0 hq
  have hE := tkE_le hT hq
  unfold sp_X1_isStop
  generalize sp_X1_readToken g3 tb = g8 at t ⊢
  have n1 : ¬ (1 : Int32) = 0 := by decide
  unfold jn_X7_readItem_214 jn_X7_readItem_235
  rw [nm_b, pk_us, pk_us, upd_id h8, if_pos h8, if_pos rfl, if_neg n1, hA.2.2.2.1]
  by_cases k : tkK T N q = 3
  · have hn := k_nn (T := T) (N := N) (p := q) (by rw [k]; decide)
    have k6 : g8 2 = 3 := t.2.1.trans (k_is3.mp k)
    rw [if_pos k6, if_pos k, nm2_b, nm_b, next_eq hN hT hA.1 hA.2.1 hE]
    dsimp only
    rw [if_neg n1]
    obtain ⟨e0, _⟩ := t.2.2.1 hn
    have hgt := tkE_gt (T := T) (N := N) (p := q) hn
    have := tkS_ge T N q
    refine ⟨Or.inr ⟨rfl, w, r, tkE T N q, by omega, hE, e0, LA_nxt hA.1, h8, ?_⟩, fun j hj => (t.2.2.2 j (by omega)).trans (hg j hj), (t.2.2.2 4 (by decide)).trans hg4, fun j hj => (show nxt T N (tkE T N q) m6 j = m6 j from nxt_o ⟨by omega, by omega, by omega, by omega⟩).trans (hm j hj), (show nxt T N (tkE T N q) m6 9 = m6 9 from nxt_o (by decide)).trans hm9, hV⟩
    show DI w r (g8 5) V4 Hd4 (nxt T N (tkE T N q) m6) s7
    rw [t.2.2.2 5 (by decide)]
    exact DI_cg hD (fun j hj => nxt_o ⟨by omega, by omega, by omega, by omega⟩)
  · have k6 : ¬ g8 2 = 3 := fun z => k (k_is3.mpr (t.2.1.symm.trans z))
    rw [if_neg k6, if_neg k, nm2_b]
    dsimp only
    rw [if_pos rfl]
    refine ⟨Or.inl ⟨rfl, ?_, ⟨_, tkS_le T hq, t.1⟩, ?_⟩, fun j hj => (t.2.2.2 j (by omega)).trans (hg j hj), (t.2.2.2 4 (by decide)).trans hg4, fun j hj => (show upd m6 8 1 j = m6 j from upd_o (by omega)).trans (hm j hj), (show upd m6 8 1 9 = m6 9 from upd_o (by decide)).trans hm9, hV⟩
    · show g8 1 = upd m6 8 1 5
      rw [upd_o (by decide), hA.2.2.1]; exact t.1
    · show ¬ upd m6 8 1 8 = 0
      rw [pk_us]; decide
/-- a fault ahead of the stop -/
theorem fin_no {g3 m6 s7 : Nat → Int32} {V4 Hd4 : Nat → Nat → Int32} (hS : ∃ S, S ≤ N ∧ g3 1 = nI S) (h1 : g3 1 = m6 5) (h8 : ¬ m6 8 = 0) (hg : ∀ j, 6 ≤ j → g3 j = g j) (hg4 : g3 4 = g 4) (hm : ∀ j, j < 4 → m6 j = mg j) (hm9 : m6 9 = mg 9) (hV : ∀ c, c ≠ 33 → V4 c = V c ∧ Hd4 c = Hd c) : RES N T tb p g V Hd mg ((0 : Int32), g3, V4, Hd4) (jn_X7_readItem_214 T m6 s7) := by
  have n1 : ¬ (1 : Int32) = 0 := by decide
  unfold jn_X7_readItem_214 jn_X7_readItem_235
  rw [pk_us, pk_us, if_neg h8, if_neg n1]
  refine ⟨Or.inl ⟨rfl, ?_, hS, ?_⟩, hg, hg4, fun j hj => (show upd m6 8 1 j = m6 j from upd_o (by omega)).trans (hm j hj), (show upd m6 8 1 9 = m6 9 from upd_o (by decide)).trans hm9, hV⟩
  · show g3 1 = upd m6 8 1 5
    rw [upd_o (by decide)]; exact h1
  · show ¬ upd m6 8 1 8 = 0
    rw [pk_us]; decide
end IT
