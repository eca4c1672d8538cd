section IU
variable {N : Nat} {g g9 tb T mg sh : Nat → Int32} {V Hd : Nat → Nat → Int32} {p w r : Nat}
theorem nm3_c {α β γ δ : Type} (v : α × β × γ) (k : α → β → γ → δ) : nm3 v k = k v.1 v.2.1 v.2.2 := nm3_b v k
theorem bk_c {c wd c' : Int32} : upd (bk sh c wd) 20 c' = bk sh c' wd := by
  funext i
  unfold upd bk
  by_cases e : i = 20
  · subst e; rfl
  · simp only [e, if_false]
theorem bk_w {c wd x : Int32} : upd (bk sh c wd) 21 x = bk sh c x := by
  funext i
  unfold upd bk
  by_cases e : i = 21
  · subst e; rfl
  · simp only [e, if_false]
theorem bk_s {c wd x : Int32} {k : Nat} (hk : k < 20) : upd (bk sh c wd) k x = bk (upd sh k x) c wd := by
  funext i
  unfold upd bk
  by_cases e : i = k
  · subst e; simp [hk]
  · simp [e]
theorem bk_20 {c wd : Int32} : bk sh c wd 20 = c := rfl
theorem bk_lt {c wd : Int32} {k : Nat} (hk : k < 20) : bk sh c wd k = sh k := by unfold bk; rw [if_pos hk]
/-- both refuse at the item's own token -/
theorem it_bad (hp : p ≤ N) (ht : TK T N p g g9) (hA : LA T N p mg) : RES N T tb p g V Hd mg ((0 : Int32), g9, V, Hd) (upd mg 8 1, sh) := by
  refine ⟨Or.inl ⟨rfl, ?_, ⟨_, tkS_le T hp, ht.1⟩, ?_⟩, fun j hj => ht.2.2.2 j (by omega), ht.2.2.2 4 (by decide), fun j hj => ?_, ?_, fun c _ => ⟨rfl, rfl⟩⟩
  · show g9 1 = upd mg 8 1 5
    rw [upd_o (by decide), hA.2.2.1]; exact ht.1
  · show ¬ upd mg 8 1 8 = 0
    rw [pk_us]; decide
  · show upd mg 8 1 j = mg j
    exact upd_o (by omega)
  · show upd mg 8 1 9 = mg 9
    exact upd_o (by decide)
section IV
variable (hB : RB N g tb T) (hp : p ≤ N) (hA : LA T N p mg) (h8 : mg 8 = 0) (ht : TK T N p g g9) (hn : ¬ ch T N (tkS T N p) < 0)
/-- behind the letter -/
theorem it_pre (hB : RB N g tb T) (hp : p ≤ N) (hA : LA T N p mg) (h8 : mg 8 = 0) (ht : TK T N p g g9) (hn : ¬ ch T N (tkS T N p) < 0) : RB N g9 tb T ∧ g9 0 = nI (tkE T N p) ∧ tkE T N p ≤ N ∧ p ≤ tkE T N p ∧ sp_X7_next mg T = nxt T N (tkE T N p) mg ∧ LA T N (tkE T N p) (nxt T N (tkE T N p) mg) ∧ nxt T N (tkE T N p) mg 8 = 0 ∧ (∀ j, j ≠ 4 → j ≠ 5 → j ≠ 6 → j ≠ 7 → nxt T N (tkE T N p) mg j = mg j) :=
  ⟨hB.of ht.2.2.2, (ht.2.2.1 hn).1, tkE_le hB.t0 hp, Nat.le_trans (tkS_ge T N p) (tkE_ge T N p), next_eq hB.2.1 hB.t0 hA.1 hA.2.1 (tkE_le hB.t0 hp), LA_nxt hA.1, h8, fun j a b c d => nxt_o ⟨a, b, c, d⟩⟩
end IV
/-- a cloth -/
theorem it_c (hB : RB N g tb T) (hp : p ≤ N) (hA : LA T N p mg) (h8 : mg 8 = 0) (ht : TK T N p g g9) (hn : ¬ ch T N (tkS T N p) < 0) (hD : DI w r (g 5) V Hd mg sh) : RES N T tb p g V Hd mg (nm3 (sp_X1_isCloth g9 tb V) (fun r_6 g_3 V_4 => if r_6 = 0 then ((0 : Int32), g_3, V_4, Hd) else (nm2 (sp_X1_isStop g_3 tb) (fun r_10 g_8 => if r_10 = 0 then ((0 : Int32), g_8, V_4, Hd) else ((1 : Int32), g_8, V_4, Hd)))))
    (nm2 (sp_X7_takesCell (nxt T N (tkE T N p) mg) T sh (1 : Int32)) (fun r_19 mg_17 => if (mg_17 8) = 0 then (jn_X7_readItem_214 T (upd mg_17 12 ((mg_17 12) ||| ((1 : Int32) <<< (r_19 &&& 31)))) sh) else (jn_X7_readItem_214 T (upd mg_17 12 ((mg_17 12) ||| (0 : Int32))) sh))) := by
  obtain ⟨b9, e0, hE, hpE, en, A4, m8, mo⟩ := it_pre hB hp hA h8 ht hn
  obtain ⟨hw, m10, m11, S, wd⟩ := hD
  have v2 : V 33 2 = mg 12 := S.v2
  have hcs : ∀ i, bt (mg 12) i = true → i < 20 ∧ dr w r 0 i := S.cloth
  have n1 : ¬ (1 : Int32) = 0 := by decide
  unfold sp_X1_isCloth
  rcases fb (x1 := 1) (sh := sh) (used := V 33 2) b9 e0 hE A4 m8 hw S.v0 S.v1 ((mo 10 (by decide) (by decide) (by decide) (by decide)).trans m10) ((mo 11 (by decide) (by decide) (by decide) (by decide)).trans m11) (fun k hk => by
    rw [v2, mo 12 (by decide) (by decide) (by decide) (by decide), has_eq (by omega)]
    by_cases c : bt (mg 12) k = true
    · rw [if_pos c]; exact ⟨fun _ => Or.inr ⟨n1, n1⟩, fun _ => c⟩
    · rw [if_neg c]; exact ⟨fun q => absurd q c, fun q => q.elim (fun q => absurd q.1 n1) (fun q => absurd rfl q.2)⟩) with ⟨g', k, mg', f1, f2, f3, f4, f10, f5, f6⟩ | ⟨i, j, g', mg', p', hi, hj, hu, f1, f2, f3, f4, f5, f6, f7, f8, f9⟩
  · rw [f1, f2, nm2_b, nm2_b]
    dsimp only
    rw [if_pos rfl, nm3_c]
    dsimp only
    rw [if_pos rfl, if_neg f3]
    refine fin_no f10 ?_ ?_ (fun j hj => (f5 j (by omega)).trans (ht.2.2.2 j (by omega))) ((f5 4 (by decide)).trans (ht.2.2.2 4 (by decide))) (fun j hj => ?_) ?_ (fun c hc => ⟨vs_o hc, rfl⟩)
    · rw [upd_o (by decide)]; exact f4
    · rw [upd_o (by decide)]; exact f3
    · rw [upd_o (by omega), f6 j (by omega) (by omega) (by omega) (by omega) (by omega)]; exact mo j (by omega) (by omega) (by omega) (by omega)
    · rw [upd_o (by decide), f6 9 (by decide) (by decide) (by decide) (by decide) (by decide)]; exact mo 9 (by decide) (by decide) (by decide) (by decide)
  · obtain ⟨k20, kg, km, kd⟩ := gr_k hw hi hj
    have hb : ¬ (1 : Int32) <<< (nI (5 * j + i) &&& 31) = 0 := fun q => by
      have := bt_bit (k := 5 * j + i) (i := 5 * j + i) (by omega) (by omega)
      rw [q, bt_0] at this
      simp at this
    have m12 : mg' 12 = mg 12 := (f9 12 (by decide) (by decide) (by decide) (by decide) (by decide)).trans (mo 12 (by decide) (by decide) (by decide) (by decide))
    rw [f1, f2, nm2_b, nm2_b]
    dsimp only
    rw [if_neg hb, nm3_c]
    dsimp only
    rw [if_neg n1, if_pos f7, m12, v2]
    refine fin_ok (b9.of f8) f3 (by omega) f5 (f6.u (by decide) _) ((upd_o (by decide)).trans f7) (w := w) (r := r) ?_ (fun j hj => (f8 j (by omega)).trans (ht.2.2.2 j (by omega))) ((f8 4 (by decide)).trans (ht.2.2.2 4 (by decide))) (fun j hj => ?_) ?_ (fun c hc => ⟨vs_o hc, rfl⟩)
    · have g5 : g' 5 = g 5 := (f8 5 (by decide)).trans (ht.2.2.2 5 (by decide))
      have m13 : mg' 13 = mg 13 := (f9 13 (by decide) (by decide) (by decide) (by decide) (by decide)).trans (mo 13 (by decide) (by decide) (by decide) (by decide))
      have ev3 : vs V 33 2 (mg 12 ||| ((1 : Int32) <<< (nI (5 * j + i) &&& 31))) 33 3 = V 33 3 := vs_j (by decide)
      refine ⟨hw, ?_, ?_, ?_, ?_⟩
      · rw [upd_o (by decide), f9 10 (by decide) (by decide) (by decide) (by decide) (by decide)]; exact (mo 10 (by decide) (by decide) (by decide) (by decide)).trans m10
      · rw [upd_o (by decide), f9 11 (by decide) (by decide) (by decide) (by decide) (by decide)]; exact (mo 11 (by decide) (by decide) (by decide) (by decide)).trans m11
      · rw [pk_us, ev3, ← bk_c (c := mg 12)]
        refine SN_cloth S (fun j hj => vs_j hj) vs_s (fun c hc => ?_)
        rw [bt_or, Bool.or_eq_true] at hc
        rcases hc with z | z
        · exact hcs c z
        · by_cases c32 : c < 32
          · rw [bt_bit (by omega) c32, decide_eq_true_iff] at z
            subst z
            exact ⟨k20, kg.1, by omega, kg.2⟩
          · rw [bt_ge (by omega)] at z; cases z
      · rw [upd_o (show 13 ≠ 12 by decide), m13, ev3, g5]; exact wd
    · rw [upd_o (by omega), f9 j (by omega) (by omega) (by omega) (by omega) (by omega)]; exact mo j (by omega) (by omega) (by omega) (by omega)
    · rw [upd_o (by decide), f9 9 (by decide) (by decide) (by decide) (by decide) (by decide)]; exact mo 9 (by decide) (by decide) (by decide) (by decide)
/-- the wind -/
theorem it_w (hB : RB N g tb T) (hp : p ≤ N) (hA : LA T N p mg) (h8 : mg 8 = 0) (ht : TK T N p g g9) (hn : ¬ ch T N (tkS T N p) < 0) (hD : DI w r (g 5) V Hd mg sh) (hwt : g 5 = 0) : RES N T tb p g V Hd mg (nm3 (sp_X1_isWind g9 tb V) (fun r_38 g_35 V_36 => if r_38 = 0 then ((0 : Int32), g_35, V_36, Hd) else (nm2 (sp_X1_isStop g_35 tb) (fun r_42 g_40 => if r_42 = 0 then ((0 : Int32), g_40, V_36, Hd) else ((1 : Int32), g_40, V_36, Hd)))))
    (nm2 (sp_X7_takesNumber (nxt T N (tkE T N p) mg) T (0 : Int32) (1 : Int32)) (fun r_30 mg_28 => jn_X7_readItem_214 T (upd mg_28 13 r_30) sh)) := by
  obtain ⟨b9, e0, hE, hpE, en, A4, m8, mo⟩ := it_pre hB hp hA h8 ht hn
  obtain ⟨hw, m10, m11, S, wd⟩ := hD
  have n1 : ¬ (1 : Int32) = 0 := by decide
  have t := rt b9 e0 hE
  have hN := hB.2.1
  have hT := hB.t0
  unfold sp_X1_isWind
  generalize sp_X1_readToken g9 tb = g1 at t ⊢
  rw [nm_b, nm_b]
  have g9g : ∀ j, 4 ≤ j → g1 j = g j := fun j hj => (t.2.2.2 j hj).trans (ht.2.2.2 j hj)
  by_cases k : okn T N (tkE T N p) 0 1
  · obtain ⟨y1, y2, y3⟩ := num_y (l := 0) (m := 1) t (by omega) k
    obtain ⟨v, _, hv, ev⟩ := okn_nat (l := 0) (m := 1) (by omega) (by omega) k
    have y1 : ¬ sp_X1_isNumber g1 0 1 = 0 := y1
    rw [if_neg y1, nm3_c, tn_y hN hT hE A4 m8 k, nm2_b (tkV T N (tkE T N p), nxt T N (tkE T N (tkE T N p)) (nxt T N (tkE T N p) mg)), y2, ev]
    dsimp only
    rw [if_neg n1]
    have hv01 : nI v = 0 ∨ nI v = 1 := by
      rcases (show v = 0 ∨ v = 1 by omega) with rfl | rfl
      · exact Or.inl rfl
      · exact Or.inr rfl
    have A5 : LA T N (tkE T N (tkE T N p)) (nxt T N (tkE T N (tkE T N p)) (nxt T N (tkE T N p) mg)) := LA_nxt A4.1
    have mo5 : ∀ j, j ≠ 4 → j ≠ 5 → j ≠ 6 → j ≠ 7 → nxt T N (tkE T N (tkE T N p)) (nxt T N (tkE T N p) mg) j = mg j := fun j a b c d => (nxt_o ⟨a, b, c, d⟩).trans (mo j a b c d)
    generalize nxt T N (tkE T N (tkE T N p)) (nxt T N (tkE T N p) mg) = m5 at A5 mo5 ⊢
    have m58 : m5 8 = 0 := (mo5 8 (by decide) (by decide) (by decide) (by decide)).trans h8
    have hq := tkE_le hT hE
    have hpq : tkE T N p ≤ tkE T N (tkE T N p) := Nat.le_trans (tkS_ge T N _) (tkE_ge T N _)
    generalize tkE T N (tkE T N p) = q at A5 y3 hq hpq
    have hBu : RB N (upd g1 5 1) tb T := (b9.of t.2.2.2).up (by decide) _
    have u0 : upd g1 5 1 0 = nI q := (upd_o (by decide)).trans y3
    have u8 : upd m5 13 (nI v) 8 = 0 := (upd_o (by decide)).trans m58
    have uD : DI w r (upd g1 5 1 5) (vs V 33 3 (nI v)) Hd (upd m5 13 (nI v)) sh := by
      refine ⟨hw, ?_, ?_, ?_, Or.inr ⟨pk_us, ?_, ?_⟩⟩
      · rw [upd_o (by decide), mo5 10 (by decide) (by decide) (by decide) (by decide)]; exact m10
      · rw [upd_o (by decide), mo5 11 (by decide) (by decide) (by decide) (by decide)]; exact m11
      · rw [upd_o (show 12 ≠ 13 by decide), mo5 12 (by decide) (by decide) (by decide) (by decide), vs_s, ← bk_w (wd := V 33 3)]
        exact SN_wind S (fun j hj => vs_j hj) vs_s hv01
      · rw [pk_us, vs_s]
      · rw [vs_s]; exact hv01
    refine fin_ok (w := w) (r := r) hBu u0 hpq hq (A5.u (by decide) _) u8 uD (fun j hj => ?_) ?_ (fun j hj => ?_) ?_ (fun c hc => ⟨vs_o hc, rfl⟩)
    · rw [upd_o (by omega)]; exact g9g j (by omega)
    · rw [upd_o (by decide)]; exact g9g 4 (by decide)
    · rw [upd_o (by omega)]; exact mo5 j (by omega) (by omega) (by omega) (by omega)
    · rw [upd_o (by decide)]; exact mo5 9 (by decide) (by decide) (by decide) (by decide)
  · have y1 : sp_X1_isNumber g1 0 1 = 0 := num_n (l := 0) (m := 1) t (by omega) (by omega) k
    rw [if_pos y1, nm3_c, tn_n hN hT hE A4 k, nm2_b ((0 : Int32), upd (nxt T N (tkE T N p) mg) 8 1)]
    dsimp only
    rw [if_pos rfl]
    refine fin_no ⟨_, tkS_le T hE, t.1⟩ ?_ ?_ (fun j hj => g9g j (by omega)) (g9g 4 (by decide)) (fun j hj => ?_) ?_ (fun c hc => ⟨rfl, rfl⟩)
    · rw [upd_o (by decide), upd_o (by decide), A4.2.2.1]; exact t.1
    · rw [upd_o (by decide), pk_us]; exact n1
    · rw [upd_o (by omega), upd_o (by omega)]; exact mo j (by omega) (by omega) (by omega) (by omega)
    · rw [upd_o (by decide), upd_o (by decide)]; exact mo 9 (by decide) (by decide) (by decide) (by decide)
/-- once it is wrong, a number is none -/
theorem tn_w {m4 : Nat → Int32} {l m : Int32} {q : Nat} (hN : N ≤ 150) (hT : ∀ j, j < N → 0 ≤ T j) (h3 : m4 3 = nI N) (h4 : m4 4 = nI q) (hq : q ≤ N) (h8 : ¬ m4 8 = 0) : sp_X7_takesNumber m4 T l m = (0, upd m4 8 1) := by
  rw [tn_eq l m hN hT h3 h4 hq, if_neg (fun q => h8 q.1)]
theorem tc_w {m4 : Nat → Int32} {x1 : Int32} {q : Nat} (hN : N ≤ 150) (hT : ∀ j, j < N → 0 ≤ T j) (h3 : m4 3 = nI N) (h4 : m4 4 = nI q) (hq : q ≤ N) (h8 : ¬ m4 8 = 0) : sp_X7_takesCell m4 T sh x1 = (0, upd m4 8 1) := by
  rw [tc_eq x1 hN hT h3 h4 hq]
  unfold tcR
  rw [if_neg (fun q => h8 q.1)]
end IU
