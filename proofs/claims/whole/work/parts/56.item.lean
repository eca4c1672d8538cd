section IW
variable {N : Nat} {g g9 tb T mg sh : Nat → Int32} {V Hd : Nat → Nat → Int32} {p w r : Nat}
/-- a holder -/
theorem it_o (hB : RB N g tb T) (hp : p ≤ N) (hA : LA T N p mg) (h8 : mg 8 = 0) (ht : TK T N p g g9) (hn : ¬ ch T N (tkS T N p) < 0) (hD : DI w r (g 5) V Hd mg sh) : RES N T tb p g V Hd mg (nm3 (sp_X1_isHolder g9 tb V Hd) (fun r_27 g_24 Hd_25 => if r_27 = 0 then ((0 : Int32), g_24, V, Hd_25) else (nm2 (sp_X1_isStop g_24 tb) (fun r_31 g_29 => if r_31 = 0 then ((0 : Int32), g_29, V, Hd_25) else ((1 : Int32), g_29, V, Hd_25)))))
    (nm2 (sp_X7_takesNumber (nxt T N (tkE T N p) mg) T (0 : Int32) (4 : Int32)) (fun r_23 mg_21 => nm2 (sp_X7_takesCell mg_21 T sh (0 : Int32)) (fun r_26 mg_24 => if (mg_24 8) = 0 then (jn_X7_readItem_214 T mg_24 (upd sh r_26.toNatClampNeg (r_23 + (1 : Int32)))) else (jn_X7_readItem_214 T mg_24 (upd sh r_26.toNatClampNeg (sh r_26.toNatClampNeg)))))) := by
  obtain ⟨b9, e0, hE, hpE, en, A4, m8, mo⟩ := it_pre hB hp hA h8 ht hn
  obtain ⟨hw, m10, m11, S, wd⟩ := hD
  have n1 : ¬ (1 : Int32) = 0 := by decide
  have t := rt b9 e0 hE
  have hN := hB.2.1
  have hT := hB.t0
  unfold sp_X1_isHolder
  generalize sp_X1_readToken g9 tb = g1 at t ⊢
  rw [nm_b, nm_b]
  have g9g : ∀ j, 4 ≤ j → g1 j = g j := fun j hj => (t.2.2.2 j hj).trans (ht.2.2.2 j hj)
  by_cases k : okn T N (tkE T N p) 0 4
  · obtain ⟨y1, y2, y3⟩ := num_y (l := 0) (m := 4) t (by omega) k
    obtain ⟨f, _, hf, ev⟩ := okn_nat (l := 0) (m := 4) (by omega) (by omega) k
    have y1 : ¬ sp_X1_isNumber g1 0 4 = 0 := y1
    rw [if_neg y1, nm_b, tn_y hN hT hE A4 m8 k, nm2_b (tkV T N (tkE T N p), nxt T N (tkE T N (tkE T N p)) (nxt T N (tkE T N p) mg)), y2, ev]
    dsimp only
    have A5 : LA T N (tkE T N (tkE T N p)) (nxt T N (tkE T N (tkE T N p)) (nxt T N (tkE T N p) mg)) := LA_nxt A4.1
    have mo5 : ∀ j, j ≠ 4 → j ≠ 5 → j ≠ 6 → j ≠ 7 → nxt T N (tkE T N (tkE T N p)) (nxt T N (tkE T N p) mg) j = mg j := fun j a b c d => (nxt_o ⟨a, b, c, d⟩).trans (mo j a b c d)
    generalize nxt T N (tkE T N (tkE T N p)) (nxt T N (tkE T N p) mg) = m5 at A5 mo5 ⊢
    have m58 : m5 8 = 0 := (mo5 8 (by decide) (by decide) (by decide) (by decide)).trans h8
    have hq := tkE_le hT hE
    have hpq : tkE T N p ≤ tkE T N (tkE T N p) := Nat.le_trans (tkS_ge T N _) (tkE_ge T N _)
    generalize tkE T N (tkE T N p) = q at A5 y3 hq hpq
    have b1 : RB N g1 tb T := b9.of t.2.2.2
    rcases fb (x1 := 0) (sh := sh) (used := sp_X4_heldByAny Hd 33) b1 y3 hq A5 m58 hw S.v0 S.v1 ((mo5 10 (by decide) (by decide) (by decide) (by decide)).trans m10) ((mo5 11 (by decide) (by decide) (by decide) (by decide)).trans m11) (fun k hk => by
      rw [any_bt S k, bk_lt hk]
      obtain ⟨q', hq5, hbq, hqd⟩ := S.hold k hk
      rw [bk_lt hk] at hbq
      constructor
      · rintro ⟨_, z⟩
        refine Or.inl ⟨rfl, ?_⟩
        rw [hbq]
        refine nI_nle ?_ (by omega)
        by_cases zz : q' = 0
        · subst zz; exact absurd hbq z
        · omega
      · rintro (⟨_, z⟩ | ⟨z, _⟩)
        · exact ⟨hk, fun zz => z (by rw [zz]; decide)⟩
        · exact absurd rfl z) with ⟨g', k2, mg', f1, f2, f3, f4, f10, f5, f6⟩ | ⟨i, j, g', mg', p', hi, hj, hu, f1, f2, f3, f4, f5, f6, f7, f8, f9⟩
    · rw [f1, f2, nm2_b ((0 : Int32), g'), nm2_b (k2, mg'), nm_b]
      dsimp only
      rw [if_pos rfl, nm3_c]
      dsimp only
      rw [if_pos rfl, if_neg f3]
      refine fin_no f10 f4 f3 (fun j hj => (f5 j (by omega)).trans (g9g j (by omega))) ((f5 4 (by decide)).trans (g9g 4 (by decide))) (fun j hj => ?_) ?_ (fun c hc => ⟨rfl, ?_⟩)
      · rw [f6 j (by omega) (by omega) (by omega) (by omega) (by omega)]; exact mo5 j (by omega) (by omega) (by omega) (by omega)
      · rw [f6 9 (by decide) (by decide) (by decide) (by decide) (by decide)]; exact mo5 9 (by decide) (by decide) (by decide) (by decide)
      · rw [give_ok (show f < 5 by omega)]; exact vs_o hc
    · obtain ⟨k20, kg, km, kd⟩ := gr_k hw hi hj
      have hb : ¬ (1 : Int32) <<< (nI (5 * j + i) &&& 31) = 0 := fun q => by
        have := bt_bit (k := 5 * j + i) (i := 5 * j + i) (by omega) (by omega)
        rw [q, bt_0] at this
        simp at this
      rw [f1, f2, nm2_b ((1 : Int32) <<< (nI (5 * j + i) &&& 31), g'), nm2_b (nI (5 * j + i), mg'), nm_b]
      dsimp only
      rw [if_neg hb, nm3_c]
      dsimp only
      rw [if_neg n1, if_pos f7, nI_clamp (by omega), give_ok (show f < 5 by omega), ← nI_succ]
      have m12 : mg' 12 = mg 12 := (f9 12 (by decide) (by decide) (by decide) (by decide) (by decide)).trans (mo5 12 (by decide) (by decide) (by decide) (by decide))
      have m13 : mg' 13 = mg 13 := (f9 13 (by decide) (by decide) (by decide) (by decide) (by decide)).trans (mo5 13 (by decide) (by decide) (by decide) (by decide))
      have m10' : mg' 10 = nI w := ((f9 10 (by decide) (by decide) (by decide) (by decide) (by decide)).trans (mo5 10 (by decide) (by decide) (by decide) (by decide))).trans m10
      have m11' : mg' 11 = nI r := ((f9 11 (by decide) (by decide) (by decide) (by decide) (by decide)).trans (mo5 11 (by decide) (by decide) (by decide) (by decide))).trans m11
      have g5 : g' 5 = g 5 := (f8 5 (by decide)).trans (g9g 5 (by decide))
      have uD : DI w r (g' 5) V (vs Hd 33 f (Hd 33 f ||| ((1 : Int32) <<< (nI (5 * j + i) &&& 31)))) mg' (upd sh (5 * j + i) (nI (f + 1))) := by
        refine ⟨hw, m10', m11', ?_, by rw [m13, g5]; exact wd⟩
        rw [m12, ← bk_s k20]
        have h0 : sh (5 * j + i) = 0 := by
          obtain ⟨q', hq5, hbq, hqd⟩ := S.hold _ k20
          rw [bk_lt k20] at hbq
          refine Classical.byContradiction fun z => hu ((any_bt S _).mpr ⟨k20, ?_⟩)
          rw [bk_lt k20]; exact z
        refine SN_set S k20 (by omega) (fun _ => ⟨kg.1, by omega, kg.2⟩) (fun f' hf' c => ?_)
        by_cases ef : f' = f
        · subst ef
          rw [vs_s, bt_or]
          by_cases ec : c = 5 * j + i
          · subst ec
            rw [bt_bit (by omega) (by omega), if_pos rfl]; simp
          · rw [if_neg ec]
            by_cases c32 : c < 32
            · rw [bt_bit (by omega) c32]; simp [ec]
            · rw [bt_ge (by omega), bt_ge (by omega)]; rfl
        · rw [vs_j ef]
          by_cases ec : c = 5 * j + i
          · subst ec
            rw [if_pos rfl, S.held f' hf', bk_lt k20, h0, decide_eq_false (fun q : f + 1 = f' + 1 => ef (by omega)), decide_eq_false_iff_not]
            rintro ⟨_, z⟩
            exact absurd ((nI_eq (a := 0) (b := f' + 1) (by omega) (by omega)).mp z) (by omega)
          · rw [if_neg ec]
      refine fin_ok (w := w) (r := r) (b1.of f8) f3 (by omega) f5 f6 f7 uD (fun j hj => (f8 j (by omega)).trans (g9g j (by omega))) ((f8 4 (by decide)).trans (g9g 4 (by decide))) (fun j hj => ?_) ?_ (fun c hc => ⟨rfl, vs_o hc⟩)
      · rw [f9 j (by omega) (by omega) (by omega) (by omega) (by omega)]; exact mo5 j (by omega) (by omega) (by omega) (by omega)
      · rw [f9 9 (by decide) (by decide) (by decide) (by decide) (by decide)]; exact mo5 9 (by decide) (by decide) (by decide) (by decide)
  · have y1 : sp_X1_isNumber g1 0 4 = 0 := num_n (l := 0) (m := 4) t (by omega) (by omega) k
    have u8 : ¬ upd (nxt T N (tkE T N p) mg) 8 1 8 = 0 := by rw [pk_us]; exact n1
    rw [if_pos y1, nm3_c, tn_n hN hT hE A4 k, nm2_b ((0 : Int32), upd (nxt T N (tkE T N p) mg) 8 1)]
    dsimp only
    rw [if_pos rfl, tc_w hN hT ((upd_o (by decide)).trans A4.1) ((upd_o (by decide)).trans A4.2.1) (tkE_le hT hE) u8, upd_upd, nm2_b ((0 : Int32), upd (nxt T N (tkE T N p) mg) 8 1)]
    dsimp only
    rw [if_neg u8]
    refine fin_no ⟨_, tkS_le T hE, t.1⟩ ?_ u8 (fun j hj => g9g j (by omega)) (g9g 4 (by decide)) (fun j hj => ?_) ?_ (fun c hc => ⟨rfl, rfl⟩)
    · rw [upd_o (by decide), A4.2.2.1]; exact t.1
    · rw [upd_o (by omega)]; exact mo j (by omega) (by omega) (by omega) (by omega)
    · rw [upd_o (by decide)]; exact mo 9 (by decide) (by decide) (by decide) (by decide)
/-- the size -/
theorem it_g (hB : RB N g tb T) (hp : p ≤ N) (hA : LA T N p mg) (h8 : mg 8 = 0) (ht : TK T N p g g9) (hn : ¬ ch T N (tkS T N p) < 0) (hD : DI w r (g 5) V Hd mg sh) (hz : ∀ k, k < 20 → sh k = 0) (hc0 : mg 12 = 0) : RES N T tb p g V Hd mg (nm3 (sp_X1_isSize g9 tb V) (fun r_17 g_14 V_15 => if r_17 = 0 then ((0 : Int32), g_14, V_15, Hd) else (nm2 (sp_X1_isStop g_14 tb) (fun r_21 g_19 => if r_21 = 0 then ((0 : Int32), g_19, V_15, Hd) else ((1 : Int32), g_19, V_15, Hd)))))
    (nm2 (sp_X7_takesNumber (nxt T N (tkE T N p) mg) T (1 : Int32) (5 : Int32)) (fun r_33 mg_31 => nm2 (sp_X7_takesNumber (upd mg_31 10 r_33) T (1 : Int32) (4 : Int32)) (fun r_36 mg_34 => jn_X7_readItem_214 T (upd mg_34 11 r_36) sh))) := by
  obtain ⟨b9, e0, hE, hpE, en, A4, m8, mo⟩ := it_pre hB hp hA h8 ht hn
  obtain ⟨hw, m10, m11, S, wd⟩ := hD
  have n1 : ¬ (1 : Int32) = 0 := by decide
  have t := rt b9 e0 hE
  have hN := hB.2.1
  have hT := hB.t0
  unfold sp_X1_isSize
  generalize sp_X1_readToken g9 tb = g1 at t ⊢
  rw [nm_b, nm_b]
  have g9g : ∀ j, 4 ≤ j → g1 j = g j := fun j hj => (t.2.2.2 j hj).trans (ht.2.2.2 j hj)
  by_cases k : okn T N (tkE T N p) 1 5
  · obtain ⟨y1, y2, y3⟩ := num_y (l := 1) (m := 5) t (by omega) k
    obtain ⟨w', hw1, hw5, ev⟩ := okn_nat (l := 1) (m := 5) (by omega) (by omega) k
    have y1 : ¬ sp_X1_isNumber g1 1 5 = 0 := y1
    rw [if_neg y1, tn_y hN hT hE A4 m8 k, nm2_b (tkV T N (tkE T N p), nxt T N (tkE T N (tkE T N p)) (nxt T N (tkE T N p) mg)), y2, ev]
    dsimp only
    have A5 : LA T N (tkE T N (tkE T N p)) (nxt T N (tkE T N (tkE T N p)) (nxt T N (tkE T N p) mg)) := LA_nxt A4.1
    have mo5 : ∀ j, j ≠ 4 → j ≠ 5 → j ≠ 6 → j ≠ 7 → nxt T N (tkE T N (tkE T N p)) (nxt T N (tkE T N p) mg) j = mg j := fun j a b c d => (nxt_o ⟨a, b, c, d⟩).trans (mo j a b c d)
    generalize nxt T N (tkE T N (tkE T N p)) (nxt T N (tkE T N p) mg) = m5 at A5 mo5 ⊢
    have m58 : m5 8 = 0 := (mo5 8 (by decide) (by decide) (by decide) (by decide)).trans h8
    have hq := tkE_le hT hE
    have hpq : tkE T N p ≤ tkE T N (tkE T N p) := Nat.le_trans (tkS_ge T N _) (tkE_ge T N _)
    generalize tkE T N (tkE T N p) = q at A5 y3 hq hpq
    have b1 : RB N g1 tb T := b9.of t.2.2.2
    have A6 : LA T N q (upd m5 10 (nI w')) := A5.u (by decide) _
    have u68 : upd m5 10 (nI w') 8 = 0 := (upd_o (by decide)).trans m58
    have t2 := rt b1 y3 hq
    generalize sp_X1_readToken g1 tb = g2 at t2 ⊢
    rw [nm_b, nm_b]
    have g2g : ∀ j, 4 ≤ j → g2 j = g j := fun j hj => (t2.2.2.2 j hj).trans (g9g j hj)
    by_cases k2 : okn T N q 1 4
    · obtain ⟨z1, z2, z3⟩ := num_y (l := 1) (m := 4) t2 (by omega) k2
      obtain ⟨r', hr1, hr4, er⟩ := okn_nat (l := 1) (m := 4) (by omega) (by omega) k2
      have z1 : ¬ sp_X1_isNumber g2 1 4 = 0 := z1
      rw [if_neg z1, nm3_c, tn_y hN hT hq A6 u68 k2, nm2_b (tkV T N q, nxt T N (tkE T N q) (upd m5 10 (nI w'))), z2, er]
      dsimp only
      rw [if_neg n1]
      have A7 : LA T N (tkE T N q) (nxt T N (tkE T N q) (upd m5 10 (nI w'))) := LA_nxt A6.1
      have mo7 : ∀ j, j ≠ 4 → j ≠ 5 → j ≠ 6 → j ≠ 7 → nxt T N (tkE T N q) (upd m5 10 (nI w')) j = upd m5 10 (nI w') j := fun j a b c d => nxt_o ⟨a, b, c, d⟩
      generalize nxt T N (tkE T N q) (upd m5 10 (nI w')) = m7 at A7 mo7 ⊢
      have hq2 := tkE_le hT hq
      have hpq2 : tkE T N p ≤ tkE T N q := Nat.le_trans hpq (Nat.le_trans (tkS_ge T N _) (tkE_ge T N _))
      generalize tkE T N q = q2 at A7 z3 hq2 hpq2
      have u10 : upd m7 11 (nI r') 10 = nI w' := by rw [upd_o (by decide), mo7 10 (by decide) (by decide) (by decide) (by decide), pk_us]
      have uo : ∀ j, j ≠ 4 → j ≠ 5 → j ≠ 6 → j ≠ 7 → j ≠ 10 → j ≠ 11 → upd m7 11 (nI r') j = mg j := fun j a b c d e f => by rw [upd_o f, mo7 j a b c d, upd_o e, mo5 j a b c d]
      have hV : ∀ j, j ≠ 0 → j ≠ 1 → vs (vs V 33 0 (nI w')) 33 1 (nI r') 33 j = V 33 j := fun j a b => by rw [vs_j b, vs_j a]
      have uD : DI w' r' (g2 5) (vs (vs V 33 0 (nI w')) 33 1 (nI r')) Hd (upd m7 11 (nI r')) sh := by
        refine ⟨⟨hw1, hw5, hr1, hr4⟩, u10, pk_us, ?_, ?_⟩
        · rw [uo 12 (by decide) (by decide) (by decide) (by decide) (by decide) (by decide), hV 3 (by decide) (by decide)]
          refine ⟨⟨?_, vs_s, ?_, ?_, ?_⟩, ⟨S.b22, Nat.zero_le _, S.b21⟩, S.held, fun k hk => ⟨0, by omega, ?_, fun z => absurd z (by omega)⟩, fun i hi => ?_⟩
          · rw [vs_j (by decide), vs_s]
          · rw [hV 2 (by decide) (by decide)]; exact S.v2
          · rw [hV 3 (by decide) (by decide)]; exact S.v3
          · rw [hV 4 (by decide) (by decide)]; exact S.v4
          · rw [bk_lt hk, hz k hk]; rfl
          · rw [bk_20, hc0, bt_0] at hi; cases hi
        · rw [uo 13 (by decide) (by decide) (by decide) (by decide) (by decide) (by decide), hV 3 (by decide) (by decide), g2g 5 (by decide)]; exact wd
      refine fin_ok (w := w') (r := r') (b1.of t2.2.2.2) z3 hpq2 hq2 (A7.u (by decide) _) (uo 8 (by decide) (by decide) (by decide) (by decide) (by decide) (by decide) |>.trans h8) uD (fun j hj => g2g j (by omega)) (g2g 4 (by decide)) (fun j hj => uo j (by omega) (by omega) (by omega) (by omega) (by omega) (by omega)) (uo 9 (by decide) (by decide) (by decide) (by decide) (by decide) (by decide)) (fun c hc => ⟨by rw [vs_o hc, vs_o hc], rfl⟩)
    · have z1 : sp_X1_isNumber g2 1 4 = 0 := num_n (l := 1) (m := 4) t2 (by omega) (by omega) k2
      rw [if_pos z1, nm3_c, tn_n hN hT hq A6 k2, nm2_b ((0 : Int32), upd (upd m5 10 (nI w')) 8 1)]
      dsimp only
      rw [if_pos rfl]
      have uo : ∀ j, j ≠ 4 → j ≠ 5 → j ≠ 6 → j ≠ 7 → j ≠ 8 → j ≠ 10 → j ≠ 11 → upd (upd (upd m5 10 (nI w')) 8 1) 11 0 j = mg j := fun j a b c d h e f => by rw [upd_o f, upd_o h, upd_o e, mo5 j a b c d]
      refine fin_no ⟨_, tkS_le T hq, t2.1⟩ ?_ ?_ (fun j hj => g2g j (by omega)) (g2g 4 (by decide)) (fun j hj => uo j (by omega) (by omega) (by omega) (by omega) (by omega) (by omega) (by omega)) (uo 9 (by decide) (by decide) (by decide) (by decide) (by decide) (by decide) (by decide)) (fun c hc => ⟨vs_o hc, rfl⟩)
      · rw [upd_o (by decide), upd_o (by decide), upd_o (by decide), A5.2.2.1]; exact t2.1
      · rw [upd_o (by decide), pk_us]; exact n1
  · have y1 : sp_X1_isNumber g1 1 5 = 0 := num_n (l := 1) (m := 5) t (by omega) (by omega) k
    have u8 : ¬ upd (upd (nxt T N (tkE T N p) mg) 8 1) 10 0 8 = 0 := by rw [upd_o (by decide), pk_us]; exact n1
    rw [if_pos y1, nm3_c, tn_n hN hT hE A4 k, nm2_b ((0 : Int32), upd (nxt T N (tkE T N p) mg) 8 1)]
    dsimp only
    rw [if_pos rfl, tn_w hN hT ((upd_o (by decide)).trans ((upd_o (by decide)).trans A4.1)) ((upd_o (by decide)).trans ((upd_o (by decide)).trans A4.2.1)) (tkE_le hT hE) u8, nm2_b ((0 : Int32), upd (upd (upd (nxt T N (tkE T N p) mg) 8 1) 10 0) 8 1)]
    dsimp only
    refine fin_no ⟨_, tkS_le T hE, t.1⟩ ?_ ?_ (fun j hj => g9g j (by omega)) (g9g 4 (by decide)) (fun j hj => ?_) ?_ (fun c hc => ⟨rfl, rfl⟩)
    · rw [upd_o (by decide), upd_o (by decide), upd_o (by decide), upd_o (by decide), A4.2.2.1]; exact t.1
    · rw [upd_o (by decide), pk_us]; exact n1
    · rw [upd_o (by omega), upd_o (by omega), upd_o (by omega), upd_o (by omega)]; exact mo j (by omega) (by omega) (by omega) (by omega)
    · rw [upd_o (by decide), upd_o (by decide), upd_o (by decide), upd_o (by decide)]; exact mo 9 (by decide) (by decide) (by decide) (by decide)
/-- an item -/
theorem item_ok (hB : RB N g tb T) (hp : p ≤ N) (hA : LA T N p mg) (h8 : mg 8 = 0) (ht : TK T N p g g9) (hn : ¬ ch T N (tkS T N p) < 0) (hD : DI w r (g 5) V Hd mg sh) {it : Nat} (hit : it ≤ 1000) (h4 : g 4 = nI it) (h9 : mg 9 = nI it) (hz : it = 0 → (∀ k, k < 20 → sh k = 0) ∧ mg 12 = 0) : RES N T tb p g V Hd mg (sp_X1_isItem g9 tb V Hd) (sp_X7_readItem mg T sh) := by
  have bad : RES N T tb p g V Hd mg ((0 : Int32), g9, V, Hd) (upd mg 8 1, sh) := it_bad hp ht hA
  have n1 : ¬ (1 : Int32) = 0 := by decide
  have en := (it_pre hB hp hA h8 ht hn).2.2.2.2.1
  have e2 := ht.2.1
  have e3 := (ht.2.2.1 hn).2
  have g94 : g9 4 = nI it := (ht.2.2.2 4 (by decide)).trans h4
  have g95 : g9 5 = g 5 := ht.2.2.2 5 (by decide)
  have hm6 := hA.2.2.2.1
  have hm7 := hA.2.2.2.2
  have j0 : jn_X7_readItem_64 mg T sh 0 = (upd mg 8 1, sh) := by unfold jn_X7_readItem_64; rw [if_pos rfl, ite_self]
  by_cases hl : lt_ (ch T N (tkS T N p)) = true
  · obtain ⟨k1, k2⟩ := k_let hl
    have hf : ¬ fig (ch T N (tkS T N p)) = true := fun q => not_both q hl
    rw [tok_l hl] at e2
    rw [k1] at hm6
    have j1 : ∀ v : Int32, v = 1 → jn_X7_readItem_64 mg T sh v = (if (mg 7) = (103 : Int32) then (nm2 (sp_X7_takesNumber (nxt T N (tkE T N p) mg) T (1 : Int32) (5 : Int32)) (fun r_33 mg_31 => nm2 (sp_X7_takesNumber (upd mg_31 10 r_33) T (1 : Int32) (4 : Int32)) (fun r_36 mg_34 => jn_X7_readItem_214 T (upd mg_34 11 r_36) sh))) else (if (mg 7) = (119 : Int32) then (nm2 (sp_X7_takesNumber (nxt T N (tkE T N p) mg) T (0 : Int32) (1 : Int32)) (fun r_30 mg_28 => jn_X7_readItem_214 T (upd mg_28 13 r_30) sh)) else (if (mg 7) = (111 : Int32) then (nm2 (sp_X7_takesNumber (nxt T N (tkE T N p) mg) T (0 : Int32) (4 : Int32)) (fun r_23 mg_21 => nm2 (sp_X7_takesCell mg_21 T sh (0 : Int32)) (fun r_26 mg_24 => if (mg_24 8) = 0 then (jn_X7_readItem_214 T mg_24 (upd sh r_26.toNatClampNeg (r_23 + (1 : Int32)))) else (jn_X7_readItem_214 T mg_24 (upd sh r_26.toNatClampNeg (sh r_26.toNatClampNeg)))))) else (nm2 (sp_X7_takesCell (nxt T N (tkE T N p) mg) T sh (1 : Int32)) (fun r_19 mg_17 => if (mg_17 8) = 0 then (jn_X7_readItem_214 T (upd mg_17 12 ((mg_17 12) ||| ((1 : Int32) <<< (r_19 &&& 31)))) sh) else (jn_X7_readItem_214 T (upd mg_17 12 ((mg_17 12) ||| (0 : Int32))) sh)))))) := by
      intro v hv
      unfold jn_X7_readItem_64
      rw [if_pos hm6, hv, if_neg n1, nm_b, en]
    have e6 : sp_X7_readItem mg T sh = if (mg 7) = (103 : Int32) then (if (mg 9) = 0 then (jn_X7_readItem_64 mg T sh (1 : Int32)) else (jn_X7_readItem_64 mg T sh (0 : Int32))) else (if (mg 7) = (119 : Int32) then (if 0 ≤ (mg 13) then (jn_X7_readItem_64 mg T sh (0 : Int32)) else (jn_X7_readItem_64 mg T sh (1 : Int32))) else (if (mg 7) = (111 : Int32) then (jn_X7_readItem_64 mg T sh (1 : Int32)) else (if (mg 7) = (99 : Int32) then (jn_X7_readItem_64 mg T sh (1 : Int32)) else (jn_X7_readItem_64 mg T sh (0 : Int32))))) := rfl
    rw [e6, j0, j1 1 rfl]
    unfold sp_X1_isItem
    rw [if_pos e2]
    by_cases c1 : tkE T N p - tkS T N p = 1
    · have e7 : mg 7 = ch T N (tkS T N p) := by rw [hm7, k2, if_pos c1]
      have e3' : g9 3 = ch T N (tkS T N p) := by rw [e3]; unfold tv; rw [if_pos c1, if_neg hf]
      rw [e7, e3']
      by_cases q1 : ch T N (tkS T N p) = 99
      · rw [q1, if_pos rfl, if_neg (by decide), if_neg (by decide), if_neg (by decide), if_pos rfl, if_neg (by decide), if_neg (by decide), if_neg (by decide)]
        exact it_c hB hp hA h8 ht hn hD
      · rw [if_neg q1]
        by_cases q2 : ch T N (tkS T N p) = 103
        · rw [if_pos q2, if_pos q2, if_pos q2, g94, h9]
          by_cases z : it = 0
          · rw [if_pos (by rw [z]; rfl), if_pos (by rw [z]; rfl)]
            exact it_g hB hp hA h8 ht hn hD (hz z).1 (hz z).2
          · rw [if_neg (nI_ne0 (by omega) (by omega)), if_neg (nI_ne0 (by omega) (by omega))]
            exact bad
        · rw [if_neg q2, if_neg q2, if_neg q2]
          by_cases q3 : ch T N (tkS T N p) = 111
          · rw [if_pos q3, q3, if_neg (by decide), if_pos rfl, if_neg (by decide), if_pos rfl]
            exact it_o hB hp hA h8 ht hn hD
          · rw [if_neg q3]
            by_cases q4 : ch T N (tkS T N p) = 119
            · rw [if_pos q4, if_pos q4, if_pos q4, g95]
              rcases hD.2.2.2.2 with ⟨z1, z2, z3⟩ | ⟨z1, z2, z3⟩
              · rw [if_pos z1, z2, if_neg (by decide)]
                exact it_w hB hp hA h8 ht hn hD z1
              · rw [if_neg (by rw [z1]; decide), if_pos (show (0 : Int32) ≤ mg 13 by rw [z2]; rcases z3 with y | y <;> rw [y] <;> decide)]
                exact bad
            · rw [if_neg q4, if_neg q4, if_neg q3, if_neg q1]
              exact bad
    · have e7 : mg 7 = 0 := by rw [hm7, k2, if_neg c1]
      have e3' : g9 3 = -1 := by rw [e3]; unfold tv; rw [if_neg c1]
      rw [e7, e3', if_neg (by decide), if_neg (by decide), if_neg (by decide), if_neg (by decide), if_neg (by decide), if_neg (by decide), if_neg (by decide), if_neg (by decide)]
      exact bad
  · have hk : ¬ g9 2 = 1 := by rw [e2]; exact fun q => hl ((tok_1 _).mpr q)
    have hm : ¬ mg 6 = 1 := by
      rw [hm6]
      by_cases hf : fig (ch T N (tkS T N p)) = true
      · unfold tkK
        rw [if_neg hn, if_pos hf]
        intro q
        split at q
        · exact absurd q (by decide)
        · split at q
          · split at q <;> exact absurd q (by decide)
          · exact absurd q (by decide)
      · rw [k_oth hn hl hf]
        intro q
        split at q <;> exact absurd q (by decide)
    have jv : ∀ v, jn_X7_readItem_64 mg T sh v = (upd mg 8 1, sh) := fun v => by unfold jn_X7_readItem_64; rw [if_neg hm]
    unfold sp_X1_isItem sp_X7_readItem
    rw [if_neg hk, jv, jv]
    simp only [ite_self]
    exact bad
end IW
