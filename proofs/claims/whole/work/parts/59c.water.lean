/-! the reference's water -/
section LB
variable {w r t : Nat} {mg st fa : Nat → Int32} {c : Nat → Nat}
def upv (mg fa : Nat → Int32) (l ax ay : Int32) : Int32 := if sp_X7_isCell mg ax ay = 0 then l else if l ≤ fa (((5 : Int32) * ay) + ax).toNatClampNeg then l else fa (((5 : Int32) * ay) + ax).toNatClampNeg
theorem jn58_e (rc : Int32 → Int32 → Int32) (x1 x2 y1 y2 v5 v6 : Int32) : jn_X7_leastBeside_58 rc mg fa x1 x2 y1 y2 v5 v6 = rc (upv mg fa y1 (x1 + v5) (x2 + v6)) (y2 + 1) := by
  unfold jn_X7_leastBeside_58 jn_X7_leastBeside_93 upv
  rw [nm_b, nm_b]
  by_cases c1 : sp_X7_isCell mg (x1 + v5) (x2 + v6) = 0
  · rw [if_pos c1, if_pos c1, if_pos rfl]
  · rw [if_neg c1, if_neg c1]
    by_cases c2 : y1 ≤ fa (((5 : Int32) * (x2 + v6)) + (x1 + v5)).toNatClampNeg
    · rw [if_pos c2, if_pos c2, if_pos rfl]
    · rw [if_neg c2, if_neg c2, if_neg (by decide)]
theorem lb_e (x y : Int32) : sp_X7_leastBeside mg fa x y = upv mg fa (upv mg fa (upv mg fa (upv mg fa 100 (x + 1) (y + 0)) (x + (-1)) (y + 0)) (x + 0) (y + 1)) (x + 0) (y + (-1)) := by
  have e : sp_X7_leastBeside mg fa x y = lp_X7_leastBeside_6 mg fa x y (((4 : Int32).toInt - (0 : Int32).toInt).toNat + 1) (100 : Int32) (0 : Int32) := by unfold sp_X7_leastBeside; exact nm_id _
  have hn : ((4 : Int32).toInt - (0 : Int32).toInt).toNat + 1 = 4 + 1 := by decide
  rw [e, hn]
  have a1 : (0 : Int32) + 1 = 1 := by decide
  have a2 : (1 : Int32) + 1 = 2 := by decide
  have a3 : (2 : Int32) + 1 = 3 := by decide
  have a4 : (3 : Int32) + 1 = 4 := by decide
  rw [← lp_X7_leastBeside_6_s, if_neg (show ¬ (4 : Int32) ≤ 0 by decide), if_pos rfl]
  unfold jn_X7_leastBeside_33
  rw [if_neg (show ¬ (0 : Int32) = 2 by decide), if_neg (show ¬ (0 : Int32) = 3 by decide), jn58_e, a1]
  rw [← lp_X7_leastBeside_6_s (n := 3), if_neg (show ¬ (4 : Int32) ≤ 1 by decide), if_neg (show ¬ (1 : Int32) = 0 by decide), if_pos rfl]
  unfold jn_X7_leastBeside_33
  rw [if_neg (show ¬ (1 : Int32) = 2 by decide), if_neg (show ¬ (1 : Int32) = 3 by decide), jn58_e, a2]
  rw [← lp_X7_leastBeside_6_s (n := 2), if_neg (show ¬ (4 : Int32) ≤ 2 by decide), if_neg (show ¬ (2 : Int32) = 0 by decide), if_neg (show ¬ (2 : Int32) = 1 by decide)]
  unfold jn_X7_leastBeside_33
  rw [if_pos rfl, jn58_e, a3]
  rw [← lp_X7_leastBeside_6_s (n := 1), if_neg (show ¬ (4 : Int32) ≤ 3 by decide), if_neg (show ¬ (3 : Int32) = 0 by decide), if_neg (show ¬ (3 : Int32) = 1 by decide)]
  unfold jn_X7_leastBeside_33
  rw [if_neg (show ¬ (3 : Int32) = 2 by decide), if_pos rfl, jn58_e, a4]
  rw [← lp_X7_leastBeside_6_s (n := 0), if_pos (show (4 : Int32) ≤ 4 by decide)]
/-- the numbers of far -/
def FV (w r t : Nat) (c : Nat → Nat) (fa : Nat → Int32) (va : Nat → Nat) : Prop := ∀ k, k < 20 → fa k = nI (va k) ∧ va k ≤ 100 ∧ (va k < 100 → Dn w r t c k (va k))
variable {va : Nat → Nat}
theorem up_1 (hF : FV w r t c fa va) {l q i j : Nat} (hl : l ≤ 100) (hq : q < 20) (hc : sp_X7_isCell mg (nI i) (nI j) = 1) (hk : 5 * j + i = q) : ∃ l', l' ≤ l ∧ upv mg fa (nI l) (nI i) (nI j) = nI l' ∧ l' ≤ va q ∧ (l' = l ∨ l' = va q) := by
  obtain ⟨f1, f2, _⟩ := hF q hq
  unfold upv
  rw [hc, if_neg (by decide), k_eq, hk, nI_clamp (by omega), f1]
  by_cases h : l ≤ va q
  · rw [if_pos ((nI_leI (by omega) (by omega)).mpr h)]
    exact ⟨l, Nat.le_refl _, rfl, h, Or.inl rfl⟩
  · rw [if_neg (fun z => h ((nI_leI (by omega) (by omega)).mp z))]
    exact ⟨va q, by omega, rfl, Nat.le_refl _, Or.inr rfl⟩
theorem up_0 {l ax ay : Int32} (hc : sp_X7_isCell mg ax ay = 0) : upv mg fa l ax ay = l := by unfold upv; rw [if_pos hc]
theorem ic_ny {x y : Int32} (hy : y < 0) : sp_X7_isCell mg x y = 0 := by
  unfold sp_X7_isCell
  rw [nm_b, nm_b]
  have e : sp_X7_in y 0 (mg 1 - 1) = 0 := by unfold sp_X7_in; rw [if_pos hy]
  rw [e, if_pos rfl, ite_self]
theorem m1I {i : Nat} (hi : 1 ≤ i) : nI i + (-1 : Int32) = nI (i - 1) := by
  have := pk_m1 (i - 1)
  rw [show i - 1 + 1 = i by omega] at this
  exact this
theorem p0I (x : Int32) : x + (0 : Int32) = x := Int32.add_zero x
theorem lb_ok (hw : WR w r) (h0 : mg 0 = nI w) (h1 : mg 1 = nI r) (hF : FV w r t c fa va) {i j : Nat} (hi : i < w) (hj : j < r) : ∃ L, L ≤ 100 ∧ sp_X7_leastBeside mg fa (nI i) (nI j) = nI L ∧ (∀ q, q < 20 → adj (5 * j + i) q → gr w r q → L ≤ va q) ∧ (L = 100 ∨ ∃ q, q < 20 ∧ adj (5 * j + i) q ∧ gr w r q ∧ va q = L) := by
  have w5 := hw.w5
  have r4 := hw.r4
  have d1 : ∀ l, l ≤ 100 → ∃ l', l' ≤ l ∧ upv mg fa (nI l) (nI i + 1) (nI j + 0) = nI l' ∧ (i + 1 < w → l' ≤ va (5 * j + i + 1)) ∧ (l' = l ∨ (i + 1 < w ∧ l' = va (5 * j + i + 1))) := by
    intro l hl
    rw [p0I, ← nI_succ]
    by_cases z : i + 1 < w
    · obtain ⟨l', a1, a2, a3, a4⟩ := up_1 (mg := mg) (l := l) (q := 5 * j + i + 1) (i := i + 1) (j := j) hF hl (by omega) (ic_1 hw h0 h1 z hj) (by omega)
      exact ⟨l', a1, a2, fun _ => a3, a4.imp id (fun q => ⟨z, q⟩)⟩
    · refine ⟨l, Nat.le_refl _, up_0 ?_, fun q => absurd q z, Or.inl rfl⟩
      rw [ic_if hw h0 h1 (by omega) (by omega), if_neg (fun q => z q.1)]
  have d2 : ∀ l, l ≤ 100 → ∃ l', l' ≤ l ∧ upv mg fa (nI l) (nI i + (-1)) (nI j + 0) = nI l' ∧ (1 ≤ i → l' ≤ va (5 * j + i - 1)) ∧ (l' = l ∨ (1 ≤ i ∧ l' = va (5 * j + i - 1))) := by
    intro l hl
    rw [p0I]
    by_cases z : 1 ≤ i
    · rw [m1I z]
      obtain ⟨l', a1, a2, a3, a4⟩ := up_1 (mg := mg) (l := l) (q := 5 * j + i - 1) (i := i - 1) (j := j) hF hl (by omega) (ic_1 hw h0 h1 (by omega) hj) (by omega)
      exact ⟨l', a1, a2, fun _ => a3, a4.imp id (fun q => ⟨z, q⟩)⟩
    · refine ⟨l, Nat.le_refl _, up_0 (ic_n ?_), fun q => absurd q z, Or.inl rfl⟩
      rw [show i = 0 by omega]; decide
  have d3 : ∀ l, l ≤ 100 → ∃ l', l' ≤ l ∧ upv mg fa (nI l) (nI i + 0) (nI j + 1) = nI l' ∧ (j + 1 < r → l' ≤ va (5 * j + i + 5)) ∧ (l' = l ∨ (j + 1 < r ∧ l' = va (5 * j + i + 5))) := by
    intro l hl
    rw [p0I, ← nI_succ]
    by_cases z : j + 1 < r
    · obtain ⟨l', a1, a2, a3, a4⟩ := up_1 (mg := mg) (l := l) (q := 5 * j + i + 5) (i := i) (j := j + 1) hF hl (by omega) (ic_1 hw h0 h1 hi z) (by omega)
      exact ⟨l', a1, a2, fun _ => a3, a4.imp id (fun q => ⟨z, q⟩)⟩
    · refine ⟨l, Nat.le_refl _, up_0 ?_, fun q => absurd q z, Or.inl rfl⟩
      rw [ic_if hw h0 h1 (by omega) (by omega), if_neg (fun q => z q.2)]
  have d4 : ∀ l, l ≤ 100 → ∃ l', l' ≤ l ∧ upv mg fa (nI l) (nI i + 0) (nI j + (-1)) = nI l' ∧ (1 ≤ j → l' ≤ va (5 * j + i - 5)) ∧ (l' = l ∨ (1 ≤ j ∧ l' = va (5 * j + i - 5))) := by
    intro l hl
    rw [p0I]
    by_cases z : 1 ≤ j
    · rw [m1I z]
      obtain ⟨l', a1, a2, a3, a4⟩ := up_1 (mg := mg) (l := l) (q := 5 * j + i - 5) (i := i) (j := j - 1) hF hl (by omega) (ic_1 hw h0 h1 hi (by omega)) (by omega)
      exact ⟨l', a1, a2, fun _ => a3, a4.imp id (fun q => ⟨z, q⟩)⟩
    · refine ⟨l, Nat.le_refl _, up_0 (ic_ny ?_), fun q => absurd q z, Or.inl rfl⟩
      rw [show j = 0 by omega]; decide
  obtain ⟨l1, a1, b1, c1, e1⟩ := d1 100 (by omega)
  obtain ⟨l2, a2, b2, c2, e2⟩ := d2 l1 (by omega)
  obtain ⟨l3, a3, b3, c3, e3⟩ := d3 l2 (by omega)
  obtain ⟨l4, a4, b4, c4, e4⟩ := d4 l3 (by omega)
  refine ⟨l4, by omega, ?_, fun q hq ha hg => ?_, ?_⟩
  · have b1 : upv mg fa (100 : Int32) (nI i + 1) (nI j + 0) = nI l1 := b1
    rw [lb_e, b1, b2, b3, b4]
  · have g1 := hg.1
    have g2 := hg.2
    rcases ha with ⟨z1, z2⟩ | ⟨z1, z2⟩ | z | z
    · have := c1 (by omega); rw [z1]; omega
    · have := c2 (by omega); rw [show q = 5 * j + i - 1 by omega]; omega
    · have := c3 (by omega); rw [z]; omega
    · have := c4 (by omega); rw [show q = 5 * j + i - 5 by omega]; omega
  · rcases e4 with e4 | ⟨z, e4⟩
    · rcases e3 with e3 | ⟨z, e3⟩
      · rcases e2 with e2 | ⟨z, e2⟩
        · rcases e1 with e1 | ⟨z, e1⟩
          · exact Or.inl (by omega)
          · exact Or.inr ⟨5 * j + i + 1, by omega, Or.inl ⟨rfl, by omega⟩, ⟨by omega, by omega⟩, by omega⟩
        · exact Or.inr ⟨5 * j + i - 1, by omega, Or.inr (Or.inl ⟨by omega, by omega⟩), ⟨by omega, by omega⟩, by omega⟩
      · exact Or.inr ⟨5 * j + i + 5, by omega, Or.inr (Or.inr (Or.inl rfl)), ⟨by omega, by omega⟩, by omega⟩
    · exact Or.inr ⟨5 * j + i - 5, by omega, Or.inr (Or.inr (Or.inr (by omega))), ⟨by omega, by omega⟩, by omega⟩
end LB
section FF
variable {w r t f : Nat} {mg st : Nat → Int32} {c : Nat → Nat}
/-- one round -/
theorem rd67 (hw : WR w r) (h0 : mg 0 = nI w) (h1 : mg 1 = nI r) (ht : st 22 = nI t) (ht4 : t ≤ 4) (hco : ∀ k, k < 20 → sp_X7_costOf st (nI f) (nI k) = nI (c k)) (hc1 : ∀ k, c k ≤ 1) {fa0 : Nat → Int32} {va0 : Nat → Nat} (hF : FV w r t c fa0 va0) {m : Nat} (hm : ∀ q, q < 20 → ∀ n, wk w r t c m q n → opt w r t c q n → va0 q ≤ n) {N : Nat} (hN : 20 < N) : ∃ va, FV w r t c (lp_X7_findFar_67 mg st (nI f) N (nI 0) fa0) va ∧ ∀ q, q < 20 → ∀ n, wk w r t c (m + 1) q n → opt w r t c q n → va q ≤ n := by
  have w5 := hw.w5
  have r4 := hw.r4
  have key := lpv (lp := fun n (a : Nat → Int32) y => lp_X7_findFar_67 mg st (nI f) n y a) (N := 20) (P := fun i a => ∃ va, FV w r t c a va ∧ (∀ q, q < 20 → va q ≤ va0 q) ∧ ∀ q, q < i → ∀ n, wk w r t c (m + 1) q n → opt w r t c q n → va q ≤ n) (fun n a _ => ?_) (fun n a i hi hp => ?_) 20 0 N fa0 rfl hN ⟨va0, hF, fun _ _ => Nat.le_refl _, fun q hq => absurd hq (Nat.not_lt_zero _)⟩
  · obtain ⟨va, k1, _, k3⟩ := key
    exact ⟨va, k1, k3⟩
  · show lp_X7_findFar_67 mg st (nI f) (n + 1) (nI 20) a = a
    rw [← lp_X7_findFar_67_s, if_pos (show (20 : Int32) ≤ nI 20 by decide)]
  · obtain ⟨va, p1, p2, p3⟩ := hp
    show ∃ a', (∃ va, FV w r t c a' va ∧ (∀ q, q < 20 → va q ≤ va0 q) ∧ ∀ q, q < i + 1 → ∀ n, wk w r t c (m + 1) q n → opt w r t c q n → va q ≤ n) ∧ lp_X7_findFar_67 mg st (nI f) (n + 1) (nI i) a = lp_X7_findFar_67 mg st (nI f) n (nI (i + 1)) a'
    rw [← lp_X7_findFar_67_s, if_neg (show ¬ (20 : Int32) ≤ nI i from nI_ge (b := 20) hi (by decide)), gic hw h0 h1 (by omega), nm_b, idry ht (by omega) (by omega), nm_b, rem5 (by omega), div5 (by omega), hco i hi, ← nI_succ]
    have no : ¬ dr w r t i → ∃ va, FV w r t c a va ∧ (∀ q, q < 20 → va q ≤ va0 q) ∧ ∀ q, q < i + 1 → ∀ n, wk w r t c (m + 1) q n → opt w r t c q n → va q ≤ n := fun hn => ⟨va, p1, p2, fun q hq n hk ho => by
      by_cases e : q = i
      · subst e; exact absurd (wk_dr hk).1 hn
      · exact p3 q (by omega) n hk ho⟩
    by_cases q1 : gr w r i
    · rw [if_pos q1, if_neg (show ¬ (1 : Int32) = 0 by decide)]
      by_cases q2 : t ≤ i / 5
      · rw [if_pos q2, if_neg (show ¬ (1 : Int32) = 0 by decide), nm_b, nm_b]
        have hd : dr w r t i := ⟨q1.1, q2, q1.2⟩
        obtain ⟨L, l1, l2, l3, l4⟩ := lb_ok (t := t) (c := c) hw h0 h1 p1 (i := i % 5) (j := i / 5) q1.1 q1.2
        rw [show 5 * (i / 5) + i % 5 = i by omega] at l3 l4
        obtain ⟨f1, f2, f3⟩ := p1 i hi
        have hci := hc1 i
        rw [l2, nI_add, nI_clamp (by omega), f1]
        have tgt : ∀ v, v ≤ va i → v ≤ L + c i → ∀ n, wk w r t c (m + 1) i n → opt w r t c i n → v ≤ n := by
          intro v hv1 hv2 n hk ho
          rcases hk with hk | ⟨_, j, ha, hcn, hk⟩
          · have := hm i hi n hk ho
            have := p2 i hi
            omega
          · have dj := (wk_dr hk).1
            have hj := dr_20 hw dj
            have h3 := hm j hj _ hk (opt_nx hd ha ho)
            have h4 := p2 j hj
            have h5 := l3 j hj ha (dr_gr dj)
            omega
        by_cases q3 : va i ≤ L + c i
        · rw [if_pos ((nI_leI (by omega) (by omega)).mpr q3), ← f1, upd_id rfl]
          refine ⟨a, ⟨va, p1, p2, fun q hq n hk ho => ?_⟩, rfl⟩
          by_cases e : q = i
          · subst e; exact tgt _ (Nat.le_refl _) q3 n hk ho
          · exact p3 q (by omega) n hk ho
        · rw [if_neg (fun z => q3 ((nI_leI (by omega) (by omega)).mp z))]
          refine ⟨_, ⟨fun k => if k = i then L + c i else va k, fun k hk => ?_, fun q hq => ?_, fun q hq n hk ho => ?_⟩, rfl⟩
          · by_cases e : k = i
            · subst e
              rw [pk_us]
              dsimp only
              rw [if_pos rfl]
              refine ⟨rfl, by omega, fun _ => ?_⟩
              rcases l4 with l4 | ⟨q, hq, ha, hg, hv⟩
              · omega
              · have := (p1 q hq).2.2 (by omega)
                rw [hv] at this
                rw [Nat.add_comm]
                exact Dn_s hd ha this
            · rw [pk_un e]
              dsimp only
              rw [if_neg e]
              exact p1 k hk
          · dsimp only
            by_cases e : q = i
            · subst e
              rw [if_pos rfl]
              have := p2 q hq
              omega
            · rw [if_neg e]; exact p2 q hq
          · dsimp only
            by_cases e : q = i
            · subst e
              rw [if_pos rfl]
              exact tgt _ (by omega) (Nat.le_refl _) n hk ho
            · rw [if_neg e]; exact p3 q (by omega) n hk ho
      · rw [if_neg q2, if_pos rfl]
        exact ⟨a, no (fun z => q2 z.2.1), rfl⟩
    · rw [if_neg q1, if_pos rfl]
      exact ⟨a, no (fun z => q1 ⟨z.1, z.2.2⟩), rfl⟩
/-- the beginning -/
theorem rd2f (hw : WR w r) (h0 : mg 0 = nI w) (h1 : mg 1 = nI r) (ht : st 22 = nI t) (ht4 : t ≤ 4) (hco : ∀ k, k < 20 → sp_X7_costOf st (nI f) (nI k) = nI (c k)) {N : Nat} (hN : 20 < N) (fa : Nat → Int32) : ∀ k, k < 20 → lp_X7_findFar_2 mg st (nI f) N (nI 0) fa k = nI (if gr w r k ∧ k / 5 = t then c k else 100) := by
  have key := lpv (lp := fun n (a : Nat → Int32) y => lp_X7_findFar_2 mg st (nI f) n y a) (N := 20) (P := fun i a => ∀ k, k < i → a k = nI (if gr w r k ∧ k / 5 = t then c k else 100)) (fun n a _ => ?_) (fun n a i hi hp => ⟨upd a i (nI (if gr w r i ∧ i / 5 = t then c i else 100)), fun k hk => ?_, ?_⟩) 20 0 N fa rfl hN (fun k hk => absurd hk (Nat.not_lt_zero _))
  · exact key
  · show lp_X7_findFar_2 mg st (nI f) (n + 1) (nI 20) a = a
    rw [← lp_X7_findFar_2_s, if_pos (show (20 : Int32) ≤ nI 20 by decide)]
  · by_cases e : k = i
    · subst e; exact pk_us
    · rw [pk_un e]; exact hp k (by omega)
  · show lp_X7_findFar_2 mg st (nI f) (n + 1) (nI i) a = lp_X7_findFar_2 mg st (nI f) n (nI (i + 1)) _
    rw [← lp_X7_findFar_2_s, if_neg (show ¬ (20 : Int32) ≤ nI i from nI_ge (b := 20) hi (by decide)), gic hw h0 h1 (by omega), nm_b, nm_b, div5 (by omega), hco i hi, c22, ht, nI_clamp (by omega), ← nI_succ]
    by_cases q1 : gr w r i
    · rw [if_pos q1, if_neg (show ¬ (1 : Int32) = 0 by decide)]
      by_cases q2 : i / 5 = t
      · rw [if_pos (by rw [q2]), if_pos ⟨q1, q2⟩]
      · rw [if_neg (fun z => q2 ((nI_eq (by omega) (by omega)).mp z)), if_neg (fun z => q2 z.2)]
        rfl
    · rw [if_neg q1, if_pos rfl, if_neg (fun z => q1 z.1)]
      rfl
/-- the reference's answer is the least -/
theorem ff_eq (hw : WR w r) (h0 : mg 0 = nI w) (h1 : mg 1 = nI r) (ht : st 22 = nI t) (ht4 : t ≤ 4) (hco : ∀ k, k < 20 → sp_X7_costOf st (nI f) (nI k) = nI (c k)) (hc1 : ∀ k, c k ≤ 1) (fa : Nat → Int32) {s n : Nat} (hs : dr w r t s) (hd : Dn w r t c s n) (ho : opt w r t c s n) (hn : n ≤ 4) : sp_X7_findFar mg st fa (nI f) s = nI n := by
  have hN : 20 < ((20 : Int32).toInt - (0 : Int32).toInt).toNat + 1 := by decide
  have e : sp_X7_findFar mg st fa (nI f) = lp_X7_findFar_59 mg st (nI f) (((20 : Int32).toInt - (0 : Int32).toInt).toNat + 1) (0 : Int32) (lp_X7_findFar_2 mg st (nI f) (((20 : Int32).toInt - (0 : Int32).toInt).toNat + 1) (0 : Int32) fa) := by
    unfold sp_X7_findFar
    rw [nm_b, nm_id]
  have e67 : ∀ (n : Nat) (y : Int32) (a : Nat → Int32), lp_X7_findFar_59 mg st (nI f) (n + 1) y a = if (20 : Int32) ≤ y then a else (nm (lp_X7_findFar_67 mg st (nI f) (((20 : Int32).toInt - (0 : Int32).toInt).toNat + 1) (0 : Int32) a) (fun e_15 => lp_X7_findFar_59 mg st (nI f) n (y + 1) e_15)) := fun n y a => (lp_X7_findFar_59_s mg st (nI f) n y a).symm
  generalize ((20 : Int32).toInt - (0 : Int32).toInt).toNat + 1 = N at hN e e67
  have hi := rd2f hw h0 h1 ht ht4 hco hN fa
  rw [nI_0] at hi
  rw [e]
  generalize lp_X7_findFar_2 mg st (nI f) N (0 : Int32) fa = fa0 at hi
  have key := lpv (lp := fun n (a : Nat → Int32) y => lp_X7_findFar_59 mg st (nI f) n y a) (N := 20) (P := fun i a => ∃ va, FV w r t c a va ∧ ∀ q, q < 20 → ∀ n, wk w r t c i q n → opt w r t c q n → va q ≤ n) (fun n a _ => ?_) (fun n a i hi2 hp => ?_) 20 0 N fa0 rfl hN ⟨fun k => if gr w r k ∧ k / 5 = t then c k else 100, fun k hk => ⟨hi k hk, ?_, fun hv => ?_⟩, fun q hq n hk _ => ?_⟩
  · obtain ⟨va, k1, k2⟩ := key
    have s20 := dr_20 hw hs
    have h2 := k2 s s20 n (wk20 hw hd ho) ho
    obtain ⟨f1, f2, f3⟩ := k1 s s20
    have h3 := ho _ (f3 (by omega))
    have f1 : lp_X7_findFar_59 mg st (nI f) N (nI 0) fa0 s = nI (va s) := f1
    rw [nI_0] at f1
    rw [f1]
    congr 1
    omega
  · show lp_X7_findFar_59 mg st (nI f) (n + 1) (nI 20) a = a
    rw [e67, if_pos (show (20 : Int32) ≤ nI 20 by decide)]
  · obtain ⟨va, p1, p2⟩ := hp
    have hr := rd67 hw h0 h1 ht ht4 hco hc1 p1 p2 hN
    rw [nI_0] at hr
    refine ⟨_, hr, ?_⟩
    show lp_X7_findFar_59 mg st (nI f) (n + 1) (nI i) a = lp_X7_findFar_59 mg st (nI f) n (nI (i + 1)) _
    rw [e67, if_neg (show ¬ (20 : Int32) ≤ nI i from nI_ge (b := 20) hi2 (by decide)), nm_b, ← nI_succ]
  · dsimp only
    have := hc1 k
    split <;> omega
  · dsimp only at hv ⊢
    by_cases z : gr w r k ∧ k / 5 = t
    · rw [if_pos z]
      exact Dn_g ⟨z.1.1, by omega, z.1.2⟩ z.2
    · rw [if_neg z] at hv; omega
  · dsimp only
    obtain ⟨d1, d2, d3⟩ := hk
    rw [if_pos ⟨dr_gr d1, d2⟩]
    exact d3
end FF
section WF
variable {w r : Nat} {g tb : Nat → Int32} {V Hd : Nat → Nat → Int32} {tr : Int64} {mg st im ke se tx sh fa : Nat → Int32} {mt : Int64}
theorem cost_eq {t f k : Nat} (S : SN w r t (V (11 * 0 + 10)) (Hd (11 * 0 + 10)) st) (hf : f < 5) (hk : k < 20) : sp_X7_costOf st (nI f) (nI k) = nI (co (sp_X4_heldByAny Hd (11 * 0 + 10) &&& (Hd (11 * 0 + 10) f ^^^ (-1 : Int32))) k) := by
  have hb : bt (sp_X4_heldByAny Hd (11 * 0 + 10) &&& (Hd (11 * 0 + 10) f ^^^ (-1 : Int32))) k = true ↔ ¬ st k = 0 ∧ ¬ st k = nI (f + 1) := by
    rw [bt_and, bt_not _ (by omega), Bool.and_eq_true, any_bt S k, S.held f hf k]
    constructor
    · rintro ⟨⟨_, a⟩, b⟩
      refine ⟨a, fun z => ?_⟩
      rw [decide_eq_true (show k < 20 ∧ st k = nI (f + 1) from ⟨hk, z⟩)] at b
      exact absurd b (by decide)
    · rintro ⟨a, b⟩
      refine ⟨⟨hk, a⟩, ?_⟩
      rw [decide_eq_false (fun z : k < 20 ∧ st k = nI (f + 1) => b z.2)]
      rfl
  unfold sp_X7_costOf co
  rw [nI_clamp (by omega), ← nI_succ]
  by_cases a : st k = 0
  · rw [if_pos a, if_neg (fun z => (hb.mp z).1 a)]; rfl
  · rw [if_neg a]
    by_cases b : st k = nI (f + 1)
    · rw [if_pos b, if_neg (fun z => (hb.mp z).2 b)]; rfl
    · rw [if_neg b, if_pos (hb.mpr ⟨a, b⟩)]; rfl
theorem water_ok (h : RE w r g tb V Hd tr mg st im ke se tx mt) (x1 x2 x3 : Int32) : sp_X6_water V Hd x1 x2 x3 = (sp_X7_water mg st fa x1 x2 x3).1 := by
  obtain ⟨e1, e2⟩ := ic_x h x2 x3
  unfold sp_X6_water sp_X7_water
  rw [nm_b (sp_X6_isFamily x1), nm_b (sp_X7_isFamily x1), fam_eq]
  rcases fam_of x1 with hf | ⟨hf, f, hf5, rfl⟩
  · rw [if_pos hf, if_pos hf]
  have nf : ¬ sp_X7_isFamily (nI f) = 0 := by rw [hf]; decide
  rw [if_neg nf, if_neg nf, nm_b (sp_X4_isCell V (11 * 0 + 10) x2 x3), nm_b (sp_X7_isCell mg x2 x3), e1]
  rcases e2 with hc | ⟨hc, i, j, hi, hj, rfl, rfl⟩
  · rw [if_pos hc, if_pos hc]
  have nc : ¬ sp_X7_isCell mg (nI i) (nI j) = 0 := by rw [hc]; decide
  obtain ⟨t, S⟩ := h.now
  have hw := h.1.1
  obtain ⟨k20, kg, km, kd⟩ := gr_k hw hi hj
  have r4 := hw.r4
  have htr := S.tr
  rw [if_neg nc, if_neg nc, k_eq, idry S.b22 (by omega) (by omega), nm_b (sp_X6_bitOf (nI i) (nI j)), nm_b (sp_X4_dryCells V (11 * 0 + 10)), bit_eq, kd, nm_id]
  by_cases hd : t ≤ j
  · have hdr : dr w r t (5 * j + i) := ⟨by rw [km]; exact hi, by rw [kd]; exact hd, by rw [kd]; exact hj⟩
    rw [if_neg (show ¬ (sp_X4_dryCells V (11 * 0 + 10) &&& ((1 : Int32) <<< (nI (5 * j + i) &&& 31)) = 0) from fun z => (dry0 hw S (by omega)).mp z hdr), if_pos hd, nm_b (1 : Int32), if_neg (show ¬ (1 : Int32) = 0 by decide), nm_b (sp_X7_findFar mg st fa (nI f))]
    have hdn : Dn w r t (co (sp_X4_heldByAny Hd (11 * 0 + 10) &&& (Hd (11 * 0 + 10) f ^^^ (-1 : Int32)))) (5 * j + i) ((5 * j + i) / 5 - t + 1) := Dn_down (co1 _) ((5 * j + i) / 5 - t) _ hdr (by have := hdr.2.1; omega)
    obtain ⟨n, hn, hl⟩ := pk_least (fun n => Dn w r t (co (sp_X4_heldByAny Hd (11 * 0 + 10) &&& (Hd (11 * 0 + 10) f ^^^ (-1 : Int32)))) (5 * j + i) n) ⟨_, hdn⟩
    have ho : opt w r t (co (sp_X4_heldByAny Hd (11 * 0 + 10) &&& (Hd (11 * 0 + 10) f ^^^ (-1 : Int32)))) (5 * j + i) n := fun n' hn' => by
      rcases Nat.lt_or_ge n' n with q | q
      · exact absurd hn' (hl n' q)
      · exact q
    have hn4 : n ≤ 4 := by
      have := ho _ hdn
      omega
    rw [fo_eq hw S hf5 hdr hn ho hn4]
    dsimp only
    rw [nI_clamp (by omega), ff_eq hw h.1.2.1 h.1.2.2 S.b22 (by omega) (fun k hk => cost_eq S hf5 hk) (co1 _) fa hdr hn ho hn4]
  · have hdr : ¬ dr w r t (5 * j + i) := fun z => hd (by have := z.2.1; omega)
    rw [if_pos ((dry0 hw S (by omega)).mpr hdr), if_neg hd, nm_b (0 : Int32), if_pos rfl]
end WF
