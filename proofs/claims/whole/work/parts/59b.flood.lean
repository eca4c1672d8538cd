/-! the class' flooding -/
theorem adj_sy {i j : Nat} (h : adj i j) : adj j i := by
  rcases h with h | h | h | h
  · exact Or.inr (Or.inl h)
  · exact Or.inl h
  · exact Or.inr (Or.inr (Or.inr h))
  · exact Or.inr (Or.inr (Or.inl h))
theorem bes_bt {x : Int32} (hx : sm x) {i : Nat} (hi : i < 20) : bt (sp_X4_besideAny x) i = true ↔ ∃ j, j < 20 ∧ adj i j ∧ bt x j = true := by
  have e : sp_X4_besideAny x = ((sp_X4_rightOf x ||| sp_X4_leftOf x) ||| (x <<< ((5 : Int32) &&& 31))) ||| (ush x (5 : Int32)) := by
    unfold sp_X4_besideAny
    rw [nm_b, nm_b]
  rw [e, bt_or, bt_or, bt_or, right_bt hi, left_bt hx hi, up_bt (by omega), down_bt]
  simp only [Bool.or_eq_true, Bool.and_eq_true, decide_eq_true_eq]
  constructor
  · rintro (((⟨h1, h2⟩ | ⟨h1, h2⟩) | ⟨h1, h2⟩) | h2)
    · exact ⟨i - 1, by omega, Or.inr (Or.inl ⟨by omega, by omega⟩), h2⟩
    · refine ⟨i + 1, ?_, Or.inl ⟨rfl, h1⟩, h2⟩
      by_cases c : i + 1 < 20
      · exact c
      · rw [hx (i + 1) (by omega)] at h2; cases h2
    · exact ⟨i - 5, by omega, Or.inr (Or.inr (Or.inr (by omega))), h2⟩
    · refine ⟨i + 5, ?_, Or.inr (Or.inr (Or.inl rfl)), h2⟩
      by_cases c : i + 5 < 20
      · exact c
      · rw [hx (i + 5) (by omega)] at h2; cases h2
  · rintro ⟨j, hj, h | h | h | h, hb⟩
    · exact Or.inl (Or.inl (Or.inr ⟨h.2, by rw [← h.1]; exact hb⟩))
    · exact Or.inl (Or.inl (Or.inl ⟨by omega, by rw [show i - 1 = j by omega]; exact hb⟩))
    · exact Or.inr (by rw [← h]; exact hb)
    · exact Or.inl (Or.inr ⟨by omega, by rw [show i - 5 = j by omega]; exact hb⟩)
def fl_ (g x : Int32) : Nat → Int32
  | 0 => x
  | i + 1 => fl_ g x i ||| (sp_X4_besideAny (fl_ g x i) &&& g)
theorem fl_sm {g x : Int32} (hg : sm g) (hx : sm x) : ∀ i, sm (fl_ g x i)
  | 0 => hx
  | i + 1 => sm_or (fl_sm hg hx i) (sm_and2 hg)
theorem fl_eq (g x : Int32) : sp_X4_floodedOver g x = fl_ g x 20 := by
  have e : sp_X4_floodedOver g x = lp_X4_floodedOver_4 g (((20 : Int32).toInt - (0 : Int32).toInt).toNat + 1) x (0 : Int32) := by unfold sp_X4_floodedOver; exact nm_id _
  have hN : 20 < ((20 : Int32).toInt - (0 : Int32).toInt).toNat + 1 := by decide
  rw [e]
  generalize ((20 : Int32).toInt - (0 : Int32).toInt).toNat + 1 = N at hN ⊢
  have key := lpv (lp := fun n a y => lp_X4_floodedOver_4 g n a y) (N := 20) (P := fun i a => a = fl_ g x i) (fun n a _ => ?_) (fun n a i hi hp => ⟨fl_ g x (i + 1), rfl, ?_⟩) 20 0 N x rfl hN rfl
  · have key : lp_X4_floodedOver_4 g N x (nI 0) = fl_ g x 20 := key
    rw [nI_0] at key
    exact key
  · show lp_X4_floodedOver_4 g (n + 1) a (nI 20) = a
    rw [← lp_X4_floodedOver_4_s, if_pos (show (20 : Int32) ≤ nI 20 by decide)]
  · show lp_X4_floodedOver_4 g (n + 1) a (nI i) = lp_X4_floodedOver_4 g n (fl_ g x (i + 1)) (nI (i + 1))
    rw [← lp_X4_floodedOver_4_s, if_neg (show ¬ (20 : Int32) ≤ nI i from nI_ge (b := 20) hi (by decide)), nm_b, hp, ← nI_succ]
    rfl
theorem fl_in {g x : Int32} {k : Nat} (h : bt x k = true) : ∀ i, bt (fl_ g x i) k = true
  | 0 => h
  | i + 1 => by
    show bt (fl_ g x i ||| _) k = true
    rw [bt_or, fl_in h i]; rfl
theorem fl_cl {g x : Int32} (hg : sm g) (hx : sm x) {k j : Nat} (hk : k < 20) (hgk : bt g k = true) (hj : j < 20) (ha : adj k j) (hb : bt (fl_ g x 20) j = true) : bt (fl_ g x 20) k = true := by
  have hs := stab (S := fun i k => bt (fl_ g x i) k) (fun i k _ q => by
    show bt (fl_ g x i ||| _) k = true
    rw [bt_or, q]; rfl) (fun i he k hk => by
    have e : fl_ g x (i + 1) = fl_ g x i := bs (fl_sm hg hx _) (fl_sm hg hx _) he
    show bt (fl_ g x (i + 1) ||| (sp_X4_besideAny (fl_ g x (i + 1)) &&& g)) k = bt (fl_ g x (i + 1)) k
    rw [e]
    exact he k hk) 1 k hk
  have hs : bt (fl_ g x 21) k = bt (fl_ g x 20) k := hs
  rw [← hs]
  show bt (fl_ g x 20 ||| (sp_X4_besideAny (fl_ g x 20) &&& g)) k = true
  rw [bt_or, bt_and, hgk, (bes_bt (fl_sm hg hx 20) hk).mpr ⟨j, hj, ha, hb⟩]
  simp
theorem fl_ind {g x : Int32} (hg : sm g) (hx : sm x) {P : Nat → Prop} (h0 : ∀ k, bt x k = true → P k) (h1 : ∀ k j, k < 20 → bt g k = true → adj k j → P j → P k) : ∀ i k, bt (fl_ g x i) k = true → P k
  | 0, k, h => h0 k h
  | i + 1, k, h => by
    have h : bt (fl_ g x i ||| (sp_X4_besideAny (fl_ g x i) &&& g)) k = true := h
    rw [bt_or, Bool.or_eq_true, bt_and, Bool.and_eq_true] at h
    rcases h with h | ⟨h2, h3⟩
    · exact fl_ind hg hx h0 h1 i k h
    · have hk : k < 20 := by
        by_cases c : k < 20
        · exact c
        · rw [hg k (by omega)] at h3; cases h3
      obtain ⟨j, hj, ha, hb⟩ := (bes_bt (fl_sm hg hx i) hk).mp h2
      exact h1 k j hk h3 ha (fl_ind hg hx h0 h1 i j hb)
section FO
variable {w r : Nat} {V Hd : Nat → Nat → Int32} {b : Nat → Int32} {t : Nat}
def co (O : Int32) (k : Nat) : Nat := if bt O k = true then 1 else 0
theorem co1 (O : Int32) (k : Nat) : co O k ≤ 1 := by unfold co; split <;> omega
/-- what is seen from a closed set -/
theorem wk_R {O R : Int32} (hw : WR w r) (hcl : ∀ k j, k < 20 → dr w r t k → ¬ bt O k = true → j < 20 → adj k j → bt R j = true → bt R k = true) : ∀ (m v d : Nat), v < 20 → bt R v = true → wk w r t (co O) m v (co O v + d) → (∃ q, q < 20 ∧ bt R q = true ∧ dr w r t q ∧ q / 5 = t) ∨ (1 ≤ d ∧ ∃ u v', u < 20 ∧ v' < 20 ∧ dr w r t u ∧ adj u v' ∧ bt R v' = true ∧ Dn w r t (co O) u (co O u + (d - 1)))
  | 0, v, d, hv, hb, h => Or.inl ⟨v, hv, hb, h.1, h.2.1⟩
  | m + 1, v, d, hv, hb, h => by
    rcases h with h | ⟨h1, j, h2, h3, h4⟩
    · exact wk_R hw hcl m v d hv hb h
    · rw [Nat.add_sub_cancel_left] at h4
      obtain ⟨dj, cj⟩ := wk_dr h4
      have hj := dr_20 hw dj
      by_cases hO : bt O j = true
      · have e1 : co O j = 1 := by unfold co; rw [if_pos hO]
        rw [e1] at cj
        refine Or.inr ⟨cj, j, v, hj, hv, dj, adj_sy h2, hb, ⟨m, ?_⟩⟩
        rw [e1, show 1 + (d - 1) = d by omega]
        exact h4
      · have e0 : co O j = 0 := by unfold co; rw [if_neg hO]
        have hbj := hcl j v hj dj hO hv (adj_sy h2) hb
        refine wk_R hw hcl m j d hj hbj ?_
        rw [e0, Nat.zero_add]
        exact h4
theorem fo_loop (hw : WR w r) (S : SN w r t (V (11 * 0 + 10)) (Hd (11 * 0 + 10)) b) {r2 r3 O : Int32} (hO : O = r2 &&& (r3 ^^^ (-1 : Int32))) {s J : Nat} (ht : t < 4) (hJ : J ≤ 4) (ho : opt w r t (co O) s (co O s + J)) : ∀ (d n j : Nat) (y : Int32), j + d = J → d < n → sm y → (∀ v, bt y v = true → dr w r t v ∧ ∀ m, Dn w r t (co O) v (co O v + m) → Dn w r t (co O) s (co O s + j + m)) → (∃ v, v < 20 ∧ bt y v = true ∧ Dn w r t (co O) v (co O v + d)) → lp_X4_fewestOthers_42 V (11 * 0 + 10) (sp_X4_dryCells V (11 * 0 + 10)) r2 r3 n y (nI (co O s + j)) (nI j) = nI (co O s + J) := by
  intro d
  induction d with
  | zero =>
    intro n j y hj hn hy hsnd hcmp
    obtain ⟨n, rfl⟩ : ∃ m, n = m + 1 := ⟨n - 1, by omega⟩
    have hg : sm (sp_X4_dryCells V (11 * 0 + 10) &&& (O ^^^ (-1 : Int32))) := sm_and (dry_sm hw S)
    have gb : ∀ k, k < 20 → (bt (sp_X4_dryCells V (11 * 0 + 10) &&& (O ^^^ (-1 : Int32))) k = true ↔ dr w r t k ∧ ¬ bt O k = true) := fun k hk => by
      rw [bt_and, bt_not _ (by omega), dry_bt hw S (by omega)]; simp
    rw [← lp_X4_fewestOthers_42_s, if_neg (show ¬ (20 : Int32) ≤ nI j from nI_ge (b := 20) (by omega) (by decide)), ← hO, fl_eq, nm_b, nm_b, S.v4, S.b22]
    obtain ⟨v, hv, hbv, m, hm⟩ := hcmp
    have hcl : ∀ k j, k < 20 → dr w r t k → ¬ bt O k = true → j < 20 → adj k j → bt (fl_ (sp_X4_dryCells V (11 * 0 + 10) &&& (O ^^^ (-1 : Int32))) y 20) j = true → bt (fl_ (sp_X4_dryCells V (11 * 0 + 10) &&& (O ^^^ (-1 : Int32))) y 20) k = true := fun k j hk dk ok hj ha hb => fl_cl hg hy hk ((gb k hk).mpr ⟨dk, ok⟩) hj ha hb
    rcases wk_R hw hcl m v 0 hv (fl_in hbv 20) hm with ⟨q, q1, q2, q3, q4⟩ | ⟨h, _⟩
    · have hne : ¬ fl_ (sp_X4_dryCells V (11 * 0 + 10) &&& (O ^^^ (-1 : Int32))) y 20 &&& sp_X4_rowOf V (11 * 0 + 10) (nI t) = 0 := fun z => by
        have := (bt_eq0.mp z) q (by omega)
        rw [bt_and, q2, row_bt S.v0 hw.w5 ht (by omega), decide_eq_true (show q < 20 ∧ q / 5 = t ∧ q % 5 < w from ⟨q1, q4, q3.1⟩)] at this
        exact absurd this (by decide)
      rw [if_neg hne, show j = J by omega]
    · omega
  | succ d ih =>
    intro n j y hj hn hy hsnd hcmp
    obtain ⟨n, rfl⟩ : ∃ m, n = m + 1 := ⟨n - 1, by omega⟩
    have hg : sm (sp_X4_dryCells V (11 * 0 + 10) &&& (O ^^^ (-1 : Int32))) := sm_and (dry_sm hw S)
    have gb : ∀ k, k < 20 → (bt (sp_X4_dryCells V (11 * 0 + 10) &&& (O ^^^ (-1 : Int32))) k = true ↔ dr w r t k ∧ ¬ bt O k = true) := fun k hk => by
      rw [bt_and, bt_not _ (by omega), dry_bt hw S (by omega)]; simp
    rw [← lp_X4_fewestOthers_42_s, if_neg (show ¬ (20 : Int32) ≤ nI j from nI_ge (b := 20) (by omega) (by decide)), ← hO, fl_eq, nm_b, nm_b, S.v4, S.b22]
    obtain ⟨v, hv, hbv, m, hm⟩ := hcmp
    have hcl : ∀ k j, k < 20 → dr w r t k → ¬ bt O k = true → j < 20 → adj k j → bt (fl_ (sp_X4_dryCells V (11 * 0 + 10) &&& (O ^^^ (-1 : Int32))) y 20) j = true → bt (fl_ (sp_X4_dryCells V (11 * 0 + 10) &&& (O ^^^ (-1 : Int32))) y 20) k = true := fun k j hk dk ok hj ha hb => fl_cl hg hy hk ((gb k hk).mpr ⟨dk, ok⟩) hj ha hb
    have hRs : ∀ v, bt (fl_ (sp_X4_dryCells V (11 * 0 + 10) &&& (O ^^^ (-1 : Int32))) y 20) v = true → dr w r t v ∧ ∀ m, Dn w r t (co O) v (co O v + m) → Dn w r t (co O) s (co O s + j + m) := by
      refine fl_ind hg hy hsnd (fun k j' hk hgk ha hP => ?_) 20
      obtain ⟨dk, ok⟩ := (gb k hk).mp hgk
      have e0 : co O k = 0 := by unfold co; rw [if_neg ok]
      refine ⟨dk, fun m hm => hP.2 m ?_⟩
      rw [e0, Nat.zero_add] at hm
      exact Dn_s hP.1 (adj_sy ha) hm
    have hw1 := wk_R hw hcl m v (d + 1) hv (fl_in hbv 20) hm
    have hsm : sm (fl_ (sp_X4_dryCells V (11 * 0 + 10) &&& (O ^^^ (-1 : Int32))) y 20) := fl_sm hg hy 20
    generalize fl_ (sp_X4_dryCells V (11 * 0 + 10) &&& (O ^^^ (-1 : Int32))) y 20 = R at hRs hw1 hsm ⊢
    have hno : ¬ ∃ q, q < 20 ∧ bt R q = true ∧ dr w r t q ∧ q / 5 = t := by
      rintro ⟨q, q1, q2, q3, q4⟩
      have := ho _ ((hRs q q2).2 0 (Dn_g q3 q4))
      omega
    have he : R &&& sp_X4_rowOf V (11 * 0 + 10) (nI t) = 0 := by
      rw [bt_eq0]
      intro i hi
      rw [bt_and, row_bt S.v0 hw.w5 ht hi]
      cases hb : bt R i
      · rfl
      · refine decide_eq_false fun z => hno ⟨i, z.1, hb, (hRs i hb).1, z.2.1⟩
    rcases hw1 with h | ⟨_, u, v', hu, hv', du, ha, hb, hD⟩
    · exact absurd h hno
    · rw [if_pos he, nm_b, ← nI_succ, ← nI_succ]
      refine ih n (j + 1) _ (by omega) (by omega) (sm_or hsm (sm_and2 (dry_sm hw S))) (fun x hx => ?_) ⟨u, hu, ?_, hD⟩
      · rw [bt_or, Bool.or_eq_true, bt_and, Bool.and_eq_true] at hx
        rcases hx with hx | ⟨hx1, hx2⟩
        · exact ⟨(hRs x hx).1, fun m hm => Dn_mono ((hRs x hx).2 m hm) (by omega)⟩
        · have dx := (dry_iff hw S x).mp hx2
          obtain ⟨j', hj', ha', hb'⟩ := (bes_bt hsm (dr_20 hw dx)).mp hx1
          refine ⟨dx, fun m hm => ?_⟩
          have h1 := (hRs j' hb').2 _ (Dn_s (hRs j' hb').1 (adj_sy ha') hm)
          have := co1 O x
          exact Dn_mono h1 (by omega)
      · rw [bt_or, bt_and, (bes_bt hsm hu).mpr ⟨v', hv', ha, hb⟩, (dry_iff hw S u).mpr du]
        simp
/-- the class' answer is the least -/
theorem fo_eq (hw : WR w r) (S : SN w r t (V (11 * 0 + 10)) (Hd (11 * 0 + 10)) b) {f s n : Nat} (hf : f < 5) (hs : dr w r t s) (hd : Dn w r t (co (sp_X4_heldByAny Hd (11 * 0 + 10) &&& (Hd (11 * 0 + 10) f ^^^ (-1 : Int32)))) s n) (ho : opt w r t (co (sp_X4_heldByAny Hd (11 * 0 + 10) &&& (Hd (11 * 0 + 10) f ^^^ (-1 : Int32)))) s n) (hn : n ≤ 4) : sp_X4_fewestOthers V Hd (11 * 0 + 10) (nI f) ((1 : Int32) <<< (nI s &&& 31)) = nI n := by
  have s20 := dr_20 hw hs
  have ht : t < 4 := by
    have h1 := hs.2.1
    have h2 := hs.2.2
    have := hw.r4
    omega
  obtain ⟨O, hO⟩ : ∃ O, O = sp_X4_heldByAny Hd (11 * 0 + 10) &&& (Hd (11 * 0 + 10) f ^^^ (-1 : Int32)) := ⟨_, rfl⟩
  rw [← hO] at hd ho
  obtain ⟨J, hJ⟩ : ∃ J, n = co O s + J := ⟨n - co O s, by have := (Dn_dr hd).2; omega⟩
  subst hJ
  have hF : 20 < ((20 : Int32).toInt - (0 : Int32).toInt).toNat + 1 := by decide
  have main := fo_loop hw S hO (s := s) (J := J) ht (by omega) ho J (((20 : Int32).toInt - (0 : Int32).toInt).toNat + 1) 0 ((1 : Int32) <<< (nI s &&& 31)) (by omega) (by omega) (sm_bit s20) (fun v hv => by
    have hv2 : v < 32 := by
      by_cases c : v < 32
      · exact c
      · rw [bt_ge (by omega)] at hv; cases hv
    rw [bt_bit (by omega) hv2, decide_eq_true_iff] at hv
    subst hv
    exact ⟨hs, fun m hm => by rw [Nat.add_zero]; exact hm⟩) ⟨s, s20, by rw [bt_bit (by omega) (by omega)]; simp, hd⟩
  rw [Nat.add_zero, nI_0] at main
  unfold sp_X4_fewestOthers jn_X4_fewestOthers_34
  rw [nm_b, nm_b, nm_b, nm_b, nm_b, wh_eq hf, ← hO, oi0, oi1]
  by_cases c : bt O s = true
  · have e1 : co O s = 1 := by unfold co; rw [if_pos c]
    rw [if_neg (show ¬ ((1 : Int32) <<< (nI s &&& 31)) &&& O = 0 from fun z => by
      have := (bt_eq0.mp z) s (by omega)
      rw [bt_and, bt_bit (by omega) (by omega), c] at this
      simp at this)]
    rw [e1] at main ⊢
    exact main
  · have e0 : co O s = 0 := by unfold co; rw [if_neg c]
    rw [if_pos (show ((1 : Int32) <<< (nI s &&& 31)) &&& O = 0 from bt_eq0.mpr fun i hi => by
      rw [bt_and, bt_bit (by omega) hi]
      by_cases e : i = s
      · subst e
        cases hb : bt O i
        · simp
        · exact absurd hb c
      · simp [e])]
    rw [e0] at main ⊢
    exact main
end FO
