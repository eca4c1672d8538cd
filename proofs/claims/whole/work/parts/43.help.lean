section HE
variable {w r : Nat} {g tb : Nat → Int32} {V Hd : Nat → Nat → Int32} {tr : Int64} {mg st im ke se tx : Nat → Int32} {mt : Int64}
theorem nm_c {α β : Type} (v : α) (k : α → β) {T : β} (e : k v = T) : nm v k = T := e
theorem rem5 {k : Nat} (hk : k < 1000) : rem (nI k) (5 : Int32) = nI (k % 5) := pk_rem (d := 5) (by omega) (by decide) (by decide)
theorem div5 {k : Nat} (hk : k < 1000) : nI k / (5 : Int32) = nI (k / 5) := pk_div (d := 5) (by omega) (by decide) (by decide)
/-- a cell by its number -/
theorem gic (hw : WR w r) (h0 : mg 0 = nI w) (h1 : mg 1 = nI r) {k : Nat} (hk : k < 1000) : sp_X7_isCell mg (rem (nI k) (5 : Int32)) (nI k / (5 : Int32)) = if gr w r k then 1 else 0 := by
  have w5 := hw.w5
  have r4 := hw.r4
  rw [rem5 hk, div5 hk]
  by_cases c : gr w r k
  · rw [if_pos c]; exact ic_1 hw h0 h1 c.1 c.2
  · rw [if_neg c]
    rcases ic_of hw h0 h1 (nI (k % 5)) (nI (k / 5)) with z | ⟨_, i, j, hi, hj, ei, ej⟩
    · exact z
    · have a1 := (nI_eq (by omega) (by omega)).mp ei
      have a2 := (nI_eq (by omega) (by omega)).mp ej
      exact absurd ⟨by omega, by omega⟩ c
theorem ct_mono {p q : Nat → Bool} : ∀ {n : Nat}, (∀ i, i < n → p i = true → q i = true) → ct p n ≤ ct q n
  | 0, _ => Nat.le_refl _
  | n + 1, h => by
    have h1 := ct_mono (n := n) (fun i hi => h i (by omega))
    have h2 := h n (by omega)
    show ct p n + _ ≤ ct q n + _
    by_cases c : p n = true
    · rw [if_pos c, if_pos (h2 c)]; omega
    · rw [if_neg c]; omega
theorem stl_mono {t : Nat} {c c' b : Int32} (h : ∀ i, bt c i = true → bt c' i = true) {k : Nat} (hs : stl w r t c b k) : stl w r t c' b k := by
  refine ⟨hs.1, ?_⟩
  rcases hs.2 with ⟨h1, h2⟩ | ⟨h1, h2⟩
  · rcases h2 with ⟨a, e⟩ | ⟨a, e⟩
    · exact Or.inl ⟨h1, Or.inl ⟨a, h _ e⟩⟩
    · exact Or.inl ⟨h1, Or.inr ⟨a, h _ e⟩⟩
  · rcases h2 with e | ⟨a, e⟩
    · exact Or.inr ⟨h1, Or.inl (h _ e)⟩
    · exact Or.inr ⟨h1, Or.inr ⟨a, h _ e⟩⟩
theorem bare0 (hw : WR w r) {t : Nat} (S : SN w r t (V (11 * 0 + 10)) (Hd (11 * 0 + 10)) st) {k : Nat} (hk : k < 20) : sp_X4_bareCells V (11 * 0 + 10) &&& ((1 : Int32) <<< (nI k &&& 31)) = 0 ↔ ¬ (dr w r t k ∧ ¬ bt (st 20) k = true) := by
  have e : sp_X4_bareCells V (11 * 0 + 10) = sp_X4_dryCells V (11 * 0 + 10) &&& (V (11 * 0 + 10) 2 ^^^ (-1 : Int32)) := rfl
  rw [cl0 (by omega), e, bt_and, S.v2, bt_not _ (by omega), dry_bt hw S (by omega)]
  simp
theorem cok_or {t k : Nat} {v hh : Nat → Int32} (S : SN w r t v hh st) (hk : k < 20) (hg : gr w r k) : cok w r (st 20 ||| ((1 : Int32) <<< (nI k &&& 31))) := by
  intro i hi
  rw [bt_or, Bool.or_eq_true] at hi
  rcases hi with z | z
  · exact cloth_gr S i z
  · by_cases c : i < 32
    · rw [bt_bit (by omega) c, decide_eq_true_iff] at z
      subst z
      exact ⟨hk, hg⟩
    · rw [bt_ge (by omega)] at z; cases z
/-- how many cells are sheltered with cloth c -/
def shn (mg st : Nat → Int32) (f : Nat) (c : Int32) : Nat := cn (sp_X7_heldBy st (nI f) &&& sp_X7_stillOnes mg st c (st 21))
theorem shn_mono (h : RE w r g tb V Hd tr mg st im ke se tx mt) {t : Nat} (S : SN w r t (V (11 * 0 + 10)) (Hd (11 * 0 + 10)) st) {f : Nat} {c c' : Int32} (hc : ∀ i, bt c i = true → bt c' i = true) : shn mg st f c ≤ shn mg st f c' := by
  unfold shn cn
  refine ct_mono (fun i hi hp => ?_)
  rw [bt_and, Bool.and_eq_true] at hp ⊢
  refine ⟨hp.1, ?_⟩
  rw [so_bt h.1.1 h.1.2.1 h.1.2.2 S.b22 S.tr (by omega)] at hp ⊢
  exact stl_mono hc hp.2
/-- the one loop and the other -/
def HI (mg st : Nat → Int32) (f : Nat) (b M M' : Int32) : Prop := (b = -9 ∧ M = -1 ∧ M' = -1) ∨ ∃ k, k < 20 ∧ b = nI k ∧ M = nI (shn mg st f (st 20 ||| ((1 : Int32) <<< (nI k &&& 31)))) ∧ M' = nI (shn mg st f (st 20 ||| ((1 : Int32) <<< (nI k &&& 31))) - shn mg st f (st 20)) ∧ shn mg st f (st 20) ≤ shn mg st f (st 20 ||| ((1 : Int32) <<< (nI k &&& 31))) ∧ gr w r k
theorem shn20 (f : Nat) (c : Int32) : shn mg st f c ≤ 20 := cn_le _
theorem hlp (h : RE w r g tb V Hd tr mg st im ke se tx mt) {t : Nat} (S : SN w r t (V (11 * 0 + 10)) (Hd (11 * 0 + 10)) st) {f : Nat} (hf : f < 5) : ∀ (c j n : Nat), j + c = 20 → c < n → ∀ b M M', HI (w := w) (r := r) mg st f b M M' → ∃ b' M1 M1', HI (w := w) (r := r) mg st f b' M1 M1' ∧ lp_X4_bestCloth_8 V Hd (11 * 0 + 10) (nI f) n b M (nI j) = b' ∧ lp_X7_help_59 mg st (sp_X7_heldBy st (nI f)) (nI (shn mg st f (st 20))) n b M' (nI j) = (b', M1') := by
  have hw := h.1.1
  have r4 := hw.r4
  have htr := S.tr
  intro c
  induction c with
  | zero =>
    intro j n hj hn b M M' I
    obtain ⟨m, rfl⟩ : ∃ m, n = m + 1 := ⟨n - 1, by omega⟩
    have e : j = 20 := by omega
    subst e
    refine ⟨b, M, M', I, ?_, ?_⟩
    · rw [← lp_X4_bestCloth_8_s, if_pos (show (20 : Int32) ≤ nI 20 by decide)]
    · rw [← lp_X7_help_59_s, if_pos (show (20 : Int32) ≤ nI 20 by decide)]
  | succ c ih =>
    intro j n hj hn b M M' I
    obtain ⟨m, rfl⟩ : ∃ m, n = m + 1 := ⟨n - 1, by omega⟩
    have c1 : ¬ (20 : Int32) ≤ nI j := nI_ge (b := 20) (by omega) (by decide)
    have hjd : j / 5 < 4 := by omega
    rw [← lp_X4_bestCloth_8_s, ← lp_X7_help_59_s, if_neg c1, if_neg c1, gic hw h.1.2.1 h.1.2.2 (by omega), idry S.b22 (by omega) (by omega), c20, c21, has_eq (by omega), S.v2, ← nI_succ]
    dsimp only [nm]
    by_cases q1 : gr w r j
    · by_cases q2 : t ≤ j / 5
      · have hd : dr w r t j := ⟨q1.1, q2, q1.2⟩
        rw [if_pos q1, if_pos q2, if_neg (show ¬ (1 : Int32) = 0 by decide), if_neg (show ¬ (1 : Int32) = 0 by decide)]
        by_cases q3 : bt (st 20) j = true
        · rw [if_pos q3, if_neg (show ¬ (1 : Int32) = 0 by decide), if_pos ((bare0 hw S (by omega)).mpr (fun z => z.2 q3))]
          exact ih (j + 1) m (by omega) (by omega) b M M' I
        · rw [if_neg q3, if_pos (show (0 : Int32) = 0 from rfl), if_neg (show ¬ sp_X4_bareCells V (11 * 0 + 10) &&& ((1 : Int32) <<< (nI j &&& 31)) = 0 from fun z => (bare0 hw S (by omega)).mp z ⟨hd, q3⟩), shw h S (cok_or S (by omega) q1) hf, bits_eq]
          have hmo : shn mg st f (st 20) ≤ shn mg st f (st 20 ||| ((1 : Int32) <<< (nI j &&& 31))) := shn_mono h S (fun i hi => by rw [bt_or, hi]; rfl)
          have h20 := shn20 (mg := mg) (st := st) f (st 20 ||| ((1 : Int32) <<< (nI j &&& 31)))
          have ea : cn (sp_X7_heldBy st (nI f) &&& sp_X7_stillOnes mg st (st 20 ||| ((1 : Int32) <<< (nI j &&& 31))) (st 21)) = shn mg st f (st 20 ||| ((1 : Int32) <<< (nI j &&& 31))) := rfl
          rw [ea]
          have I' : HI (w := w) (r := r) mg st f (nI j) (nI (shn mg st f (st 20 ||| ((1 : Int32) <<< (nI j &&& 31))))) (nI (shn mg st f (st 20 ||| ((1 : Int32) <<< (nI j &&& 31))) - shn mg st f (st 20))) := Or.inr ⟨j, by omega, rfl, rfl, rfl, hmo, q1⟩
          generalize hA : shn mg st f (st 20 ||| ((1 : Int32) <<< (nI j &&& 31))) = A at hmo h20 I' ⊢
          rw [pk_sub hmo]
          have hcmp : nI A ≤ M ↔ nI (A - shn mg st f (st 20)) ≤ M' := by
            rcases I with ⟨_, z2, z3⟩ | ⟨k, hk, _, z2, z3, z4, _⟩
            · rw [z2, z3]
              constructor
              · intro z; rw [Int32.le_iff_toInt_le, nI_toInt (by omega)] at z; have : (-1 : Int32).toInt = -1 := by decide
                omega
              · intro z; rw [Int32.le_iff_toInt_le, nI_toInt (by omega)] at z; have : (-1 : Int32).toInt = -1 := by decide
                omega
            · have k20 := shn20 (mg := mg) (st := st) f (st 20 ||| ((1 : Int32) <<< (nI k &&& 31)))
              rw [z2, z3, nI_leI (by omega) (by omega), nI_leI (by omega) (by omega)]
              omega
          unfold jn_X7_help_152
          by_cases q4 : nI A ≤ M
          · rw [if_pos q4, if_pos (hcmp.mp q4), pk_sub hmo, if_pos (hcmp.mp q4), ← nI_succ]
            exact ih (j + 1) m (by omega) (by omega) b M M' I
          · have q5 : ¬ nI (A - shn mg st f (st 20)) ≤ M' := fun z => q4 (hcmp.mpr z)
            rw [if_neg q4, if_neg q5, pk_sub hmo, if_neg q5, ← nI_succ]
            exact ih (j + 1) m (by omega) (by omega) _ _ _ I'
      · have hd : ¬ dr w r t j := fun z => q2 z.2.1
        rw [if_pos q1, if_neg q2, if_neg (show ¬ (1 : Int32) = 0 by decide), if_pos (show (0 : Int32) = 0 from rfl), if_pos ((bare0 hw S (by omega)).mpr (fun z => hd z.1))]
        exact ih (j + 1) m (by omega) (by omega) b M M' I
    · have hd : ¬ dr w r t j := fun z => q1 ⟨z.1, z.2.2⟩
      rw [if_neg q1, if_pos (show (0 : Int32) = 0 from rfl), if_pos ((bare0 hw S (by omega)).mpr (fun z => hd z.1))]
      exact ih (j + 1) m (by omega) (by omega) b M M' I
theorem help_ok (h : RE w r g tb V Hd tr mg st im ke se tx mt) (x1 x2 : Int32) : sp_X6_help V Hd x1 x2 = sp_X7_help mg st x1 x2 := by
  unfold sp_X6_help sp_X7_help
  dsimp only [nm, nm2]
  rw [fam_eq, within_in]
  rcases fam_of x1 with hf | ⟨hf, f, hf5, rfl⟩
  · rw [if_pos hf, if_pos hf]
  have nf : ¬ sp_X7_isFamily (nI f) = 0 := by rw [hf]; decide
  rw [if_neg nf, if_neg nf]
  rcases in_of2 x2 (n := 1) (by decide) with hs | ⟨hs, s, hs1, rfl⟩
  · have hs : sp_X7_in x2 0 1 = 0 := hs
    rw [if_pos hs, if_pos hs]
  have hs : sp_X7_in (nI s) 0 1 = 1 := hs
  have ns : ¬ sp_X7_in (nI s) 0 1 = 0 := by rw [hs]; decide
  rw [if_neg ns, if_neg ns]
  obtain ⟨t, S⟩ := h.now
  rw [c20, c21, sho h S hf5, bits_eq]
  have e0 : nI (cn (sp_X7_heldBy st (nI f) &&& sp_X7_stillOnes mg st (st 20) (st 21))) = nI (shn mg st f (st 20)) := rfl
  rw [e0]
  have eb : sp_X4_bestCloth V Hd (11 * 0 + 10) (nI f) = lp_X4_bestCloth_8 V Hd (11 * 0 + 10) (nI f) (((20 : Int32).toInt - (0 : Int32).toInt).toNat + 1) (-9 : Int32) (-1 : Int32) (0 : Int32) := by unfold sp_X4_bestCloth; exact nm_id _
  rw [eb]
  have hn : 20 < ((20 : Int32).toInt - (0 : Int32).toInt).toNat + 1 := by decide
  generalize ((20 : Int32).toInt - (0 : Int32).toInt).toNat + 1 = N at hn ⊢
  obtain ⟨b', M1, M1', I, l1, l2⟩ := hlp h S hf5 20 0 N rfl hn (-9) (-1) (-1) (Or.inl ⟨rfl, rfl, rfl⟩)
  rw [nI_0] at l1 l2
  rw [l1, l2]
  dsimp only
  rcases I with ⟨z1, z2, z3⟩ | ⟨k, hk, z1, z2, z3, z4, z5⟩
  · rw [z1, if_pos rfl, if_pos (by decide)]
  · rw [z1, if_neg (show ¬ nI k = (-9 : Int32) from fun z => by have := nI_pos (n := k) (by omega); rw [z] at this; exact this (by decide)), if_neg (nI_pos (by omega)), S.v2, shw h S (cok_or S hk z5) hf5, bits_eq, z3, ← pk_sub z4]
    rfl
end HE
