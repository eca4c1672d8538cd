section FA
variable {w r : Nat} {g tb : Nat → Int32} {V Hd : Nat → Nat → Int32} {tr : Int64} {mg st im ke se tx : Nat → Int32} {mt : Int64}
/-- cloth as asked for -/
def cok (w r : Nat) (c : Int32) : Prop := ∀ i, bt c i = true → i < 20 ∧ gr w r i
theorem sw_sm (h : RE w r g tb V Hd tr mg st im ke se tx mt) {t : Nat} (S : SN w r t (V (11 * 0 + 10)) (Hd (11 * 0 + 10)) st) {c : Int32} (hc : cok w r c) (b : Int32) : sp_X4_stillWith V (11 * 0 + 10) c b = sp_X7_stillOnes mg st c b := bxi fun i hi => by
  rw [sw_bt h.1.1 S hc]
  exact (so_bt h.1.1 h.1.2.1 h.1.2.2 S.b22 S.tr hi).symm
theorem shw (h : RE w r g tb V Hd tr mg st im ke se tx mt) {t : Nat} (S : SN w r t (V (11 * 0 + 10)) (Hd (11 * 0 + 10)) st) {c : Int32} (hc : cok w r c) {f : Nat} (hf : f < 5) : sp_X4_shelterWith V Hd (11 * 0 + 10) (nI f) c = sp_X7_bits (sp_X7_heldBy st (nI f) &&& sp_X7_stillOnes mg st c (st 21)) := by
  unfold sp_X4_shelterWith
  dsimp only [nm]
  rw [wh_eq hf, hb_eq S (fun _ _ => rfl) hf, S.v3, sw_sm h S hc, pop_eq (sm_and (held_sm S hf)), bits_eq]
theorem cok_st {t : Nat} (S : SN w r t (V (11 * 0 + 10)) (Hd (11 * 0 + 10)) st) : cok w r (st 20) := cloth_gr S
theorem sho (h : RE w r g tb V Hd tr mg st im ke se tx mt) {t : Nat} (S : SN w r t (V (11 * 0 + 10)) (Hd (11 * 0 + 10)) st) {f : Nat} (hf : f < 5) : sp_X4_shelterOf V Hd (11 * 0 + 10) (nI f) = sp_X7_bits (sp_X7_heldBy st (nI f) &&& sp_X7_stillOnes mg st (st 20) (st 21)) := by
  unfold sp_X4_shelterOf
  dsimp only [nm]
  rw [S.v2]
  exact shw h S (cok_st S) hf
/-! loses -/
theorem lo_none {s : Int32} (hz : ∀ k, k < 20 → ¬ bt s k = true) : ∀ (c j n : Nat), j + c = 20 → c < n → lp_X7_losesOf_8 st s n (nI j) = -9 := by
  intro c
  induction c with
  | zero =>
    intro j n hj hn
    obtain ⟨m, rfl⟩ : ∃ m, n = m + 1 := ⟨n - 1, by omega⟩
    have e : j = 20 := by omega
    subst e
    show (if (20 : Int32) ≤ nI 20 then (-9 : Int32) else _) = _
    rw [if_pos (by decide)]
  | succ c ih =>
    intro j n hj hn
    obtain ⟨m, rfl⟩ : ∃ m, n = m + 1 := ⟨n - 1, by omega⟩
    have c1 : ¬ (20 : Int32) ≤ nI j := nI_ge (b := 20) (by omega) (by decide)
    show (if (20 : Int32) ≤ nI j then (-9 : Int32) else nm (sp_X7_has s (nI j)) (fun r_4 => if r_4 = 0 then (lp_X7_losesOf_8 st s m (nI j + 1)) else (((nI j / (5 : Int32)) - (st (22 : Int32).toNatClampNeg)) + (1 : Int32)))) = _
    rw [if_neg c1, has_eq (by omega), if_neg (hz j (by omega)), ← nI_succ]
    dsimp only [nm]
    rw [if_pos rfl]
    exact ih (j + 1) m (by omega) (by omega)
theorem lo_some {s : Int32} {k0 : Nat} (hk : k0 < 20) (hs : bt s k0 = true) (hz : ∀ k, k < k0 → ¬ bt s k = true) : ∀ (c j n : Nat), j + c = k0 → c < n → lp_X7_losesOf_8 st s n (nI j) = nI (k0 / 5) - st 22 + 1 := by
  intro c
  induction c with
  | zero =>
    intro j n hj hn
    obtain ⟨m, rfl⟩ : ∃ m, n = m + 1 := ⟨n - 1, by omega⟩
    have e : j = k0 := by omega
    subst e
    have c1 : ¬ (20 : Int32) ≤ nI j := nI_ge (b := 20) (by omega) (by decide)
    show (if (20 : Int32) ≤ nI j then (-9 : Int32) else nm (sp_X7_has s (nI j)) (fun r_4 => if r_4 = 0 then (lp_X7_losesOf_8 st s m (nI j + 1)) else (((nI j / (5 : Int32)) - (st (22 : Int32).toNatClampNeg)) + (1 : Int32)))) = _
    rw [if_neg c1, has_eq (by omega), if_pos hs, c22, show (5 : Int32) = nI 5 from rfl, pk_div (by omega) (by decide) (by decide)]
    dsimp only [nm]
    rw [if_neg (by decide)]
  | succ c ih =>
    intro j n hj hn
    obtain ⟨m, rfl⟩ : ∃ m, n = m + 1 := ⟨n - 1, by omega⟩
    have c1 : ¬ (20 : Int32) ≤ nI j := nI_ge (b := 20) (by omega) (by decide)
    show (if (20 : Int32) ≤ nI j then (-9 : Int32) else nm (sp_X7_has s (nI j)) (fun r_4 => if r_4 = 0 then (lp_X7_losesOf_8 st s m (nI j + 1)) else (((nI j / (5 : Int32)) - (st (22 : Int32).toNatClampNeg)) + (1 : Int32)))) = _
    rw [if_neg c1, has_eq (by omega), if_neg (hz j (by omega)), ← nI_succ]
    dsimp only [nm]
    rw [if_pos rfl]
    exact ih (j + 1) m (by omega) (by omega)
theorem row0 (hw : WR w r) {t : Nat} (S : SN w r t (V (11 * 0 + 10)) (Hd (11 * 0 + 10)) st) {f y : Nat} (hf : f < 5) (hy : y < 4) : Hd (11 * 0 + 10) f &&& sp_X4_rowOf V (11 * 0 + 10) (nI y) = 0 ↔ ∀ k, k < 20 → k / 5 = y → ¬ bt (Hd (11 * 0 + 10) f) k = true := by
  rw [bt_eq0]
  constructor
  · intro z k hk hy2 hb
    have hz0 := z k (by omega)
    rw [bt_and, hb, row_bt S.v0 hw.w5 hy (by omega)] at hz0
    obtain ⟨q, hq5, hbq, hqd⟩ := S.hold k hk
    have hh := S.held f hf k
    rw [hb] at hh
    have hh := of_decide_eq_true hh.symm
    rw [hbq] at hh
    have := (nI_eq (by omega) (by omega)).mp hh.2
    have hd := (hqd (by omega)).1
    rw [decide_eq_true (show k < 20 ∧ k / 5 = y ∧ k % 5 < w from ⟨hk, hy2, hd⟩)] at hz0
    exact absurd hz0 (by decide)
  · intro z i hi
    rw [bt_and, row_bt S.v0 hw.w5 hy hi]
    by_cases c : i < 20 ∧ i / 5 = y ∧ i % 5 < w
    · have := z i c.1 c.2.1
      simp at this
      simp [this]
    · simp only [c, decide_false, Bool.and_false]
theorem la_none (hw : WR w r) {t : Nat} (S : SN w r t (V (11 * 0 + 10)) (Hd (11 * 0 + 10)) st) {f : Nat} (hf : f < 5) (hz : ∀ k, k < 20 → ¬ bt (Hd (11 * 0 + 10) f) k = true) : ∀ (c j n : Nat), j + c = r → c < n → lp_X4_losesAfter_5 V Hd (11 * 0 + 10) (nI f) n (nI j) = -9 := by
  have r4 := hw.r4
  intro c
  induction c with
  | zero =>
    intro j n hj hn
    obtain ⟨m, rfl⟩ : ∃ m, n = m + 1 := ⟨n - 1, by omega⟩
    have e : j = r := by omega
    subst e
    show (if V (11 * 0 + 10) 1 ≤ nI j then (-9 : Int32) else _) = _
    rw [S.v1, if_pos ((leI).mpr (Nat.le_refl _))]
  | succ c ih =>
    intro j n hj hn
    obtain ⟨m, rfl⟩ : ∃ m, n = m + 1 := ⟨n - 1, by omega⟩
    have c1 : ¬ nI r ≤ nI j := nI_ge (by omega) (by omega)
    show (if V (11 * 0 + 10) 1 ≤ nI j then (-9 : Int32) else nm (sp_X4_heldBy Hd (11 * 0 + 10) (nI f)) (fun r_3 => nm (sp_X4_rowOf V (11 * 0 + 10) (nI j)) (fun r_4 => if (r_3 &&& r_4) = 0 then (lp_X4_losesAfter_5 V Hd (11 * 0 + 10) (nI f) m (nI j + 1)) else ((nI j + (1 : Int32)) - (V (11 * 0 + 10) 4))))) = _
    rw [S.v1, if_neg c1, wh_eq hf, ← nI_succ]
    dsimp only [nm]
    rw [if_pos ((row0 hw S hf (by omega)).mpr (fun k hk _ => hz k hk))]
    exact ih (j + 1) m (by omega) (by omega)
theorem la_some (hw : WR w r) {t : Nat} (S : SN w r t (V (11 * 0 + 10)) (Hd (11 * 0 + 10)) st) {f k0 : Nat} (hf : f < 5) (hk : k0 < 20) (hk2 : k0 / 5 < r) (hs : bt (Hd (11 * 0 + 10) f) k0 = true) (hz : ∀ k, k < k0 → ¬ bt (Hd (11 * 0 + 10) f) k = true) : ∀ (c j n : Nat), j + c = k0 / 5 → c < n → lp_X4_losesAfter_5 V Hd (11 * 0 + 10) (nI f) n (nI j) = nI (k0 / 5) + 1 - nI t := by
  have r4 := hw.r4
  intro c
  induction c with
  | zero =>
    intro j n hj hn
    obtain ⟨m, rfl⟩ : ∃ m, n = m + 1 := ⟨n - 1, by omega⟩
    have e : j = k0 / 5 := by omega
    subst e
    have c1 : ¬ nI r ≤ nI (k0 / 5) := nI_ge (by omega) (by omega)
    show (if V (11 * 0 + 10) 1 ≤ nI (k0 / 5) then (-9 : Int32) else nm (sp_X4_heldBy Hd (11 * 0 + 10) (nI f)) (fun r_3 => nm (sp_X4_rowOf V (11 * 0 + 10) (nI (k0 / 5))) (fun r_4 => if (r_3 &&& r_4) = 0 then (lp_X4_losesAfter_5 V Hd (11 * 0 + 10) (nI f) m (nI (k0 / 5) + 1)) else ((nI (k0 / 5) + (1 : Int32)) - (V (11 * 0 + 10) 4))))) = _
    rw [S.v1, if_neg c1, wh_eq hf, S.v4, S.b22]
    dsimp only [nm]
    rw [if_neg (fun z => (row0 hw S hf (by omega)).mp z k0 hk rfl hs)]
  | succ c ih =>
    intro j n hj hn
    obtain ⟨m, rfl⟩ : ∃ m, n = m + 1 := ⟨n - 1, by omega⟩
    have c1 : ¬ nI r ≤ nI j := nI_ge (by omega) (by omega)
    show (if V (11 * 0 + 10) 1 ≤ nI j then (-9 : Int32) else nm (sp_X4_heldBy Hd (11 * 0 + 10) (nI f)) (fun r_3 => nm (sp_X4_rowOf V (11 * 0 + 10) (nI j)) (fun r_4 => if (r_3 &&& r_4) = 0 then (lp_X4_losesAfter_5 V Hd (11 * 0 + 10) (nI f) m (nI j + 1)) else ((nI j + (1 : Int32)) - (V (11 * 0 + 10) 4))))) = _
    rw [S.v1, if_neg c1, wh_eq hf, ← nI_succ]
    dsimp only [nm]
    rw [if_pos ((row0 hw S hf (by omega)).mpr (fun k hk hy => hz k (by omega)))]
    exact ih (j + 1) m (by omega) (by omega)
theorem loses_eq (h : RE w r g tb V Hd tr mg st im ke se tx mt) {t : Nat} (S : SN w r t (V (11 * 0 + 10)) (Hd (11 * 0 + 10)) st) {f : Nat} (hf : f < 5) : sp_X4_losesAfter V Hd (11 * 0 + 10) (nI f) = sp_X7_losesOf st (nI f) := by
  have hw := h.1.1
  have r4 := hw.r4
  have htr := S.tr
  unfold sp_X4_losesAfter sp_X7_losesOf
  dsimp only [nm]
  rw [hb_eq S (fun _ _ => rfl) hf, S.v1, S.v4, S.b22, nI_toI (by omega), nI_toI (by omega)]
  have hfu : r - t < ((r : Int) - (t : Int)).toNat + 1 := by omega
  generalize ((r : Int) - (t : Int)).toNat + 1 = F at hfu ⊢
  by_cases hex : ∃ k, k < 20 ∧ bt (Hd (11 * 0 + 10) f) k = true
  · obtain ⟨k0, ⟨hk, hs⟩, hl⟩ := pk_least (fun k => k < 20 ∧ bt (Hd (11 * 0 + 10) f) k = true) hex
    have hz : ∀ k, k < k0 → ¬ bt (Hd (11 * 0 + 10) f) k = true := fun k hk2 hb => hl k hk2 ⟨by omega, hb⟩
    obtain ⟨q, hq5, hbq, hqd⟩ := S.hold k0 hk
    have hh := S.held f hf k0
    rw [hs] at hh
    have hh := of_decide_eq_true hh.symm
    rw [hbq] at hh
    have hq := (nI_eq (by omega) (by omega)).mp hh.2
    have hd := hqd (by omega)
    have hd1 := hd.2.1
    have hd2 := hd.2.2
    have e1 := la_some hw S hf hk hd2 hs hz (k0 / 5 - t) t F (by omega) (by omega)
    have e2 := lo_some (st := st) hk hs hz k0 0 (((20 : Int32).toInt - (0 : Int32).toInt).toNat + 1) (by omega) (Nat.lt_of_lt_of_le hk (by decide))
    rw [nI_0] at e2
    rw [e1, e2]
    rw [S.b22, pk_sub hd1, ← nI_succ, ← nI_succ, pk_sub (by omega), show k0 / 5 + 1 - t = k0 / 5 - t + 1 by omega]
  · have hz : ∀ k, k < 20 → ¬ bt (Hd (11 * 0 + 10) f) k = true := fun k hk hb => hex ⟨k, hk, hb⟩
    have e1 := la_none hw S hf hz (r - t) t F (by omega) hfu
    have e2 := lo_none (st := st) hz 20 0 (((20 : Int32).toInt - (0 : Int32).toInt).toNat + 1) rfl (by decide)
    rw [nI_0] at e2
    rw [e1, e2]
theorem family_ok (h : RE w r g tb V Hd tr mg st im ke se tx mt) (x1 x2 : Int32) : sp_X6_family V Hd x1 x2 = sp_X7_family mg st x1 x2 := by
  unfold sp_X6_family sp_X7_family
  dsimp only [nm]
  rw [fam_eq]
  rcases fam_of x1 with hf | ⟨hf, f, hf5, rfl⟩
  · rw [if_pos hf, if_pos hf]
  have nf : ¬ sp_X7_isFamily (nI f) = 0 := by rw [hf]; decide
  rw [if_neg nf, if_neg nf]
  obtain ⟨t, S⟩ := h.now
  rw [wh_eq hf5, sho h S hf5, loses_eq h S hf5, c20, c21, hb_eq S (fun _ _ => rfl) hf5]
end FA
