/-! one time of the strand, by the class and by the reference -/
abbrev gr (w r : Nat) (i : Nat) : Prop := i % 5 < w ∧ i / 5 < r
abbrev dr (w r t : Nat) (i : Nat) : Prop := i % 5 < w ∧ t ≤ i / 5 ∧ i / 5 < r
def WR (w r : Nat) : Prop := 1 ≤ w ∧ w ≤ 5 ∧ 1 ≤ r ∧ r ≤ 4
theorem WR.w1 {w r : Nat} (h : WR w r) : 1 ≤ w := h.1
theorem WR.w5 {w r : Nat} (h : WR w r) : w ≤ 5 := h.2.1
theorem WR.r1 {w r : Nat} (h : WR w r) : 1 ≤ r := h.2.2.1
theorem WR.r4 {w r : Nat} (h : WR w r) : r ≤ 4 := h.2.2.2
def SN (w r t : Nat) (v h b : Nat → Int32) : Prop := (v 0 = nI w ∧ v 1 = nI r ∧ v 2 = b 20 ∧ v 3 = b 21 ∧ v 4 = b 22) ∧ (b 22 = nI t ∧ t ≤ r ∧ (b 21 = 0 ∨ b 21 = 1)) ∧
  (∀ f, f < 5 → ∀ i, bt (h f) i = decide (i < 20 ∧ b i = nI (f + 1))) ∧ (∀ k, k < 20 → ∃ q, q ≤ 5 ∧ b k = nI q ∧ (0 < q → dr w r t k)) ∧ (∀ i, bt (b 20) i = true → i < 20 ∧ dr w r t i)
section SNP
variable {w r t : Nat} {v h b : Nat → Int32}
theorem SN.v0 (S : SN w r t v h b) : v 0 = nI w := S.1.1
theorem SN.v1 (S : SN w r t v h b) : v 1 = nI r := S.1.2.1
theorem SN.v2 (S : SN w r t v h b) : v 2 = b 20 := S.1.2.2.1
theorem SN.v3 (S : SN w r t v h b) : v 3 = b 21 := S.1.2.2.2.1
theorem SN.v4 (S : SN w r t v h b) : v 4 = b 22 := S.1.2.2.2.2
theorem SN.b22 (S : SN w r t v h b) : b 22 = nI t := S.2.1.1
theorem SN.tr (S : SN w r t v h b) : t ≤ r := S.2.1.2.1
theorem SN.b21 (S : SN w r t v h b) : b 21 = 0 ∨ b 21 = 1 := S.2.1.2.2
theorem SN.held (S : SN w r t v h b) : ∀ f, f < 5 → ∀ i, bt (h f) i = decide (i < 20 ∧ b i = nI (f + 1)) := S.2.2.1
theorem SN.hold (S : SN w r t v h b) : ∀ k, k < 20 → ∃ q, q ≤ 5 ∧ b k = nI q ∧ (0 < q → dr w r t k) := S.2.2.2.1
theorem SN.cloth (S : SN w r t v h b) : ∀ i, bt (b 20) i = true → i < 20 ∧ dr w r t i := S.2.2.2.2
end SNP
theorem dr_gr {w r t i : Nat} (h : dr w r t i) : gr w r i := ⟨h.1, h.2.2⟩
theorem dr_20 {w r t i : Nat} (h : WR w r) (hd : dr w r t i) : i < 20 := by
  have := hd.2.2
  have := h.r4
  omega
theorem gr_20 {w r i : Nat} (h : WR w r) (hd : gr w r i) : i < 20 := by
  have := hd.2
  have := h.r4
  omega
theorem ltI {a b : Nat} (ha : a < 2 ^ 31 := by omega) (hb : b < 2 ^ 31 := by omega) : nI a < nI b ↔ a < b := nI_ltI ha hb
theorem leI {a b : Nat} (ha : a < 2 ^ 31 := by omega) (hb : b < 2 ^ 31 := by omega) : nI a ≤ nI b ↔ a ≤ b := nI_leI ha hb
theorem eqI {a b : Nat} (ha : a < 2 ^ 31 := by omega) (hb : b < 2 ^ 31 := by omega) : nI a = nI b ↔ a = b := nI_eq ha hb
/-- a row of cells -/
theorem ones_bt : ∀ w, w ≤ 5 → ∀ i, i < 32 → bt (((1 : Int32) <<< (nI w &&& 31)) - (1 : Int32)) i = decide (i < w) := by decide +kernel
theorem row_bt {V : Nat → Nat → Int32} {k w y i : Nat} (h0 : V k 0 = nI w) (hw : w ≤ 5) (hy : y < 4) (hi : i < 32) : bt (sp_X4_rowOf V k (nI y)) i = decide (i < 20 ∧ i / 5 = y ∧ i % 5 < w) := by
  show bt ((((1 : Int32) <<< ((V k 0) &&& 31)) - (1 : Int32)) <<< ((nI 5 * nI y) &&& 31)) i = _
  rw [h0, pk_mul, bt_shl _ (by omega) hi, ones_bt w hw (i - 5 * y) (by omega), ← Bool.decide_and]
  congr 1
  apply propext
  omega
theorem cf_bt {V : Nat → Nat → Int32} {k w r t i : Nat} (h : WR w r) (h0 : V k 0 = nI w) (h1 : V k 1 = nI r) (ht : t ≤ r) (hi : i < 32) : bt (sp_X4_cellsFrom V k (nI t)) i = decide (dr w r t i) := by
  have w5 := h.w5
  have r4 := h.r4
  show bt (lp_X4_cellsFrom_4 V k (((V k 1).toInt - (nI t).toInt).toNat + 1) (0 : Int32) (nI t)) i = _
  have key := lpv (lp := fun n a y => lp_X4_cellsFrom_4 V k n a y) (N := r) (P := fun j a => t ≤ j ∧ ∀ i, i < 32 → bt a i = decide (i % 5 < w ∧ t ≤ i / 5 ∧ i / 5 < j)) (fun n a _ => ?_) (fun n a j hj hp => ⟨a ||| sp_X4_rowOf V k (nI j), ⟨by omega, fun i hi => ?_⟩, ?_⟩) (r - t) t (((V k 1).toInt - (nI t).toInt).toNat + 1) 0 (by omega) (by rw [h1, nI_toI (by omega), nI_toI (by omega)]; omega) ⟨Nat.le_refl _, fun i _ => by rw [bt_0]; symm; rw [decide_eq_false_iff_not]; omega⟩
  · exact key.2 i hi
  · show (if V k 1 ≤ nI r then a else _) = a
    rw [h1, if_pos ((leI).mpr (Nat.le_refl _))]
  · obtain ⟨h1, h2⟩ := hp
    rw [bt_or, h2 i hi, row_bt h0 h.w5 (by omega) hi, ← Bool.decide_or]
    congr 1
    apply propext
    omega
  · show (if V k 1 ≤ nI j then a else _) = _
    rw [h1, if_neg (fun q => absurd ((leI).mp q) (by omega)), nI_succ]
    rfl
