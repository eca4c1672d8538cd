/-! odds: all that may be asked, tried -/
def od74 (w0 v0 v1 x3 x4 : Int32) : Nat → Int32 → Int32 → Int32
  | 0, a, _ => a
  | n + 1, a, s => if ((1 : Int32) <<< (x4 &&& 31)) ≤ s then a else (nm2 (lp_X7_odds_98 x3 x4 s ((x4.toInt - (0 : Int32).toInt).toNat + 1) w0 (1 : Int32) (0 : Int32)) (fun e f => if (if e = 0 then v0 else v1) = 0 then od74 w0 v0 v1 x3 x4 n (a + (0 : Int32)) (s + 1) else od74 w0 v0 v1 x3 x4 n (a + f) (s + 1)))
def odA (p n : Nat) : Int32 × Int32 × Int32 := lp_X6_odds_54 (nI p) (nI n) (n + 1) (1 : Int32) (0 : Int32) (1 : Int32) (0 : Int32)
def odS (p n s1 s2 : Nat) : Int32 := (if s1 = 0 then 0 else (odA p n).1) + (if s2 = 0 then 0 else (odA p n).2.1)
def odM (p n w0 v0 v1 : Nat) : Int32 := od74 (nI w0) (nI v0) (nI v1) (nI p) (nI n) (2 ^ n + 1) 0 0
def odR (p n s1 s2 x : Nat) : Int32 := nm (lp_X7_odds_198 ((nI (10 ^ n)).toInt.toNat + 1) (odS p n s1 s2) (nI (10 ^ n))) (fun e => if nI x = 0 then (odS p n s1 s2 / e) else (nI (10 ^ n) / e))
def odX (p n s1 s2 x : Nat) : Int32 := sp_X6_inLeastTerms (odS p n s1 s2) (odA p n).2.2 (nI x)
theorem od_f3 : ∀ n, n < 7 → (((1 : Int32) <<< ((nI n) &&& 31)).toInt - (0 : Int32).toInt).toNat + 1 = 2 ^ n + 1 ∧ ((nI n).toInt - (0 : Int32).toInt).toNat + 1 = n + 1 ∧ lp_X7_odds_51 (nI n) (n + 1) (1 : Int32) (0 : Int32) = nI (10 ^ n) := by decide +kernel
theorem od_f2 : ∀ n, n < 7 → ∀ p, p < 11 → ∀ s1, s1 < 2 → ∀ s2, s2 < 2 → ∀ x, x < 2 → odX p n s1 s2 x = odR p n s1 s2 x := by decide +kernel
theorem od_10 : ∀ p, p < 11 → ∀ v0, v0 < 2 → ∀ v1, v1 < 2 → odM p 0 0 v0 v1 = odS p 0 v0 v1 ∧ odM p 0 1 v0 v1 = odS p 0 v1 v0 := by decide +kernel
theorem od_11 : ∀ p, p < 11 → ∀ v0, v0 < 2 → ∀ v1, v1 < 2 → odM p 1 0 v0 v1 = odS p 1 v0 v1 ∧ odM p 1 1 v0 v1 = odS p 1 v1 v0 := by decide +kernel
theorem od_12 : ∀ p, p < 11 → ∀ v0, v0 < 2 → ∀ v1, v1 < 2 → odM p 2 0 v0 v1 = odS p 2 v0 v1 ∧ odM p 2 1 v0 v1 = odS p 2 v1 v0 := by decide +kernel
theorem od_13 : ∀ p, p < 11 → ∀ v0, v0 < 2 → ∀ v1, v1 < 2 → odM p 3 0 v0 v1 = odS p 3 v0 v1 ∧ odM p 3 1 v0 v1 = odS p 3 v1 v0 := by decide +kernel
theorem od_14 : ∀ p, p < 11 → ∀ v0, v0 < 2 → ∀ v1, v1 < 2 → odM p 4 0 v0 v1 = odS p 4 v0 v1 ∧ odM p 4 1 v0 v1 = odS p 4 v1 v0 := by decide +kernel
theorem od_15 : ∀ p, p < 11 → ∀ v0, v0 < 2 → ∀ v1, v1 < 2 → odM p 5 0 v0 v1 = odS p 5 v0 v1 ∧ odM p 5 1 v0 v1 = odS p 5 v1 v0 := by decide +kernel
theorem od_16 : ∀ p, p < 11 → ∀ v0, v0 < 2 → ∀ v1, v1 < 2 → odM p 6 0 v0 v1 = odS p 6 v0 v1 ∧ odM p 6 1 v0 v1 = odS p 6 v1 v0 := by decide +kernel
theorem od_f1 : ∀ n, n < 7 → ∀ p, p < 11 → ∀ v0, v0 < 2 → ∀ v1, v1 < 2 → odM p n 0 v0 v1 = odS p n v0 v1 ∧ odM p n 1 v0 v1 = odS p n v1 v0
  | 0, _ => od_10
  | 1, _ => od_11
  | 2, _ => od_12
  | 3, _ => od_13
  | 4, _ => od_14
  | 5, _ => od_15
  | 6, _ => od_16
  | n + 7, h => absurd h (by omega)
