/-! loops that go up, by what holds at each turn -/
theorem lpv {α : Type} {lp : Nat → α → Int32 → α} {N : Nat} {P : Nat → α → Prop} (hend : ∀ n a, P N a → lp (n + 1) a (nI N) = a)
    (hstep : ∀ n a i, i < N → P i a → ∃ a', P (i + 1) a' ∧ lp (n + 1) a (nI i) = lp n a' (nI (i + 1))) : ∀ (c i n : Nat) (a : α), i + c = N → c < n → P i a → P N (lp n a (nI i)) := by
  intro c
  induction c with
  | zero =>
    intro i n a hi hn hp
    obtain ⟨m, rfl⟩ : ∃ m, n = m + 1 := ⟨n - 1, by omega⟩
    have e : i = N := by omega
    subst e
    rw [hend m a hp]
    exact hp
  | succ c ih =>
    intro i n a hi hn hp
    obtain ⟨m, rfl⟩ : ∃ m, n = m + 1 := ⟨n - 1, by omega⟩
    obtain ⟨a', h1, h2⟩ := hstep m a i (by omega) hp
    rw [h2]
    exact ih (i + 1) m a' (by omega) (by omega) h1
def ct (p : Nat → Bool) : Nat → Nat
  | 0 => 0
  | n + 1 => ct p n + if p n = true then 1 else 0
theorem ct_cg {p q : Nat → Bool} : ∀ {n : Nat}, (∀ i, i < n → p i = q i) → ct p n = ct q n
  | 0, _ => rfl
  | n + 1, h => by
    show ct p n + _ = ct q n + _
    rw [ct_cg (n := n) (fun i hi => h i (by omega)), h n (by omega)]
theorem ct_le {p : Nat → Bool} : ∀ n, ct p n ≤ n
  | 0 => Nat.le_refl _
  | n + 1 => by
    have := ct_le (p := p) n
    show ct p n + _ ≤ _
    split <;> omega
def cn (x : Int32) : Nat := ct (bt x) 20
theorem cn_le (x : Int32) : cn x ≤ 20 := ct_le 20
theorem bits_eq (x : Int32) : sp_X7_bits x = nI (cn x) := by
  show lp_X7_bits_4 x (((20 : Int32).toInt - (0 : Int32).toInt).toNat + 1) (0 : Int32) (0 : Int32) = _
  refine lpv (lp := fun n a y => lp_X7_bits_4 x n a y) (N := 20) (P := fun j a => a = nI (ct (bt x) j)) (fun n a _ => ?_) (fun n a i hi hp => ⟨nI (ct (bt x) (i + 1)), rfl, ?_⟩) 20 0 _ 0 rfl (by decide) rfl
  · show (if (20 : Int32) ≤ nI 20 then a else _) = a
    rw [if_pos (by decide)]
  · have c : ¬ (20 : Int32) ≤ nI i := nI_ge hi (by decide)
    show (if (20 : Int32) ≤ nI i then a else _) = _
    rw [if_neg c, one_bit (by omega), hp, ← nI_succ]
    congr 1
    show _ = nI (ct (bt x) i + _)
    by_cases h : bt x i = true
    · rw [if_pos h, if_pos h]; exact nI_add _ 1
    · rw [if_neg h, if_neg h]; exact nI_add _ 0
theorem ush_n {n k : Nat} (hn : n < 2 ^ 32) (hk : k < 32) : ush (nI n) (nI k) = nI (n / 2 ^ k) := pk_ushrN hn (nI k) k (am_u k hk)
theorem nI_nat (x : Int32) : x = nI x.toBitVec.toNat := Int32.toBitVec_inj.mp (by show _ = BitVec.ofNat 32 _; simp)
theorem bt_nat (x : Int32) (i : Nat) : bt x i = x.toBitVec.toNat.testBit i := rfl
theorem sm_lt {x : Int32} (h : sm x) : x.toBitVec.toNat < 2 ^ 20 := by
  apply Nat.lt_pow_two_of_testBit
  intro i hi
  exact h i hi
theorem tb_dm (n i : Nat) : (if n.testBit i = true then 1 else 0) = n / 2 ^ i % 2 := by
  rw [Nat.testBit_eq_decide_div_mod_eq]
  by_cases h : n / 2 ^ i % 2 = 1
  · simp [h]
  · simp [h]; omega
theorem ct_sp (p : Nat → Bool) (m : Nat) : ∀ n, ct p (m + n) = ct p m + ct (fun i => p (m + i)) n
  | 0 => rfl
  | n + 1 => by
    show ct p (m + n) + _ = ct p m + (ct (fun i => p (m + i)) n + _)
    rw [ct_sp p m n, Nat.add_assoc]
    rfl
theorem ps_ct : ∀ b, b < 256 → ps b = ct (fun i => b.testBit i) 8 := by decide +kernel
theorem ps_c4 : ∀ b, b < 16 → ps b = ct (fun i => b.testBit i) 4 := by decide +kernel
theorem cn_sum {n : Nat} (h : n < 2 ^ 20) : ct (fun i => n.testBit i) 20 = ps (n % 256) + ps (n / 256 % 256) + ps (n / 65536) := by
  rw [ps_ct (n % 256) (by omega), ps_ct (n / 256 % 256) (by omega), ps_c4 (n / 65536) (by omega), show (20 : Nat) = 8 + (8 + 4) from rfl, ct_sp, ct_sp, ← Nat.add_assoc]
  congr 1
  · congr 1
    · refine ct_cg fun i hi => ?_
      rw [show (256 : Nat) = 2 ^ 8 from rfl, Nat.testBit_mod_two_pow]
      simp [hi]
    · refine ct_cg fun i hi => ?_
      rw [show (256 : Nat) = 2 ^ 8 from rfl, Nat.testBit_mod_two_pow, Nat.testBit_div_two_pow]
      simp [hi, Nat.add_comm]
  · refine ct_cg fun i hi => ?_
    rw [show (65536 : Nat) = 2 ^ 16 from rfl, Nat.testBit_div_two_pow]
    congr 1
    omega
theorem fin3 {p0 p1 p2 z : Nat} (h0 : p0 ≤ 8) (h1 : p1 ≤ 8) (h2 : p2 ≤ 8) (hz : p0 + 256 * (p1 + 256 * p2) = z) : (z + z / 2 ^ 8 + (z + z / 2 ^ 8) / 2 ^ 16) % 2 ^ 6 = p0 + p1 + p2 := by
  have k1 : z / 2 ^ 8 = p1 + 256 * p2 := by omega
  rw [k1]
  have l1 : (z + (p1 + 256 * p2)) / 2 ^ 16 = p2 := by omega
  rw [l1]
  omega
theorem pop_eq {x : Int32} (h : sm x) : sp_J6_bitCount_0f7a4 x = nI (cn x) := by
  have hn := sm_lt h
  obtain ⟨n, hx⟩ : ∃ n, n = x.toBitVec.toNat := ⟨_, rfl⟩
  rw [← hx] at hn
  have ex : x = nI n := by rw [hx]; exact nI_nat x
  have ec : cn x = ps (n % 256) + ps (n / 256 % 256) + ps (n / 65536) := by
    rw [← cn_sum hn]
    exact ct_cg fun i _ => by rw [bt_nat, ← hx]
  rw [ec, ex]
  have g0 := ps_8 (n % 256) (by omega)
  have g1 := ps_8 (n / 256 % 256) (by omega)
  have g2 := ps_8 (n / 65536) (by omega)
  obtain ⟨a, b, h1, h2, h3, h4, h5, h6⟩ := swar (b0 := n % 256) (b1 := n / 256 % 256) (b2 := n / 65536) (by omega) (by omega) (by omega)
  rw [show n % 256 + 256 * (n / 256 % 256 + 256 * (n / 65536)) = n by omega] at h1 h2
  have e1 : nI n - (ush (nI n) (1 : Int32) &&& (1431655765 : Int32)) = nI a := by
    show nI n - (ush (nI n) (nI 1) &&& nI 1431655765) = nI a
    rw [ush_n (by omega) (by omega), nI_and, show n / 2 ^ 1 = n / 2 from rfl, pk_sub h1, h2]
  have e2 : (nI a &&& (858993459 : Int32)) + (ush (nI a) (2 : Int32) &&& (858993459 : Int32)) = nI b := by
    show (nI a &&& nI 858993459) + (ush (nI a) (nI 2) &&& nI 858993459) = nI b
    rw [ush_n (by omega) (by omega), nI_and, nI_and, nI_add, h3]
  have e3 : (nI b + ush (nI b) (4 : Int32)) &&& (252645135 : Int32) = nI (ps (n % 256) + 256 * (ps (n / 256 % 256) + 256 * ps (n / 65536))) := by
    show (nI b + ush (nI b) (nI 4)) &&& nI 252645135 = _
    rw [ush_n (by omega) (by omega), nI_add, nI_and, show b / 2 ^ 4 = b / 16 from rfl, h6]
  rw [← sp_J6_bitCount_0f7a4_s]
  simp only [nm]
  rw [e1, e2, e3]
  have hfin := fin3 g0 g1 g2 rfl
  generalize hz : ps (n % 256) + 256 * (ps (n / 256 % 256) + 256 * ps (n / 65536)) = z at hfin ⊢
  have hz2 : z < 2 ^ 24 := by omega
  show ((nI z + ush (nI z) (nI 8)) + ush (nI z + ush (nI z) (nI 8)) (nI 16)) &&& (63 : Int32) = _
  rw [ush_n (by omega) (by omega), nI_add, ush_n (by omega) (by omega), nI_add, pk_andN (by omega) 6 rfl, hfin]
