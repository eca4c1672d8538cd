/-! words as sets of bits -/
def bt (x : Int32) (i : Nat) : Bool := x.toBitVec.getLsbD i
theorem bx {x y : Int32} (h : ∀ i, i < 32 → bt x i = bt y i) : x = y := Int32.toBitVec_inj.mp (BitVec.eq_of_getLsbD_eq (fun i hi => h i hi))
theorem bt_or (x y : Int32) (i : Nat) : bt (x ||| y) i = (bt x i || bt y i) := by simp [bt, Int32.toBitVec_or]
theorem bt_and (x y : Int32) (i : Nat) : bt (x &&& y) i = (bt x i && bt y i) := by simp [bt, Int32.toBitVec_and]
theorem bt_xor (x y : Int32) (i : Nat) : bt (x ^^^ y) i = (bt x i ^^ bt y i) := by simp [bt, Int32.toBitVec_xor]
theorem bt_0 (i : Nat) : bt 0 i = false := BitVec.getLsbD_zero
theorem bt_ge {x : Int32} {i : Nat} (h : 32 ≤ i) : bt x i = false := BitVec.getLsbD_of_ge _ _ h
theorem bt_m1 : ∀ i, i < 32 → bt (-1) i = true := by decide +kernel
theorem bt_not (x : Int32) {i : Nat} (hi : i < 32) : bt (x ^^^ (-1)) i = !bt x i := by rw [bt_xor, bt_m1 i hi]; cases bt x i <;> rfl
theorem am_l : ∀ n, n < 32 → ((nI n &&& 31).toBitVec.smod 32).toNat = n := by decide +kernel
theorem am_u : ∀ n, n < 32 → (((nI n).toUInt32 &&& Int32.toUInt32 31).toBitVec % 32).toNat = n := by decide +kernel
theorem bt_shl (x : Int32) {n i : Nat} (hn : n < 32) (hi : i < 32) : bt (x <<< (nI n &&& 31)) i = (decide (n ≤ i) && bt x (i - n)) := by
  show (x <<< (nI n &&& 31)).toBitVec.getLsbD i = _
  rw [Int32.toBitVec_shiftLeft]
  show (x.toBitVec <<< ((nI n &&& 31).toBitVec.smod 32).toNat).getLsbD i = _
  rw [am_l n hn, BitVec.getLsbD_shiftLeft]
  by_cases h : i < n
  · simp [h, Nat.not_le.mpr h]
  · simp [hi, h, Nat.not_lt.mp h, bt]
theorem bt_ush (x : Int32) {n : Nat} (i : Nat) (hn : n < 32) : bt (ush x (nI n)) i = bt x (n + i) := by
  show (x.toUInt32 >>> ((nI n).toUInt32 &&& Int32.toUInt32 31)).toBitVec.getLsbD i = x.toUInt32.toBitVec.getLsbD (n + i)
  rw [UInt32.toBitVec_shiftRight]
  show (x.toUInt32.toBitVec >>> (((nI n).toUInt32 &&& Int32.toUInt32 31).toBitVec % 32).toNat).getLsbD i = _
  rw [am_u n hn, BitVec.getLsbD_ushiftRight]
theorem bt_shr (x : Int32) {n i : Nat} (hi : n + i < 32) : bt (x >>> (nI n &&& 31)) i = bt x (n + i) := by
  show (x >>> (nI n &&& 31)).toBitVec.getLsbD i = _
  rw [Int32.toBitVec_shiftRight]
  show (x.toBitVec.sshiftRight ((nI n &&& 31).toBitVec.smod 32).toNat).getLsbD i = _
  rw [am_l n (by omega), BitVec.getLsbD_sshiftRight]
  simp [hi, bt]
  omega
theorem bt_1 : ∀ i, i < 32 → bt 1 i = decide (i = 0) := by decide +kernel
theorem bt_bit {k i : Nat} (hk : k < 32) (hi : i < 32) : bt ((1 : Int32) <<< (nI k &&& 31)) i = decide (i = k) := by
  rw [bt_shl 1 hk hi, bt_1 (i - k) (by omega)]
  by_cases h : i = k
  · subst h; simp
  · by_cases h2 : k ≤ i
    · simp [h, h2]; omega
    · simp [h, h2]
theorem bt_eq0 {x : Int32} : x = 0 ↔ ∀ i, i < 32 → bt x i = false := ⟨fun h i _ => by rw [h]; exact bt_0 i, fun h => bx fun i hi => by rw [h i hi, bt_0]⟩
theorem and_bit {x : Int32} {k : Nat} (hk : k < 32) : x &&& ((1 : Int32) <<< (nI k &&& 31)) = 0 ↔ bt x k = false := by
  rw [bt_eq0]
  constructor
  · intro h
    have h1 := h k hk
    rw [bt_and, bt_bit hk hk] at h1
    simpa using h1
  · intro h i hi
    rw [bt_and, bt_bit hk hi]
    by_cases c : i = k
    · subst c; simp [h]
    · simp [c]
theorem one_bit {x : Int32} {k : Nat} (hk : k < 32) : (x >>> (nI k &&& 31)) &&& 1 = if bt x k = true then 1 else 0 := by
  apply bx
  intro i hi
  rw [bt_and, bt_1 i hi]
  by_cases c : i = 0
  · subst c
    rw [bt_shr x (by omega)]
    by_cases h : bt x k = true
    · simp [h, bt_1]
    · rw [if_neg h, bt_0]; simp [h]
  · by_cases h : bt x k = true
    · rw [if_pos h, bt_1 i hi]; simp [c]
    · rw [if_neg h, bt_0]; simp [c]
theorem has_eq {x : Int32} {k : Nat} (hk : k < 32) : sp_X7_has x (nI k) = if bt x k = true then 1 else 0 := by
  unfold sp_X7_has
  rw [one_bit hk]
  by_cases h : bt x k = true
  · rw [if_pos h]; rfl
  · rw [if_neg h]; rfl
/-- no bit from 20 on -/
def sm (x : Int32) : Prop := ∀ i, 20 ≤ i → bt x i = false
theorem sm_or {x y : Int32} (hx : sm x) (hy : sm y) : sm (x ||| y) := fun i h => by rw [bt_or, hx i h, hy i h]; rfl
theorem sm_and {x y : Int32} (hx : sm x) : sm (x &&& y) := fun i h => by rw [bt_and, hx i h]; rfl
theorem sm_and2 {x y : Int32} (hy : sm y) : sm (x &&& y) := fun i h => by rw [bt_and, hy i h]; simp
theorem sm_xor {x y : Int32} (hx : sm x) (hy : sm y) : sm (x ^^^ y) := fun i h => by rw [bt_xor, hx i h, hy i h]; rfl
theorem sm_0 : sm 0 := fun i _ => bt_0 i
theorem sm_bit {k : Nat} (hk : k < 20) : sm ((1 : Int32) <<< (nI k &&& 31)) := fun i h => by
  by_cases c : i < 32
  · rw [bt_bit (by omega) c]; simp; omega
  · exact bt_ge (by omega)
theorem bs {x y : Int32} (hx : sm x) (hy : sm y) (h : ∀ i, i < 20 → bt x i = bt y i) : x = y := bx fun i _ => by
  by_cases c : i < 20
  · exact h i c
  · rw [hx i (by omega), hy i (by omega)]
theorem mk_r : ∀ j, j < 32 → bt (-541201) j = decide (¬ (j < 20 ∧ j % 5 = 4)) := by decide +kernel
theorem mk_l : ∀ j, j < 32 → bt (-33826) j = decide (¬ (j < 20 ∧ j % 5 = 0)) := by decide +kernel
theorem right_bt {x : Int32} {i : Nat} (hi : i < 20) : bt (sp_X4_rightOf x) i = (decide (i % 5 ≠ 0) && bt x (i - 1)) := by
  show bt ((x &&& (-541201 : Int32)) <<< (nI 1 &&& 31)) i = _
  rw [bt_shl _ (by omega) (by omega), bt_and, mk_r (i - 1) (by omega)]
  by_cases h : i % 5 = 0
  · by_cases h1 : 1 ≤ i
    · have : (i - 1) % 5 = 4 := by omega
      have : i - 1 < 20 := by omega
      simp [*]
    · simp [h, h1]
  · have h1 : 1 ≤ i := by omega
    have : ¬ (i - 1) % 5 = 4 := by omega
    simp [*]
theorem right_sm {x : Int32} (hx : sm x) : sm (sp_X4_rightOf x) := fun i h => by
  by_cases c : i < 32
  · show bt ((x &&& (-541201 : Int32)) <<< (nI 1 &&& 31)) i = _
    rw [bt_shl _ (by omega) c, bt_and, mk_r (i - 1) (by omega)]
    by_cases h2 : i = 20
    · subst h2; simp
    · rw [hx (i - 1) (by omega)]; simp
  · exact bt_ge (by omega)
theorem left_bt {x : Int32} {i : Nat} (hx : sm x) (hi : i < 20) : bt (sp_X4_leftOf x) i = (decide (i % 5 ≠ 4) && bt x (i + 1)) := by
  show bt (ush (x &&& (-33826 : Int32)) (nI 1)) i = _
  rw [bt_ush _ i (by omega), bt_and, mk_l (1 + i) (by omega), Nat.add_comm 1 i]
  by_cases h : i % 5 = 4
  · by_cases h2 : i = 19
    · subst h2
      rw [hx (19 + 1) (by omega)]; simp
    · have : (i + 1) % 5 = 0 := by omega
      have : i + 1 < 20 := by omega
      simp [*]
  · have : ¬ (i + 1) % 5 = 0 := by omega
    simp [*]
theorem left_sm {x : Int32} (hx : sm x) : sm (sp_X4_leftOf x) := fun i h => by
  show bt (ush (x &&& (-33826 : Int32)) (nI 1)) i = _
  rw [bt_ush _ i (by omega), bt_and, hx (1 + i) (by omega)]; rfl
theorem down_bt {x : Int32} {i : Nat} : bt (ush x (5 : Int32)) i = bt x (i + 5) := by
  show bt (ush x (nI 5)) i = _
  rw [bt_ush _ i (by omega), Nat.add_comm]
theorem down_sm {x : Int32} (hx : sm x) : sm (ush x (5 : Int32)) := fun i h => by rw [down_bt]; exact hx _ (by omega)
theorem up_bt {x : Int32} {i : Nat} (hi : i < 32) : bt (x <<< ((5 : Int32) &&& 31)) i = (decide (5 ≤ i) && bt x (i - 5)) := bt_shl (n := 5) x (by omega) hi
/-! counting bits -/
theorem nI_and (a b : Nat) : nI a &&& nI b = nI (a &&& b) := Int32.toBitVec_inj.mp (by show BitVec.ofNat 32 a &&& BitVec.ofNat 32 b = BitVec.ofNat 32 (a &&& b); rw [BitVec.ofNat_and])
theorem and_sp (x y : Nat) : x &&& y = (x % 256 &&& y % 256) + 256 * (x / 256 &&& y / 256) := by
  have h1 : (x &&& y) % 2 ^ 8 = (x % 2 ^ 8) &&& (y % 2 ^ 8) := Nat.and_mod_two_pow
  have h2 : (x &&& y) / 2 ^ 8 = (x / 2 ^ 8) &&& (y / 2 ^ 8) := Nat.and_div_two_pow
  have h3 := Nat.div_add_mod (x &&& y) (2 ^ 8)
  rw [h1, h2] at h3
  show _ = (x % 2 ^ 8 &&& y % 2 ^ 8) + 2 ^ 8 * (x / 2 ^ 8 &&& y / 2 ^ 8)
  omega
def ps (b : Nat) : Nat := b % 2 + b / 2 % 2 + b / 4 % 2 + b / 8 % 2 + b / 16 % 2 + b / 32 % 2 + b / 64 % 2 + b / 128 % 2
def pa (b : Nat) : Nat := b - (b / 2 &&& 85)
def pb (b : Nat) : Nat := (b &&& 51) + (b / 4 &&& 51)
def pd (b : Nat) : Nat := (b + b / 16) &&& 15
theorem pa_1 : ∀ b, b < 256 → ∀ e, e < 2 → (b / 2 + 128 * e) &&& 85 = b / 2 &&& 85 := by decide +kernel
theorem pa_2 : ∀ b, b < 256 → (b / 2 &&& 85) ≤ b ∧ pa b < 256 := by decide +kernel
theorem pb_1 : ∀ b, b < 256 → ∀ e, e < 4 → (b / 4 + 64 * e) &&& 51 = b / 4 &&& 51 := by decide +kernel
theorem pb_2 : ∀ b, b < 256 → pb (pa b) ≤ 68 ∧ pb (pa b) % 16 ≤ 4 ∧ pd (pb (pa b)) = ps b := by decide +kernel
theorem pd_1 : ∀ b, b ≤ 68 → ∀ e, e ≤ 4 → (b + b / 16 + 16 * e) &&& 15 = pd b := by decide +kernel
theorem ps_8 : ∀ b, b < 256 → ps b ≤ 8 := by decide +kernel
theorem ma (n M : Nat) {K : Nat} (hK : 85 + 256 * M = K) : (n / 2 &&& K) = (n % 256 / 2 &&& 85) + 256 * (n / 256 / 2 &&& M) := by
  subst hK
  rw [and_sp, show (85 + 256 * M) % 256 = 85 by omega, show (85 + 256 * M) / 256 = M by omega, show n / 2 % 256 = n % 256 / 2 + 128 * (n / 256 % 2) by omega, pa_1 (n % 256) (by omega) (n / 256 % 2) (by omega), show n / 2 / 256 = n / 256 / 2 by omega]
theorem mb (n M : Nat) {K : Nat} (hK : 51 + 256 * M = K) : ((n &&& K) + (n / 4 &&& K)) = pb (n % 256) + 256 * ((n / 256 &&& M) + (n / 256 / 4 &&& M)) := by
  subst hK
  rw [and_sp n, and_sp (n / 4), show (51 + 256 * M) % 256 = 51 by omega, show (51 + 256 * M) / 256 = M by omega, show n / 4 % 256 = n % 256 / 4 + 64 * (n / 256 % 4) by omega, pb_1 (n % 256) (by omega) (n / 256 % 4) (by omega), show n / 4 / 256 = n / 256 / 4 by omega]
  unfold pb
  omega
theorem md (n M : Nat) {K : Nat} (hK : 15 + 256 * M = K) (h1 : n % 256 ≤ 68) (h2 : n / 256 % 16 ≤ 4) : ((n + n / 16) &&& K) = pd (n % 256) + 256 * ((n / 256 + n / 256 / 16) &&& M) := by
  subst hK
  rw [and_sp, show (15 + 256 * M) % 256 = 15 by omega, show (15 + 256 * M) / 256 = M by omega, show (n + n / 16) % 256 = n % 256 + n % 256 / 16 + 16 * (n / 256 % 16) by omega, pd_1 (n % 256) h1 (n / 256 % 16) h2, show (n + n / 16) / 256 = n / 256 + n / 256 / 16 by omega]
theorem swar {b0 b1 b2 : Nat} (h0 : b0 < 256) (h1 : b1 < 256) (h2 : b2 < 256) : ∃ a b, (b0 + 256 * (b1 + 256 * b2)) / 2 &&& 1431655765 ≤ b0 + 256 * (b1 + 256 * b2) ∧ a = b0 + 256 * (b1 + 256 * b2) - ((b0 + 256 * (b1 + 256 * b2)) / 2 &&& 1431655765) ∧ b = (a &&& 858993459) + (a / 4 &&& 858993459) ∧ a < 16777216 ∧ b < 16777216 ∧ (b + b / 16) &&& 252645135 = ps b0 + 256 * (ps b1 + 256 * ps b2) := by
  have A0 := pa_2 b0 h0
  have A1 := pa_2 b1 h1
  have A2 := pa_2 b2 h2
  have B0 := pb_2 b0 h0
  have B1 := pb_2 b1 h1
  have B2 := pb_2 b2 h2
  have ea : (b0 + 256 * (b1 + 256 * b2)) / 2 &&& 1431655765 = (b0 / 2 &&& 85) + 256 * ((b1 / 2 &&& 85) + 256 * (b2 / 2 &&& 85)) := by
    have e1 := ma (b0 + 256 * (b1 + 256 * b2)) 5592405 (K := 1431655765) rfl
    have e2 := ma (b1 + 256 * b2) 21845 (K := 5592405) rfl
    have e3 := ma b2 85 (K := 21845) rfl
    rw [show (b0 + 256 * (b1 + 256 * b2)) % 256 = b0 by omega, show (b0 + 256 * (b1 + 256 * b2)) / 256 = b1 + 256 * b2 by omega] at e1
    rw [show (b1 + 256 * b2) % 256 = b1 by omega, show (b1 + 256 * b2) / 256 = b2 by omega] at e2
    rw [show b2 % 256 = b2 by omega, show b2 / 256 = 0 by omega] at e3
    have e4 : (0 / 2 &&& 85 : Nat) = 0 := by decide
    rw [e4] at e3
    omega
  have ha : b0 + 256 * (b1 + 256 * b2) - ((b0 + 256 * (b1 + 256 * b2)) / 2 &&& 1431655765) = pa b0 + 256 * (pa b1 + 256 * pa b2) := by
    rw [ea]
    unfold pa
    omega
  have hb : ((pa b0 + 256 * (pa b1 + 256 * pa b2)) &&& 858993459) + ((pa b0 + 256 * (pa b1 + 256 * pa b2)) / 4 &&& 858993459) = pb (pa b0) + 256 * (pb (pa b1) + 256 * pb (pa b2)) := by
    have e1 := mb (pa b0 + 256 * (pa b1 + 256 * pa b2)) 3355443 (K := 858993459) rfl
    have e2 := mb (pa b1 + 256 * pa b2) 13107 (K := 3355443) rfl
    have e3 := mb (pa b2) 51 (K := 13107) rfl
    rw [show (pa b0 + 256 * (pa b1 + 256 * pa b2)) % 256 = pa b0 by omega, show (pa b0 + 256 * (pa b1 + 256 * pa b2)) / 256 = pa b1 + 256 * pa b2 by omega] at e1
    rw [show (pa b1 + 256 * pa b2) % 256 = pa b1 by omega, show (pa b1 + 256 * pa b2) / 256 = pa b2 by omega] at e2
    rw [show pa b2 % 256 = pa b2 by omega, show pa b2 / 256 = 0 by omega] at e3
    have e4 : ((0 &&& 51) + (0 / 4 &&& 51) : Nat) = 0 := by decide
    rw [e4] at e3
    omega
  have hd : ((pb (pa b0) + 256 * (pb (pa b1) + 256 * pb (pa b2))) + (pb (pa b0) + 256 * (pb (pa b1) + 256 * pb (pa b2))) / 16) &&& 252645135 = ps b0 + 256 * (ps b1 + 256 * ps b2) := by
    have e1 := md (pb (pa b0) + 256 * (pb (pa b1) + 256 * pb (pa b2))) 986895 (K := 252645135) rfl (by omega) (by omega)
    have e2 := md (pb (pa b1) + 256 * pb (pa b2)) 3855 (K := 986895) rfl (by omega) (by omega)
    have e3 := md (pb (pa b2)) 15 (K := 3855) rfl (by omega) (by omega)
    rw [show (pb (pa b0) + 256 * (pb (pa b1) + 256 * pb (pa b2))) % 256 = pb (pa b0) by omega, show (pb (pa b0) + 256 * (pb (pa b1) + 256 * pb (pa b2))) / 256 = pb (pa b1) + 256 * pb (pa b2) by omega, B0.2.2] at e1
    rw [show (pb (pa b1) + 256 * pb (pa b2)) % 256 = pb (pa b1) by omega, show (pb (pa b1) + 256 * pb (pa b2)) / 256 = pb (pa b2) by omega, B1.2.2] at e2
    rw [show pb (pa b2) % 256 = pb (pa b2) by omega, show pb (pa b2) / 256 = 0 by omega, B2.2.2] at e3
    have e4 : ((0 + 0 / 16) &&& 15 : Nat) = 0 := by decide
    rw [e4] at e3
    omega
  refine ⟨_, _, ?_, ha.symm, hb.symm, by omega, by omega, hd⟩
  rw [ea]
  have := A0.1
  have := A1.1
  have := A2.1
  omega
