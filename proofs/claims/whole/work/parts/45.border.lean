/-! borders, counted by classes -/
def b2n (b : Bool) : Nat := if b = true then 1 else 0
def sq (F : Nat → Nat) : Nat → Nat
  | 0 => F 0
  | n + 1 => sq F n + F (n + 1)
theorem sq_s (F : Nat → Nat) (n : Nat) : sq F (n + 1) = sq F n + F (n + 1) := rfl
theorem sq_add (F G : Nat → Nat) : ∀ n, sq (fun q => F q + G q) n = sq F n + sq G n
  | 0 => rfl
  | n + 1 => by
    show sq (fun q => F q + G q) n + (F (n + 1) + G (n + 1)) = sq F n + F (n + 1) + (sq G n + G (n + 1))
    rw [sq_add F G n]
    omega
theorem sq_cg {F G : Nat → Nat} (h : ∀ q, F q = G q) (n : Nat) : sq F n = sq G n := by
  induction n with
  | zero => exact h 0
  | succ n ih =>
    show sq F n + F (n + 1) = sq G n + G (n + 1)
    rw [ih, h]
theorem sq_0 (n : Nat) : sq (fun _ => 0) n = 0 := by
  induction n with
  | zero => rfl
  | succ n ih =>
    show sq (fun _ => 0) n + 0 = 0
    rw [ih]
theorem ct6 {P R : Nat → Bool} {Q : Nat → Nat → Bool} : ∀ {n : Nat}, (∀ i, i < n → b2n (P i) = sq (fun q => b2n (Q q i)) 5 + b2n (R i)) → ct P n = sq (fun q => ct (Q q) n) 5 + ct R n
  | 0, _ => by
    show 0 = sq (fun _ => 0) 5 + 0
    rw [sq_0]
  | n + 1, h => by
    have h1 := ct6 (n := n) (fun i hi => h i (by omega))
    have h2 := h n (by omega)
    show ct P n + b2n (P n) = sq (fun q => ct (Q q) n + b2n (Q q n)) 5 + (ct R n + b2n (R n))
    rw [sq_add, h1, h2]
    omega
theorem ct_ext {p : Nat → Bool} {m : Nat} : ∀ d, (∀ k, m ≤ k → k < m + d → p k = false) → ct p (m + d) = ct p m
  | 0, _ => rfl
  | d + 1, h => by
    show ct p (m + d) + (if p (m + d) = true then 1 else 0) = ct p m
    rw [ct_ext d (fun k h1 h2 => h k h1 (by omega)), h (m + d) (by omega) (by omega), if_neg (by decide)]
    rfl
theorem ct_s (p : Nat → Bool) (n : Nat) : ct p (n + 1) = ct p n + b2n (p n) := rfl
theorem six : ∀ a, a < 6 → ∀ c, c < 6 → 1 = sq (fun q => b2n (decide (a = q) && decide (c = q))) 5 + b2n (!decide (a = c)) := by decide +kernel
def tw (p : Nat → Bool) : Nat := ct (fun i => p i && decide (i % 5 ≠ 4) && p (i + 1)) 20 + ct (fun i => p i && p (i + 5)) 20
theorem tw_cg {p q : Nat → Bool} (h : ∀ i, p i = q i) : tw p = tw q := by rw [show p = q from funext h]
theorem tw_eq {c : Int32} (h : sm c) : sp_X4_twosIn c = nI (tw (bt c)) := by
  have e1 : sp_J6_bitCount_0f7a4 (c &&& sp_X4_leftOf c) = nI (ct (fun i => bt c i && decide (i % 5 ≠ 4) && bt c (i + 1)) 20) := by
    rw [pop_eq (sm_and h)]
    congr 1
    refine ct_cg fun i hi => ?_
    rw [bt_and, left_bt h hi, Bool.and_assoc]
  have e2 : sp_J6_bitCount_0f7a4 (c &&& (ush c (5 : Int32))) = nI (ct (fun i => bt c i && bt c (i + 5)) 20) := by
    rw [pop_eq (sm_and h)]
    congr 1
    refine ct_cg fun i hi => ?_
    rw [bt_and, down_bt]
  unfold sp_X4_twosIn
  dsimp only [nm]
  rw [e1, e2, nI_add]
  rfl
section BO
variable {w r : Nat} {g tb : Nat → Int32} {V Hd : Nat → Nat → Int32} {tr : Int64} {mg st im ke se tx : Nat → Int32} {mt : Int64}
def cl_ (w r t : Nat) (st : Nat → Int32) (q i : Nat) : Bool := decide (dr w r t i) && decide (st i = nI q)
def dd (w r t : Nat) (i : Nat) : Bool := decide (dr w r t i)
def r1_ (w r t : Nat) (st : Nat → Int32) (i : Nat) : Bool := dd w r t i && decide (i % 5 ≠ 4) && dd w r t (i + 1) && !decide (st i = st (i + 1))
def r2_ (w r t : Nat) (st : Nat → Int32) (i : Nat) : Bool := dd w r t i && dd w r t (i + 5) && !decide (st i = st (i + 5))
theorem pw (hw : WR w r) {t : Nat} {v hh : Nat → Int32} (S : SN w r t v hh st) (i j : Nat) : b2n (dd w r t i && dd w r t j) = sq (fun q => b2n (cl_ w r t st q i && cl_ w r t st q j)) 5 + b2n (dd w r t i && dd w r t j && !decide (st i = st j)) := by
  unfold cl_ dd
  by_cases hi : dr w r t i
  · by_cases hj : dr w r t j
    · obtain ⟨a, ha, ea, _⟩ := S.hold i (dr_20 hw hi)
      obtain ⟨c, hc, ec, _⟩ := S.hold j (dr_20 hw hj)
      have e := six a (by omega) c (by omega)
      rw [decide_eq_true hi, decide_eq_true hj, ea, ec]
      have x1 : ∀ q, q ≤ 5 → decide (nI a = nI q) = decide (a = q) := fun q hq => decide_eq_decide.mpr (nI_eq (by omega) (by omega))
      have x2 : ∀ q, q ≤ 5 → decide (nI c = nI q) = decide (c = q) := fun q hq => decide_eq_decide.mpr (nI_eq (by omega) (by omega))
      rw [x1 c hc]
      have x3 : sq (fun q => b2n (true && decide (nI a = nI q) && (true && decide (nI c = nI q)))) 5 = sq (fun q => b2n (decide (a = q) && decide (c = q))) 5 := by
        show ((((b2n (true && decide (nI a = nI 0) && (true && decide (nI c = nI 0))) + b2n (true && decide (nI a = nI 1) && (true && decide (nI c = nI 1)))) + b2n (true && decide (nI a = nI 2) && (true && decide (nI c = nI 2)))) + b2n (true && decide (nI a = nI 3) && (true && decide (nI c = nI 3)))) + b2n (true && decide (nI a = nI 4) && (true && decide (nI c = nI 4)))) + b2n (true && decide (nI a = nI 5) && (true && decide (nI c = nI 5))) = _
        rw [x1 0 (by omega), x1 1 (by omega), x1 2 (by omega), x1 3 (by omega), x1 4 (by omega), x1 5 (by omega), x2 0 (by omega), x2 1 (by omega), x2 2 (by omega), x2 3 (by omega), x2 4 (by omega), x2 5 (by omega)]
        rfl
      rw [x3]
      exact e
    · rw [decide_eq_false hj]
      simp only [Bool.false_and, Bool.and_false]
      show 0 = sq (fun _ => 0) 5 + 0
      rw [sq_0]
  · rw [decide_eq_false hi]
    simp only [Bool.false_and]
    show 0 = sq (fun _ => 0) 5 + 0
    rw [sq_0]
theorem tw_sum (hw : WR w r) {t : Nat} {v hh : Nat → Int32} (S : SN w r t v hh st) : tw (dd w r t) = sq (fun q => tw (cl_ w r t st q)) 5 + (ct (r1_ w r t st) 20 + ct (r2_ w r t st) 20) := by
  have a : ct (fun i => dd w r t i && decide (i % 5 ≠ 4) && dd w r t (i + 1)) 20 = sq (fun q => ct (fun i => cl_ w r t st q i && decide (i % 5 ≠ 4) && cl_ w r t st q (i + 1)) 20) 5 + ct (r1_ w r t st) 20 := by
    refine ct6 (fun i _ => ?_)
    unfold r1_
    by_cases c : i % 5 ≠ 4
    · have := pw hw S i (i + 1)
      simp only [decide_eq_true c, Bool.and_true]
      exact this
    · simp only [decide_eq_false c, Bool.and_false, Bool.false_and]
      show 0 = sq (fun _ => 0) 5 + 0
      rw [sq_0]
  have b : ct (fun i => dd w r t i && dd w r t (i + 5)) 20 = sq (fun q => ct (fun i => cl_ w r t st q i && cl_ w r t st q (i + 5)) 20) 5 + ct (r2_ w r t st) 20 := ct6 (fun i _ => pw hw S i (i + 5))
  show ct (fun i => dd w r t i && decide (i % 5 ≠ 4) && dd w r t (i + 1)) 20 + ct (fun i => dd w r t i && dd w r t (i + 5)) 20 = sq (fun q => ct (fun i => cl_ w r t st q i && decide (i % 5 ≠ 4) && cl_ w r t st q (i + 1)) 20 + ct (fun i => cl_ w r t st q i && cl_ w r t st q (i + 5)) 20) 5 + _
  rw [sq_add, a, b]
  omega
theorem held_cl (hw : WR w r) {t : Nat} {v hh : Nat → Int32} (S : SN w r t v hh st) {f : Nat} (hf : f < 5) (i : Nat) : bt (hh f) i = cl_ w r t st (f + 1) i := by
  rw [S.held f hf i]
  unfold cl_
  rw [← Bool.decide_and]
  apply decide_eq_decide.mpr
  constructor
  · rintro ⟨h1, h2⟩
    obtain ⟨q, hq5, hbq, hqd⟩ := S.hold i h1
    have h3 := h2
    rw [hbq] at h3
    have := (nI_eq (by omega) (by omega)).mp h3
    exact ⟨hqd (by omega), h2⟩
  · rintro ⟨h1, h2⟩
    exact ⟨dr_20 hw h1, h2⟩
theorem free_cl (hw : WR w r) {t : Nat} (S : SN w r t (V (11 * 0 + 10)) (Hd (11 * 0 + 10)) st) (i : Nat) : bt (sp_X4_dryCells V (11 * 0 + 10) &&& (sp_X4_heldByAny Hd (11 * 0 + 10) ^^^ (-1 : Int32))) i = cl_ w r t st 0 i := by
  unfold cl_
  rw [bt_and]
  by_cases c : i < 32
  · rw [bt_not _ c, dry_bt hw S c]
    by_cases hd : dr w r t i
    · rw [decide_eq_true hd, Bool.true_and, Bool.true_and]
      have := any_bt S i
      have i20 := dr_20 hw hd
      cases hb : bt (sp_X4_heldByAny Hd (11 * 0 + 10)) i
      · rw [hb] at this
        have h0 : st i = nI 0 := Classical.byContradiction fun q => absurd (this.mpr ⟨i20, q⟩) (by decide)
        rw [decide_eq_true h0]; rfl
      · have h0 := (this.mp hb).2
        rw [decide_eq_false (fun q : st i = nI 0 => h0 q)]; rfl
    · rw [decide_eq_false hd]; rfl
  · rw [bt_ge (by omega), decide_eq_false (fun z : dr w r t i => by have := dr_20 hw z; omega)]; rfl
theorem bl_eq (h : RE w r g tb V Hd tr mg st im ke se tx mt) {t : Nat} (S : SN w r t (V (11 * 0 + 10)) (Hd (11 * 0 + 10)) st) : sp_X4_borderLength V Hd (11 * 0 + 10) = nI (ct (r1_ w r t st) 20 + ct (r2_ w r t st) 20) := by
  have hw := h.1.1
  have e0 : sp_X4_twosIn (sp_X4_dryCells V (11 * 0 + 10) &&& (sp_X4_heldByAny Hd (11 * 0 + 10) ^^^ (-1 : Int32))) = nI (tw (cl_ w r t st 0)) := by
    rw [tw_eq (sm_and (dry_sm hw S)), tw_cg (free_cl hw S)]
  have e1 : ∀ f, f < 5 → sp_X4_twosIn (Hd (11 * 0 + 10) f) = nI (tw (cl_ w r t st (f + 1))) := fun f hf => by
    rw [tw_eq (held_sm S hf), tw_cg (held_cl hw S hf)]
  have e2 : sp_X4_twosIn (sp_X4_dryCells V (11 * 0 + 10)) = nI (tw (dd w r t)) := by
    rw [tw_eq (dry_sm hw S)]
    refine congrArg nI (tw_cg fun i => ?_)
    unfold dd
    by_cases c : i < 32
    · exact dry_bt hw S c
    · rw [bt_ge (by omega), decide_eq_false (fun z : dr w r t i => by have := dr_20 hw z; omega)]
  have hN : 5 < ((5 : Int32).toInt - (0 : Int32).toInt).toNat + 1 := by decide
  unfold sp_X4_borderLength
  generalize ((5 : Int32).toInt - (0 : Int32).toInt).toNat + 1 = N at hN ⊢
  dsimp only [nm]
  rw [e0, e2]
  have key := lpv (lp := fun n a y => lp_X4_borderLength_17 Hd (11 * 0 + 10) n a y) (N := 5) (P := fun j a => a = nI (sq (fun q => tw (cl_ w r t st q)) j)) (fun n a _ => ?_) (fun n a i hi hp => ⟨nI (sq (fun q => tw (cl_ w r t st q)) (i + 1)), rfl, ?_⟩) 5 0 N (nI (tw (cl_ w r t st 0))) rfl hN rfl
  · have key : lp_X4_borderLength_17 Hd (11 * 0 + 10) N (nI (tw (cl_ w r t st 0))) (nI 0) = nI (sq (fun q => tw (cl_ w r t st q)) 5) := key
    rw [nI_0] at key
    rw [key, tw_sum hw S, pk_sub (by omega)]
    congr 1
    omega
  · show lp_X4_borderLength_17 Hd (11 * 0 + 10) (n + 1) a (nI 5) = a
    rw [← lp_X4_borderLength_17_s, if_pos (show (5 : Int32) ≤ nI 5 by decide)]
  · show lp_X4_borderLength_17 Hd (11 * 0 + 10) (n + 1) a (nI i) = lp_X4_borderLength_17 Hd (11 * 0 + 10) n _ (nI (i + 1))
    rw [← lp_X4_borderLength_17_s, if_neg (show ¬ (5 : Int32) ≤ nI i from nI_ge (b := 5) hi (by decide)), wh_eq hi, ← nI_succ]
    dsimp only [nm]
    rw [e1 i hi, hp, nI_add, sq_s]
end BO
