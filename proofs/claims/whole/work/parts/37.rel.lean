/-! the two states together -/
def TX (g tb mg tx : Nat → Int32) : Prop := ∃ T, T ≤ 150 ∧ g 6 = nI T ∧ mg 3 = nI T ∧ ∀ j, j < T → tb j = tx j ∧ ∃ c, c ≤ 255 ∧ tx j = nI c
def SE (w r : Nat) (g mg se : Nat → Int32) : Prop := ∃ n, n ≤ 6 ∧ g 13 = nI n ∧ mg 2 = nI n ∧ (∀ k, k < n → ∃ i b s, gr w r i ∧ b ≤ 1 ∧ s ≤ 1 ∧ se (3 * k) = nI i ∧ se (3 * k + 1) = nI b ∧ se (3 * k + 2) = nI s) ∧
  (∀ i, bt (g 14) i = true ↔ i < 20 ∧ ∃ k, k < n ∧ se (3 * k) = nI i ∧ se (3 * k + 1) = 0 ∧ se (3 * k + 2) = 1) ∧ (∀ i, bt (g 15) i = true ↔ i < 20 ∧ ∃ k, k < n ∧ se (3 * k) = nI i ∧ se (3 * k + 1) = 1 ∧ se (3 * k + 2) = 1) ∧
  (∀ i, bt (g 16) i = true ↔ i < 20 ∧ ∃ k, k < n ∧ se (3 * k) = nI i ∧ se (3 * k + 1) = 0 ∧ se (3 * k + 2) = 0) ∧ (∀ i, bt (g 17) i = true ↔ i < 20 ∧ ∃ k, k < n ∧ se (3 * k) = nI i ∧ se (3 * k + 1) = 1 ∧ se (3 * k + 2) = 0)
def KE (w r : Nat) (g : Nat → Int32) (V Hd : Nat → Nat → Int32) (im ke : Nat → Int32) : Prop := ∀ q, q < 2 → (g (11 + q) = 0 ∨ g (11 + q) = 1) ∧ ke q = g (11 + q) ∧ (ke q = 1 → SY w r V Hd (q + 1) (g (8 + q)) (fun i => im (254 * q + i)))
def RE (w r : Nat) (g tb : Nat → Int32) (V Hd : Nat → Nat → Int32) (tr : Int64) (mg st im ke se tx : Nat → Int32) (mt : Int64) : Prop := (WR w r ∧ mg 0 = nI w ∧ mg 1 = nI r) ∧ TX g tb mg tx ∧ SE w r g mg se ∧ SY w r V Hd 0 (g 7) st ∧ KE w r g V Hd im ke ∧ tr = mt
theorem TX_cg {g tb mg tx g' mg' : Nat → Int32} (h : TX g tb mg tx) (h1 : g' 6 = g 6) (h2 : mg' 3 = mg 3) : TX g' tb mg' tx := by
  obtain ⟨T, a, b, c, d⟩ := h
  exact ⟨T, a, h1.trans b, h2.trans c, d⟩
theorem SE_cg {w r : Nat} {g mg se g' mg' : Nat → Int32} (h : SE w r g mg se) (h1 : ∀ j, 13 ≤ j → j ≤ 17 → g' j = g j) (h2 : mg' 2 = mg 2) : SE w r g' mg' se := by
  obtain ⟨n, a, b, c, d, e1, e2, e3, e4⟩ := h
  refine ⟨n, a, (h1 13 (by decide) (by decide)).trans b, h2.trans c, d, ?_, ?_, ?_, ?_⟩
  · rw [h1 14 (by decide) (by decide)]; exact e1
  · rw [h1 15 (by decide) (by decide)]; exact e2
  · rw [h1 16 (by decide) (by decide)]; exact e3
  · rw [h1 17 (by decide) (by decide)]; exact e4
theorem KE_cg {w r : Nat} {g g' : Nat → Int32} {V Hd V' Hd' : Nat → Nat → Int32} {im ke : Nat → Int32} (h : KE w r g V Hd im ke) (hg : ∀ j, 8 ≤ j → j ≤ 12 → g' j = g j) (hc : ∀ c, 11 ≤ c → c ≤ 32 → cp (V', Hd') c (V, Hd) c) : KE w r g' V' Hd' im ke := by
  intro q hq
  obtain ⟨a, b, c⟩ := h q hq
  refine ⟨?_, ?_, fun e => ?_⟩
  · rw [hg (11 + q) (by omega) (by omega)]; exact a
  · rw [hg (11 + q) (by omega) (by omega)]; exact b
  · rw [hg (8 + q) (by omega) (by omega)]
    exact SY_cp (c e) (fun j hj => hc _ (by omega) (by omega)) (fun _ _ => rfl)
/-- the present's SN, with all that a question needs -/
theorem RE.now {w r : Nat} {g tb : Nat → Int32} {V Hd : Nat → Nat → Int32} {tr : Int64} {mg st im ke se tx : Nat → Int32} {mt : Int64} (h : RE w r g tb V Hd tr mg st im ke se tx mt) : ∃ t, SN w r t (V (11 * 0 + 10)) (Hd (11 * 0 + 10)) st := by
  obtain ⟨n, _, _, _, ⟨t, h4⟩, _⟩ := h.2.2.2.1
  exact ⟨t, h4⟩
theorem SY_now {w r t : Nat} {V Hd V' Hd' : Nat → Nat → Int32} {u : Int32} {s s' : Nat → Int32} (S : SY w r V Hd 0 u s) (N : SN w r t (V' (11 * 0 + 10)) (Hd' (11 * 0 + 10)) s') (h : ∀ c, c < 10 → cp (V', Hd') c (V, Hd) c) (hs : ∀ j, 23 ≤ j → s' j = s j) : SY w r V' Hd' 0 u s' := by
  obtain ⟨n, h1, h2, h3, _, h5⟩ := S
  refine ⟨n, h1, h2, by rw [hs 23 (by decide)]; exact h3, ⟨t, N⟩, fun j hj => ?_⟩
  obtain ⟨t', h6⟩ := h5 j hj
  exact ⟨t', SN_cg h6 (h (11 * 0 + j) (by omega)).1 (h (11 * 0 + j) (by omega)).2 (fun i hi => hs _ (by omega))⟩
/-! arguments -/
theorem within_in (x M : Int32) : sp_X6_isWithin x M = sp_X7_in x 0 M := rfl
theorem fam_eq (x : Int32) : sp_X6_isFamily x = sp_X7_isFamily x := rfl
theorem ice {V : Nat → Nat → Int32} {k : Nat} {mg : Nat → Int32} (h0 : V k 0 = mg 0) (h1 : V k 1 = mg 1) (x y : Int32) : sp_X4_isCell V k x y = sp_X7_isCell mg x y := by
  unfold sp_X4_isCell sp_X7_isCell
  rw [h0, h1]
  rfl
theorem fam_of (x : Int32) : sp_X7_isFamily x = 0 ∨ (sp_X7_isFamily x = 1 ∧ ∃ f, f < 5 ∧ x = nI f) := by
  rcases inn (x := x) (n := 4) (by decide) with ⟨h, _⟩ | ⟨h, i, hi, e⟩
  · exact Or.inl h
  · exact Or.inr ⟨h, i, by omega, e⟩
theorem in_of2 (x : Int32) {n : Nat} (hn : n < 2 ^ 31) : sp_X7_in x 0 (nI n) = 0 ∨ (sp_X7_in x 0 (nI n) = 1 ∧ ∃ f, f ≤ n ∧ x = nI f) := by
  rcases inn (x := x) hn with ⟨h, _⟩ | h
  · exact Or.inl h
  · exact Or.inr h
theorem k_eq (i j : Nat) : ((5 : Int32) * nI j) + nI i = nI (5 * j + i) := by rw [show (5 : Int32) = nI 5 from rfl, pk_mul, nI_add]
theorem bit_eq (i j : Nat) : sp_X6_bitOf (nI i) (nI j) = (1 : Int32) <<< (nI (5 * j + i) &&& 31) := by unfold sp_X6_bitOf; rw [k_eq]
theorem idry {st : Nat → Int32} {t k : Nat} (ht : st 22 = nI t) (hk : k < 100) (ht2 : t < 100) : sp_X7_isDry st (nI k) = if t ≤ k / 5 then 1 else 0 := by
  unfold sp_X7_isDry
  rw [c22, ht, show (5 : Int32) = nI 5 from rfl, pk_div (by omega) (by decide) (by decide)]
  by_cases c : t ≤ k / 5
  · rw [if_pos c, if_neg (nI_nlt c (by omega))]
  · rw [if_neg c, if_pos (nI_lt (by omega) (by omega))]
theorem gr_k {w r i j : Nat} (h : WR w r) (hi : i < w) (hj : j < r) : 5 * j + i < 20 ∧ gr w r (5 * j + i) ∧ (5 * j + i) % 5 = i ∧ (5 * j + i) / 5 = j := by
  have := h.w5
  have := h.r4
  have e1 : (5 * j + i) % 5 = i := by omega
  have e2 : (5 * j + i) / 5 = j := by omega
  exact ⟨by omega, ⟨by rw [e1]; exact hi, by rw [e2]; exact hj⟩, e1, e2⟩
section DW
variable {w r t : Nat} {V Hd : Nat → Nat → Int32} {k : Nat} {h b : Nat → Int32}
theorem dry0 (hw : WR w r) (S : SN w r t (V k) h b) {i : Nat} (hi : i < 32) : sp_X4_dryCells V k &&& ((1 : Int32) <<< (nI i &&& 31)) = 0 ↔ ¬ dr w r t i := by
  rw [and_bit hi, dry_bt hw S hi, decide_eq_false_iff_not]
theorem cl0 {c : Int32} {i : Nat} (hi : i < 32) : c &&& ((1 : Int32) <<< (nI i &&& 31)) = 0 ↔ ¬ bt c i = true := by
  rw [and_bit hi]
  cases bt c i <;> simp
theorem SN_set {v h' : Nat → Int32} (S : SN w r t v h b) {c q : Nat} (hc : c < 20) (hq : q ≤ 5) (hd : 0 < q → dr w r t c) (hh : ∀ f, f < 5 → ∀ i, bt (h' f) i = if i = c then decide (q = f + 1) else bt (h f) i) : SN w r t v h' (upd b c (nI q)) := by
  refine ⟨⟨S.v0, S.v1, ?_, ?_, ?_⟩, ⟨?_, S.tr, ?_⟩, fun f hf i => ?_, fun i hi => ?_, fun i hi => ?_⟩
  · rw [pk_un (by omega)]; exact S.v2
  · rw [pk_un (by omega)]; exact S.v3
  · rw [pk_un (by omega)]; exact S.v4
  · rw [pk_un (by omega)]; exact S.b22
  · rw [pk_un (by omega)]; exact S.b21
  · rw [hh f hf]
    by_cases e : i = c
    · subst e
      rw [if_pos rfl, pk_us]
      congr 1
      apply propext
      constructor
      · intro z; exact ⟨hc, by rw [z]⟩
      · rintro ⟨_, z⟩; exact (nI_eq (by omega) (by omega)).mp z
    · rw [if_neg e, pk_un e]; exact S.held f hf i
  · by_cases e : i = c
    · subst e; exact ⟨q, hq, pk_us, hd⟩
    · rw [pk_un e]; exact S.hold i hi
  · rw [pk_un (by omega)] at hi; exact S.cloth i hi
theorem SN_cloth {v v' : Nat → Int32} (S : SN w r t v h b) {c : Int32} (hv : ∀ j, j ≠ 2 → v' j = v j) (h2 : v' 2 = c) (hc : ∀ i, bt c i = true → i < 20 ∧ dr w r t i) : SN w r t v' h (upd b 20 c) := by
  refine ⟨⟨?_, ?_, ?_, ?_, ?_⟩, ⟨?_, S.tr, ?_⟩, fun f hf i => ?_, fun i hi => ?_, fun i hi => ?_⟩
  · rw [hv 0 (by decide)]; exact S.v0
  · rw [hv 1 (by decide)]; exact S.v1
  · rw [pk_us]; exact h2
  · rw [hv 3 (by decide), pk_un (by decide)]; exact S.v3
  · rw [hv 4 (by decide), pk_un (by decide)]; exact S.v4
  · rw [pk_un (by decide)]; exact S.b22
  · rw [pk_un (by decide)]; exact S.b21
  · rw [S.held f hf i]
    congr 1
    apply propext
    constructor
    · rintro ⟨a, e⟩; exact ⟨a, by rw [pk_un (by omega)]; exact e⟩
    · rintro ⟨a, e⟩; rw [pk_un (by omega)] at e; exact ⟨a, e⟩
  · rw [pk_un (by omega)]; exact S.hold i hi
  · rw [pk_us] at hi; exact hc i hi
theorem SN_wind {v v' : Nat → Int32} (S : SN w r t v h b) {c : Int32} (hv : ∀ j, j ≠ 3 → v' j = v j) (h2 : v' 3 = c) (hc : c = 0 ∨ c = 1) : SN w r t v' h (upd b 21 c) := by
  refine ⟨⟨?_, ?_, ?_, ?_, ?_⟩, ⟨?_, S.tr, ?_⟩, fun f hf i => ?_, fun i hi => ?_, fun i hi => ?_⟩
  · rw [hv 0 (by decide)]; exact S.v0
  · rw [hv 1 (by decide)]; exact S.v1
  · rw [hv 2 (by decide), pk_un (by decide)]; exact S.v2
  · rw [pk_us]; exact h2
  · rw [hv 4 (by decide), pk_un (by decide)]; exact S.v4
  · rw [pk_un (by decide)]; exact S.b22
  · rw [pk_us]; exact hc
  · rw [S.held f hf i]
    congr 1
    apply propext
    constructor
    · rintro ⟨a, e⟩; exact ⟨a, by rw [pk_un (by omega)]; exact e⟩
    · rintro ⟨a, e⟩; rw [pk_un (by omega)] at e; exact ⟨a, e⟩
  · rw [pk_un (by omega)]; exact S.hold i hi
  · rw [pk_un (by decide)] at hi; exact S.cloth i hi
theorem give_ok {f : Nat} (hf : f < 5) (x : Int32) : sp_X4_give Hd k (nI f) x = vs Hd k f (Hd k f ||| x) := by
  have c1 : ¬ nI f < 0 := nI_pos (by omega)
  have c2 : ¬ (5 : Int32) ≤ nI f := nI_ge hf (by decide)
  unfold sp_X4_give
  rw [if_neg c1, if_neg c2, nI_clamp (by omega)]
theorem free_ok (x : Int32) : (∀ f, f < 5 → sp_X4_freeAllBut Hd k x k f = Hd k f &&& x) ∧ ∀ c, c ≠ k → sp_X4_freeAllBut Hd k x c = Hd c := by
  have key := lpv (lp := fun n (a : Nat → Nat → Int32) y => lp_X4_freeAllBut_2 k x n y a) (N := 5) (P := fun i a => (∀ f, f < i → a k f = Hd k f &&& x) ∧ (∀ f, i ≤ f → a k f = Hd k f) ∧ ∀ c, c ≠ k → a c = Hd c) (fun n a _ => ?_) (fun n a i hi hp => ⟨vs a k i (a k i &&& x), ⟨fun f hf => ?_, fun f hf => ?_, fun c hc => ?_⟩, ?_⟩) 5 0 (((5 : Int32).toInt - (0 : Int32).toInt).toNat + 1) Hd rfl (by decide) ⟨fun f hf => absurd hf (Nat.not_lt_zero _), fun _ _ => rfl, fun _ _ => rfl⟩
  · exact ⟨key.1, key.2.2⟩
  · show (if (5 : Int32) ≤ nI 5 then a else _) = a
    rw [if_pos (by decide)]
  · by_cases e : f = i
    · subst e; rw [vs_s, hp.2.1 f (Nat.le_refl _)]
    · rw [vs_j e]; exact hp.1 f (by omega)
  · rw [vs_j (by omega)]; exact hp.2.1 f (by omega)
  · rw [vs_o hc]; exact hp.2.2 c hc
  · have c : ¬ (5 : Int32) ≤ nI i := nI_ge (b := 5) hi (by decide)
    show (if (5 : Int32) ≤ nI i then a else lp_X4_freeAllBut_2 k x n (nI i + 1) (vs a k (nI i).toNatClampNeg (a k (nI i).toNatClampNeg &&& x))) = _
    rw [if_neg c, nI_clamp (by omega), nI_succ]
end DW
