/-! ways over cells: how many of others -/
def adj (i j : Nat) : Prop := (j = i + 1 ∧ i % 5 ≠ 4) ∨ (i = j + 1 ∧ j % 5 ≠ 4) ∨ j = i + 5 ∨ i = j + 5
def wk (w r t : Nat) (c : Nat → Nat) : Nat → Nat → Nat → Prop
  | 0, k, n => dr w r t k ∧ k / 5 = t ∧ c k ≤ n
  | m + 1, k, n => wk w r t c m k n ∨ (dr w r t k ∧ ∃ j, adj k j ∧ c k ≤ n ∧ wk w r t c m j (n - c k))
def Dn (w r t : Nat) (c : Nat → Nat) (k n : Nat) : Prop := ∃ m, wk w r t c m k n
section WK
variable {w r t : Nat} {c : Nat → Nat}
theorem wk_dr : ∀ {m k n : Nat}, wk w r t c m k n → dr w r t k ∧ c k ≤ n
  | 0, _, _, h => ⟨h.1, h.2.2⟩
  | m + 1, _, _, h => by
    rcases h with h | ⟨h1, j, _, h2, _⟩
    · exact wk_dr h
    · exact ⟨h1, h2⟩
theorem wk_le {m k n : Nat} (h : wk w r t c m k n) : ∀ d, wk w r t c (m + d) k n
  | 0 => h
  | d + 1 => Or.inl (wk_le h d)
theorem wk_mono : ∀ {m k n n' : Nat}, wk w r t c m k n → n ≤ n' → wk w r t c m k n'
  | 0, _, _, _, h, hn => ⟨h.1, h.2.1, Nat.le_trans h.2.2 hn⟩
  | m + 1, k, n, n', h, hn => by
    rcases h with h | ⟨h1, j, h2, h3, h4⟩
    · exact Or.inl (wk_mono h hn)
    · exact Or.inr ⟨h1, j, h2, Nat.le_trans h3 hn, wk_mono h4 (by omega)⟩
theorem Dn_dr {k n : Nat} (h : Dn w r t c k n) : dr w r t k ∧ c k ≤ n := by
  obtain ⟨m, h⟩ := h
  exact wk_dr h
theorem Dn_mono {k n n' : Nat} (h : Dn w r t c k n) (hn : n ≤ n') : Dn w r t c k n' := by
  obtain ⟨m, h⟩ := h
  exact ⟨m, wk_mono h hn⟩
theorem Dn_g {k : Nat} (h : dr w r t k) (hg : k / 5 = t) : Dn w r t c k (c k) := ⟨0, h, hg, Nat.le_refl _⟩
theorem Dn_s {k j n : Nat} (h : dr w r t k) (ha : adj k j) (hd : Dn w r t c j n) : Dn w r t c k (c k + n) := by
  obtain ⟨m, hm⟩ := hd
  exact ⟨m + 1, Or.inr ⟨h, j, ha, Nat.le_add_right _ _, by rw [Nat.add_sub_cancel_left]; exact hm⟩⟩
/-- straight down to the water -/
theorem Dn_down (hc : ∀ k, c k ≤ 1) : ∀ (d k : Nat), dr w r t k → k / 5 = t + d → Dn w r t c k (d + 1)
  | 0, k, h, hk => Dn_mono (Dn_g h (by omega)) (by have := hc k; omega)
  | d + 1, k, h, hk => by
    have h1 := h.1
    have h2 := h.2.2
    have hd := Dn_down hc d (k - 5) ⟨by omega, by omega, by omega⟩ (by omega)
    exact Dn_mono (Dn_s h (show adj k (k - 5) from Or.inr (Or.inr (Or.inr (by omega)))) hd) (by have := hc k; omega)
end WK
/-- sets of cells that grow are still behind twenty turns -/
theorem ct_lt {p q : Nat → Bool} : ∀ {n : Nat}, (∀ i, i < n → p i = true → q i = true) → (∃ i, i < n ∧ q i = true ∧ ¬ p i = true) → ct p n < ct q n
  | 0, _, h => by obtain ⟨i, hi, _⟩ := h; omega
  | n + 1, hm, h => by
    obtain ⟨i, hi, h1, h2⟩ := h
    have hle := ct_mono (p := p) (q := q) (n := n) (fun i hi => hm i (by omega))
    rw [ct_s, ct_s]
    by_cases e : i = n
    · subst e
      unfold b2n
      rw [if_neg h2, if_pos h1]; omega
    · have := ct_lt (n := n) (fun i hi => hm i (by omega)) ⟨i, by omega, h1, h2⟩
      have hb : b2n (p n) ≤ b2n (q n) := by
        unfold b2n
        by_cases z : p n = true
        · rw [if_pos z, if_pos (hm n (by omega) z)]; exact Nat.le_refl _
        · rw [if_neg z]; exact Nat.zero_le _
      omega
theorem stab {S : Nat → Nat → Bool} (mono : ∀ i k, k < 20 → S i k = true → S (i + 1) k = true) (det : ∀ i, (∀ k, k < 20 → S (i + 1) k = S i k) → ∀ k, k < 20 → S (i + 2) k = S (i + 1) k) : ∀ d k, k < 20 → S (20 + d) k = S 20 k := by
  have step : ∀ i, (∀ k, k < 20 → S (i + 1) k = S i k) ∨ i < ct (S (i + 1)) 20 := by
    intro i
    induction i with
    | zero =>
      by_cases h : ∃ k, k < 20 ∧ S 1 k = true ∧ ¬ S 0 k = true
      · right
        have := ct_lt (p := S 0) (q := S 1) (n := 20) (mono 0) h
        show 0 < ct (S 1) 20
        omega
      · left
        intro k hk
        cases hs : S 1 k
        · cases h0 : S 0 k
          · rfl
          · have := mono 0 k hk h0; rw [hs] at this; cases this
        · cases h0 : S 0 k
          · exact absurd ⟨k, hk, hs, by rw [h0]; decide⟩ h
          · rfl
    | succ i ih =>
      rcases ih with ih | ih
      · exact Or.inl (det i ih)
      · by_cases h : ∃ k, k < 20 ∧ S (i + 2) k = true ∧ ¬ S (i + 1) k = true
        · right
          have := ct_lt (p := S (i + 1)) (q := S (i + 2)) (n := 20) (mono (i + 1)) h
          show i + 1 < ct (S (i + 2)) 20
          omega
        · left
          intro k hk
          show S (i + 2) k = S (i + 1) k
          cases hs : S (i + 2) k
          · cases h0 : S (i + 1) k
            · rfl
            · have := mono (i + 1) k hk h0; rw [hs] at this; cases this
          · cases h0 : S (i + 1) k
            · exact absurd ⟨k, hk, hs, by rw [h0]; decide⟩ h
            · rfl
  have s20 : ∀ k, k < 20 → S 21 k = S 20 k := by
    rcases step 20 with h | h
    · exact h
    · have := ct_le (p := S (20 + 1)) 20
      omega
  intro d
  have all : ∀ d k, k < 20 → S (20 + d + 1) k = S (20 + d) k := by
    intro d
    induction d with
    | zero => exact s20
    | succ d ih => exact det (20 + d) ih
  induction d with
  | zero => exact fun _ _ => rfl
  | succ d ih => exact fun k hk => (all d k hk).trans (ih k hk)
section WZ
variable {w r t : Nat} {c : Nat → Nat}
def opt (w r t : Nat) (c : Nat → Nat) (k n : Nat) : Prop := ∀ n', Dn w r t c k n' → n ≤ n'
def zz_ (w r t : Nat) (c : Nat → Nat) (m k : Nat) : Prop := ∃ n, wk w r t c m k n ∧ opt w r t c k n
noncomputable def zb (w r t : Nat) (c : Nat → Nat) (m k : Nat) : Bool := @decide (zz_ w r t c m k) (Classical.propDecidable _)
theorem zb_iff {m k : Nat} : zb w r t c m k = true ↔ zz_ w r t c m k := by unfold zb; exact @decide_eq_true_iff _ (Classical.propDecidable _)
theorem opt_nx {k j n : Nat} (h : dr w r t k) (ha : adj k j) (hn : opt w r t c k n) : opt w r t c j (n - c k) := fun n' hd => by
  have := hn _ (Dn_s h ha hd)
  omega
theorem opt_eq {k n n' : Nat} (h1 : Dn w r t c k n) (o1 : opt w r t c k n) (h2 : Dn w r t c k n') (o2 : opt w r t c k n') : n = n' := Nat.le_antisymm (o1 _ h2) (o2 _ h1)
/-- within twenty steps -/
theorem wk20 (hw : WR w r) {k n : Nat} (h : Dn w r t c k n) (ho : opt w r t c k n) : wk w r t c 20 k n := by
  have hs := stab (S := zb w r t c) (fun i k _ q => by
    rw [zb_iff] at q ⊢
    obtain ⟨n, q1, q2⟩ := q
    exact ⟨n, Or.inl q1, q2⟩) (fun i he k hk => by
    have key : zb w r t c (i + 2) k = true ↔ zb w r t c (i + 1) k = true := by
      rw [zb_iff, zb_iff]
      constructor
      · rintro ⟨n, q1, q2⟩
        rcases q1 with q1 | ⟨q3, j, q4, q5, q6⟩
        · exact ⟨n, q1, q2⟩
        · have oj := opt_nx q3 q4 q2
          have hj := dr_20 hw (wk_dr q6).1
          have hz : zb w r t c (i + 1) j = true := zb_iff.mpr ⟨_, q6, oj⟩
          rw [he j hj, zb_iff] at hz
          obtain ⟨n2, z1, z2⟩ := hz
          have e := opt_eq ⟨_, z1⟩ z2 ⟨_, q6⟩ oj
          rw [e] at z1
          exact ⟨n, Or.inr ⟨q3, j, q4, q5, z1⟩, q2⟩
      · rintro ⟨n, q1, q2⟩
        exact ⟨n, Or.inl q1, q2⟩
    cases h1 : zb w r t c (i + 2) k <;> cases h2 : zb w r t c (i + 1) k
    · rfl
    · rw [h1, h2] at key; exact absurd (key.mpr rfl) (by decide)
    · rw [h1, h2] at key; exact absurd (key.mp rfl) (by decide)
    · rfl)
  obtain ⟨m, hm⟩ := h
  have hk := dr_20 hw (wk_dr hm).1
  have hz : zb w r t c (20 + m) k = true := zb_iff.mpr ⟨n, by rw [Nat.add_comm]; exact wk_le hm 20, ho⟩
  rw [hs m k hk, zb_iff] at hz
  obtain ⟨n2, z1, z2⟩ := hz
  rw [opt_eq ⟨_, hm⟩ ho ⟨_, z1⟩ z2]
  exact z1
end WZ
