section SL
variable {N : Nat} {tb T : Nat → Int32}
theorem nm4_b {α β γ δ ε : Type} (v : α × β × γ × δ) (k : α → β → γ → δ → ε) : nm4 v k = k v.1 v.2.1 v.2.2.1 v.2.2.2 := nm_c (v, k) (fun q => nm4 q.1 q.2) rfl
/-- what the two readings end with -/
def RLs (N : Nat) (g : Nat → Int32) (V Hd : Nat → Nat → Int32) (mg : Nat → Int32) (A : Int32 × (Nat → Int32) × (Nat → Nat → Int32) × (Nat → Nat → Int32)) (B : (Nat → Int32) × (Nat → Int32)) : Prop :=
  ((A.1 < 0 ∧ ¬ B.1 8 = 0 ∧ A.1 = (-10 : Int32) - B.1 5) ∨ (∃ w' r' it, it ≤ N ∧ A.1 = nI it ∧ B.1 8 = 0 ∧ B.1 9 = nI it ∧ DI w' r' (A.2.1 5) A.2.2.1 A.2.2.2 B.1 B.2)) ∧ (∀ j, 6 ≤ j → A.2.1 j = g j) ∧ (∀ j, j < 4 → B.1 j = mg j) ∧ ∀ c, c ≠ 33 → A.2.2.1 c = V c ∧ A.2.2.2 c = Hd c
theorem neg_S {S : Nat} (h : S ≤ 150) : (-10 : Int32) - nI S < 0 := by
  have e : ((-10 : Int32) - nI S).toInt = -10 - (S : Int) := subI rfl (nI_toI (by omega)) (by omega) (by omega)
  rw [Int32.lt_iff_toInt_lt, e]
  show _ < (0 : Int)
  omega
theorem k_0 {p : Nat} (hn : ¬ ch T N (tkS T N p) < 0) : ¬ tkK T N p = 0 ∧ ¬ sp_X1_tokenOf (ch T N (tkS T N p)) = 0 := by
  by_cases hl : lt_ (ch T N (tkS T N p)) = true
  · rw [(k_let hl).1, tok_l hl]; exact ⟨by decide, by decide⟩
  · by_cases hf : fig (ch T N (tkS T N p)) = true
    · rw [tok_f hf]
      refine ⟨fun q => ?_, by decide⟩
      unfold tkK at q
      rw [if_neg hn, if_pos hf] at q
      split at q
      · exact absurd q (by decide)
      · split at q
        · split at q <;> exact absurd q (by decide)
        · exact absurd q (by decide)
    · rw [k_oth hn hl hf, tok_o hl hf]
      refine ⟨fun q => by split at q <;> exact absurd q (by decide), fun q => ?_⟩
      split at q
      · exact absurd q (by decide)
      · rename_i h1
        rw [if_pos (Classical.byContradiction fun z => hn (nle0_lt.mp z))] at q
        exact absurd q (by decide)
theorem loop_ok : ∀ (d n c p i it w r : Nat) (g : Nat → Int32) (V Hd : Nat → Nat → Int32) (mg sh : Nat → Int32), N - p ≤ d → N - p < c → 2 * (N - tkE T N p) + 1 < n → i ≤ p → it ≤ p → RB N g tb T → g 0 = nI p → p ≤ N → LA T N p mg → mg 8 = 0 → DI w r (g 5) V Hd mg sh → g 4 = nI it → mg 9 = nI it → (it = 0 → (∀ k, k < 20 → sh k = 0) ∧ mg 12 = 0) → RLs N g V Hd mg (lp_X1_readAll_24 tb c (nI i) g V Hd) (lp_X7_strand_60 T n mg sh) := by
  intro d
  induction d with
  | zero =>
    intro n c p i it w r g V Hd mg sh hd hc hn hi hit hB h0 hp hA h8 hD h4 h9 hz
    obtain ⟨c, rfl⟩ : ∃ m, c = m + 1 := ⟨c - 1, by omega⟩
    obtain ⟨n, rfl⟩ : ∃ m, n = m + 1 := ⟨n - 1, by omega⟩
    have hN := hB.2.1
    have t := rt hB h0 hp
    have hS := tkS_ge T N p
    have hc0 : ch T N (tkS T N p) = -1 := ch_out (by omega)
    have k0 : tkK T N p = 0 := tkK_0 (by rw [hc0]; decide)
    rw [← lp_X1_readAll_24_s, ← lp_X7_strand_60_s, if_neg (show ¬ (150 : Int32) < nI i from nI_nlt (a := 150) (by omega) (by omega)), nm_b]
    generalize sp_X1_readToken g tb = g9 at t ⊢
    have k6 : g9 2 = 0 := by rw [t.2.1, hc0]; decide
    have a4 : g9 4 = nI it := (t.2.2.2 4 (by decide)).trans h4
    have hD' : DI w r (g9 5) V Hd mg sh := by rw [t.2.2.2 5 (by decide)]; exact hD
    rw [if_pos k6, if_pos (hA.2.2.2.1.trans k0)]
    exact ⟨Or.inr ⟨w, r, it, by omega, a4, h8, h9, hD'⟩, fun j hj => t.2.2.2 j (by omega), fun j _ => rfl, fun c _ => ⟨rfl, rfl⟩⟩
  | succ d ih =>
    intro n c p i it w r g V Hd mg sh hd hc hn hi hit hB h0 hp hA h8 hD h4 h9 hz
    obtain ⟨c, rfl⟩ : ∃ m, c = m + 1 := ⟨c - 1, by omega⟩
    obtain ⟨n, rfl⟩ : ∃ m, n = m + 1 := ⟨n - 1, by omega⟩
    have hN := hB.2.1
    have t := rt hB h0 hp
    rw [← lp_X1_readAll_24_s, ← lp_X7_strand_60_s, if_neg (show ¬ (150 : Int32) < nI i from nI_nlt (a := 150) (by omega) (by omega)), nm_b]
    generalize sp_X1_readToken g tb = g9 at t ⊢
    by_cases hc0 : ch T N (tkS T N p) < 0
    · have hge := (ch_neg hB.t0).mp hc0
      have k0 : tkK T N p = 0 := tkK_0 hc0
      have k6 : g9 2 = 0 := by rw [t.2.1, ch_out hge]; decide
      have a4 : g9 4 = nI it := (t.2.2.2 4 (by decide)).trans h4
      have hD' : DI w r (g9 5) V Hd mg sh := by rw [t.2.2.2 5 (by decide)]; exact hD
      rw [if_pos k6, if_pos (hA.2.2.2.1.trans k0)]
      exact ⟨Or.inr ⟨w, r, it, by omega, a4, h8, h9, hD'⟩, fun j hj => t.2.2.2 j (by omega), fun j _ => rfl, fun c _ => ⟨rfl, rfl⟩⟩
    · obtain ⟨k1, k2⟩ := k_0 hc0
      rw [if_neg (show ¬ g9 2 = 0 by rw [t.2.1]; exact k2), if_neg (show ¬ mg 6 = 0 by rw [hA.2.2.2.1]; exact k1), if_pos h8]
      obtain ⟨R, R6, R4, Rm, R9, RV⟩ := item_ok hB hp hA h8 t hc0 hD (by omega) h4 h9 hz
      generalize sp_X1_isItem g9 tb V Hd = A at R R6 R4 Rm R9 RV ⊢
      generalize sp_X7_readItem mg T sh = B at R R6 R4 Rm R9 RV ⊢
      obtain ⟨a1, a2, a3, a4⟩ := A
      obtain ⟨m13, s14⟩ := B
      dsimp only at R R6 R4 Rm R9 RV
      rw [nm4_b, nm2_b]
      dsimp only
      rcases R with ⟨q1, q2, ⟨S, q3, q4⟩, q5⟩ | ⟨q1, w', r', p', q2, q3, q4, q5, q6, q7⟩
      · rw [if_pos q1]
        have hfin : lp_X7_strand_60 T n (upd m13 9 (m13 9 + 1)) s14 = (upd m13 9 (m13 9 + 1), s14) := by
          obtain ⟨n, rfl⟩ : ∃ m, n = m + 1 := ⟨n - 1, by omega⟩
          have u8 : ¬ upd m13 9 (m13 9 + 1) 8 = 0 := by rw [upd_o (by decide)]; exact q5
          rw [← lp_X7_strand_60_s, if_neg u8, ite_self]
        rw [hfin]
        refine ⟨Or.inl ⟨?_, ?_, ?_⟩, R6, fun j hj => ?_, RV⟩
        · show (-10 : Int32) - a2 1 < 0
          rw [q4]; exact neg_S (by omega)
        · show ¬ upd m13 9 (m13 9 + 1) 8 = 0
          rw [upd_o (by decide)]; exact q5
        · show (-10 : Int32) - a2 1 = (-10 : Int32) - upd m13 9 (m13 9 + 1) 5
          rw [upd_o (by decide), q2]
        · show upd m13 9 (m13 9 + 1) j = mg j
          rw [upd_o (by omega)]; exact Rm j hj
      · rw [if_neg (by rw [q1]; decide), R4, h4, R9, h9, ← nI_succ, ← nI_succ]
        have hgt := tkE_gt (T := T) (N := N) (p := p) hc0
        have hge := tkS_ge T N p
        have h1 := tkS_ge T N p'
        have h2 := tkE_ge T N p'
        have h3 := tkE_le hB.t0 q3
        have hB' : RB N (upd a2 4 (nI (it + 1))) tb T := ⟨(upd_o (by decide)).trans ((R6 6 (by decide)).trans hB.1), hB.2⟩
        have hD' : DI w' r' (upd a2 4 (nI (it + 1)) 5) a3 a4 (upd m13 9 (nI (it + 1))) s14 := by
          rw [upd_o (show 5 ≠ 4 by decide)]
          exact DI_cg q7 (fun j hj => upd_o (by omega))
        obtain ⟨X, X6, Xm, XV⟩ := ih n c p' (i + 1) (it + 1) w' r' (upd a2 4 (nI (it + 1))) a3 a4 (upd m13 9 (nI (it + 1))) s14 (by omega) (by omega) (by omega) (by omega) (by omega) hB' ((upd_o (by decide)).trans q4) q3 (q5.u (by decide) _) ((upd_o (by decide)).trans q6) hD' pk_us pk_us (fun z => absurd z (by omega))
        refine ⟨X, fun j hj => (X6 j hj).trans ((upd_o (by omega)).trans (R6 j hj)), fun j hj => (Xm j hj).trans ((upd_o (by omega)).trans (Rm j hj)), fun c hc => ⟨(XV c hc).1.trans (RV c hc).1, (XV c hc).2.trans (RV c hc).2⟩⟩
end SL
