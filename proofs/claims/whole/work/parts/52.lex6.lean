/-! the class' tokens, by the reference's -/
section RD
variable {N : Nat} {g tb T : Nat → Int32}
def RB (N : Nat) (g tb T : Nat → Int32) : Prop := g 6 = nI N ∧ N ≤ 150 ∧ ∀ j, j < N → tb j = T j ∧ 0 ≤ T j
theorem RB.t0 (h : RB N g tb T) : ∀ j, j < N → 0 ≤ T j := fun j hj => (h.2.2 j hj).2
theorem RB.up (h : RB N g tb T) {k : Nat} (hk : 6 ≠ k) (x : Int32) : RB N (upd g k x) tb T := ⟨(upd_o hk).trans h.1, h.2⟩
theorem by6 (h : RB N g tb T) {p : Nat} (hp : p ≤ 200) : sp_X5_byteAt g tb (nI p) = ch T N p := by
  have hN := h.2.1
  unfold sp_X5_byteAt ch
  rw [h.1, if_neg (nI_pos (by omega))]
  by_cases c : p < N
  · rw [if_neg (nI_ge c (by omega)), if_neg (show ¬ (150 : Int32) ≤ nI p from nI_ge (b := 150) (by omega) (by decide)), nI_clamp (by omega), if_pos c]
    exact (h.2.2 p c).1
  · rw [if_pos (nI_le (by omega) (by omega)), if_neg c]
theorem rd_2 : ∀ (n i : Nat) (g : Nat → Int32) (p : Nat), RB N g tb T → g 0 = nI p → p ≤ N → N - p + i ≤ 150 → 150 - i < n → i ≤ 150 → lp_X1_readToken_2 tb n (nI i) g = upd g 0 (nI (run_ blk T N p))
  | 0, _, _, _, _, _, _, _, h, _ => absurd h (Nat.not_lt_zero _)
  | n + 1, i, g, p, h, h0, hp, hi, hn, h150 => by
    rw [← lp_X1_readToken_2_s]
    by_cases e : i = 150
    · subst e
      rw [if_pos (show (150 : Int32) ≤ nI 150 by decide)]
      have hb : ¬ blk (ch T N p) = true := by rw [ch_out (by omega)]; decide
      rw [run_no blk_1 hb, upd_id h0]
    · rw [if_neg (show ¬ (150 : Int32) ≤ nI i from nI_ge (b := 150) (by omega) (by decide)), nm_b, h0, by6 h (by have := h.2.1; omega)]
      by_cases c : ch T N p = 32
      · rw [if_pos c]
        have hb : blk (ch T N p) = true := by simp [blk, c]
        have hlt : p < N := by
          rcases Nat.lt_or_ge p N with r | r
          · exact r
          · rw [ch_out r] at c; exact absurd c (by decide)
        rw [← nI_succ, rd_2 n (i + 1) (upd g 0 (nI p + 1)) (p + 1) (h.up (by decide) _) (by rw [pk_us, nI_1]) (by omega) (by omega) (by omega) (by omega), upd_upd, run_yes blk_1 hb]
      · rw [if_neg c]
        have hb : ¬ blk (ch T N p) = true := by simp [blk, c]
        rw [run_no blk_1 hb, upd_id h0]
theorem rd_93 {P : Int32 → Bool} {k : Int32} (hP1 : P (-1) = false) (hP : ∀ c, P c = true ↔ sp_X1_tokenOf c = k) : ∀ (n i : Nat) (g : Nat → Int32) (p : Nat), RB N g tb T → g 0 = nI p → g 2 = k → p ≤ N → N - p + i ≤ 150 → 150 - i < n → i ≤ 150 → lp_X1_readToken_93 tb (150 : Int32) n (nI i) g = upd g 0 (nI (run_ P T N p))
  | 0, _, _, _, _, _, _, _, _, h, _ => absurd h (Nat.not_lt_zero _)
  | n + 1, i, g, p, h, h0, h2, hp, hi, hn, h150 => by
    rw [← lp_X1_readToken_93_s]
    by_cases e : i = 150
    · subst e
      rw [if_pos (show (150 : Int32) ≤ nI 150 by decide)]
      have hb : ¬ P (ch T N p) = true := by rw [ch_out (by omega), hP1]; decide
      rw [run_no hP1 hb, upd_id h0]
    · rw [if_neg (show ¬ (150 : Int32) ≤ nI i from nI_ge (b := 150) (by omega) (by decide)), nm_b, nm_b, h0, by6 h (by have := h.2.1; omega), h2]
      by_cases c : sp_X1_tokenOf (ch T N p) = k
      · rw [if_pos c]
        have hb : P (ch T N p) = true := (hP _).mpr c
        have hlt : p < N := by
          rcases Nat.lt_or_ge p N with r | r
          · exact r
          · rw [ch_out r, hP1] at hb; cases hb
        rw [← nI_succ, rd_93 hP1 hP n (i + 1) (upd g 0 (nI p + 1)) (p + 1) (h.up (by decide) _) (by rw [pk_us, nI_1]) ((upd_o (by decide)).trans h2) (by omega) (by omega) (by omega) (by omega), upd_upd, run_yes hP1 hb]
      · rw [if_neg c]
        have hb : ¬ P (ch T N p) = true := fun q => c ((hP _).mp q)
        rw [run_no hP1 hb, upd_id h0]
/-! kinds of bytes -/
theorem tok_l {c : Int32} (h : lt_ c = true) : sp_X1_tokenOf c = 1 := by
  have h1 := in_of (a := 97) (b := 122) rfl ((lt_iff c).mp h)
  unfold sp_X1_tokenOf
  rw [if_neg (by rw [Int32.lt_iff_toInt_lt]; omega), if_neg (by rw [Int32.lt_iff_toInt_lt]; omega)]
theorem fig_r {c : Int32} (h : fig c = true) : 48 ≤ c.toInt ∧ c.toInt ≤ 57 := in_of (a := 48) (b := 57) rfl ((fig_iff c).mp h)
theorem tok_f {c : Int32} (h : fig c = true) : sp_X1_tokenOf c = 2 := by
  have h1 := fig_r h
  unfold sp_X1_tokenOf jn_X1_tokenOf_14
  rw [if_pos (by rw [Int32.lt_iff_toInt_lt]; show c.toInt < 97; omega), if_neg (by rw [Int32.lt_iff_toInt_lt]; show ¬ c.toInt < 48; omega), if_neg (by rw [Int32.lt_iff_toInt_lt]; show ¬ 57 < c.toInt; omega)]
theorem in_no {x a b : Int32} (h : sp_X7_in x a b = 0) : x < a ∨ b < x := by
  unfold sp_X7_in at h
  by_cases c1 : x < a
  · exact Or.inl c1
  · rw [if_neg c1] at h
    by_cases c2 : b < x
    · exact Or.inr c2
    · rw [if_neg c2] at h; exact absurd h (by decide)
theorem tok_o {c : Int32} (h1 : ¬ lt_ c = true) (h2 : ¬ fig c = true) : sp_X1_tokenOf c = if c = 59 then 3 else if 0 ≤ c then 4 else 0 := by
  have a1 : sp_X7_in c 97 122 = 0 := Classical.byContradiction fun q => h1 ((lt_iff c).mpr q)
  have a2 : sp_X7_in c 48 57 = 0 := Classical.byContradiction fun q => h2 ((fig_iff c).mpr q)
  have e : jn_X1_tokenOf_14 c = if c = 59 then 3 else if 0 ≤ c then 4 else 0 := by
    unfold jn_X1_tokenOf_14 jn_X1_tokenOf_28
    rcases in_no a2 with q | q
    · rw [if_pos q]
    · by_cases q2 : c < 48
      · rw [if_pos q2]
      · rw [if_neg q2, if_pos q]
  unfold sp_X1_tokenOf
  rw [e]
  rcases in_no a1 with q | q
  · rw [if_pos q]
  · by_cases q2 : c < 97
    · rw [if_pos q2]
    · rw [if_neg q2, if_pos q]
theorem tok_1 (c : Int32) : lt_ c = true ↔ sp_X1_tokenOf c = 1 := by
  refine ⟨tok_l, fun h => Classical.byContradiction fun q => ?_⟩
  by_cases f : fig c = true
  · rw [tok_f f] at h; exact absurd h (by decide)
  · rw [tok_o q f] at h
    split at h
    · exact absurd h (by decide)
    · split at h <;> exact absurd h (by decide)
theorem tok_2 (c : Int32) : fig c = true ↔ sp_X1_tokenOf c = 2 := by
  refine ⟨tok_f, fun h => Classical.byContradiction fun q => ?_⟩
  by_cases f : lt_ c = true
  · rw [tok_l f] at h; exact absurd h (by decide)
  · rw [tok_o f q] at h
    split at h
    · exact absurd h (by decide)
    · split at h <;> exact absurd h (by decide)
theorem not_both {c : Int32} (h : fig c = true) : ¬ lt_ c = true := fun q => by
  have := tok_l q
  rw [tok_f h] at this
  exact absurd this (by decide)
/-- the value of the class' token -/
def tv (T : Nat → Int32) (N p : Nat) : Int32 := if tkE T N p - tkS T N p = 1 then (if fig (ch T N (tkS T N p)) = true then ch T N (tkS T N p) - 48 else ch T N (tkS T N p)) else -1
theorem jn90_e {e3 : Nat → Int32} {k v : Int32} {S E : Nat} (h : RB N e3 tb T) (hS : e3 0 = nI S) (hSE : S ≤ E) (hE : E ≤ 200) (hk : k = sp_X1_tokenOf (ch T N S)) (hl : lp_X1_readToken_93 tb v ((v.toInt - (0 : Int32).toInt).toNat + 1) (0 : Int32) (upd (upd e3 1 (nI S)) 2 k) = upd (upd (upd e3 1 (nI S)) 2 k) 0 (nI E)) : jn_X1_readToken_90 tb e3 k v = upd (upd (upd (upd e3 1 (nI S)) 2 k) 0 (nI E)) 3 (if E - S = 1 then (if fig (ch T N S) = true then ch T N S - 48 else ch T N S) else -1) := by
  unfold jn_X1_readToken_90
  have hR : RB N (upd (upd (upd e3 1 (nI S)) 2 k) 0 (nI E)) tb T := ((h.up (by decide) _).up (by decide) _).up (by decide) _
  have e1 : (upd (upd (upd e3 1 (nI S)) 2 k) 0 (nI E)) 1 = nI S := by rw [upd_o (by decide), upd_o (by decide), pk_us]
  have e2 : (upd (upd (upd e3 1 (nI S)) 2 k) 0 (nI E)) 2 = k := by rw [upd_o (by decide), pk_us]
  rw [hS, hl, nm_b, e1, by6 hR (by omega), nm_b, e2]
  unfold jn_X1_readToken_163
  rw [e1, pk_us, pk_sub hSE]
  by_cases f : fig (ch T N S) = true
  · rw [if_pos (show k = 2 by rw [hk]; exact tok_f f)]
    by_cases c : E - S = 1
    · rw [if_pos (show nI (E - S) = (1 : Int32) by rw [c]; rfl), if_pos c, if_pos f]
    · rw [if_neg (show ¬ nI (E - S) = (1 : Int32) from fun q => c ((nI_eq (b := 1) (by omega) (by omega)).mp q)), if_neg c]
  · rw [if_neg (show ¬ k = 2 by rw [hk]; exact fun q => f ((tok_2 _).mpr q))]
    by_cases c : E - S = 1
    · rw [if_pos (show nI (E - S) = (1 : Int32) by rw [c]; rfl), if_pos c, if_neg f]
    · rw [if_neg (show ¬ nI (E - S) = (1 : Int32) from fun q => c ((nI_eq (b := 1) (by omega) (by omega)).mp q)), if_neg c]
/-- what a token leaves -/
def TK (T : Nat → Int32) (N p : Nat) (g g' : Nat → Int32) : Prop := g' 1 = nI (tkS T N p) ∧ g' 2 = sp_X1_tokenOf (ch T N (tkS T N p)) ∧ (¬ ch T N (tkS T N p) < 0 → g' 0 = nI (tkE T N p) ∧ g' 3 = tv T N p) ∧ ∀ j, 4 ≤ j → g' j = g j
theorem rt {p : Nat} (h : RB N g tb T) (h0 : g 0 = nI p) (hp : p ≤ N) : TK T N p g (sp_X1_readToken g tb) := by
  have hN := h.2.1
  have hS := tkS_le T hp
  have e3 : lp_X1_readToken_2 tb (((150 : Int32).toInt - (0 : Int32).toInt).toNat + 1) (0 : Int32) g = upd g 0 (nI (tkS T N p)) := by
    have := rd_2 (((150 : Int32).toInt - (0 : Int32).toInt).toNat + 1) 0 g p h h0 hp (by omega) (by decide) (by omega)
    rw [nI_0] at this
    exact this
  have hR3 : RB N (upd g 0 (nI (tkS T N p))) tb T := h.up (by decide) _
  have hR4 : RB N (upd (upd g 0 (nI (tkS T N p))) 1 (nI (tkS T N p))) tb T := hR3.up (by decide) _
  have fin : ∀ E, sp_X1_readToken g tb = upd (upd (upd (upd (upd g 0 (nI (tkS T N p))) 1 (nI (tkS T N p))) 2 (sp_X1_tokenOf (ch T N (tkS T N p)))) 0 (nI E)) 3 (if E - tkS T N p = 1 then (if fig (ch T N (tkS T N p)) = true then ch T N (tkS T N p) - 48 else ch T N (tkS T N p)) else -1) → (¬ ch T N (tkS T N p) < 0 → E = tkE T N p) → TK T N p g (sp_X1_readToken g tb) := by
    intro E e hE
    rw [e]
    refine ⟨?_, ?_, fun q => ⟨?_, ?_⟩, fun j hj => ?_⟩
    · rw [upd_o (by decide), upd_o (by decide), upd_o (by decide), pk_us]
    · rw [upd_o (by decide), upd_o (by decide), pk_us]
    · rw [upd_o (by decide), pk_us, hE q]
    · rw [pk_us, hE q]; rfl
    · rw [upd_o (by omega), upd_o (by omega), upd_o (by omega), upd_o (by omega), upd_o (by omega)]
  have eR : sp_X1_readToken g tb = (if sp_X1_tokenOf (ch T N (tkS T N p)) = (1 : Int32) then (jn_X1_readToken_90 tb (upd g 0 (nI (tkS T N p))) (sp_X1_tokenOf (ch T N (tkS T N p))) (150 : Int32)) else (if sp_X1_tokenOf (ch T N (tkS T N p)) = (2 : Int32) then (jn_X1_readToken_90 tb (upd g 0 (nI (tkS T N p))) (sp_X1_tokenOf (ch T N (tkS T N p))) (150 : Int32)) else (jn_X1_readToken_90 tb (upd g 0 (nI (tkS T N p))) (sp_X1_tokenOf (ch T N (tkS T N p))) (1 : Int32)))) := by
    unfold sp_X1_readToken
    rw [e3, nm_b, pk_us, upd_o (show 0 ≠ 1 by decide), pk_us, by6 hR4 (by omega), nm_b, nm_b, pk_us]
  have h2 : ∀ k : Int32, (upd (upd (upd g 0 (nI (tkS T N p))) 1 (nI (tkS T N p))) 2 k) 2 = k := fun k => pk_us
  have h00 : ∀ k : Int32, (upd (upd (upd g 0 (nI (tkS T N p))) 1 (nI (tkS T N p))) 2 k) 0 = nI (tkS T N p) := fun k => by rw [upd_o (by decide), upd_o (by decide), pk_us]
  have hR5 : ∀ k : Int32, RB N (upd (upd (upd g 0 (nI (tkS T N p))) 1 (nI (tkS T N p))) 2 k) tb T := fun k => hR4.up (by decide) _
  by_cases cl : lt_ (ch T N (tkS T N p)) = true
  · have hk := tok_l cl
    have hf : ¬ fig (ch T N (tkS T N p)) = true := fun q => not_both q cl
    rw [if_pos hk] at eR
    have hl := rd_93 (T := T) (N := N) (tb := tb) lt_1 tok_1 (((150 : Int32).toInt - (0 : Int32).toInt).toNat + 1) 0 (upd (upd (upd g 0 (nI (tkS T N p))) 1 (nI (tkS T N p))) 2 (sp_X1_tokenOf (ch T N (tkS T N p)))) (tkS T N p) (hR5 _) (h00 _) ((h2 _).trans hk) hS (by omega) (by decide) (by omega)
    rw [nI_0] at hl
    rw [jn90_e hR3 pk_us (run_ge lt_ T N (tkS T N p)) (by have := run_le lt_1 T hS; omega) rfl hl] at eR
    refine fin _ eR (fun q => ?_)
    unfold tkE
    rw [if_neg q, if_neg hf, if_pos cl]
  · by_cases cf : fig (ch T N (tkS T N p)) = true
    · have hk := tok_f cf
      rw [if_neg (show ¬ sp_X1_tokenOf (ch T N (tkS T N p)) = (1 : Int32) from fun q => cl ((tok_1 _).mpr q)), if_pos hk] at eR
      have hl := rd_93 (T := T) (N := N) (tb := tb) fig_1 tok_2 (((150 : Int32).toInt - (0 : Int32).toInt).toNat + 1) 0 (upd (upd (upd g 0 (nI (tkS T N p))) 1 (nI (tkS T N p))) 2 (sp_X1_tokenOf (ch T N (tkS T N p)))) (tkS T N p) (hR5 _) (h00 _) ((h2 _).trans hk) hS (by omega) (by decide) (by omega)
      rw [nI_0] at hl
      rw [jn90_e hR3 pk_us (run_ge fig T N (tkS T N p)) (by have := run_le fig_1 T hS; omega) rfl hl] at eR
      refine fin _ eR (fun q => ?_)
      unfold tkE
      rw [if_neg q, if_pos cf]
    · rw [if_neg (show ¬ sp_X1_tokenOf (ch T N (tkS T N p)) = (1 : Int32) from fun q => cl ((tok_1 _).mpr q)), if_neg (show ¬ sp_X1_tokenOf (ch T N (tkS T N p)) = (2 : Int32) from fun q => cf ((tok_2 _).mpr q))] at eR
      have hl : lp_X1_readToken_93 tb (1 : Int32) (((1 : Int32).toInt - (0 : Int32).toInt).toNat + 1) (0 : Int32) (upd (upd (upd g 0 (nI (tkS T N p))) 1 (nI (tkS T N p))) 2 (sp_X1_tokenOf (ch T N (tkS T N p)))) = upd (upd (upd (upd g 0 (nI (tkS T N p))) 1 (nI (tkS T N p))) 2 (sp_X1_tokenOf (ch T N (tkS T N p)))) 0 (nI (tkS T N p + 1)) := by
        have hn : ((1 : Int32).toInt - (0 : Int32).toInt).toNat + 1 = 1 + 1 := by decide
        rw [hn, ← lp_X1_readToken_93_s, if_neg (show ¬ (1 : Int32) ≤ 0 by decide), nm_b, nm_b, h00, by6 (hR5 _) (by omega), h2, if_pos rfl, ← lp_X1_readToken_93_s (n := 0), if_pos (show (1 : Int32) ≤ 0 + 1 by decide), nI_1]
      rw [jn90_e hR3 pk_us (Nat.le_succ _) (by omega) rfl hl] at eR
      refine fin _ eR (fun q => ?_)
      unfold tkE
      rw [if_neg q, if_neg cf, if_neg cl]
end RD
