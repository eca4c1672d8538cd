/-! reading a text: places, runs of a kind of byte -/
def ch (T : Nat → Int32) (N p : Nat) : Int32 := if p < N then T p else -1
def blk (c : Int32) : Bool := decide (c = 32)
def fig (c : Int32) : Bool := decide (¬ sp_X7_isFigure c = 0)
def lt_ (c : Int32) : Bool := decide (¬ sp_X7_isLetter c = 0)
def scn (P : Int32 → Bool) (T : Nat → Int32) (N : Nat) : Nat → Nat → Nat
  | 0, p => p
  | f + 1, p => if P (ch T N p) then scn P T N f (p + 1) else p
def run_ (P : Int32 → Bool) (T : Nat → Int32) (N p : Nat) : Nat := scn P T N (N - p) p
theorem ch_out {T : Nat → Int32} {N p : Nat} (h : N ≤ p) : ch T N p = -1 := by unfold ch; rw [if_neg (by omega)]
theorem ch_in {T : Nat → Int32} {N p : Nat} (h : p < N) : ch T N p = T p := by unfold ch; rw [if_pos h]
theorem scn_ge (P : Int32 → Bool) (T : Nat → Int32) (N : Nat) : ∀ f p, p ≤ scn P T N f p
  | 0, p => Nat.le_refl p
  | f + 1, p => by
    unfold scn
    by_cases h : P (ch T N p) = true
    · rw [if_pos h]; exact Nat.le_trans (Nat.le_succ p) (scn_ge P T N f (p + 1))
    · rw [if_neg h]; exact Nat.le_refl p
theorem scn_le {P : Int32 → Bool} (hP : P (-1) = false) (T : Nat → Int32) (N : Nat) : ∀ f p, p ≤ N → scn P T N f p ≤ N
  | 0, p, h => h
  | f + 1, p, h => by
    unfold scn
    by_cases q : P (ch T N p) = true
    · rw [if_pos q]
      have : p < N := by
        rcases Nat.lt_or_ge p N with r | r
        · exact r
        · rw [ch_out r, hP] at q; cases q
      exact scn_le hP T N f (p + 1) this
    · rw [if_neg q]; exact h
theorem scn_fuel {P : Int32 → Bool} (hP : P (-1) = false) (T : Nat → Int32) (N : Nat) : ∀ f g p, N - p ≤ f → N - p ≤ g → scn P T N f p = scn P T N g p
  | 0, 0, _, _, _ => rfl
  | 0, g + 1, p, h, _ => by
    have : N ≤ p := by omega
    unfold scn
    rw [ch_out this, hP]; rfl
  | f + 1, 0, p, _, h => by
    have : N ≤ p := by omega
    unfold scn
    rw [ch_out this, hP]; rfl
  | f + 1, g + 1, p, h1, h2 => by
    unfold scn
    by_cases q : P (ch T N p) = true
    · rw [if_pos q, if_pos q]; exact scn_fuel hP T N f g (p + 1) (by omega) (by omega)
    · rw [if_neg q, if_neg q]
theorem run_eq {P : Int32 → Bool} (hP : P (-1) = false) (T : Nat → Int32) (N p : Nat) {f : Nat} (h : N - p ≤ f) : scn P T N f p = run_ P T N p := scn_fuel hP T N f (N - p) p h (Nat.le_refl _)
theorem run_yes {P : Int32 → Bool} (hP : P (-1) = false) {T : Nat → Int32} {N p : Nat} (h : P (ch T N p) = true) : run_ P T N p = run_ P T N (p + 1) := by
  rw [← run_eq hP T N p (f := (N - p) + 1) (by omega)]
  show (if P (ch T N p) = true then _ else _) = _
  rw [if_pos h]
  exact run_eq hP T N (p + 1) (by omega)
theorem run_no {P : Int32 → Bool} (hP : P (-1) = false) {T : Nat → Int32} {N p : Nat} (h : ¬ P (ch T N p) = true) : run_ P T N p = p := by
  rw [← run_eq hP T N p (f := (N - p) + 1) (by omega)]
  show (if P (ch T N p) = true then _ else _) = _
  rw [if_neg h]
theorem run_ge (P : Int32 → Bool) (T : Nat → Int32) (N p : Nat) : p ≤ run_ P T N p := scn_ge P T N _ p
theorem run_le {P : Int32 → Bool} (hP : P (-1) = false) (T : Nat → Int32) {N p : Nat} (h : p ≤ N) : run_ P T N p ≤ N := scn_le hP T N _ p h
theorem scn_stop {P : Int32 → Bool} (hP : P (-1) = false) (T : Nat → Int32) (N : Nat) : ∀ f p, N - p ≤ f → P (ch T N (scn P T N f p)) = false
  | 0, p, h => by
    show P (ch T N p) = false
    rw [ch_out (by omega)]; exact hP
  | f + 1, p, h => by
    unfold scn
    by_cases q : P (ch T N p) = true
    · rw [if_pos q]; exact scn_stop hP T N f (p + 1) (by omega)
    · rw [if_neg q]; exact Bool.eq_false_iff.mpr q
theorem run_stop {P : Int32 → Bool} (hP : P (-1) = false) (T : Nat → Int32) (N p : Nat) : P (ch T N (run_ P T N p)) = false := scn_stop hP T N _ p (Nat.le_refl _)
theorem blk_1 : blk (-1) = false := by decide
theorem fig_1 : fig (-1) = false := by decide
theorem lt_1 : lt_ (-1) = false := by decide
theorem nI_toI {n : Nat} (h : n < 2147483648) : (nI n).toInt = (n : Int) := nI_toInt (by omega)
theorem la_ch {mg tx : Nat → Int32} {N p : Nat} (hN : N ≤ 150) (h3 : mg 3 = nI N) (hp : p ≤ 200) : sp_X7_letterAt mg tx (nI p) = ch tx N p := by
  unfold sp_X7_letterAt ch
  rw [h3]
  by_cases h : p < N
  · rw [if_pos h, if_neg (nI_ge h (by omega)), nI_clamp (by omega)]
  · rw [if_neg h, if_pos (nI_le (by omega) (by omega))]
theorem upd_upd (f : Nat → Int32) (k : Nat) (x y : Int32) : upd (upd f k x) k y = upd f k y := by
  funext j
  simp only [upd]
  split <;> rfl
theorem upd_id {f : Nat → Int32} {k : Nat} {x : Int32} (h : f k = x) : upd f k x = f := by
  funext j
  simp only [upd]
  split
  · subst_vars; rfl
  · rfl
/-- the blanks -/
theorem nx_0 {tx : Nat → Int32} {N : Nat} (hN : N ≤ 150) : ∀ (n : Nat) (mg : Nat → Int32) (p : Nat), mg 3 = nI N → mg 4 = nI p → p ≤ N → N - p < n → lp_X7_next_0 tx n mg = upd mg 4 (nI (run_ blk tx N p))
  | 0, _, _, _, _, _, h => absurd h (Nat.not_lt_zero _)
  | n + 1, mg, p, h3, h4, hp, hn => by
    rw [← lp_X7_next_0_s]
    simp only [nm]
    rw [h4, la_ch hN h3 (by omega)]
    by_cases c : ch tx N p = 32
    · rw [if_pos c]
      have hb : blk (ch tx N p) = true := by simp [blk, c]
      have hlt : p < N := by
        rcases Nat.lt_or_ge p N with r | r
        · exact r
        · rw [ch_out r] at c; exact absurd c (by decide)
      rw [nx_0 hN n (upd mg 4 (nI p + 1)) (p + 1) (by simpa [upd] using h3) (by simp [upd, nI_succ]) hlt (by omega), upd_upd, run_yes blk_1 hb]
    · rw [if_neg c]
      have hb : ¬ blk (ch tx N p) = true := by simp [blk, c]
      rw [run_no blk_1 hb, upd_id h4]
theorem lt_iff (c : Int32) : lt_ c = true ↔ ¬ sp_X7_isLetter c = 0 := by simp [lt_]
theorem fig_iff (c : Int32) : fig c = true ↔ ¬ sp_X7_isFigure c = 0 := by simp [fig]
theorem nx_180 {tx : Nat → Int32} {N : Nat} (hN : N ≤ 150) : ∀ (n : Nat) (mg : Nat → Int32) (p : Nat), mg 3 = nI N → mg 4 = nI p → p ≤ N → N - p < n → lp_X7_next_180 tx n mg = upd mg 4 (nI (run_ lt_ tx N p))
  | 0, _, _, _, _, _, h => absurd h (Nat.not_lt_zero _)
  | n + 1, mg, p, h3, h4, hp, hn => by
    rw [← lp_X7_next_180_s]
    simp only [nm]
    rw [h4, la_ch hN h3 (by omega)]
    by_cases c : sp_X7_isLetter (ch tx N p) = 0
    · rw [if_pos c, run_no lt_1 (by rw [lt_iff]; exact fun q => q c), upd_id h4]
    · rw [if_neg c]
      have hlt : p < N := by
        rcases Nat.lt_or_ge p N with r | r
        · exact r
        · rw [ch_out r] at c; exact absurd (by decide) c
      rw [nx_180 hN n (upd mg 4 (nI p + 1)) (p + 1) (by simpa [upd] using h3) (by simp [upd, nI_succ]) hlt (by omega), upd_upd, run_yes lt_1 ((lt_iff _).mpr c)]
/-- the number of a run of figures -/
def fgv (T : Nat → Int32) (N : Nat) : Nat → Nat → Int32 → Int32
  | 0, _, v => v
  | f + 1, p, v => if fig (ch T N p) then fgv T N f (p + 1) (if v ≤ 99 then (10 : Int32) * v + ch T N p - (48 : Int32) else v) else v
theorem nx_67 {tx : Nat → Int32} {N : Nat} (hN : N ≤ 150) : ∀ (n : Nat) (mg : Nat → Int32) (p : Nat), mg 3 = nI N → mg 4 = nI p → p ≤ N → N - p < n → lp_X7_next_67 tx n mg = upd (upd mg 4 (nI (run_ fig tx N p))) 7 (fgv tx N n p (mg 7))
  | 0, _, _, _, _, _, h => absurd h (Nat.not_lt_zero _)
  | n + 1, mg, p, h3, h4, hp, hn => by
    rw [← lp_X7_next_67_s]
    simp only [nm, jn_X7_next_117]
    rw [h4, la_ch hN h3 (by omega)]
    by_cases c : sp_X7_isFigure (ch tx N p) = 0
    · rw [if_pos c]
      have hf : ¬ fig (ch tx N p) = true := by rw [fig_iff]; exact fun q => q c
      rw [run_no fig_1 hf, upd_id h4]
      show mg = upd mg 7 (if fig (ch tx N p) = true then _ else mg 7)
      rw [if_neg hf, upd_id rfl]
    · rw [if_neg c]
      have hf : fig (ch tx N p) = true := (fig_iff _).mpr c
      have hlt : p < N := by
        rcases Nat.lt_or_ge p N with r | r
        · exact r
        · rw [ch_out r] at c; exact absurd (by decide) c
      have key : ∀ v : Int32, lp_X7_next_67 tx n (upd (upd mg 7 v) 4 ((upd mg 7 v) 4 + 1)) = upd (upd mg 4 (nI (run_ fig tx N p))) 7 (fgv tx N n (p + 1) v) := by
        intro v
        have e4 : (upd mg 7 v) 4 = nI p := by simpa [upd] using h4
        rw [e4, nx_67 hN n (upd (upd mg 7 v) 4 (nI p + 1)) (p + 1) (by simpa [upd] using h3) (by simp [upd, nI_succ]) hlt (by omega), run_yes fig_1 hf]
        funext j
        simp only [upd]
        by_cases j7 : j = 7
        · subst j7; simp
        · by_cases j4 : j = 4
          · subst j4; simp
          · simp [j7, j4]
      show (if mg 7 ≤ 99 then _ else _) = upd (upd mg 4 (nI (run_ fig tx N p))) 7 (if fig (ch tx N p) = true then fgv tx N n (p + 1) (if mg 7 ≤ 99 then (10 : Int32) * mg 7 + ch tx N p - (48 : Int32) else mg 7) else mg 7)
      rw [if_pos hf]
      by_cases c9 : mg 7 ≤ 99
      · rw [if_pos c9, if_pos c9]; exact key _
      · rw [if_neg c9, if_neg c9]; exact key _
/-- the token that begins at or behind p: where it begins, ends, its kind and number as the reference has them -/
def tkS (T : Nat → Int32) (N p : Nat) : Nat := run_ blk T N p
def tkE (T : Nat → Int32) (N p : Nat) : Nat := if ch T N (tkS T N p) < 0 then tkS T N p else if fig (ch T N (tkS T N p)) then run_ fig T N (tkS T N p) else if lt_ (ch T N (tkS T N p)) then run_ lt_ T N (tkS T N p) else tkS T N p + 1
def tkN (T : Nat → Int32) (N p : Nat) : Int32 := fgv T N (N - tkS T N p + 1) (tkS T N p) 0
def tkK (T : Nat → Int32) (N p : Nat) : Int32 := if ch T N (tkS T N p) < 0 then 0 else if fig (ch T N (tkS T N p)) then (if (99 : Int32) < tkN T N p then 4 else if ch T N (tkS T N p) = 48 then (if tkE T N p - tkS T N p ≤ 1 then 2 else 4) else 2) else if lt_ (ch T N (tkS T N p)) then 1 else if ch T N (tkS T N p) = 59 then 3 else 4
def tkV (T : Nat → Int32) (N p : Nat) : Int32 := if ch T N (tkS T N p) < 0 then 0 else if fig (ch T N (tkS T N p)) then tkN T N p else if lt_ (ch T N (tkS T N p)) then (if tkE T N p - tkS T N p = 1 then ch T N (tkS T N p) else 0) else 0
def nxt (T : Nat → Int32) (N p : Nat) (mg : Nat → Int32) : Nat → Int32 := fun j => if j = 4 then nI (tkE T N p) else if j = 5 then nI (tkS T N p) else if j = 6 then tkK T N p else if j = 7 then tkV T N p else mg j
theorem tkS_ge (T : Nat → Int32) (N p : Nat) : p ≤ tkS T N p := run_ge _ T N p
theorem tkS_le (T : Nat → Int32) {N p : Nat} (h : p ≤ N) : tkS T N p ≤ N := run_le blk_1 T h
theorem ch_neg {T : Nat → Int32} {N s : Nat} (hT : ∀ j, j < N → 0 ≤ T j) : ch T N s < 0 ↔ N ≤ s := by
  constructor
  · intro h
    rcases Nat.lt_or_ge s N with r | r
    · rw [ch_in r] at h
      have := hT s r
      rw [Int32.le_iff_toInt_le] at this
      rw [Int32.lt_iff_toInt_lt] at h
      omega
    · exact r
  · intro h
    rw [ch_out h]; decide
theorem tkE_ge (T : Nat → Int32) (N p : Nat) : tkS T N p ≤ tkE T N p := by
  unfold tkE
  split
  · exact Nat.le_refl _
  · split
    · exact run_ge _ _ _ _
    · split
      · exact run_ge _ _ _ _
      · omega
theorem tkE_le {T : Nat → Int32} {N p : Nat} (hT : ∀ j, j < N → 0 ≤ T j) (h : p ≤ N) : tkE T N p ≤ N := by
  have hs := tkS_le T h
  unfold tkE
  split
  · exact hs
  · split
    · exact run_le fig_1 T hs
    · split
      · exact run_le lt_1 T hs
      · rename_i h1 h2 h3
        rw [ch_neg hT] at h1
        omega
/-- a token that isn't the end is not empty -/
theorem tkE_gt {T : Nat → Int32} {N p : Nat} (h : ¬ ch T N (tkS T N p) < 0) : tkS T N p < tkE T N p := by
  unfold tkE
  rw [if_neg h]
  split
  · rename_i h2
    rw [run_yes fig_1 h2]; exact run_ge _ _ _ _
  · split
    · rename_i h2
      rw [run_yes lt_1 h2]; exact run_ge _ _ _ _
    · omega
theorem nle0_lt {c : Int32} : ¬ 0 ≤ c ↔ c < 0 := by rw [Int32.le_iff_toInt_le, Int32.lt_iff_toInt_lt]; omega
theorem subN {a b : Nat} (h : b ≤ a) (ha : a ≤ 200) : nI a - nI b = nI (a - b) := pk_sub h
theorem next_eq {mg tx : Nat → Int32} {N p : Nat} (hN : N ≤ 150) (hT : ∀ j, j < N → 0 ≤ tx j) (h3 : mg 3 = nI N) (h4 : mg 4 = nI p) (hp : p ≤ N) : sp_X7_next mg tx = nxt tx N p mg := by
  unfold sp_X7_next
  simp only [nm]
  have hf : N - p < ((mg 3).toInt - (mg 4).toInt).toNat + 1 := by rw [h3, h4, nI_toI (by omega), nI_toI (by omega)]; omega
  rw [nx_0 hN _ mg p h3 h4 hp hf]
  have hsN : tkS tx N p ≤ N := tkS_le tx hp
  have hE := tkE_le hT hp
  have hEg := tkE_ge tx N p
  have e4 : upd (upd mg 4 (nI (run_ blk tx N p))) 5 (upd mg 4 (nI (run_ blk tx N p)) 4) 4 = nI (tkS tx N p) := by simp [upd, tkS]
  have e3 : upd (upd mg 4 (nI (run_ blk tx N p))) 5 (upd mg 4 (nI (run_ blk tx N p)) 4) 3 = nI N := by simpa [upd] using h3
  rw [e4, la_ch hN e3 (by omega)]
  by_cases c0 : ch tx N (tkS tx N p) < 0
  · rw [if_neg (fun q => nle0_lt.mpr c0 q)]
    funext j
    have eE : tkE tx N p = tkS tx N p := by unfold tkE; rw [if_pos c0]
    have eK : tkK tx N p = 0 := by unfold tkK; rw [if_pos c0]
    have eV : tkV tx N p = 0 := by unfold tkV; rw [if_pos c0]
    simp only [nxt, upd, eE, eK, eV, tkS]
    by_cases j4 : j = 4
    · subst j4; simp
    · by_cases j5 : j = 5
      · subst j5; simp
      · by_cases j6 : j = 6
        · subst j6; simp
        · by_cases j7 : j = 7
          · subst j7; simp
          · simp [j4, j5, j6, j7]
  · rw [if_pos (Decidable.not_not.mp (fun q => c0 (nle0_lt.mp q)))]
    by_cases cf : sp_X7_isFigure (ch tx N (tkS tx N p)) = 0
    · rw [if_pos cf]
      have hnf : ¬ fig (ch tx N (tkS tx N p)) = true := by rw [fig_iff]; exact fun q => q cf
      by_cases cl : sp_X7_isLetter (ch tx N (tkS tx N p)) = 0
      · rw [if_pos cl]
        have hnl : ¬ lt_ (ch tx N (tkS tx N p)) = true := by rw [lt_iff]; exact fun q => q cl
        have eE : tkE tx N p = tkS tx N p + 1 := by unfold tkE; rw [if_neg c0, if_neg hnf, if_neg hnl]
        have eV : tkV tx N p = 0 := by unfold tkV; rw [if_neg c0, if_neg hnf, if_neg hnl]
        have eK : tkK tx N p = if ch tx N (tkS tx N p) = 59 then 3 else 4 := by unfold tkK; rw [if_neg c0, if_neg hnf, if_neg hnl]
        have key : ∀ v : Int32, v = tkK tx N p → jn_X7_next_249 (upd mg 4 (nI (run_ blk tx N p))) v = nxt tx N p mg := by
          intro v hv
          funext j
          simp only [jn_X7_next_249, nxt, upd, eE, eV, ← hv, tkS, ← nI_succ]
          by_cases j4 : j = 4
          · subst j4; simp [nI_succ]
          · by_cases j5 : j = 5
            · subst j5; simp
            · by_cases j6 : j = 6
              · subst j6; simp
              · by_cases j7 : j = 7
                · subst j7; simp
                · simp [j4, j5, j6, j7]
        by_cases c5 : ch tx N (tkS tx N p) = 59
        · rw [if_pos c5]; exact key _ (by rw [eK, if_pos c5])
        · rw [if_neg c5]; exact key _ (by rw [eK, if_neg c5])
      · rw [if_neg cl]
        have hl : lt_ (ch tx N (tkS tx N p)) = true := (lt_iff _).mpr cl
        have eE : tkE tx N p = run_ lt_ tx N (tkS tx N p) := by unfold tkE; rw [if_neg c0, if_neg hnf, if_pos hl]
        have eK : tkK tx N p = 1 := by unfold tkK; rw [if_neg c0, if_neg hnf, if_pos hl]
        have eV : tkV tx N p = if tkE tx N p - tkS tx N p = 1 then ch tx N (tkS tx N p) else 0 := by unfold tkV; rw [if_neg c0, if_neg hnf, if_pos hl]
        rw [nx_180 hN _ _ (tkS tx N p) (by simpa [upd] using h3) (by simp [upd, tkS]) hsN (by
          simp only [upd]
          simp only [show (3 : Nat) = 7 ↔ False by decide, show (3 : Nat) = 5 ↔ False by decide, show (3 : Nat) = 4 ↔ False by decide, show (4 : Nat) = 7 ↔ False by decide, show (4 : Nat) = 5 ↔ False by decide, if_false, if_true]
          rw [h3, nI_toI (by omega), nI_toI (show run_ blk tx N p < 2147483648 from (show tkS tx N p < 2147483648 by omega))]
          show N - tkS tx N p < (((N : Int) - (tkS tx N p : Nat))).toNat + 1
          omega), ← eE]
        have hgt := tkE_gt c0
        have hd : ∀ f : Nat → Int32, f = upd (upd (upd (upd (upd mg 4 (nI (run_ blk tx N p))) 5 (upd mg 4 (nI (run_ blk tx N p)) 4)) 7 (0 : Int32)) 4 (nI (tkE tx N p))) 6 1 → f 4 - f 5 = nI (tkE tx N p - tkS tx N p) := by
          intro f hf
          subst hf
          show nI (tkE tx N p) - nI (tkS tx N p) = _
          exact pk_sub (by omega)
        rw [hd _ rfl]
        have e1 : nI (tkE tx N p - tkS tx N p) = 1 ↔ tkE tx N p - tkS tx N p = 1 := nI_eq (b := 1) (by omega) (by omega)
        by_cases c1 : tkE tx N p - tkS tx N p = 1
        · rw [if_pos (e1.mpr c1)]
          funext j
          simp only [nxt, upd, eK, eV, if_pos c1, tkS]
          by_cases j4 : j = 4
          · subst j4; simp
          · by_cases j5 : j = 5
            · subst j5; simp
            · by_cases j6 : j = 6
              · subst j6; simp
              · by_cases j7 : j = 7
                · subst j7
                  have c1' : tkE tx N p - run_ blk tx N p = 1 := c1
                  simp [c1']
                · simp [j4, j5, j6, j7]
        · rw [if_neg (fun q => c1 (e1.mp q))]
          funext j
          simp only [nxt, upd, eK, eV, if_neg c1, tkS]
          by_cases j4 : j = 4
          · subst j4; simp
          · by_cases j5 : j = 5
            · subst j5; simp
            · by_cases j6 : j = 6
              · subst j6; simp
              · by_cases j7 : j = 7
                · subst j7
                  have c1' : ¬ tkE tx N p - run_ blk tx N p = 1 := c1
                  simp [c1']
                · simp [j4, j5, j6, j7]
    · rw [if_neg cf]
      have hf : fig (ch tx N (tkS tx N p)) = true := (fig_iff _).mpr cf
      have eE : tkE tx N p = run_ fig tx N (tkS tx N p) := by unfold tkE; rw [if_neg c0, if_pos hf]
      have eV : tkV tx N p = tkN tx N p := by unfold tkV; rw [if_neg c0, if_pos hf]
      have eK : tkK tx N p = if (99 : Int32) < tkN tx N p then 4 else if ch tx N (tkS tx N p) = 48 then (if tkE tx N p - tkS tx N p ≤ 1 then 2 else 4) else 2 := by unfold tkK; rw [if_neg c0, if_pos hf]
      have hfu : ((upd (upd (upd mg 4 (nI (run_ blk tx N p))) 5 (upd mg 4 (nI (run_ blk tx N p)) 4)) 7 (0 : Int32) 3).toInt - (upd (upd (upd mg 4 (nI (run_ blk tx N p))) 5 (upd mg 4 (nI (run_ blk tx N p)) 4)) 7 (0 : Int32) 4).toInt).toNat + 1 = N - tkS tx N p + 1 := by
        simp only [upd]
        simp only [show (3 : Nat) = 7 ↔ False by decide, show (3 : Nat) = 5 ↔ False by decide, show (3 : Nat) = 4 ↔ False by decide, show (4 : Nat) = 7 ↔ False by decide, show (4 : Nat) = 5 ↔ False by decide, if_false, if_true]
        rw [h3, nI_toI (by omega), nI_toI (show run_ blk tx N p < 2147483648 from (show tkS tx N p < 2147483648 by omega))]
        show (((N : Int) - (tkS tx N p : Nat))).toNat + 1 = _
        omega
      rw [hfu, nx_67 hN _ _ (tkS tx N p) (by simpa [upd] using h3) (by simp [upd, tkS]) hsN (by omega), ← eE]
      have eN : fgv tx N (N - tkS tx N p + 1) (tkS tx N p) (upd (upd (upd mg 4 (nI (run_ blk tx N p))) 5 (upd mg 4 (nI (run_ blk tx N p)) 4)) 7 (0 : Int32) 7) = tkN tx N p := rfl
      rw [eN]
      have key : ∀ v : Int32, v = tkK tx N p → upd (upd (upd (upd (upd (upd mg 4 (nI (run_ blk tx N p))) 5 (upd mg 4 (nI (run_ blk tx N p)) 4)) 7 (0 : Int32)) 4 (nI (tkE tx N p))) 7 (tkN tx N p)) 6 v = nxt tx N p mg := by
        intro v hv
        funext j
        simp only [nxt, upd, eV, ← hv, tkS]
        by_cases j4 : j = 4
        · subst j4; simp
        · by_cases j5 : j = 5
          · subst j5; simp
          · by_cases j6 : j = 6
            · subst j6; simp
            · by_cases j7 : j = 7
              · subst j7; simp
              · simp [j4, j5, j6, j7]
      have r7 : upd (upd (upd (upd (upd mg 4 (nI (run_ blk tx N p))) 5 (upd mg 4 (nI (run_ blk tx N p)) 4)) 7 (0 : Int32)) 4 (nI (tkE tx N p))) 7 (tkN tx N p) 7 = tkN tx N p := rfl
      have r45 : upd (upd (upd (upd (upd mg 4 (nI (run_ blk tx N p))) 5 (upd mg 4 (nI (run_ blk tx N p)) 4)) 7 (0 : Int32)) 4 (nI (tkE tx N p))) 7 (tkN tx N p) 4 - upd (upd (upd (upd (upd mg 4 (nI (run_ blk tx N p))) 5 (upd mg 4 (nI (run_ blk tx N p)) 4)) 7 (0 : Int32)) 4 (nI (tkE tx N p))) 7 (tkN tx N p) 5 = nI (tkE tx N p - tkS tx N p) := by
        show nI (tkE tx N p) - nI (tkS tx N p) = _
        exact pk_sub (by omega)
      rw [r7, r45]
      by_cases c9 : (99 : Int32) < tkN tx N p
      · rw [if_pos c9]; exact key _ (by rw [eK, if_pos c9])
      · rw [if_neg c9]
        by_cases c48 : ch tx N (tkS tx N p) = 48
        · rw [if_pos c48]
          have e1 : nI (tkE tx N p - tkS tx N p) ≤ 1 ↔ tkE tx N p - tkS tx N p ≤ 1 := nI_leI (b := 1) (by omega) (by omega)
          by_cases c1 : tkE tx N p - tkS tx N p ≤ 1
          · rw [if_pos (e1.mpr c1)]; exact key _ (by rw [eK, if_neg c9, if_pos c48, if_pos c1])
          · rw [if_neg (fun q => c1 (e1.mp q))]; exact key _ (by rw [eK, if_neg c9, if_pos c48, if_neg c1])
        · rw [if_neg c48]; exact key _ (by rw [eK, if_neg c9, if_neg c48])
