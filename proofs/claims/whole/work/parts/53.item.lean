/-! numbers, letters, stops: the class' and the reference's -/
section NU
variable {N : Nat} {g g' tb T : Nat → Int32} {p : Nat}
def okn (T : Nat → Int32) (N p : Nat) (l m : Int32) : Prop := tkK T N p = 2 ∧ ¬ sp_X7_in (tkV T N p) l m = 0
theorem fgv_10 (T : Nat → Int32) (N : Nat) : ∀ (f p : Nat) (v : Int32), 10 ≤ v.toInt → v.toInt ≤ 2000 → 10 ≤ (fgv T N f p v).toInt ∧ (fgv T N f p v).toInt ≤ 2000
  | 0, _, v, h1, h2 => ⟨h1, h2⟩
  | f + 1, p, v, h1, h2 => by
    unfold fgv
    by_cases c : fig (ch T N p) = true
    · rw [if_pos c]
      have hr := fig_r c
      by_cases c9 : v ≤ 99
      · rw [if_pos c9]
        have h9 : v.toInt ≤ 99 := by rw [Int32.le_iff_toInt_le] at c9; exact c9
        have e1 : ((10 : Int32) * v).toInt = 10 * v.toInt := mulI rfl rfl (by omega) (by omega)
        have e2 : ((10 : Int32) * v + ch T N p).toInt = 10 * v.toInt + (ch T N p).toInt := addI e1 rfl (by omega) (by omega)
        have e3 : ((10 : Int32) * v + ch T N p - 48).toInt = 10 * v.toInt + (ch T N p).toInt - 48 := subI e2 rfl (by omega) (by omega)
        exact fgv_10 T N f (p + 1) _ (by rw [e3]; omega) (by rw [e3]; omega)
      · rw [if_neg c9]
        exact fgv_10 T N f (p + 1) v h1 h2
    · rw [if_neg c]; exact ⟨h1, h2⟩
theorem ch_pos {c : Int32} (h : 0 ≤ c.toInt) : ¬ c < 0 := by rw [Int32.lt_iff_toInt_lt]; show ¬ c.toInt < 0; omega
theorem fig_nn {c : Int32} (h : fig c = true) : ¬ c < 0 := ch_pos (by have := fig_r h; omega)
theorem let_r {c : Int32} (h : lt_ c = true) : 97 ≤ c.toInt ∧ c.toInt ≤ 122 := in_of (a := 97) (b := 122) rfl ((lt_iff c).mp h)
theorem let_nn {c : Int32} (h : lt_ c = true) : ¬ c < 0 := ch_pos (by have := let_r h; omega)
theorem k_fE (hf : fig (ch T N (tkS T N p)) = true) : tkE T N p = run_ fig T N (tkS T N p) := by
  unfold tkE
  rw [if_neg (fig_nn hf), if_pos hf]
theorem k_first {c : Int32} : (10 : Int32) * 0 + c - 48 = c - 48 := by
  rw [show (10 : Int32) * 0 = 0 by decide, Int32.zero_add]
theorem k_tkN (hf : fig (ch T N (tkS T N p)) = true) : tkN T N p = fgv T N (N - tkS T N p) (tkS T N p + 1) (ch T N (tkS T N p) - 48) := by
  unfold tkN
  show fgv T N (N - tkS T N p + 1) (tkS T N p) 0 = _
  rw [fgv, if_pos hf, if_pos (show (0 : Int32) ≤ 99 by decide), k_first]
theorem k_fig1 (hf : fig (ch T N (tkS T N p)) = true) (h1 : tkE T N p - tkS T N p = 1) : tkK T N p = 2 ∧ tkV T N p = ch T N (tkS T N p) - 48 := by
  have hr := fig_r hf
  have hE := k_fE hf
  have hge := tkE_ge T N p
  have hst : ¬ fig (ch T N (tkS T N p + 1)) = true := by
    have := run_stop fig_1 T N (tkS T N p)
    rw [← hE, show tkE T N p = tkS T N p + 1 by omega] at this
    rw [this]; decide
  have eN : tkN T N p = ch T N (tkS T N p) - 48 := by
    rw [k_tkN hf]
    cases hk : N - tkS T N p with
    | zero => rfl
    | succ f => rw [fgv, if_neg hst]
  have ev : (ch T N (tkS T N p) - 48).toInt = (ch T N (tkS T N p)).toInt - 48 := subI rfl rfl (by omega) (by omega)
  refine ⟨?_, ?_⟩
  · unfold tkK
    rw [if_neg (fig_nn hf), if_pos hf, eN, if_neg (show ¬ (99 : Int32) < ch T N (tkS T N p) - 48 by rw [Int32.lt_iff_toInt_lt, ev]; show ¬ (99 : Int) < _; omega), if_pos (show tkE T N p - tkS T N p ≤ 1 by omega), ite_self]
  · unfold tkV
    rw [if_neg (fig_nn hf), if_pos hf, eN]
theorem k_fig2 (hf : fig (ch T N (tkS T N p)) = true) (h1 : ¬ tkE T N p - tkS T N p = 1) {l m : Nat} (hm : m ≤ 9) : ¬ okn T N p (nI l) (nI m) := by
  have hr := fig_r hf
  have hgt := tkE_gt (T := T) (N := N) (p := p) (fig_nn hf)
  rintro ⟨q1, q2⟩
  have eK : tkK T N p = if (99 : Int32) < tkN T N p then 4 else if ch T N (tkS T N p) = 48 then (if tkE T N p - tkS T N p ≤ 1 then 2 else 4) else 2 := by unfold tkK; rw [if_neg (fig_nn hf), if_pos hf]
  have eV : tkV T N p = tkN T N p := by unfold tkV; rw [if_neg (fig_nn hf), if_pos hf]
  rw [eV] at q2
  have q3 := in_of rfl q2
  rw [nI_toI (show m < 2147483648 by omega)] at q3
  by_cases c48 : ch T N (tkS T N p) = 48
  · rw [eK, if_pos c48, if_neg (show ¬ tkE T N p - tkS T N p ≤ 1 by omega)] at q1
    split at q1 <;> exact absurd q1 (by decide)
  · have hc : (ch T N (tkS T N p)).toInt ≠ 48 := fun z => c48 (Int32.toInt_inj.mp z)
    have ev : (ch T N (tkS T N p) - 48).toInt = (ch T N (tkS T N p)).toInt - 48 := subI rfl rfl (by omega) (by omega)
    -- the second figure
    have h2 : fig (ch T N (tkS T N p + 1)) = true := by
      refine Classical.byContradiction fun z => h1 ?_
      rw [k_fE hf, run_yes fig_1 hf, run_no fig_1 z]
      omega
    have hlt : tkS T N p + 1 < N := by
      rcases Nat.lt_or_ge (tkS T N p + 1) N with r | r
      · exact r
      · rw [ch_out r] at h2; exact absurd h2 (by decide)
    have hr2 := fig_r h2
    have e9 : (ch T N (tkS T N p) - 48) ≤ 99 := by rw [Int32.le_iff_toInt_le, ev]; show _ ≤ (99 : Int); omega
    have e1 : ((10 : Int32) * (ch T N (tkS T N p) - 48)).toInt = 10 * ((ch T N (tkS T N p)).toInt - 48) := mulI rfl ev (by omega) (by omega)
    have e2 : ((10 : Int32) * (ch T N (tkS T N p) - 48) + ch T N (tkS T N p + 1)).toInt = 10 * ((ch T N (tkS T N p)).toInt - 48) + (ch T N (tkS T N p + 1)).toInt := addI e1 rfl (by omega) (by omega)
    have e3 : ((10 : Int32) * (ch T N (tkS T N p) - 48) + ch T N (tkS T N p + 1) - 48).toInt = 10 * ((ch T N (tkS T N p)).toInt - 48) + (ch T N (tkS T N p + 1)).toInt - 48 := subI e2 rfl (by omega) (by omega)
    have eN : tkN T N p = fgv T N (N - tkS T N p - 1) (tkS T N p + 1 + 1) ((10 : Int32) * (ch T N (tkS T N p) - 48) + ch T N (tkS T N p + 1) - 48) := by
      rw [k_tkN hf]
      obtain ⟨f, hf2⟩ : ∃ f, N - tkS T N p = f + 1 := ⟨N - tkS T N p - 1, by omega⟩
      rw [hf2, Nat.add_sub_cancel, fgv, if_pos h2, if_pos e9]
    have := fgv_10 T N (N - tkS T N p - 1) (tkS T N p + 1 + 1) _ (show 10 ≤ ((10 : Int32) * (ch T N (tkS T N p) - 48) + ch T N (tkS T N p + 1) - 48).toInt by rw [e3]; omega) (by rw [e3]; omega)
    rw [← eN] at this
    omega
theorem k_let (hl : lt_ (ch T N (tkS T N p)) = true) : tkK T N p = 1 ∧ tkV T N p = if tkE T N p - tkS T N p = 1 then ch T N (tkS T N p) else 0 := by
  have hf : ¬ fig (ch T N (tkS T N p)) = true := fun q => not_both q hl
  constructor
  · unfold tkK; rw [if_neg (let_nn hl), if_neg hf, if_pos hl]
  · unfold tkV; rw [if_neg (let_nn hl), if_neg hf, if_pos hl]
theorem k_oth (hn : ¬ ch T N (tkS T N p) < 0) (hl : ¬ lt_ (ch T N (tkS T N p)) = true) (hf : ¬ fig (ch T N (tkS T N p)) = true) : tkK T N p = if ch T N (tkS T N p) = 59 then 3 else 4 := by
  unfold tkK; rw [if_neg hn, if_neg hf, if_neg hl]
theorem k_is2 (h : tkK T N p = 2) : fig (ch T N (tkS T N p)) = true := by
  refine Classical.byContradiction fun hf => ?_
  by_cases hn : ch T N (tkS T N p) < 0
  · rw [tkK_0 hn] at h; exact absurd h (by decide)
  · by_cases hl : lt_ (ch T N (tkS T N p)) = true
    · rw [(k_let hl).1] at h; exact absurd h (by decide)
    · rw [k_oth hn hl hf] at h
      split at h <;> exact absurd h (by decide)
theorem k_is3 : tkK T N p = 3 ↔ sp_X1_tokenOf (ch T N (tkS T N p)) = 3 := by
  by_cases hl : lt_ (ch T N (tkS T N p)) = true
  · rw [(k_let hl).1, tok_l hl]
  · by_cases hf : fig (ch T N (tkS T N p)) = true
    · rw [tok_f hf]
      refine ⟨fun q => ?_, fun q => absurd q (by decide)⟩
      exfalso
      unfold tkK at q
      rw [if_neg (fig_nn hf), if_pos hf] at q
      split at q
      · exact absurd q (by decide)
      · split at q
        · split at q <;> exact absurd q (by decide)
        · exact absurd q (by decide)
    · rw [tok_o hl hf]
      by_cases hn : ch T N (tkS T N p) < 0
      · rw [tkK_0 hn, if_neg (show ¬ ch T N (tkS T N p) = 59 from fun q => by rw [q] at hn; exact absurd hn (by decide)), if_neg (fun q => nle0_lt.mpr hn q)]
        first | done | exact ⟨fun q => absurd q (by decide), fun q => absurd q (by decide)⟩
      · rw [k_oth hn hl hf]
        by_cases c : ch T N (tkS T N p) = 59
        · rw [if_pos c, if_pos c]
        · rw [if_neg c, if_neg c]
          refine ⟨fun q => absurd q (by decide), fun q => ?_⟩
          split at q <;> exact absurd q (by decide)
theorem k_nn (h : ¬ tkK T N p = 0) : ¬ ch T N (tkS T N p) < 0 := fun q => h (tkK_0 q)
theorem num_y (h : TK T N p g g') {l m : Nat} (hm : m ≤ 9) (ho : okn T N p (nI l) (nI m)) : ¬ sp_X1_isNumber g' (nI l) (nI m) = 0 ∧ g' 3 = tkV T N p ∧ g' 0 = nI (tkE T N p) := by
  obtain ⟨_, h2, h3, _⟩ := h
  have hf := k_is2 ho.1
  have h1 : tkE T N p - tkS T N p = 1 := Classical.byContradiction fun q => k_fig2 hf q hm ho
  obtain ⟨e0, e3⟩ := h3 (fig_nn hf)
  have ev : g' 3 = tkV T N p := by
    rw [e3, (k_fig1 hf h1).2]
    unfold tv
    rw [if_pos h1, if_pos hf]
  refine ⟨?_, ev, e0⟩
  have e : sp_X1_isNumber g' (nI l) (nI m) = if g' 2 = 2 then sp_X7_in (g' 3) (nI l) (nI m) else 0 := rfl
  rw [e, h2, tok_f hf, if_pos rfl, ev]
  exact ho.2
theorem num_n (h : TK T N p g g') {l m : Nat} (hl9 : l ≤ 9) (hm : m ≤ 9) (ho : ¬ okn T N p (nI l) (nI m)) : sp_X1_isNumber g' (nI l) (nI m) = 0 := by
  obtain ⟨_, h2, h3, _⟩ := h
  have e : sp_X1_isNumber g' (nI l) (nI m) = if g' 2 = 2 then sp_X7_in (g' 3) (nI l) (nI m) else 0 := rfl
  rw [e, h2]
  by_cases hf : fig (ch T N (tkS T N p)) = true
  · rw [tok_f hf, if_pos rfl]
    obtain ⟨e0, e3⟩ := h3 (fig_nn hf)
    by_cases h1 : tkE T N p - tkS T N p = 1
    · obtain ⟨k1, k2⟩ := k_fig1 hf h1
      have ev : g' 3 = tkV T N p := by
        rw [e3, k2]
        unfold tv
        rw [if_pos h1, if_pos hf]
      rw [ev]
      exact Classical.byContradiction fun q => ho ⟨k1, q⟩
    · have ev : g' 3 = -1 := by
        rw [e3]
        unfold tv
        rw [if_neg h1]
      rw [ev]
      unfold sp_X7_in
      rw [if_pos (show (-1 : Int32) < nI l by rw [Int32.lt_iff_toInt_lt, nI_toI (by omega)]; show (-1 : Int) < _; omega)]
  · rw [if_neg (fun q => hf ((tok_2 _).mpr q))]
theorem okn_nat {l m : Nat} (hl : l < 1000) (hm : m < 1000) (ho : okn T N p (nI l) (nI m)) : ∃ v, l ≤ v ∧ v ≤ m ∧ tkV T N p = nI v := by
  have h := in_of rfl ho.2
  rw [nI_toI (by omega), nI_toI (by omega)] at h
  obtain ⟨v, hv, e⟩ := nI_of (x := tkV T N p) (by rw [Int32.lt_iff_toInt_lt]; show ¬ _ < (0 : Int); omega)
  rw [e, nI_toI (by omega)] at h
  exact ⟨v, by omega, by omega, e⟩
/-! the reference's token ahead -/
def LA (T : Nat → Int32) (N p : Nat) (mg : Nat → Int32) : Prop := mg 3 = nI N ∧ mg 4 = nI (tkE T N p) ∧ mg 5 = nI (tkS T N p) ∧ mg 6 = tkK T N p ∧ mg 7 = tkV T N p
theorem LA_nxt {mg : Nat → Int32} (h3 : mg 3 = nI N) : LA T N p (nxt T N p mg) := ⟨h3, rfl, rfl, rfl, rfl⟩
theorem LA.u {mg : Nat → Int32} (h : LA T N p mg) {k : Nat} (hk : 8 ≤ k) (x : Int32) : LA T N p (upd mg k x) := ⟨(upd_o (by omega)).trans h.1, (upd_o (by omega)).trans h.2.1, (upd_o (by omega)).trans h.2.2.1, (upd_o (by omega)).trans h.2.2.2.1, (upd_o (by omega)).trans h.2.2.2.2⟩
theorem tn_y {mg : Nat → Int32} {l m : Int32} (hN : N ≤ 150) (hT : ∀ j, j < N → 0 ≤ T j) (hp : p ≤ N) (hA : LA T N p mg) (h8 : mg 8 = 0) (ho : okn T N p l m) : sp_X7_takesNumber mg T l m = (tkV T N p, nxt T N (tkE T N p) mg) := by
  rw [tn_eq l m hN hT hA.1 hA.2.1 (tkE_le hT hp), if_pos ⟨h8, hA.2.2.2.1.trans ho.1, by rw [hA.2.2.2.2]; exact ho.2⟩, hA.2.2.2.2, upd_id h8]
theorem tn_n {mg : Nat → Int32} {l m : Int32} (hN : N ≤ 150) (hT : ∀ j, j < N → 0 ≤ T j) (hp : p ≤ N) (hA : LA T N p mg) (ho : ¬ okn T N p l m) : sp_X7_takesNumber mg T l m = (0, upd mg 8 1) := by
  rw [tn_eq l m hN hT hA.1 hA.2.1 (tkE_le hT hp), if_neg]
  rintro ⟨_, q1, q2⟩
  rw [hA.2.2.2.1] at q1
  rw [hA.2.2.2.2] at q2
  exact ho ⟨q1, q2⟩
theorem bit_free {u : Int32} {k : Nat} (hk : k < 20) : ((1 : Int32) <<< (nI k &&& 31)) &&& (u ^^^ (-1 : Int32)) = if bt u k = true then 0 else (1 : Int32) <<< (nI k &&& 31) := by
  refine bx fun i hi => ?_
  rw [bt_and, bt_bit (by omega) hi, bt_not _ hi]
  by_cases c : bt u k = true
  · rw [if_pos c, bt_0]
    by_cases e : i = k
    · subst e; rw [c]; simp
    · simp [e]
  · rw [if_neg c, bt_bit (by omega) hi]
    by_cases e : i = k
    · subst e; simp [c]
    · simp [e]
end NU
