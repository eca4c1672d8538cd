/-! the calls that change the strand -/
section AC
variable {w r : Nat} {g tb : Nat → Int32} {V Hd : Nat → Nat → Int32} {tr : Int64} {mg st im ke se tx : Nat → Int32} {mt : Int64}
/-- what a change of the present and of the story asks -/
theorem RE.act (h : RE w r g tb V Hd tr mg st im ke se tx mt) {g' : Nat → Int32} {V' Hd' : Nat → Nat → Int32} {st' : Nat → Int32} (hs : SY w r V' Hd' 0 (g' 7) st') (hg : ∀ j, j ≠ 7 → g' j = g j) (hc : ∀ c, 11 ≤ c → cp (V', Hd') c (V, Hd) c) : RE w r g' tb V' Hd' tr mg st' im ke se tx mt :=
  ⟨h.1, TX_cg h.2.1 (hg 6 (by decide)) rfl, SE_cg h.2.2.1 (fun j h1 _ => hg j (by omega)) rfl, hs, KE_cg h.2.2.2.2.1 (fun j h1 _ => hg j (by omega)) (fun c h1 _ => hc c h1), h.2.2.2.2.2⟩
/-- remembered, and the present changed -/
theorem RE.rem (h : RE w r g tb V Hd tr mg st im ke se tx mt) {V' Hd' : Nat → Nat → Int32} {st' : Nat → Int32} {t : Nat} (N : SN w r t (V' (11 * 0 + 10)) (Hd' (11 * 0 + 10)) st') (hV : ∀ c, c ≠ 11 * 0 + 10 → V' c = (sp_X3_remember g V Hd 0).2.1 c) (hH : ∀ c, c ≠ 11 * 0 + 10 → Hd' c = (sp_X3_remember g V Hd 0).2.2 c) (hs : ∀ j, 23 ≤ j → st' j = sp_X7_remembers st j) : RE w r (sp_X3_remember g V Hd 0).1 tb V' Hd' tr mg st' im ke se tx mt := by
  obtain ⟨r1, r2, r3, r4⟩ := rem_ok h.2.2.2.1
  have hcp : ∀ c, c ≠ 11 * 0 + 10 → cp (V', Hd') c (sp_X3_remember g V Hd 0).2 c := fun c hc => ⟨fun j _ => congrFun (hV c hc) j, fun j _ => congrFun (hH c hc) j⟩
  exact h.act (SY_now r1 N (fun c hc => hcp c (by omega)) hs) r4 (fun c hc => cp_tr (hcp c (by omega)) (r2 c (by omega)))
/-- the present behind remember -/
theorem RE.mid (h : RE w r g tb V Hd tr mg st im ke se tx mt) {t : Nat} (S : SN w r t (V (11 * 0 + 10)) (Hd (11 * 0 + 10)) st) : SN w r t ((sp_X3_remember g V Hd 0).2.1 (11 * 0 + 10)) ((sp_X3_remember g V Hd 0).2.2 (11 * 0 + 10)) (sp_X7_remembers st) := by
  obtain ⟨r1, r2, r3, r4⟩ := rem_ok h.2.2.2.1
  exact SN_cg S (r2 _ (by decide)).1 (r2 _ (by decide)).2 r3
theorem ic_x (h : RE w r g tb V Hd tr mg st im ke se tx mt) (x y : Int32) : sp_X4_isCell V (11 * 0 + 10) x y = sp_X7_isCell mg x y ∧ (sp_X7_isCell mg x y = 0 ∨ (sp_X7_isCell mg x y = 1 ∧ ∃ i j, i < w ∧ j < r ∧ x = nI i ∧ y = nI j)) := by
  obtain ⟨t, S⟩ := h.now
  exact ⟨ice (S.v0.trans h.1.2.1.symm) (S.v1.trans h.1.2.2.symm) x y, ic_of h.1.1 h.1.2.1 h.1.2.2 x y⟩
theorem takes_ok (h : RE w r g tb V Hd tr mg st im ke se tx mt) (x1 x2 x3 : Int32) : (sp_X6_takes g V Hd x1 x2 x3).1 = (sp_X7_takes mg st x1 x2 x3).1 ∧ RE w r (sp_X6_takes g V Hd x1 x2 x3).2.1 tb (sp_X6_takes g V Hd x1 x2 x3).2.2.1 (sp_X6_takes g V Hd x1 x2 x3).2.2.2 tr mg (sp_X7_takes mg st x1 x2 x3).2 im ke se tx mt := by
  obtain ⟨e1, e2⟩ := ic_x h x2 x3
  unfold sp_X6_takes sp_X7_takes
  dsimp only [nm, nm3]
  rw [fam_eq, e1]
  rcases fam_of x1 with hf | ⟨hf, f, hf5, rfl⟩
  · rw [if_pos hf, if_pos hf]; exact ⟨rfl, h⟩
  have nf : ¬ sp_X7_isFamily (nI f) = 0 := by rw [hf]; decide
  rw [if_neg nf, if_neg nf]
  rcases e2 with hc | ⟨hc, i, j, hi, hj, rfl, rfl⟩
  · rw [if_pos hc, if_pos hc]; exact ⟨rfl, h⟩
  have nc : ¬ sp_X7_isCell mg (nI i) (nI j) = 0 := by rw [hc]; decide
  rw [if_neg nc, if_neg nc]
  obtain ⟨t, S⟩ := h.now
  obtain ⟨k20, kg, km, kd⟩ := gr_k h.1.1 hi hj
  have ht4 := h.1.1.r4
  have htr := S.tr
  rw [bit_eq, k_eq, nI_clamp (by omega)]
  obtain ⟨q, hq5, hbq, hqd⟩ := S.hold _ k20
  rw [idry S.b22 (by omega) (by omega), ho_eq S k20 hq5 hbq, hbq, kd]
  by_cases hd : t ≤ j
  · have hdr : dr w r t (5 * j + i) := ⟨by rw [km]; exact hi, by rw [kd]; exact hd, by rw [kd]; exact hj⟩
    rw [if_neg (show ¬ (sp_X4_dryCells V (11 * 0 + 10) &&& ((1 : Int32) <<< (nI (5 * j + i) &&& 31)) = 0) from fun z => (dry0 h.1.1 S (by omega)).mp z hdr), if_pos hd]
    by_cases hq : q = 0
    · subst hq
      rw [if_pos rfl, if_pos rfl, if_neg (show ¬ (0 : Int32) < nI 0 by decide), if_neg (show ¬ (1 : Int32) = 0 by decide)]
      have hf31 : nI f + 1 = nI (f + 1) := (nI_succ f).symm
      have M := h.mid S
      have N : SN w r t ((sp_X3_remember g V Hd 0).2.1 (11 * 0 + 10)) (sp_X4_give (sp_X3_remember g V Hd 0).2.2 (11 * 0 + 10) (nI f) ((1 : Int32) <<< (nI (5 * j + i) &&& 31)) (11 * 0 + 10)) (upd (sp_X7_remembers st) (5 * j + i) (nI (f + 1))) := by
        refine SN_set M k20 (by omega) (fun _ => hdr) (fun f' hf' c => ?_)
        have hz : sp_X7_remembers st (5 * j + i) = nI 0 := by rw [(rem_ok h.2.2.2.1).2.2.1 _ (by omega)]; exact hbq
        rw [give_ok hf5]
        by_cases ef : f' = f
        · subst ef
          rw [vs_s, bt_or]
          by_cases ec : c = 5 * j + i
          · subst ec
            rw [bt_bit (by omega) (by omega), if_pos rfl]; simp
          · rw [if_neg ec]
            by_cases c32 : c < 32
            · rw [bt_bit (by omega) c32]; simp [ec]
            · rw [bt_ge (by omega), bt_ge (by omega)]; rfl
        · rw [vs_j ef]
          by_cases ec : c = 5 * j + i
          · subst ec
            rw [if_pos rfl, M.held f' hf', hz]
            congr 1
            apply propext
            constructor
            · rintro ⟨_, z⟩; have := (nI_eq (by omega) (by omega)).mp z; omega
            · intro z; omega
          · rw [if_neg ec]
      refine ⟨?_, ?_⟩
      · show sp_J6_bitCount_0f7a4 (sp_X4_heldBy (sp_X4_give (sp_X3_remember g V Hd 0).2.2 (11 * 0 + 10) (nI f) ((1 : Int32) <<< (nI (5 * j + i) &&& 31))) (11 * 0 + 10) (nI f)) = sp_X7_bits (sp_X7_heldBy (upd (sp_X7_remembers st) (5 * j + i) (nI f + 1)) (nI f))
        rw [wh_eq hf5, hf31, hb_eq N (fun _ _ => rfl) hf5, bits_eq, pop_eq (held_sm N hf5)]
      · show RE w r (sp_X3_remember g V Hd 0).1 tb (sp_X3_remember g V Hd 0).2.1 (sp_X4_give (sp_X3_remember g V Hd 0).2.2 (11 * 0 + 10) (nI f) ((1 : Int32) <<< (nI (5 * j + i) &&& 31))) tr mg (upd (sp_X7_remembers st) (5 * j + i) (nI f + 1)) im ke se tx mt
        rw [hf31]
        refine h.rem N (fun _ _ => rfl) (fun c hc => ?_) (fun j hj => pk_un (by omega))
        rw [give_ok hf5]
        exact vs_o hc
    · have h9 : ¬ nI (q - 1) = (-9 : Int32) := fun z => by
        have := nI_pos (n := q - 1) (by omega)
        rw [z] at this
        exact this (by decide)
      rw [if_neg hq, if_neg h9, if_pos (show (0 : Int32) < nI q from nI_lt (a := 0) (by omega) (by omega))]
      exact ⟨rfl, h⟩
  · have hdr : ¬ dr w r t (5 * j + i) := fun z => hd (by have := z.2.1; omega)
    rw [if_pos ((dry0 h.1.1 S (by omega)).mpr hdr), if_neg hd]
    by_cases hq : (0 : Int32) < nI q
    · rw [if_pos hq]; exact ⟨rfl, h⟩
    · rw [if_neg hq, if_pos rfl]; exact ⟨rfl, h⟩
theorem leaves_ok (h : RE w r g tb V Hd tr mg st im ke se tx mt) (x1 x2 : Int32) : (sp_X6_leaves g V Hd x1 x2).1 = (sp_X7_leaves mg st x1 x2).1 ∧ RE w r (sp_X6_leaves g V Hd x1 x2).2.1 tb (sp_X6_leaves g V Hd x1 x2).2.2.1 (sp_X6_leaves g V Hd x1 x2).2.2.2 tr mg (sp_X7_leaves mg st x1 x2).2 im ke se tx mt := by
  obtain ⟨e1, e2⟩ := ic_x h x1 x2
  unfold sp_X6_leaves sp_X7_leaves
  dsimp only [nm, nm3]
  rw [e1]
  rcases e2 with hc | ⟨hc, i, j, hi, hj, rfl, rfl⟩
  · rw [if_pos hc, if_pos hc]; exact ⟨rfl, h⟩
  have nc : ¬ sp_X7_isCell mg (nI i) (nI j) = 0 := by rw [hc]; decide
  rw [if_neg nc, if_neg nc]
  obtain ⟨t, S⟩ := h.now
  obtain ⟨k20, kg, km, kd⟩ := gr_k h.1.1 hi hj
  rw [bit_eq, k_eq, nI_clamp (by omega)]
  obtain ⟨q, hq5, hbq, hqd⟩ := S.hold _ k20
  rw [ho_eq S k20 hq5 hbq, hbq]
  by_cases hq : q = 0
  · subst hq
    rw [if_pos rfl, if_pos rfl, if_pos (show nI 0 = 0 by decide)]
    exact ⟨rfl, h⟩
  · have h9 : ¬ nI (q - 1) = (-9 : Int32) := fun z => by
      have := nI_pos (n := q - 1) (by omega)
      rw [z] at this
      exact this (by decide)
    rw [if_neg hq, if_neg h9, if_neg (nI_ne0 (by omega) (by omega))]
    have M := h.mid S
    have fr := free_ok (Hd := (sp_X3_remember g V Hd 0).2.2) (k := 11 * 0 + 10) (((1 : Int32) <<< (nI (5 * j + i) &&& 31)) ^^^ (-1 : Int32))
    refine ⟨(pk_sub (b := 1) (by omega)).symm, ?_⟩
    show RE w r (sp_X3_remember g V Hd 0).1 tb (sp_X3_remember g V Hd 0).2.1 (sp_X4_freeAllBut (sp_X3_remember g V Hd 0).2.2 (11 * 0 + 10) (((1 : Int32) <<< (nI (5 * j + i) &&& 31)) ^^^ (-1 : Int32))) tr mg (upd (sp_X7_remembers st) (5 * j + i) (nI 0)) im ke se tx mt
    refine h.rem (t := t) (SN_set M k20 (by omega) (fun z => absurd z (by omega)) (fun f' hf' c => ?_)) (fun _ _ => rfl) fr.2 (fun j hj => pk_un (by omega))
    rw [fr.1 f' hf', bt_and]
    by_cases c32 : c < 32
    · rw [bt_not _ c32, bt_bit (by omega) c32]
      by_cases ec : c = 5 * j + i
      · rw [if_pos ec]; simp [ec]
      · rw [if_neg ec]; simp [ec]
    · rw [bt_ge (x := (sp_X3_remember g V Hd 0).2.2 (11 * 0 + 10) f') (by omega), if_neg (by omega)]; rfl
theorem veers_ok (h : RE w r g tb V Hd tr mg st im ke se tx mt) : (sp_X6_veers g V Hd).1 = (sp_X7_veers st).1 ∧ RE w r (sp_X6_veers g V Hd).2.1 tb (sp_X6_veers g V Hd).2.2.1 (sp_X6_veers g V Hd).2.2.2 tr mg (sp_X7_veers st).2 im ke se tx mt := by
  obtain ⟨t, S⟩ := h.now
  have M := h.mid S
  unfold sp_X6_veers sp_X7_veers
  dsimp only [nm, nm3]
  rw [c21]
  have e3 : (sp_X3_remember g V Hd 0).2.1 (11 * 0 + 10) 3 = sp_X7_remembers st 21 := M.v3
  rw [e3]
  refine ⟨?_, ?_⟩
  · show vs (sp_X3_remember g V Hd 0).2.1 (11 * 0 + 10) 3 ((1 : Int32) - sp_X7_remembers st 21) (11 * 0 + 10) 3 = upd (sp_X7_remembers st) 21 ((1 : Int32) - sp_X7_remembers st 21) 21
    rw [vs_s, pk_us]
  · refine h.rem (t := t) (SN_wind M (fun j hj => vs_j hj) vs_s ?_) (fun c hc => vs_o hc) (fun _ _ => rfl) (fun j hj => pk_un (by omega))
    rcases M.b21 with z | z
    · rw [z]; exact Or.inr rfl
    · rw [z]; exact Or.inl rfl
theorem puts_ok (h : RE w r g tb V Hd tr mg st im ke se tx mt) (x1 x2 x3 : Int32) : (sp_X6_puts g V Hd x1 x2 x3).1 = (sp_X7_puts mg st x1 x2 x3).1 ∧ RE w r (sp_X6_puts g V Hd x1 x2 x3).2.1 tb (sp_X6_puts g V Hd x1 x2 x3).2.2.1 (sp_X6_puts g V Hd x1 x2 x3).2.2.2 tr mg (sp_X7_puts mg st x1 x2 x3).2 im ke se tx mt := by
  obtain ⟨e1, e2⟩ := ic_x h x1 x2
  unfold sp_X6_puts sp_X7_puts
  dsimp only [nm]
  rw [e1, within_in]
  rcases e2 with hc | ⟨hc, i, j, hi, hj, rfl, rfl⟩
  · rw [if_pos hc, if_pos hc]; exact ⟨rfl, h⟩
  have nc : ¬ sp_X7_isCell mg (nI i) (nI j) = 0 := by rw [hc]; decide
  rw [if_neg nc, if_neg nc]
  rcases in_of2 x3 (n := 1) (by decide) with hs | ⟨hs, s, hs1, rfl⟩
  · have hs : sp_X7_in x3 0 1 = 0 := hs
    rw [if_pos hs, if_pos hs]; exact ⟨rfl, h⟩
  have hs : sp_X7_in (nI s) 0 1 = 1 := hs
  have ns : ¬ sp_X7_in (nI s) 0 1 = 0 := by rw [hs]; decide
  rw [if_neg ns, if_neg ns]
  obtain ⟨t, S⟩ := h.now
  obtain ⟨k20, kg, km, kd⟩ := gr_k h.1.1 hi hj
  have ht4 := h.1.1.r4
  have htr := S.tr
  have ev : V (11 * 0 + 10) 2 = st 20 := S.v2
  unfold jn_X7_puts_49 jn_X6_puts_60
  dsimp only [nm, nm3]
  rw [bit_eq, k_eq, c20, idry S.b22 (by omega) (by omega), has_eq (by omega), ev, kd]
  have M := h.mid S
  have ev' : (sp_X3_remember g V Hd 0).2.1 (11 * 0 + 10) 2 = sp_X7_remembers st 20 := M.v2
  have st20 : sp_X7_remembers st 20 = st 20 := (rem_ok h.2.2.2.1).2.2.1 20 (by decide)
  have hx : ∀ hd : t ≤ j, RE w r (sp_X3_remember g V Hd 0).1 tb (vs (sp_X3_remember g V Hd 0).2.1 (11 * 0 + 10) 2 ((sp_X3_remember g V Hd 0).2.1 (11 * 0 + 10) 2 ^^^ ((1 : Int32) <<< (nI (5 * j + i) &&& 31)))) (sp_X3_remember g V Hd 0).2.2 tr mg (upd (sp_X7_remembers st) 20 (sp_X7_remembers st 20 ^^^ ((1 : Int32) <<< (nI (5 * j + i) &&& 31)))) im ke se tx mt ∧ sp_J6_bitCount_0f7a4 (vs (sp_X3_remember g V Hd 0).2.1 (11 * 0 + 10) 2 ((sp_X3_remember g V Hd 0).2.1 (11 * 0 + 10) 2 ^^^ ((1 : Int32) <<< (nI (5 * j + i) &&& 31))) (11 * 0 + 10) 2) = sp_X7_bits (upd (sp_X7_remembers st) 20 (sp_X7_remembers st 20 ^^^ ((1 : Int32) <<< (nI (5 * j + i) &&& 31))) 20) := by
    intro hd
    have hdr : dr w r t (5 * j + i) := ⟨by rw [km]; exact hi, by rw [kd]; exact hd, by rw [kd]; exact hj⟩
    have hcl : ∀ c, bt (sp_X7_remembers st 20 ^^^ ((1 : Int32) <<< (nI (5 * j + i) &&& 31))) c = true → c < 20 ∧ dr w r t c := by
      intro c hc
      by_cases c32 : c < 32
      · rw [bt_xor, bt_bit (by omega) c32] at hc
        by_cases ec : c = 5 * j + i
        · rw [ec]; exact ⟨k20, hdr⟩
        · refine M.cloth c ?_
          simpa [ec] using hc
      · rw [bt_ge (by omega)] at hc; cases hc
    rw [ev', vs_s, pk_us]
    refine ⟨h.rem (t := t) (SN_cloth M (fun j hj => vs_j hj) vs_s hcl) (fun c hc => vs_o hc) (fun _ _ => rfl) (fun j hj => pk_un (by omega)), ?_⟩
    have hsm : sm (sp_X7_remembers st 20 ^^^ ((1 : Int32) <<< (nI (5 * j + i) &&& 31))) := fun c hc => by
      cases hb : bt (sp_X7_remembers st 20 ^^^ ((1 : Int32) <<< (nI (5 * j + i) &&& 31))) c
      · rfl
      · have := (hcl c hb).1; omega
    rw [bits_eq, pop_eq hsm]
  by_cases hd : t ≤ j
  · have hdr : dr w r t (5 * j + i) := ⟨by rw [km]; exact hi, by rw [kd]; exact hd, by rw [kd]; exact hj⟩
    obtain ⟨hx1, hx2⟩ := hx hd
    rw [if_neg (show ¬ (sp_X4_dryCells V (11 * 0 + 10) &&& ((1 : Int32) <<< (nI (5 * j + i) &&& 31)) = 0) from fun z => (dry0 h.1.1 S (by omega)).mp z hdr), if_pos hd]
    rcases (show s = 0 ∨ s = 1 by omega) with rfl | rfl <;> by_cases hb : bt (st 20) (5 * j + i) = true
    · rw [if_pos hb, if_neg (show ¬ (st 20 &&& ((1 : Int32) <<< (nI (5 * j + i) &&& 31)) = 0) from fun z => (cl0 (by omega)).mp z hb)]
      exact ⟨hx2, hx1⟩
    · rw [if_neg hb, if_pos ((cl0 (by omega)).mpr hb)]
      exact ⟨rfl, h⟩
    · rw [if_pos hb, if_neg (show ¬ (st 20 &&& ((1 : Int32) <<< (nI (5 * j + i) &&& 31)) = 0) from fun z => (cl0 (by omega)).mp z hb)]
      exact ⟨rfl, h⟩
    · rw [if_neg hb, if_pos ((cl0 (by omega)).mpr hb)]
      exact ⟨hx2, hx1⟩
  · have hdr : ¬ dr w r t (5 * j + i) := fun z => hd (by have := z.2.1; omega)
    rw [if_pos ((dry0 h.1.1 S (by omega)).mpr hdr), if_neg hd, if_pos rfl]
    refine ⟨?_, ?_⟩ <;> split <;> split <;> first | rfl | exact h
end AC
