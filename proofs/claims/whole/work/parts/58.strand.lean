section SX
variable {w r : Nat} {g tb : Nat → Int32} {V Hd : Nat → Nat → Int32} {tr : Int64} {mg st im ke se tx sh : Nat → Int32} {mt : Int64}
theorem sh37 {N : Nat} (hN : 20 < N) (s : Nat → Int32) : ∀ k, k < 20 → lp_X7_strand_37 N (nI 0) s k = 0 := by
  have key := lpv (lp := fun n (a : Nat → Int32) y => lp_X7_strand_37 n y a) (N := 20) (P := fun i a => ∀ k, k < i → a k = 0) (fun n a _ => ?_) (fun n a i hi hp => ⟨upd a i 0, fun k hk => ?_, ?_⟩) 20 0 N s rfl hN (fun k hk => absurd hk (Nat.not_lt_zero _))
  · exact key
  · show lp_X7_strand_37 (n + 1) (nI 20) a = a
    rw [← lp_X7_strand_37_s, if_pos (show (20 : Int32) ≤ nI 20 by decide)]
  · by_cases e : k = i
    · subst e; exact pk_us
    · rw [pk_un e]; exact hp k (by omega)
  · show lp_X7_strand_37 (n + 1) (nI i) a = lp_X7_strand_37 n (nI (i + 1)) (upd a i 0)
    rw [← lp_X7_strand_37_s, if_neg (show ¬ (20 : Int32) ≤ nI i from nI_ge (b := 20) hi (by decide)), nI_clamp (by omega), ← nI_succ]
theorem se18 {N : Nat} (hN : 254 < N) (s sh : Nat → Int32) : ∀ k, k < 254 → lp_X7_settles_18 sh N (nI 0) s k = if k < 20 then sh k else 0 := by
  have key := lpv (lp := fun n (a : Nat → Int32) y => lp_X7_settles_18 sh n y a) (N := 254) (P := fun i a => ∀ k, k < i → a k = if k < 20 then sh k else 0) (fun n a _ => ?_) (fun n a i hi hp => ⟨upd a i (if i < 20 then sh i else 0), fun k hk => ?_, ?_⟩) 254 0 N s rfl hN (fun k hk => absurd hk (Nat.not_lt_zero _))
  · exact key
  · show lp_X7_settles_18 sh (n + 1) (nI 254) a = a
    rw [← lp_X7_settles_18_s, if_pos (show (254 : Int32) ≤ nI 254 by decide)]
  · by_cases e : k = i
    · subst e; exact pk_us
    · rw [pk_un e]; exact hp k (by omega)
  · show lp_X7_settles_18 sh (n + 1) (nI i) a = lp_X7_settles_18 sh n (nI (i + 1)) (upd a i (if i < 20 then sh i else 0))
    rw [← lp_X7_settles_18_s, if_neg (show ¬ (254 : Int32) ≤ nI i from nI_ge (b := 254) hi (by decide)), nI_clamp (by omega), ← nI_succ]
    by_cases c : i < 20
    · rw [if_neg (show ¬ (20 : Int32) ≤ nI i from nI_ge (b := 20) c (by decide)), if_pos c]
    · rw [if_pos (show (20 : Int32) ≤ nI i from nI_le (a := 20) (by omega) (by omega)), if_neg c]
/-- the draft anew -/
theorem anew (V Hd : Nat → Nat → Int32) : (∀ j, j < 5 → (sp_X4_startAnew V Hd 33).1 33 j = if j < 2 then 3 else 0) ∧ (∀ f, f < 5 → (sp_X4_startAnew V Hd 33).2 33 f = 0) ∧ ∀ c, c ≠ 33 → (sp_X4_startAnew V Hd 33).1 c = V c ∧ (sp_X4_startAnew V Hd 33).2 c = Hd c := by
  have fr := free_ok (Hd := Hd) (k := 33) 0
  unfold sp_X4_startAnew
  rw [nm_b]
  dsimp only
  refine ⟨fun j hj => ?_, fun f hf => ?_, fun c hc => ⟨by rw [vs_o hc, vs_o hc, vs_o hc, vs_o hc, vs_o hc], fr.2 c hc⟩⟩
  · rcases (show j = 0 ∨ j = 1 ∨ j = 2 ∨ j = 3 ∨ j = 4 by omega) with rfl | rfl | rfl | rfl | rfl <;> simp [vs]
  · rw [fr.1 f hf]
    exact bx fun i _ => by rw [bt_and, bt_0]; simp
/-- nothing told is kept when a reading fails -/
theorem RE.keep (h : RE w r g tb V Hd tr mg st im ke se tx mt) {g' : Nat → Int32} {V' Hd' : Nat → Nat → Int32} {mg' : Nat → Int32} (hg : ∀ j, 6 ≤ j → g' j = g j) (hm : ∀ j, j < 4 → mg' j = mg j) (hV : ∀ c, c ≠ 33 → V' c = V c ∧ Hd' c = Hd c) : RE w r g' tb V' Hd' tr mg' st im ke se tx mt := by
  have hcp : ∀ c, c ≠ 33 → cp (V', Hd') c (V, Hd) c := fun c hc => ⟨fun j _ => congrFun (hV c hc).1 j, fun j _ => congrFun (hV c hc).2 j⟩
  refine ⟨⟨h.1.1, (hm 0 (by decide)).trans h.1.2.1, (hm 1 (by decide)).trans h.1.2.2⟩, TX_cg h.2.1 (hg 6 (by decide)) (hm 3 (by decide)), SE_cg h.2.2.1 (fun j h1 _ => hg j (by omega)) (hm 2 (by decide)), ?_, KE_cg h.2.2.2.2.1 (fun j h1 _ => hg j (by omega)) (fun c h1 h2 => hcp c (by omega)), h.2.2.2.2.2⟩
  rw [hg 7 (by decide)]
  exact SY_cp h.2.2.2.1 (fun j hj => hcp _ (by omega)) (fun _ _ => rfl)
/-- the two at their ends -/
theorem str_end (h : RE w r g tb V Hd tr mg st im ke se tx mt) {N : Nat} (hN : N ≤ 150) {A : Int32 × (Nat → Int32) × (Nat → Nat → Int32) × (Nat → Nat → Int32)} {B : (Nat → Int32) × (Nat → Int32)} (R : RLs N g V Hd mg A B) {F : Nat} (hF : 254 < F) :
    (nm4 A (fun r_5 g_1 V_2 Hd_3 => if r_5 < 0 then (r_5, g_1, V_2, Hd_3) else (nm2 (sp_X4_becomes V_2 Hd_3 (11 * 0 + 10) 33) (fun V_7 Hd_8 => nm (sp_X2_dropAll (upd (upd (upd g_1 (7 + 0) (0 : Int32)) (10 + 1) (0 : Int32)) (10 + 2) (0 : Int32))) (fun g_10 => (r_5, upd g_10 6 (0 : Int32), V_7, Hd_8)))))).1 = (if (B.1 8) = 0 then ((sp_X7_settles B.1 st ke B.2).1 9, sp_X7_settles B.1 st ke B.2) else ((-10 : Int32) - (B.1 5), B.1, st, ke)).1 ∧
    ∃ w' r', RE w' r' (nm4 A (fun r_5 g_1 V_2 Hd_3 => if r_5 < 0 then (r_5, g_1, V_2, Hd_3) else (nm2 (sp_X4_becomes V_2 Hd_3 (11 * 0 + 10) 33) (fun V_7 Hd_8 => nm (sp_X2_dropAll (upd (upd (upd g_1 (7 + 0) (0 : Int32)) (10 + 1) (0 : Int32)) (10 + 2) (0 : Int32))) (fun g_10 => (r_5, upd g_10 6 (0 : Int32), V_7, Hd_8)))))).2.1 tb (nm4 A (fun r_5 g_1 V_2 Hd_3 => if r_5 < 0 then (r_5, g_1, V_2, Hd_3) else (nm2 (sp_X4_becomes V_2 Hd_3 (11 * 0 + 10) 33) (fun V_7 Hd_8 => nm (sp_X2_dropAll (upd (upd (upd g_1 (7 + 0) (0 : Int32)) (10 + 1) (0 : Int32)) (10 + 2) (0 : Int32))) (fun g_10 => (r_5, upd g_10 6 (0 : Int32), V_7, Hd_8)))))).2.2.1 (nm4 A (fun r_5 g_1 V_2 Hd_3 => if r_5 < 0 then (r_5, g_1, V_2, Hd_3) else (nm2 (sp_X4_becomes V_2 Hd_3 (11 * 0 + 10) 33) (fun V_7 Hd_8 => nm (sp_X2_dropAll (upd (upd (upd g_1 (7 + 0) (0 : Int32)) (10 + 1) (0 : Int32)) (10 + 2) (0 : Int32))) (fun g_10 => (r_5, upd g_10 6 (0 : Int32), V_7, Hd_8)))))).2.2.2 tr (if (B.1 8) = 0 then ((sp_X7_settles B.1 st ke B.2).1 9, sp_X7_settles B.1 st ke B.2) else ((-10 : Int32) - (B.1 5), B.1, st, ke)).2.1 (if (B.1 8) = 0 then ((sp_X7_settles B.1 st ke B.2).1 9, sp_X7_settles B.1 st ke B.2) else ((-10 : Int32) - (B.1 5), B.1, st, ke)).2.2.1 im (if (B.1 8) = 0 then ((sp_X7_settles B.1 st ke B.2).1 9, sp_X7_settles B.1 st ke B.2) else ((-10 : Int32) - (B.1 5), B.1, st, ke)).2.2.2 se tx mt := by
  obtain ⟨a1, a2, a3, a4⟩ := A
  obtain ⟨m, s⟩ := B
  obtain ⟨R, R6, Rm, RV⟩ := R
  dsimp only at R R6 Rm RV
  rw [nm4_b]
  dsimp only
  rcases R with ⟨q1, q2, q3⟩ | ⟨w', r', it, q1, q2, q3, q4, q5⟩
  · rw [if_pos q1, if_neg q2]
    exact ⟨q3, w, r, h.keep R6 Rm RV⟩
  · obtain ⟨hw, m10, m11, S, wd⟩ := q5
    have hb := bec (V := a3) (Hd := a4) (k := 11 * 0 + 10) (k0 := 33) (by decide)
    have n1 : ¬ a1 < 0 := by rw [q2]; exact nI_pos (by omega)
    rw [if_neg n1, if_pos q3, nm2_b, nm_b]
    dsimp only
    generalize sp_X4_becomes a3 a4 (11 * 0 + 10) 33 = C at hb ⊢
    have e18 := se18 (N := ((254 : Int32).toInt - (0 : Int32).toInt).toNat + 1) (by decide) st s
    rw [nI_0] at e18
    have es : sp_X7_settles m st ke s = (upd (upd (upd (upd m 0 (m 10)) 1 ((upd m 0 (m 10)) 11)) 2 (0 : Int32)) 3 (0 : Int32), upd (upd (lp_X7_settles_18 s (((254 : Int32).toInt - (0 : Int32).toInt).toNat + 1) (0 : Int32) st) 20 ((upd (upd m 0 (m 10)) 1 ((upd m 0 (m 10)) 11)) 12)) 21 (a3 33 3), upd (upd ke 0 (0 : Int32)) 1 (0 : Int32)) := by
      have c0 : (0 : Int32).toNatClampNeg = 0 := rfl
      have c1 : (1 : Int32).toNatClampNeg = 1 := rfl
      have u13 : (upd (upd m 0 (m 10)) 1 ((upd m 0 (m 10)) 11)) 13 = m 13 := by rw [upd_o (by decide), upd_o (by decide)]
      unfold sp_X7_settles jn_X7_settles_85
      rw [nm_b, u13, c20, c21, c0, c1]
      rcases wd with ⟨z1, z2, z3⟩ | ⟨z1, z2, z3⟩
      · rw [z2, if_neg (by decide), z3]
      · rw [if_pos (show (0 : Int32) ≤ m 13 by rw [z2]; rcases z3 with y | y <;> rw [y] <;> decide), z2]
    rw [es]
    dsimp only
    generalize lp_X7_settles_18 s (((254 : Int32).toInt - (0 : Int32).toInt).toNat + 1) (0 : Int32) st = L at e18 ⊢
    have g9 : (upd (upd (upd (upd m 0 (m 10)) 1 ((upd m 0 (m 10)) 11)) 2 (0 : Int32)) 3 (0 : Int32)) 9 = nI it := by
      rw [upd_o (by decide), upd_o (by decide), upd_o (by decide), upd_o (by decide)]; exact q4
    refine ⟨q2.trans g9.symm, w', r', ⟨hw, ?_, ?_⟩, ⟨0, by omega, pk_us, pk_us, fun j hj => absurd hj (Nat.not_lt_zero _)⟩, drop_se ?_ ?_ ?_ ?_ ?_ ?_, ⟨0, by omega, ?_, ?_, ⟨0, ?_⟩, fun j hj => absurd hj (Nat.not_lt_zero _)⟩, fun q hq => ?_, h.2.2.2.2.2⟩
    · rw [upd_o (by decide), upd_o (by decide), upd_o (by decide), pk_us]; exact m10
    · rw [upd_o (by decide), upd_o (by decide), pk_us, upd_o (by decide)]; exact m11
    · unfold sp_X2_dropAll; rw [upd_o (by decide), upd_o (by decide), upd_o (by decide), upd_o (by decide), upd_o (by decide), pk_us]
    · unfold sp_X2_dropAll; rw [upd_o (by decide), upd_o (by decide), upd_o (by decide), upd_o (by decide), pk_us]
    · unfold sp_X2_dropAll; rw [upd_o (by decide), upd_o (by decide), upd_o (by decide), pk_us]
    · unfold sp_X2_dropAll; rw [upd_o (by decide), upd_o (by decide), pk_us]
    · unfold sp_X2_dropAll; rw [upd_o (by decide), pk_us]
    · rw [upd_o (by decide), pk_us]
    · unfold sp_X2_dropAll; rw [upd_o (by decide), upd_o (by decide), upd_o (by decide), upd_o (by decide), upd_o (by decide), upd_o (by decide), upd_o (by decide), upd_o (by decide)]; exact pk_us
    · rw [upd_o (by decide), upd_o (by decide), e18 23 (by decide)]; rfl
    · refine SN_cg S hb.1.1 hb.1.2 (fun j hj => ?_)
      by_cases c21 : j = 21
      · subst c21; rw [pk_us]; rfl
      · rw [upd_o c21]
        by_cases c20 : j = 20
        · subst c20
          rw [pk_us, upd_o (by decide), upd_o (by decide)]; rfl
        · rw [upd_o c20, e18 j (by omega)]
          by_cases c : j < 20
          · rw [if_pos c, bk_lt c]
          · have e22 : j = 22 := by omega
            subst e22
            rfl
    · have hg : ∀ j, 11 ≤ j → j < 13 → upd (sp_X2_dropAll (upd (upd (upd a2 (7 + 0) (0 : Int32)) (10 + 1) (0 : Int32)) (10 + 2) (0 : Int32))) 6 (0 : Int32) j = 0 := by
        intro j h1 h2
        unfold sp_X2_dropAll
        rcases (show j = 11 ∨ j = 12 by omega) with rfl | rfl
        · rw [upd_o (by decide), upd_o (by decide), upd_o (by decide), upd_o (by decide), upd_o (by decide), upd_o (by decide), upd_o (by decide)]; exact pk_us
        · rw [upd_o (by decide), upd_o (by decide), upd_o (by decide), upd_o (by decide), upd_o (by decide), upd_o (by decide)]; exact pk_us
      have hk : upd (upd ke 0 (0 : Int32)) 1 (0 : Int32) q = 0 := by
        rcases (show q = 0 ∨ q = 1 by omega) with rfl | rfl
        · rw [upd_o (by decide), pk_us]
        · exact pk_us
      rw [hg (11 + q) (by omega) (by omega), hk]
      exact ⟨Or.inl rfl, rfl, fun z => absurd z (by decide)⟩
theorem strand_ok (h : RE w r g tb V Hd tr mg st im ke se tx mt) : (sp_X6_strand g tb V Hd).1 = (sp_X7_strand mg st ke tx sh).1 ∧ ∃ w' r', RE w' r' (sp_X6_strand g tb V Hd).2.1 tb (sp_X6_strand g tb V Hd).2.2.1 (sp_X6_strand g tb V Hd).2.2.2 tr (sp_X7_strand mg st ke tx sh).2.1 (sp_X7_strand mg st ke tx sh).2.2.1 im (sp_X7_strand mg st ke tx sh).2.2.2.1 se tx mt := by
  obtain ⟨N, hN, g6, m3, hT⟩ := h.2.1
  have hB : RB N g tb tx := ⟨g6, hN, fun j hj => ⟨(hT j hj).1, by obtain ⟨c, hc, e⟩ := (hT j hj).2; rw [e]; exact nI_pos' (by omega)⟩⟩
  -- the reference's beginning
  have z37 := sh37 (N := ((20 : Int32).toInt - (0 : Int32).toInt).toNat + 1) (by decide) sh
  rw [nI_0] at z37
  obtain ⟨m0, hm0⟩ : ∃ m0, m0 = upd (upd (upd (upd (upd (upd (upd mg 4 (0 : Int32)) 8 (0 : Int32)) 9 (0 : Int32)) 10 (3 : Int32)) 11 (3 : Int32)) 12 (0 : Int32)) 13 (-1 : Int32) := ⟨_, rfl⟩
  have m0lo : ∀ j, j < 4 → m0 j = mg j := fun j hj => by rw [hm0, upd_o (by omega), upd_o (by omega), upd_o (by omega), upd_o (by omega), upd_o (by omega), upd_o (by omega), upd_o (by omega)]
  have m04 : m0 4 = nI 0 := by rw [hm0, upd_o (by decide), upd_o (by decide), upd_o (by decide), upd_o (by decide), upd_o (by decide), upd_o (by decide), pk_us]; rfl
  have m03 : m0 3 = nI N := (m0lo 3 (by decide)).trans m3
  have m08 : m0 8 = 0 := by rw [hm0, upd_o (by decide), upd_o (by decide), upd_o (by decide), upd_o (by decide), upd_o (by decide), pk_us]
  have m09 : m0 9 = nI 0 := by rw [hm0, upd_o (by decide), upd_o (by decide), upd_o (by decide), upd_o (by decide), pk_us]; rfl
  have m010 : m0 10 = nI 3 := by rw [hm0, upd_o (by decide), upd_o (by decide), upd_o (by decide), pk_us]; rfl
  have m011 : m0 11 = nI 3 := by rw [hm0, upd_o (by decide), upd_o (by decide), pk_us]; rfl
  have m012 : m0 12 = 0 := by rw [hm0, upd_o (by decide), pk_us]
  have m013 : m0 13 = -1 := by rw [hm0, pk_us]
  have en : sp_X7_next m0 tx = nxt tx N 0 m0 := next_eq hN hB.t0 m03 m04 (Nat.zero_le _)
  have A0 : LA tx N 0 (nxt tx N 0 m0) := LA_nxt m03
  have mo : ∀ j, j ≠ 4 → j ≠ 5 → j ≠ 6 → j ≠ 7 → nxt tx N 0 m0 j = m0 j := fun j a b c d => nxt_o ⟨a, b, c, d⟩
  have e7 : sp_X7_strand mg st ke tx sh = nm (lp_X7_strand_37 (((20 : Int32).toInt - (0 : Int32).toInt).toNat + 1) (0 : Int32) sh) (fun e_3 => nm (sp_X7_next m0 tx) (fun mg_5 => nm2 (lp_X7_strand_60 tx ((2 * ((mg_5 3).toInt - (mg_5 4).toInt) + (if mg_5 8 = 0 then 1 else 0)).toNat + 1) mg_5 e_3) (fun e_9 e_10 => if (e_9 8) = 0 then (nm3 (sp_X7_settles e_9 st ke e_10) (fun mg_17 st_18 ke_19 => (mg_17 9, mg_17, st_18, ke_19, e_10))) else ((-10 : Int32) - (e_9 5), e_9, st, ke, e_10)))) := by rw [hm0]; rfl
  generalize lp_X7_strand_37 (((20 : Int32).toInt - (0 : Int32).toInt).toNat + 1) (0 : Int32) sh = s0 at z37 e7
  rw [en, nm_b, nm_b] at e7
  have hEN := tkE_le (p := 0) hB.t0 (Nat.zero_le N)
  generalize nxt tx N 0 m0 = m5 at A0 mo e7
  have m58 : m5 8 = 0 := (mo 8 (by decide) (by decide) (by decide) (by decide)).trans m08
  have hfu : 2 * (N - tkE tx N 0) + 1 < (2 * ((m5 3).toInt - (m5 4).toInt) + (if m5 8 = 0 then 1 else 0)).toNat + 1 := by
    rw [A0.1, A0.2.1, if_pos m58, nI_toI (by omega), nI_toI (by omega)]
    omega
  generalize (2 * ((m5 3).toInt - (m5 4).toInt) + (if m5 8 = 0 then 1 else 0)).toNat + 1 = F at hfu e7
  -- the class' beginning
  obtain ⟨n1, n2, n3⟩ := anew V Hd
  have hfu6 : 151 < ((150 : Int32).toInt + 1 - (0 : Int32).toInt).toNat + 1 := by decide
  have e6 : sp_X6_strand g tb V Hd = nm4 (nm2 (sp_X4_startAnew V Hd 33) (fun V_1 Hd_2 => lp_X1_readAll_24 tb (((150 : Int32).toInt + 1 - (0 : Int32).toInt).toNat + 1) (0 : Int32) (upd (upd (upd g 0 (0 : Int32)) 4 (0 : Int32)) 5 (0 : Int32)) V_1 Hd_2)) (fun r_5 g_1 V_2 Hd_3 => if r_5 < 0 then (r_5, g_1, V_2, Hd_3) else (nm2 (sp_X4_becomes V_2 Hd_3 (11 * 0 + 10) 33) (fun V_7 Hd_8 => nm (sp_X2_dropAll (upd (upd (upd g_1 (7 + 0) (0 : Int32)) (10 + 1) (0 : Int32)) (10 + 2) (0 : Int32))) (fun g_10 => (r_5, upd g_10 6 (0 : Int32), V_7, Hd_8))))) := rfl
  generalize ((150 : Int32).toInt + 1 - (0 : Int32).toInt).toNat + 1 = F6 at hfu6 e6
  generalize sp_X4_startAnew V Hd 33 = D at n1 n2 n3 e6
  obtain ⟨V1, Hd1⟩ := D
  rw [nm2_b] at e6
  dsimp only at n1 n2 n3 e6
  have hV3 : V1 33 3 = 0 := n1 3 (by decide)
  have hD : DI 3 3 (upd (upd (upd g 0 (0 : Int32)) 4 (0 : Int32)) 5 (0 : Int32) 5) V1 Hd1 m5 s0 := by
    refine ⟨⟨by omega, by omega, by omega, by omega⟩, (mo 10 (by decide) (by decide) (by decide) (by decide)).trans m010, (mo 11 (by decide) (by decide) (by decide) (by decide)).trans m011, ?_, Or.inl ⟨pk_us, (mo 13 (by decide) (by decide) (by decide) (by decide)).trans m013, hV3⟩⟩
    rw [mo 12 (by decide) (by decide) (by decide) (by decide), m012, hV3]
    refine ⟨⟨n1 0 (by decide), n1 1 (by decide), n1 2 (by decide), n1 3 (by decide), n1 4 (by decide)⟩, ⟨rfl, by omega, Or.inl rfl⟩, fun f hf i => ?_, fun k hk => ⟨0, by omega, ?_, fun z => absurd z (by omega)⟩, fun i hi => ?_⟩
    · rw [n2 f hf, bt_0, eq_comm, decide_eq_false_iff_not]
      rintro ⟨hi, q⟩
      rw [bk_lt hi, z37 i hi] at q
      exact absurd ((nI_eq (a := 0) (b := f + 1) (by omega) (by omega)).mp q) (by omega)
    · rw [bk_lt hk, z37 k hk]; rfl
    · rw [bk_20, bt_0] at hi; cases hi
  have hB' : RB N (upd (upd (upd g 0 (0 : Int32)) 4 (0 : Int32)) 5 (0 : Int32)) tb tx := ((hB.up (by decide) _).up (by decide) _).up (by decide) _
  have R := loop_ok (T := tx) N F F6 0 0 0 3 3 (upd (upd (upd g 0 (0 : Int32)) 4 (0 : Int32)) 5 (0 : Int32)) V1 Hd1 m5 s0 (by omega) (by omega) hfu (Nat.le_refl _) (Nat.le_refl _) hB' (by rw [upd_o (by decide), upd_o (by decide), pk_us]; rfl) (Nat.zero_le _) A0 m58 hD (by rw [upd_o (by decide), pk_us]; rfl) ((mo 9 (by decide) (by decide) (by decide) (by decide)).trans m09) (fun _ => ⟨z37, (mo 12 (by decide) (by decide) (by decide) (by decide)).trans m012⟩)
  rw [nI_0] at R
  generalize lp_X1_readAll_24 tb F6 (0 : Int32) (upd (upd (upd g 0 (0 : Int32)) 4 (0 : Int32)) 5 (0 : Int32)) V1 Hd1 = A at R e6
  generalize lp_X7_strand_60 tx F m5 s0 = B at R e7
  have R' : RLs N g V Hd mg A B := ⟨R.1, fun j hj => (R.2.1 j hj).trans (by rw [upd_o (by omega), upd_o (by omega), upd_o (by omega)]), fun j hj => (R.2.2.1 j hj).trans ((mo j (by omega) (by omega) (by omega) (by omega)).trans (m0lo j hj)), fun c hc => ⟨(R.2.2.2 c hc).1.trans (n3 c hc).1, (R.2.2.2 c hc).2.trans (n3 c hc).2⟩⟩
  have e8 : sp_X7_strand mg st ke tx sh = ((if (B.1 8) = 0 then ((sp_X7_settles B.1 st ke B.2).1 9, sp_X7_settles B.1 st ke B.2) else ((-10 : Int32) - (B.1 5), B.1, st, ke)).1, (if (B.1 8) = 0 then ((sp_X7_settles B.1 st ke B.2).1 9, sp_X7_settles B.1 st ke B.2) else ((-10 : Int32) - (B.1 5), B.1, st, ke)).2.1, (if (B.1 8) = 0 then ((sp_X7_settles B.1 st ke B.2).1 9, sp_X7_settles B.1 st ke B.2) else ((-10 : Int32) - (B.1 5), B.1, st, ke)).2.2.1, (if (B.1 8) = 0 then ((sp_X7_settles B.1 st ke B.2).1 9, sp_X7_settles B.1 st ke B.2) else ((-10 : Int32) - (B.1 5), B.1, st, ke)).2.2.2, B.2) := by
    rw [e7, nm2_b]
    by_cases c : B.1 8 = 0
    · rw [if_pos c, if_pos c, nm3_b]
    · rw [if_neg c, if_neg c]
  rw [e6, e8]
  exact str_end h hN R' (F := 255) (by omega)
end SX
