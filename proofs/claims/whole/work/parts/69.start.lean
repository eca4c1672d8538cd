/-! THE CLAIM OUT OF ONE WALK OF THE LAW'S BODY. Your part is whole_start (and what it stands on); all else here is the same for every law, but numbers. -/
def R_law : String := "WindFrontiersLaw"
def lw_P (b : Addr) (xs : List Int32) (args : Array Value) (s : State) : Prop := args = #[.ref b] ∧ s.IntsAt b xs ∧ xs.length ≤ 384 ∧ (Jvm.Cond.and given_1 narrow_1).before args s = true
def lw_Q (_ : Array Value) (s : State) (o : Outcome) (t : State) : Prop := o = .returned (some (.int 1)) ∧ Framed s o t [] 600000 7302250
def lw_Z (below : List Frame) (a : Array Value) (s : State) : State → Prop := fun t => ∃ o, t.status = .running ∧ Ended t below o ∧ lw_Q a s o t
/-- the law's own end, with 1 on the stack, nothing written that was there before, its room as the claim has it -/
theorem lw_ret {p : Program} {l : Launch} {e : Env} {s : State} {m : MethodId} {below : List Frame} {meth : Method} {c : Code} {b : Nat} (hx : p.tables.exec = Jvm.exec) (hb : c.code = code) (hr : meth.sig.returnType = ret) (hlocks : meth.locks = false) {pc : Nat} {H : Heap} {ls : Array Slot} (hdg : decode code pc = .ok (.ireturn, 1)) : W p l e room_1 s m #[Value.ref b] below meth c H [] 600000 7302250 (lw_Z below #[Value.ref b] s) (F0 m pc ls [.int 1]) := by
  intro T hT X
  obtain ⟨fs, hret, hrun, hended, hW, hframe⟩ := X.leave (v := some (.int 1)) (hlocks := hlocks) (fun h => by rw [hr] at h; cases h)
  have hmeth' : T.vm.method? m = some meth := X.method'
  refine ⟨T.setFrames fs, ?_, .returned (some (.int 1)), hrun, hended, rfl, ⟨_, rfl⟩, hW, hframe⟩
  jvm_step X.here [X.here.top, hx, hb, hdg, hmeth', hr, ret, narrow_b1]
  (try refine ⟨rfl, ?_⟩); (try refine ⟨rfl, ?_⟩)
  first | (intro acts; rw [hret _ acts rfl rfl rfl]) | rw [hret _ _ rfl rfl rfl]
  exact Steps.refl _
/-- what holds at the law's entry: the machine, the code, the tables' words (any of lw_tbl by 'hts w (by decide +kernel)'), the script of L ints xs at the cell b, what the Statement gives of the start (any of its parts by flat_of_before) -/
def lw_At (p : Program) (s : State) (m : MethodId) (meth : Method) (c : Code) (b L : Nat) (xs : Nat → Int32) : Prop :=
  p.tables.exec = Jvm.exec ∧ c.code = code ∧ meth.sig.returnType = ret ∧ c.maxLocals = 4 ∧ s.vm.findClass R_law = some m.cls ∧ (∀ w ∈ lw_tbl, w.before #[Value.ref b] s = true) ∧ va_X b L xs s s.heap ∧ b < s.heap.size ∧ meth.locks = false ∧ (Jvm.Cond.and given_1 narrow_1).before #[Value.ref b] s = true
section LS
/-- both new: nothing told yet -/
def mg0 : Nat → Int32 := fun j => if j < 2 then 3 else 0
theorem SN_new : SN 3 3 0 (V0 0) (fun _ => 0) (fun _ => 0) := by
  refine ⟨⟨rfl, rfl, rfl, rfl, rfl⟩, ⟨rfl, by omega, Or.inl rfl⟩, fun f hf i => ?_, fun k hk => ⟨0, by omega, rfl, fun z => absurd z (by omega)⟩, fun i hi => ?_⟩
  · rw [bt_0, eq_comm, decide_eq_false_iff_not]
    rintro ⟨_, q⟩
    exact absurd ((nI_eq (a := 0) (b := f + 1) (by omega) (by omega)).mp q) (by omega)
  · rw [bt_0] at hi; cases hi
theorem RE_new : RE 3 3 (fun _ => 0) (fun _ => 0) V0 (fun _ _ => 0) 0 mg0 (fun _ => 0) (fun _ => 0) (fun _ => 0) (fun _ => 0) (fun _ => 0) 0 := by
  refine ⟨⟨⟨by omega, by omega, by omega, by omega⟩, rfl, rfl⟩, ⟨0, by omega, rfl, rfl, fun j hj => absurd hj (Nat.not_lt_zero _)⟩, drop_se rfl rfl rfl rfl rfl rfl, ⟨0, by omega, rfl, rfl, ⟨0, SN_new⟩, fun j hj => absurd hj (Nat.not_lt_zero _)⟩, fun q hq => ⟨Or.inl rfl, rfl, fun z => absurd z (show ¬ (0 : Int32) = 1 by decide)⟩, rfl⟩
end LS
section LN
variable {p : Program} {l : Launch} {e : Env} {R : Room} {s : State} {m : MethodId} {args : Array Value} {below : List Frame} {meth : Method} {c : Code} {H : Heap} {locs : List Loc} {cells slots mc ms : Nat} {Q : State → Prop} {pc : Nat} {ls : Array Slot} {rest st0 : List Value} {a : Array Value} {A : Nat → Prop} {H0 : Heap} {D : va_G} {tys : List (ClassId × FieldType)} {w : va_W}
theorem on_nv {T : Type} {W1 : T → va_W} {post : T → Prop} (hr : va_Run p l e R s m args below meth c H locs cells slots mc ms (F0 m pc ls st0) rest (va_Qv post (fun u t => GAt D tys (va_A w H.size) (W1 u) t) (va_A w H.size) a) (va_A w H.size)) (hD : va_D A w) (hS : va_S A H0 H locs) (hA : ∀ q, H0.size ≤ q → A q)
    (kk : ∀ (u : T) (H1 : Heap) (locs1 : List Loc), post u → va_P D vwCl (W1 u) H1 → va_D A (W1 u) → va_S A H0 H1 locs1 → W p l e R s m args below meth c H1 locs1 (cells + mc) (slots + ms) Q (F0 m (pc + 3) ls rest)) : W p l e R s m args below meth c H locs cells slots Q (F0 m pc ls st0) := by
  refine va_callv hr hS (fun q _ h => fr_A hD hS hA q h) (fr_A hD hS hA) (fun u t H1 locs1 ht hvm hp hB hz hk hS1 => ?_)
  obtain ⟨hP1, hK1, hD1⟩ := hB
  rw [ht] at hP1
  exact kk u H1 locs1 hp hP1 (hD1.weaken (fun _ _ _ h => fr_A hD hS hA _ h)) hS1
end LN
/-- the tables at the law's entry: classes, arrays -/
theorem law_K {s : State} {args : Array Value} (hts : ∀ w ∈ AL, w.before args s = true) (hts2 : ∀ w ∈ lw_tbl, w.before args s = true) : ∃ (D : va_G) (cI cZ cO : ClassId), va_K D vwCl (ty3 cI cZ cO) s := by
  obtain ⟨c0, i0, k0⟩ := u_known (C := RX0) (T := TX0) (N := 1) (n := 1) hts inA0 (hts _ wd_1_149)
  obtain ⟨c1, i1, k1⟩ := u_known (C := RX1) (T := TX1) (N := 8) (n := 8) hts inA1 (hts _ wd_1_19)
  obtain ⟨c2, i2, k2⟩ := u_known (C := RX2) (T := TX2) (N := 5) (n := 5) hts inA2 (hts _ wd_1_126)
  obtain ⟨c3, i3, k3⟩ := u_known (C := RX3) (T := TX3) (N := 4) (n := 4) hts inA3 (hts _ wd_1_102)
  obtain ⟨c4, i4, k4⟩ := u_known (C := RX4) (T := TX4) (N := 6) (n := 6) hts inA4 (hts _ wd_1_40)
  obtain ⟨c5, i5, k5⟩ := u_known (C := RX5) (T := TX5) (N := 2) (n := 2) hts inA5 (hts _ wd_1_25)
  obtain ⟨c6, i6, k6⟩ := u_known (C := RX6) (T := TX6) (N := 8) (n := 8) hts inA6 (hts _ wd_1_11)
  obtain ⟨c7, i7, k7⟩ := u_known (C := RX7) (T := TX7) (N := 22) (n := 22) hts inA7 (hts _ wd_3_70)
  obtain ⟨cI, kI, mI, a1, a2, a3⟩ := Cond.arrayClass_spec (hts _ wd_1_38)
  obtain ⟨cZ, kZ, mZ, b1, b2, b3⟩ := Cond.arrayClass_spec (hts _ wd_3_142)
  obtain ⟨comp, cO, kO, o1, o2, o3, o4, o5⟩ := Cond.arrayOver_spec (hts2 _ wn_1_109)
  refine ⟨(fun k => [c0, c1, c2, c3, c4, c5, c6, c7].getD k 0, fun k => [i0, i1, i2, i3, i4, i5, i6, i7].getD k (fun _ => 0)), cI, cZ, cO, fun k q hq => ?_, fun k q hq => ?_⟩
  · match k, hq with
    | 0, hq => cases hq; exact k0
    | 1, hq => cases hq; exact k1
    | 2, hq => cases hq; exact k2
    | 3, hq => cases hq; exact k3
    | 4, hq => cases hq; exact k4
    | 5, hq => cases hq; exact k5
    | 6, hq => cases hq; exact k6
    | 7, hq => cases hq; exact k7
    | k + 8, hq => simp [vwCl] at hq
  · match k, hq with
    | 0, hq => cases hq; exact ⟨fun n z => ⟨(fun k h => by cases h), kI, a2, mI, a3⟩, a1⟩
    | 1, hq => cases hq; exact ⟨fun n z => ⟨(fun k h => by cases h), kZ, b2, mZ, b3⟩, b1⟩
    | 2, hq => cases hq; exact ⟨fun n z => ⟨(fun k h => by cases h), kO, o3, comp, o4⟩, kO, comp, o3, o4, o1, o5⟩
    | k + 3, hq => simp [ty3] at hq
set_option maxHeartbeats 4000000 in
set_option maxRecDepth 100000 in
/-- THE LAW, from its entry -/
theorem whole_start {p : Program} {e : Env} {s : State} {m : MethodId} {below : List Frame} {meth : Method} {c : Code} (l : Launch) (hflags : l.flags = flags0) {b L : Nat} {xs : Nat → Int32} (hL : L ≤ 384) (C0 : lw_At p s m meth c b L xs) : W p l e room_1 s m #[Value.ref b] below meth c s.heap [] 0 0 (lw_Z below #[Value.ref b] s) (entryFrame m ([Value.ref b] : List Value).toArray 4) := by
  obtain ⟨hx, hb, hr, hml, hown, hts, hX, hbl, hlocks, hgv⟩ := id C0
  have htA : ∀ w ∈ AL, w.before #[Value.ref b] s = true := fun w hw => hts w (AL_in hw)
  have hA : ∀ q : Nat, s.heap.size ≤ q → (fun q : Nat => s.heap.size ≤ q) q := fun _ h => h
  have hbA : ¬ (fun q : Nat => s.heap.size ≤ q) b := Nat.not_le.mpr hbl
  have hN : NW s := NW_of hts
  obtain ⟨D, cI, cZ, cO, hK⟩ := law_K htA hts
  have C : CallFix p m c cL_law 4 s #[Value.ref b] AL RL := ⟨hx, hb, hml, hown, htA⟩
  have hS : va_S (fun q : Nat => s.heap.size ≤ q) s.heap s.heap [] := va_S.rf
  have hP : va_P D vwCl [] s.heap := fun k q h => by simp at h
  have hD : va_D (fun q : Nat => s.heap.size ≤ q) [] := ⟨fun i j p q h => by simp at h, fun k q h => by simp at h⟩
  have hl := lv_entry ([.ref b]) (n := 4) (Nat.le_of_ble_eq_true rfl)
  rw [lg_entry_eq]
  generalize (lg_sl ([.ref b]) ++ List.replicate (4 - (lg_sl ([.ref b])).length) Slot.unset).toArray = ls at hl ⊢
  have hl : lv_has ls 4 [(0, .ref b)] := hl
  refine va_new (D := D) (ci := 6) (fs := [.null, .null, .null, .null, .null, .null, .null, .null]) (C := RX6) (T := TX6) (N := 8) hx hb htA inA6 tyX6 tyX6_ok hown (htA _ wd_1_10) (htA _ wd_1_11) (htA _ wd_1_1) hK hP hD hS hA rfl df_6 (Nat.le_of_ble_eq_true rfl) (Nat.le_of_ble_eq_true rfl) dL_law_0 (fun h0 H hP hD hS => ?_)
  have hP : va_P D vwCl [(h0, .inr (6, [.null, .null, .null, .null, .null, .null, .null, .null]))] H := hP
  have hD : va_D (fun q : Nat => s.heap.size ≤ q) [(h0, .inr (6, [.null, .null, .null, .null, .null, .null, .null, .null]))] := hD
  refine lv_dup hx hb dL_law_3 rfl ?_
  refine on_nv (va_runI (As := []) (rest := [.ref h0]) C (c_X6_init (cZ := cZ) H.size) (cwI 0 htA (gd_wm (fun _ h => h) wd_1_14) rfl rfl rfl (htA _ wd_1_1) (htA _ wd_1_12) (htA _ wd_1_13) rfl hv_X6_init ⟨Nat.le_of_ble_eq_true rfl, Nat.le_of_ble_eq_true rfl⟩) ⟨GPre_blind, GPre_U hK hP hD hN⟩ rfl rfl hl.1 rfl (lv_room (Nat.le_of_ble_eq_true rfl)) dL_law_4 ⟨Nat.le_of_ble_eq_true rfl, Nat.le_of_ble_eq_true rfl⟩) hD hS hA (fun sk H locs e0 hP hD hS => ?_)
  rw [← e0]
  refine lv_astore_n (lv' := [(1, .ref (sk 0)), (0, .ref b)]) hx hb dL_law_7 rfl hl (by decide) rfl (fun ls hl => ?_)
  refine va_new (D := D) (ci := 7) (fs := [.int 0, .int 0, .null, .null, .null, .int 0, .null, .long 0, .null, .int 0, .int 0, .int 0, .int 0, .int 0, .int 0, .int 0, .int 0, .int 0, .null, .int 0, .int 0, .null]) (C := RX7) (T := TX7) (N := 22) hx hb htA inA7 tyX7 tyX7_ok hown (htA _ wd_3_69) (htA _ wd_3_70) (htA _ wd_1_8) hK hP hD hS hA rfl df_7 (Nat.le_of_ble_eq_true rfl) (Nat.le_of_ble_eq_true rfl) dL_law_8 (fun h1 H hP hD hS => ?_)
  refine lv_dup hx hb dL_law_11 rfl ?_
  refine on_nv (va_runI (As := []) (rest := [.ref h1]) C (c_X7_init (cO := cO) (w0 := WW cI cO sk (fun _ => 0) (fun _ => 0) V0 (fun _ _ => 0) 0) (h0 := h1) H.size) (cwI 0 htA (gd_wm (fun _ h => h) wd_3_73) rfl rfl rfl (htA _ wd_1_8) (htA _ wd_3_71) (htA _ wd_3_72) rfl hv_X7_init ⟨Nat.le_of_ble_eq_true rfl, Nat.le_of_ble_eq_true rfl⟩) ⟨GPre_blind, GPre_U hK hP hD hN⟩ rfl rfl hl.1 rfl (lv_room (Nat.le_of_ble_eq_true rfl)) dL_law_12 ⟨Nat.le_of_ble_eq_true rfl, Nat.le_of_ble_eq_true rfl⟩) hD hS hA (fun u H locs _ hP hD hS => ?_)
  obtain ⟨u1, u2, u3, u4, u5, u6, u7⟩ := u
  obtain ⟨mk, hmk⟩ : ∃ mk : Nat → Nat, mk = fun i => [h1, u1, u2, u3, u4, u5, u6, u7].getD i 0 := ⟨_, rfl⟩
  have em : h1 = mk 0 := by rw [hmk]; rfl
  have hP : va_P D vwCl (WW cI cO sk (fun _ => 0) (fun _ => 0) V0 (fun _ _ => 0) 0 ++ MW cI cZ mk mg0 (fun _ => 0) (fun _ => 0) (fun _ => 0) (fun _ => 0) (fun _ => 0) (fun _ => 0) (fun _ => 0) 0) H := by rw [hmk]; exact hP
  have hD : va_D (fun q : Nat => s.heap.size ≤ q) (WW cI cO sk (fun _ => 0) (fun _ => 0) V0 (fun _ _ => 0) 0 ++ MW cI cZ mk mg0 (fun _ => 0) (fun _ => 0) (fun _ => 0) (fun _ => 0) (fun _ => 0) (fun _ => 0) (fun _ => 0) 0) := by rw [hmk]; exact hD
  rw [em]
  refine lv_astore_n (lv' := [(2, .ref (mk 0)), (1, .ref (sk 0)), (0, .ref b)]) hx hb dL_law_15 rfl hl (by decide) rfl (fun ls hl => ?_)
  refine lv_iconst (v := 0) hx hb dL_law_16 (by decide) ?_
  refine lv_istore_n (lv' := [(3, .int 0), (2, .ref (mk 0)), (1, .ref (sk 0)), (0, .ref b)]) hx hb dL_law_17 rfl hl (by decide) rfl (fun ls hl => ?_)
  refine W.widen (k := 600000) (n := 7302250) (Nat.le_of_ble_eq_true rfl) (Nat.le_of_ble_eq_true rfl) ?_
  refine law_loop (cI := cI) (cZ := cZ) (cO := cO) (sk := sk) (mk := mk) ⟨C, hK, hN, hX, hbl, hbA, hA⟩ hL (fun ls H locs hS => ?_) (L + 1) 0 (Nat.zero_le L) (by omega) 3 3 _ _ _ _ _ _ _ _ _ _ _ _ _ _ H locs RE_new hP hD hS ls (lv_sub hl [3, 2, 1, 0] rfl)
  refine lv_iconst (v := 1) hx hb dL_law_816 (by decide) ?_
  refine va_forget (fun q hq => hS.2.2 q hq) ?_
  exact lw_ret hx hb hr hlocks dL_law_817
