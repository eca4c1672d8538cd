/-! two worlds side by side -/
section TWO
variable {p : Program} {l : Launch} {e : Env} {R : Room} {s : State} {m : MethodId} {args : Array Value} {below : List Frame} {meth : Method} {c : Code} {H : Heap} {locs : List Loc} {cells slots mc ms : Nat} {Q : State → Prop} {pc : Nat} {ls : Array Slot} {rest st0 : List Value} {a : Array Value} {A : Nat → Prop} {H0 : Heap} {D : va_G} {tys : List (ClassId × FieldType)} {w1 w2 : va_W}
theorem tw_P (h : va_P D vwCl (w1 ++ w2) H) : va_P D vwCl w1 H ∧ va_P D vwCl w2 H := by
  refine ⟨fun k q hq => h k q ?_, fun k q hq => h (w1.length + k) q ?_⟩
  · rw [List.getElem?_append_left (List.getElem?_eq_some_iff.mp hq).1]; exact hq
  · rw [List.getElem?_append_right (Nat.le_add_right _ _), Nat.add_sub_cancel_left]; exact hq
theorem tw_D (h : va_D A (w1 ++ w2)) : va_D A w1 ∧ va_D A w2 ∧ ∀ (i j : Nat) (x y : Nat × va_E), w1[i]? = some x → w2[j]? = some y → x.1 ≠ y.1 := by
  have h1 : ∀ (k : Nat) (q : Nat × va_E), w1[k]? = some q → (w1 ++ w2)[k]? = some q := fun k q hq => by rw [List.getElem?_append_left (List.getElem?_eq_some_iff.mp hq).1]; exact hq
  have h2 : ∀ (k : Nat) (q : Nat × va_E), w2[k]? = some q → (w1 ++ w2)[w1.length + k]? = some q := fun k q hq => by rw [List.getElem?_append_right (Nat.le_add_right _ _), Nat.add_sub_cancel_left]; exact hq
  refine ⟨⟨fun i j x y hx hy e => h.1 i j x y (h1 i x hx) (h1 j y hy) e, fun k q hq => h.2 k q (h1 k q hq)⟩, ⟨fun i j x y hx hy e => ?_, fun k q hq => h.2 _ q (h2 k q hq)⟩, fun i j x y hx hy e => ?_⟩
  · have := h.1 _ _ x y (h2 i x hx) (h2 j y hy) e; omega
  · have := h.1 _ _ x y (h1 i x hx) (h2 j y hy) e
    have hl := (List.getElem?_eq_some_iff.mp hx).1
    omega
theorem tw_N (hP2 : va_P D vwCl w2 H) (hx : ∀ (i j : Nat) (x y : Nat × va_E), w1[i]? = some x → w2[j]? = some y → x.1 ≠ y.1) : ∀ (k : Nat) (q : Nat × va_E), w2[k]? = some q → q.1 < H.size ∧ ¬ va_A w1 H.size q.1 := by
  intro k q hq
  have hl := (hP2 k q hq).lt
  refine ⟨hl, fun h => ?_⟩
  rcases h with ⟨k2, e2, h⟩ | h
  · exact hx k2 k (q.1, e2) q h hq rfl
  · omega
theorem on_iL {T : Type} {post : Int32 → T → Prop} {W1 : T → va_W} (hr : va_Run p l e R s m args below meth c H locs cells slots 0 0 (F0 m pc ls st0) rest (va_Qi post (fun u t => GAt D tys (va_A w1 H.size) (W1 u) t) (va_A w1 H.size) a) (va_A w1 H.size)) (hP : va_P D vwCl (w1 ++ w2) H) (hD : va_D A (w1 ++ w2)) (hS : va_S A H0 H locs) (hA : ∀ q, H0.size ≤ q → A q)
    (kk : ∀ (r : Int32) (u : T) (H1 : Heap) (locs1 : List Loc), post r u → va_P D vwCl (W1 u ++ w2) H1 → va_D A (W1 u ++ w2) → va_S A H0 H1 locs1 → W p l e R s m args below meth c H1 locs1 cells slots Q (F0 m (pc + 3) ls (.int r :: rest))) : W p l e R s m args below meth c H locs cells slots Q (F0 m pc ls st0) := by
  obtain ⟨d1, d2, d3⟩ := tw_D hD
  obtain ⟨p1, p2⟩ := tw_P hP
  have hN := tw_N p2 d3
  refine va_calli hr hS (fun q _ h => fr_A d1 hS hA q h) (fr_A d1 hS hA) (fun r u t H1 locs1 ht hvm hp hB hz hk hS1 => ?_)
  obtain ⟨hP1, hK1, hD1⟩ := hB
  rw [ht] at hP1
  refine kk r u H1 locs1 hp (va_P.app hP1 (fun k q hq => (p2 k q hq).kept (hk q.1 (hN k q hq).1 (hN k q hq).2))) (va_D.app (hD1.weaken (fun _ _ _ h => fr_A d1 hS hA _ h)) d2 (fun i j x y hx hy hxy => ?_)) hS1
  exact (hN j y hy).2 (by rw [← hxy]; exact hD1.2 i x hx)
theorem on_iR {T : Type} {post : Int32 → T → Prop} {W1 : T → va_W} (hr : va_Run p l e R s m args below meth c H locs cells slots 0 0 (F0 m pc ls st0) rest (va_Qi post (fun u t => GAt D tys (va_A w2 H.size) (W1 u) t) (va_A w2 H.size) a) (va_A w2 H.size)) (hP : va_P D vwCl (w1 ++ w2) H) (hD : va_D A (w1 ++ w2)) (hS : va_S A H0 H locs) (hA : ∀ q, H0.size ≤ q → A q)
    (kk : ∀ (r : Int32) (u : T) (H1 : Heap) (locs1 : List Loc), post r u → va_P D vwCl (w1 ++ W1 u) H1 → va_D A (w1 ++ W1 u) → va_S A H0 H1 locs1 → W p l e R s m args below meth c H1 locs1 cells slots Q (F0 m (pc + 3) ls (.int r :: rest))) : W p l e R s m args below meth c H locs cells slots Q (F0 m pc ls st0) := by
  obtain ⟨d1, d2, d3⟩ := tw_D hD
  obtain ⟨p1, p2⟩ := tw_P hP
  have hN := tw_N p1 (fun i j x y hx hy e => d3 j i y x hy hx e.symm)
  refine va_calli hr hS (fun q _ h => fr_A d2 hS hA q h) (fr_A d2 hS hA) (fun r u t H1 locs1 ht hvm hp hB hz hk hS1 => ?_)
  obtain ⟨hP1, hK1, hD1⟩ := hB
  rw [ht] at hP1
  refine kk r u H1 locs1 hp (va_P.app (fun k q hq => (p1 k q hq).kept (hk q.1 (hN k q hq).1 (hN k q hq).2)) hP1) (va_D.app d1 (hD1.weaken (fun _ _ _ h => fr_A d2 hS hA _ h)) (fun i j x y hx hy hxy => ?_)) hS1
  exact (hN i x hx).2 (by rw [hxy]; exact hD1.2 j y hy)
end TWO
section LH
variable {w r : Nat} {g tb : Nat → Int32} {V Hd : Nat → Nat → Int32} {tr : Int64} {mg st im ke se tx : Nat → Int32} {mt : Int64}
theorem RE.hw (h : RE w r g tb V Hd tr mg st im ke se tx mt) : 1 ≤ (mg 0).toInt ∧ (mg 0).toInt ≤ 5 := by
  have := h.1.1.w1
  have := h.1.1.w5
  rw [h.1.2.1, nI_toI (by omega)]; omega
theorem RE.hh (h : RE w r g tb V Hd tr mg st im ke se tx mt) : 1 ≤ (mg 1).toInt ∧ (mg 1).toInt ≤ 4 := by
  have := h.1.1.r1
  have := h.1.1.r4
  rw [h.1.2.2, nI_toI (by omega)]; omega
theorem RE.hsu (h : RE w r g tb V Hd tr mg st im ke se tx mt) : 0 ≤ (st (23 : Int32).toNatClampNeg).toInt ∧ (st (23 : Int32).toNatClampNeg).toInt ≤ 10 := by
  obtain ⟨n, h1, h2, h3, _⟩ := h.2.2.2.1
  rw [c23, h3, nI_toI (by omega)]; omega
theorem RE.hu (h : RE w r g tb V Hd tr mg st im ke se tx mt) : 0 ≤ (g (7 + 0)).toInt ∧ (g (7 + 0)).toInt ≤ 10 := by
  obtain ⟨n, h1, h2, h3, _⟩ := h.2.2.2.1
  have h2 : g (7 + 0) = nI n := h2
  rw [h2, nI_toI (by omega)]; omega
theorem RE.hsn (h : RE w r g tb V Hd tr mg st im ke se tx mt) : 0 ≤ (mg 2).toInt ∧ (mg 2).toInt ≤ 6 := by
  obtain ⟨n, h1, h2, h3, _⟩ := h.2.2.1
  rw [h3, nI_toI (by omega)]; omega
theorem RE.htx (h : RE w r g tb V Hd tr mg st im ke se tx mt) : 0 ≤ (mg 3).toInt ∧ (mg 3).toInt ≤ 150 := by
  obtain ⟨n, h1, h2, h3, _⟩ := h.2.1
  rw [h3, nI_toI (by omega)]; omega
theorem RE.hstr (h : RE w r g tb V Hd tr mg st im ke se tx mt) : ∃ T, T ≤ 150 ∧ mg 3 = nI T ∧ ∀ j, j < T → 0 ≤ tx j := by
  obtain ⟨T, h1, h2, h3, h4⟩ := h.2.1
  refine ⟨T, h1, h3, fun j hj => ?_⟩
  obtain ⟨_, q, hq, e⟩ := h4 j hj
  rw [e]
  exact nI_pos' (by omega)
theorem sx_in {i L j : Nat} (h : i + 6 ≤ L) (hL : L ≤ 384) (hj : j < 6) : vp_in (nI i + nI j) L := by
  rw [nI_add]; exact vp_in_nI (by omega) (by omega)
end LH
/-- what stays in the law: machine, tables, script -/
def LC (p : Program) (s : State) (m : MethodId) (c : Code) (b L : Nat) (xs : Nat → Int32) (D : va_G) (cI cZ cO : ClassId) (A : Nat → Prop) : Prop := CallFix p m c cL_law 4 s #[Value.ref b] AL RL ∧ va_K D vwCl (ty3 cI cZ cO) s ∧ NW s ∧ va_X b L xs s s.heap ∧ b < s.heap.size ∧ ¬ A b ∧ (∀ q, s.heap.size ≤ q → A q)
/-- behind a call: the loop's foot -/
def KK (p : Program) (l : Launch) (e : Env) (s : State) (m : MethodId) (below : List Frame) (meth : Method) (c : Code) (b : Nat) (D : va_G) (cI cZ cO : ClassId) (sk mk : Nat → Nat) (A : Nat → Prop) (Q : State → Prop) (ls : Array Slot) : Prop := ∀ (w r : Nat) (g tb : Nat → Int32) (V Hd : Nat → Nat → Int32) (tr : Int64) (mg st im ke se tx sh fa : Nat → Int32) (mt : Int64) (H : Heap) (locs : List Loc), RE w r g tb V Hd tr mg st im ke se tx mt → va_P D vwCl (WW cI cO sk g tb V Hd tr ++ MW cI cZ mk mg st im ke se tx sh fa mt) H → va_D A (WW cI cO sk g tb V Hd tr ++ MW cI cZ mk mg st im ke se tx sh fa mt) → va_S A s.heap H locs → W p l e room_1 s m #[Value.ref b] below meth c H locs 600000 7302250 Q (F0 m 810 ls [])
