section BT
variable {w r : Nat} {g tb : Nat → Int32} {V Hd : Nat → Nat → Int32} {tr : Int64} {mg st im ke se tx : Nat → Int32} {mt : Int64}
theorem nm_b {α β : Type} (v : α) (k : α → β) : nm v k = k v := nm_c v k rfl
theorem now_ok (h : RE w r g tb V Hd tr mg st im ke se tx mt) (x1 : Int32) : sp_X6_now V Hd x1 = sp_X7_now mg st x1 := by
  obtain ⟨t, S⟩ := h.now
  have hN : 20 < ((20 : Int32).toInt - (0 : Int32).toInt).toNat + 1 := by decide
  have e4 : sp_X4_stillBy V (11 * 0 + 10) (V (11 * 0 + 10) 3) = sp_X7_stillOnes mg st (st 20) (st 21) := by
    have e5 : sp_X4_stillBy V (11 * 0 + 10) (V (11 * 0 + 10) 3) = sp_X4_stillWith V (11 * 0 + 10) (V (11 * 0 + 10) 2) (V (11 * 0 + 10) 3) := by unfold sp_X4_stillBy; exact nm_id _
    rw [e5, S.v2, S.v3]
    exact sw_sm h S (cok_st S) _
  unfold sp_X6_now sp_X7_now
  generalize ((20 : Int32).toInt - (0 : Int32).toInt).toNat + 1 = N at hN ⊢
  have e3 := any_eq h S hN
  rw [nI_0] at e3
  rw [← e3]
  rw [nm_id, nm_id, nm_id, nm_id, nm_id, nm_b, e4, border_eq h S, c20, c21, c22, S.v2, S.v3, S.v4]
end BT
