section SB
variable {w r : Nat} {g tb : Nat → Int32} {V Hd : Nat → Nat → Int32} {tr : Int64} {mg st im ke se tx sh fa : Nat → Int32} {mt : Int64}
theorem water_ok (h : RE w r g tb V Hd tr mg st im ke se tx mt) (x1 x2 x3 : Int32) : sp_X6_water V Hd x1 x2 x3 = (sp_X7_water mg st fa x1 x2 x3).1 := sorry
theorem strand_ok (h : RE w r g tb V Hd tr mg st im ke se tx mt) : (sp_X6_strand g tb V Hd).1 = (sp_X7_strand mg st ke tx sh).1 ∧ ∃ w' r', RE w' r' (sp_X6_strand g tb V Hd).2.1 tb (sp_X6_strand g tb V Hd).2.2.1 (sp_X6_strand g tb V Hd).2.2.2 tr (sp_X7_strand mg st ke tx sh).2.1 (sp_X7_strand mg st ke tx sh).2.2.1 im (sp_X7_strand mg st ke tx sh).2.2.2.1 se tx mt := sorry
end SB
