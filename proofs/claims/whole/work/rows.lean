section
-- ===== PART A: goes FIRST, ahead of the names: the tables' words, and 'selects' of the private methods out of them =====
/-- a private method of a class that the tables say can be made, by its rows of tables_1 -/
def lw_okq (q : MethodName × Nat) : Prop := (q.1.cls ≠ "java/lang/invoke/MethodHandle" ∧ q.1.cls ≠ "java/lang/invoke/VarHandle") ∧ Cond.instantiable q.1.cls q.2 ∈ tables_1 ∧ Cond.privateMethod q.1 ∈ tables_1 ∧ Cond.instanceMethod q.1 ∈ tables_1
set_option maxRecDepth 100000 in
theorem lw_p0 : lw_okq (⟨"WindFrontiers$Reader", "readToken", "()V"⟩, 8) := ⟨⟨by decide +kernel, by decide +kernel⟩, List.mem_of_getElem? (i := 19) rfl, List.mem_of_getElem? (i := 216) rfl, List.mem_of_getElem? (i := 217) rfl⟩
set_option maxRecDepth 100000 in
theorem lw_p1 : lw_okq (⟨"WindFrontiers$Reader", "isItem", "()Z"⟩, 8) := ⟨⟨by decide +kernel, by decide +kernel⟩, List.mem_of_getElem? (i := 19) rfl, List.mem_of_getElem? (i := 227) rfl, List.mem_of_getElem? (i := 228) rfl⟩
set_option maxRecDepth 100000 in
theorem lw_p2 : lw_okq (⟨"WindFrontiers$Reader", "isSize", "()Z"⟩, 8) := ⟨⟨by decide +kernel, by decide +kernel⟩, List.mem_of_getElem? (i := 19) rfl, List.mem_of_getElem? (i := 231) rfl, List.mem_of_getElem? (i := 232) rfl⟩
set_option maxRecDepth 100000 in
theorem lw_p3 : lw_okq (⟨"WindFrontiers$Reader", "isNumber", "(II)Z"⟩, 8) := ⟨⟨by decide +kernel, by decide +kernel⟩, List.mem_of_getElem? (i := 19) rfl, List.mem_of_getElem? (i := 235) rfl, List.mem_of_getElem? (i := 236) rfl⟩
set_option maxRecDepth 100000 in
theorem lw_p4 : lw_okq (⟨"WindFrontiers$Reader", "isStop", "()Z"⟩, 8) := ⟨⟨by decide +kernel, by decide +kernel⟩, List.mem_of_getElem? (i := 19) rfl, List.mem_of_getElem? (i := 239) rfl, List.mem_of_getElem? (i := 240) rfl⟩
set_option maxRecDepth 100000 in
theorem lw_p5 : lw_okq (⟨"WindFrontiers$Reader", "isHolder", "()Z"⟩, 8) := ⟨⟨by decide +kernel, by decide +kernel⟩, List.mem_of_getElem? (i := 19) rfl, List.mem_of_getElem? (i := 243) rfl, List.mem_of_getElem? (i := 244) rfl⟩
set_option maxRecDepth 100000 in
theorem lw_p6 : lw_okq (⟨"WindFrontiers$Reader", "readFreeBit", "(I)I"⟩, 8) := ⟨⟨by decide +kernel, by decide +kernel⟩, List.mem_of_getElem? (i := 19) rfl, List.mem_of_getElem? (i := 251) rfl, List.mem_of_getElem? (i := 252) rfl⟩
set_option maxRecDepth 100000 in
theorem lw_p7 : lw_okq (⟨"WindFrontiers$Reader", "isCloth", "()Z"⟩, 8) := ⟨⟨by decide +kernel, by decide +kernel⟩, List.mem_of_getElem? (i := 19) rfl, List.mem_of_getElem? (i := 262) rfl, List.mem_of_getElem? (i := 263) rfl⟩
set_option maxRecDepth 100000 in
theorem lw_p8 : lw_okq (⟨"WindFrontiers$Reader", "isWind", "()Z"⟩, 8) := ⟨⟨by decide +kernel, by decide +kernel⟩, List.mem_of_getElem? (i := 19) rfl, List.mem_of_getElem? (i := 266) rfl, List.mem_of_getElem? (i := 267) rfl⟩
set_option maxRecDepth 100000 in
theorem lw_p9 : lw_okq (⟨"WindFrontiers$Strand", "cellsFrom", "(I)I"⟩, 6) := ⟨⟨by decide +kernel, by decide +kernel⟩, List.mem_of_getElem? (i := 40) rfl, List.mem_of_getElem? (i := 303) rfl, List.mem_of_getElem? (i := 304) rfl⟩
set_option maxRecDepth 100000 in
theorem lw_p10 : lw_okq (⟨"WindFrontiers$Strand", "rowOf", "(I)I"⟩, 6) := ⟨⟨by decide +kernel, by decide +kernel⟩, List.mem_of_getElem? (i := 40) rfl, List.mem_of_getElem? (i := 307) rfl, List.mem_of_getElem? (i := 308) rfl⟩
set_option maxRecDepth 100000 in
theorem lw_p11 : lw_okq (⟨"WindFrontiers$Story", "dropOldest", "()V"⟩, 4) := ⟨⟨by decide +kernel, by decide +kernel⟩, List.mem_of_getElem? (i := 102) rfl, List.mem_of_getElem? (i := 362) rfl, List.mem_of_getElem? (i := 363) rfl⟩
set_option maxRecDepth 100000 in
theorem lw_p12 : lw_okq (⟨"WindFrontiers$Story", "beforeAt", "(I)LWindFrontiers$Strand;"⟩, 4) := ⟨⟨by decide +kernel, by decide +kernel⟩, List.mem_of_getElem? (i := 102) rfl, List.mem_of_getElem? (i := 366) rfl, List.mem_of_getElem? (i := 367) rfl⟩
set_option maxRecDepth 100000 in
theorem lw_p13 : lw_okq (⟨"WindFrontiers", "mayHaveMoved", "(II)Z"⟩, 8) := ⟨⟨by decide +kernel, by decide +kernel⟩, List.mem_of_getElem? (i := 11) rfl, List.mem_of_getElem? (i := 469) rfl, List.mem_of_getElem? (i := 470) rfl⟩
set_option maxRecDepth 100000 in
theorem lw_p14 : lw_okq (⟨"WindFrontiers$Marks", "asCell", "(I)I"⟩, 1) := ⟨⟨by decide +kernel, by decide +kernel⟩, List.mem_of_getElem? (i := 149) rfl, List.mem_of_getElem? (i := 487) rfl, List.mem_of_getElem? (i := 488) rfl⟩
set_option maxRecDepth 100000 in
theorem lw_p15 : lw_okq (⟨"WindFrontiers$Marks", "asCastle", "(LWindFrontiers$Strand;II)I"⟩, 1) := ⟨⟨by decide +kernel, by decide +kernel⟩, List.mem_of_getElem? (i := 149) rfl, List.mem_of_getElem? (i := 491) rfl, List.mem_of_getElem? (i := 492) rfl⟩
def lw_privs_1 : List (MethodName × Nat) := [(⟨"WindFrontiers$Reader", "readToken", "()V"⟩, 8), (⟨"WindFrontiers$Reader", "isItem", "()Z"⟩, 8), (⟨"WindFrontiers$Reader", "isSize", "()Z"⟩, 8), (⟨"WindFrontiers$Reader", "isNumber", "(II)Z"⟩, 8), (⟨"WindFrontiers$Reader", "isStop", "()Z"⟩, 8), (⟨"WindFrontiers$Reader", "isHolder", "()Z"⟩, 8), (⟨"WindFrontiers$Reader", "readFreeBit", "(I)I"⟩, 8), (⟨"WindFrontiers$Reader", "isCloth", "()Z"⟩, 8), (⟨"WindFrontiers$Reader", "isWind", "()Z"⟩, 8), (⟨"WindFrontiers$Strand", "cellsFrom", "(I)I"⟩, 6), (⟨"WindFrontiers$Strand", "rowOf", "(I)I"⟩, 6), (⟨"WindFrontiers$Story", "dropOldest", "()V"⟩, 4), (⟨"WindFrontiers$Story", "beforeAt", "(I)LWindFrontiers$Strand;"⟩, 4), (⟨"WindFrontiers", "mayHaveMoved", "(II)Z"⟩, 8), (⟨"WindFrontiers$Marks", "asCell", "(I)I"⟩, 1), (⟨"WindFrontiers$Marks", "asCastle", "(LWindFrontiers$Strand;II)I"⟩, 1)]
theorem lw_r1 : ∀ q ∈ lw_privs_1, lw_okq q := List.forall_mem_cons.mpr ⟨lw_p0, List.forall_mem_cons.mpr ⟨lw_p1, List.forall_mem_cons.mpr ⟨lw_p2, List.forall_mem_cons.mpr ⟨lw_p3, List.forall_mem_cons.mpr ⟨lw_p4, List.forall_mem_cons.mpr ⟨lw_p5, List.forall_mem_cons.mpr ⟨lw_p6, List.forall_mem_cons.mpr ⟨lw_p7, List.forall_mem_cons.mpr ⟨lw_p8, List.forall_mem_cons.mpr ⟨lw_p9, List.forall_mem_cons.mpr ⟨lw_p10, List.forall_mem_cons.mpr ⟨lw_p11, List.forall_mem_cons.mpr ⟨lw_p12, List.forall_mem_cons.mpr ⟨lw_p13, List.forall_mem_cons.mpr ⟨lw_p14, List.forall_mem_cons.mpr ⟨lw_p15, fun _ h => absurd h List.not_mem_nil⟩⟩⟩⟩⟩⟩⟩⟩⟩⟩⟩⟩⟩⟩⟩⟩
set_option maxRecDepth 100000 in
theorem lw_p16 : lw_okq (⟨"WindFrontiers$Marks", "asCorridor", "(II)I"⟩, 1) := ⟨⟨by decide +kernel, by decide +kernel⟩, List.mem_of_getElem? (i := 149) rfl, List.mem_of_getElem? (i := 505) rfl, List.mem_of_getElem? (i := 506) rfl⟩
set_option maxRecDepth 100000 in
theorem lw_p17 : lw_okq (⟨"WindFrontiers$Marks", "asEmpire", "(LWindFrontiers$Strand;II)I"⟩, 1) := ⟨⟨by decide +kernel, by decide +kernel⟩, List.mem_of_getElem? (i := 149) rfl, List.mem_of_getElem? (i := 510) rfl, List.mem_of_getElem? (i := 511) rfl⟩
set_option maxRecDepth 100000 in
theorem lw_p18 : lw_okq (⟨"WindFrontiers$Marks", "asPoland", "(LWindFrontiers$Strand;II)I"⟩, 1) := ⟨⟨by decide +kernel, by decide +kernel⟩, List.mem_of_getElem? (i := 149) rfl, List.mem_of_getElem? (i := 515) rfl, List.mem_of_getElem? (i := 516) rfl⟩
set_option maxRecDepth 100000 in
theorem lw_p19 : lw_okq (⟨"WindFrontiers$Marks", "asSalient", "(LWindFrontiers$Strand;I)I"⟩, 1) := ⟨⟨by decide +kernel, by decide +kernel⟩, List.mem_of_getElem? (i := 149) rfl, List.mem_of_getElem? (i := 523) rfl, List.mem_of_getElem? (i := 524) rfl⟩
set_option maxRecDepth 100000 in
theorem lw_p20 : lw_okq (⟨"WindFrontiers", "imageOf", "(I)LWindFrontiers$Story;"⟩, 8) := ⟨⟨by decide +kernel, by decide +kernel⟩, List.mem_of_getElem? (i := 11) rfl, List.mem_of_getElem? (i := 534) rfl, List.mem_of_getElem? (i := 535) rfl⟩
set_option maxRecDepth 100000 in
theorem lw_p21 : lw_okq (⟨"WindFrontiersModel", "next", "()V"⟩, 22) := ⟨⟨by decide +kernel, by decide +kernel⟩, List.mem_of_getElem? (i := 554) rfl, List.mem_of_getElem? (i := 643) rfl, List.mem_of_getElem? (i := 644) rfl⟩
set_option maxRecDepth 100000 in
theorem lw_p22 : lw_okq (⟨"WindFrontiersModel", "letterAt", "(I)I"⟩, 22) := ⟨⟨by decide +kernel, by decide +kernel⟩, List.mem_of_getElem? (i := 554) rfl, List.mem_of_getElem? (i := 647) rfl, List.mem_of_getElem? (i := 648) rfl⟩
set_option maxRecDepth 100000 in
theorem lw_p23 : lw_okq (⟨"WindFrontiersModel", "readItem", "()V"⟩, 22) := ⟨⟨by decide +kernel, by decide +kernel⟩, List.mem_of_getElem? (i := 554) rfl, List.mem_of_getElem? (i := 657) rfl, List.mem_of_getElem? (i := 658) rfl⟩
set_option maxRecDepth 100000 in
theorem lw_p24 : lw_okq (⟨"WindFrontiersModel", "takesNumber", "(II)I"⟩, 22) := ⟨⟨by decide +kernel, by decide +kernel⟩, List.mem_of_getElem? (i := 554) rfl, List.mem_of_getElem? (i := 661) rfl, List.mem_of_getElem? (i := 662) rfl⟩
set_option maxRecDepth 100000 in
theorem lw_p25 : lw_okq (⟨"WindFrontiersModel", "takesCell", "(Z)I"⟩, 22) := ⟨⟨by decide +kernel, by decide +kernel⟩, List.mem_of_getElem? (i := 554) rfl, List.mem_of_getElem? (i := 665) rfl, List.mem_of_getElem? (i := 666) rfl⟩
set_option maxRecDepth 100000 in
theorem lw_p26 : lw_okq (⟨"WindFrontiersModel", "settles", "()V"⟩, 22) := ⟨⟨by decide +kernel, by decide +kernel⟩, List.mem_of_getElem? (i := 554) rfl, List.mem_of_getElem? (i := 672) rfl, List.mem_of_getElem? (i := 673) rfl⟩
set_option maxRecDepth 100000 in
theorem lw_p27 : lw_okq (⟨"WindFrontiersModel", "isCell", "(II)Z"⟩, 22) := ⟨⟨by decide +kernel, by decide +kernel⟩, List.mem_of_getElem? (i := 554) rfl, List.mem_of_getElem? (i := 680) rfl, List.mem_of_getElem? (i := 681) rfl⟩
set_option maxRecDepth 100000 in
theorem lw_p28 : lw_okq (⟨"WindFrontiersModel", "isDry", "(I)Z"⟩, 22) := ⟨⟨by decide +kernel, by decide +kernel⟩, List.mem_of_getElem? (i := 554) rfl, List.mem_of_getElem? (i := 684) rfl, List.mem_of_getElem? (i := 685) rfl⟩
set_option maxRecDepth 100000 in
theorem lw_p29 : lw_okq (⟨"WindFrontiersModel", "isStill", "(IIII)Z"⟩, 22) := ⟨⟨by decide +kernel, by decide +kernel⟩, List.mem_of_getElem? (i := 554) rfl, List.mem_of_getElem? (i := 688) rfl, List.mem_of_getElem? (i := 689) rfl⟩
set_option maxRecDepth 100000 in
theorem lw_p30 : lw_okq (⟨"WindFrontiersModel", "isCloth", "(III)Z"⟩, 22) := ⟨⟨by decide +kernel, by decide +kernel⟩, List.mem_of_getElem? (i := 554) rfl, List.mem_of_getElem? (i := 692) rfl, List.mem_of_getElem? (i := 693) rfl⟩
set_option maxRecDepth 100000 in
theorem lw_p31 : lw_okq (⟨"WindFrontiersModel", "heldBy", "(I)I"⟩, 22) := ⟨⟨by decide +kernel, by decide +kernel⟩, List.mem_of_getElem? (i := 554) rfl, List.mem_of_getElem? (i := 703) rfl, List.mem_of_getElem? (i := 704) rfl⟩
def lw_privs_2 : List (MethodName × Nat) := [(⟨"WindFrontiers$Marks", "asCorridor", "(II)I"⟩, 1), (⟨"WindFrontiers$Marks", "asEmpire", "(LWindFrontiers$Strand;II)I"⟩, 1), (⟨"WindFrontiers$Marks", "asPoland", "(LWindFrontiers$Strand;II)I"⟩, 1), (⟨"WindFrontiers$Marks", "asSalient", "(LWindFrontiers$Strand;I)I"⟩, 1), (⟨"WindFrontiers", "imageOf", "(I)LWindFrontiers$Story;"⟩, 8), (⟨"WindFrontiersModel", "next", "()V"⟩, 22), (⟨"WindFrontiersModel", "letterAt", "(I)I"⟩, 22), (⟨"WindFrontiersModel", "readItem", "()V"⟩, 22), (⟨"WindFrontiersModel", "takesNumber", "(II)I"⟩, 22), (⟨"WindFrontiersModel", "takesCell", "(Z)I"⟩, 22), (⟨"WindFrontiersModel", "settles", "()V"⟩, 22), (⟨"WindFrontiersModel", "isCell", "(II)Z"⟩, 22), (⟨"WindFrontiersModel", "isDry", "(I)Z"⟩, 22), (⟨"WindFrontiersModel", "isStill", "(IIII)Z"⟩, 22), (⟨"WindFrontiersModel", "isCloth", "(III)Z"⟩, 22), (⟨"WindFrontiersModel", "heldBy", "(I)I"⟩, 22)]
theorem lw_r2 : ∀ q ∈ lw_privs_2, lw_okq q := List.forall_mem_cons.mpr ⟨lw_p16, List.forall_mem_cons.mpr ⟨lw_p17, List.forall_mem_cons.mpr ⟨lw_p18, List.forall_mem_cons.mpr ⟨lw_p19, List.forall_mem_cons.mpr ⟨lw_p20, List.forall_mem_cons.mpr ⟨lw_p21, List.forall_mem_cons.mpr ⟨lw_p22, List.forall_mem_cons.mpr ⟨lw_p23, List.forall_mem_cons.mpr ⟨lw_p24, List.forall_mem_cons.mpr ⟨lw_p25, List.forall_mem_cons.mpr ⟨lw_p26, List.forall_mem_cons.mpr ⟨lw_p27, List.forall_mem_cons.mpr ⟨lw_p28, List.forall_mem_cons.mpr ⟨lw_p29, List.forall_mem_cons.mpr ⟨lw_p30, List.forall_mem_cons.mpr ⟨lw_p31, fun _ h => absurd h List.not_mem_nil⟩⟩⟩⟩⟩⟩⟩⟩⟩⟩⟩⟩⟩⟩⟩⟩
set_option maxRecDepth 100000 in
theorem lw_p32 : lw_okq (⟨"WindFrontiersModel", "stillOnes", "(II)I"⟩, 22) := ⟨⟨by decide +kernel, by decide +kernel⟩, List.mem_of_getElem? (i := 554) rfl, List.mem_of_getElem? (i := 707) rfl, List.mem_of_getElem? (i := 708) rfl⟩
set_option maxRecDepth 100000 in
theorem lw_p33 : lw_okq (⟨"WindFrontiersModel", "losesOf", "(I)I"⟩, 22) := ⟨⟨by decide +kernel, by decide +kernel⟩, List.mem_of_getElem? (i := 554) rfl, List.mem_of_getElem? (i := 714) rfl, List.mem_of_getElem? (i := 715) rfl⟩
set_option maxRecDepth 100000 in
theorem lw_p34 : lw_okq (⟨"WindFrontiersModel", "remembers", "()V"⟩, 22) := ⟨⟨by decide +kernel, by decide +kernel⟩, List.mem_of_getElem? (i := 554) rfl, List.mem_of_getElem? (i := 722) rfl, List.mem_of_getElem? (i := 723) rfl⟩
set_option maxRecDepth 100000 in
theorem lw_p35 : lw_okq (⟨"WindFrontiersModel", "border", "()I"⟩, 22) := ⟨⟨by decide +kernel, by decide +kernel⟩, List.mem_of_getElem? (i := 554) rfl, List.mem_of_getElem? (i := 750) rfl, List.mem_of_getElem? (i := 751) rfl⟩
set_option maxRecDepth 100000 in
theorem lw_p36 : lw_okq (⟨"WindFrontiersModel", "isBorder", "(IIII)Z"⟩, 22) := ⟨⟨by decide +kernel, by decide +kernel⟩, List.mem_of_getElem? (i := 554) rfl, List.mem_of_getElem? (i := 754) rfl, List.mem_of_getElem? (i := 755) rfl⟩
set_option maxRecDepth 100000 in
theorem lw_p37 : lw_okq (⟨"WindFrontiersModel", "findFar", "(I)V"⟩, 22) := ⟨⟨by decide +kernel, by decide +kernel⟩, List.mem_of_getElem? (i := 554) rfl, List.mem_of_getElem? (i := 762) rfl, List.mem_of_getElem? (i := 763) rfl⟩
set_option maxRecDepth 100000 in
theorem lw_p38 : lw_okq (⟨"WindFrontiersModel", "costOf", "(II)I"⟩, 22) := ⟨⟨by decide +kernel, by decide +kernel⟩, List.mem_of_getElem? (i := 554) rfl, List.mem_of_getElem? (i := 766) rfl, List.mem_of_getElem? (i := 767) rfl⟩
set_option maxRecDepth 100000 in
theorem lw_p39 : lw_okq (⟨"WindFrontiersModel", "leastBeside", "(II)I"⟩, 22) := ⟨⟨by decide +kernel, by decide +kernel⟩, List.mem_of_getElem? (i := 554) rfl, List.mem_of_getElem? (i := 770) rfl, List.mem_of_getElem? (i := 771) rfl⟩
set_option maxRecDepth 100000 in
theorem lw_p40 : lw_okq (⟨"WindFrontiersModel", "isSo", "(I)Z"⟩, 22) := ⟨⟨by decide +kernel, by decide +kernel⟩, List.mem_of_getElem? (i := 554) rfl, List.mem_of_getElem? (i := 794) rfl, List.mem_of_getElem? (i := 795) rfl⟩
def lw_privs_3 : List (MethodName × Nat) := [(⟨"WindFrontiersModel", "stillOnes", "(II)I"⟩, 22), (⟨"WindFrontiersModel", "losesOf", "(I)I"⟩, 22), (⟨"WindFrontiersModel", "remembers", "()V"⟩, 22), (⟨"WindFrontiersModel", "border", "()I"⟩, 22), (⟨"WindFrontiersModel", "isBorder", "(IIII)Z"⟩, 22), (⟨"WindFrontiersModel", "findFar", "(I)V"⟩, 22), (⟨"WindFrontiersModel", "costOf", "(II)I"⟩, 22), (⟨"WindFrontiersModel", "leastBeside", "(II)I"⟩, 22), (⟨"WindFrontiersModel", "isSo", "(I)Z"⟩, 22)]
theorem lw_r3 : ∀ q ∈ lw_privs_3, lw_okq q := List.forall_mem_cons.mpr ⟨lw_p32, List.forall_mem_cons.mpr ⟨lw_p33, List.forall_mem_cons.mpr ⟨lw_p34, List.forall_mem_cons.mpr ⟨lw_p35, List.forall_mem_cons.mpr ⟨lw_p36, List.forall_mem_cons.mpr ⟨lw_p37, List.forall_mem_cons.mpr ⟨lw_p38, List.forall_mem_cons.mpr ⟨lw_p39, List.forall_mem_cons.mpr ⟨lw_p40, fun _ h => absurd h List.not_mem_nil⟩⟩⟩⟩⟩⟩⟩⟩⟩
def lw_privs : List (MethodName × Nat) := lw_privs_1 ++ (lw_privs_2 ++ (lw_privs_3))
def lw_tbl : List Cond := k2_sels lw_privs ++ tables_1
set_option maxRecDepth 100000 in
theorem lw_privs_ok : ∀ q ∈ lw_privs, lw_okq q := by
  show ∀ q ∈ lw_privs_1 ++ (lw_privs_2 ++ (lw_privs_3)), lw_okq q
  exact List.forall_mem_append.mpr ⟨lw_r1, List.forall_mem_append.mpr ⟨lw_r2, lw_r3⟩⟩
-- ===== end of PART A; then your names; then what follows =====
theorem goodIn_app {big a b : List Cond} (ha : GoodIn big a) (hb : GoodIn big b) : GoodIn big (a ++ b) := fun w h => (List.mem_append.mp h).elim (ha w) (hb w)
def RX0 : String := "WindFrontiers$Marks"
def TX0 : u_T := fun k => match k with
  | _ => ("WindFrontiers$Marks", "sum", "J", false)
def tyX0 : Nat → FieldType := fun k => match k with
  | _ => .long
abbrev wsX00 : List Cond := u_ws RX0 TX0 1
theorem nmX0 : ∀ a, a < 1 → ∀ b, b < 1 → a ≠ b → (TX0 a).2.1 ≠ (TX0 b).2.1 := by decide +kernel
theorem tyX0_ok : ∀ k, k < 1 → parseFieldDescriptor (TX0 k).2.2.1 = some (tyX0 k) := by decide +kernel
abbrev cX0_init : ByteArray := prog_2_method_1_code
def yX0_init : MethodName := ⟨RX0, "<init>", "()V"⟩
abbrev cX0_markAs : ByteArray := prog_2_method_2_code
def yX0_markAs : MethodName := ⟨RX0, "markAs", "(ILWindFrontiers$Strand;II)I"⟩
abbrev cX0_asCell : ByteArray := prog_2_method_3_code
def yX0_asCell : MethodName := ⟨RX0, "asCell", "(I)I"⟩
abbrev cX0_asCastle : ByteArray := prog_2_method_4_code
def yX0_asCastle : MethodName := ⟨RX0, "asCastle", "(LWindFrontiers$Strand;II)I"⟩
abbrev cX0_asCorridor : ByteArray := prog_2_method_5_code
def yX0_asCorridor : MethodName := ⟨RX0, "asCorridor", "(II)I"⟩
abbrev cX0_asEmpire : ByteArray := prog_2_method_6_code
def yX0_asEmpire : MethodName := ⟨RX0, "asEmpire", "(LWindFrontiers$Strand;II)I"⟩
abbrev cX0_asPoland : ByteArray := prog_2_method_7_code
def yX0_asPoland : MethodName := ⟨RX0, "asPoland", "(LWindFrontiers$Strand;II)I"⟩
abbrev cX0_asSalient : ByteArray := prog_2_method_8_code
def yX0_asSalient : MethodName := ⟨RX0, "asSalient", "(LWindFrontiers$Strand;I)I"⟩
def RX1 : String := "WindFrontiers$Reader"
def TX1 : u_T := fun k => match k with
  | 0 => ("WindFrontiers$Reader", "text", "LWindFrontiers$Text;", true)
  | 1 => ("WindFrontiers$Reader", "draft", "LWindFrontiers$Strand;", true)
  | 2 => ("WindFrontiers$Reader", "place", "I", false)
  | 3 => ("WindFrontiers$Reader", "start", "I", false)
  | 4 => ("WindFrontiers$Reader", "token", "I", false)
  | 5 => ("WindFrontiers$Reader", "value", "I", false)
  | 6 => ("WindFrontiers$Reader", "items", "I", false)
  | _ => ("WindFrontiers$Reader", "windTold", "Z", false)
def tyX1 : Nat → FieldType := fun k => match k with
  | 0 => .object "WindFrontiers$Text"
  | 1 => .object "WindFrontiers$Strand"
  | 2 => .int
  | 3 => .int
  | 4 => .int
  | 5 => .int
  | 6 => .int
  | _ => .boolean
abbrev wsX10 : List Cond := u_ws RX1 TX1 8
theorem nmX1 : ∀ a, a < 8 → ∀ b, b < 8 → a ≠ b → (TX1 a).2.1 ≠ (TX1 b).2.1 := by decide +kernel
theorem tyX1_ok : ∀ k, k < 8 → parseFieldDescriptor (TX1 k).2.2.1 = some (tyX1 k) := by decide +kernel
abbrev cX1_init : ByteArray := prog_3_method_1_code
def yX1_init : MethodName := ⟨RX1, "<init>", "()V"⟩
abbrev cX1_readAll : ByteArray := prog_3_method_2_code
def yX1_readAll : MethodName := ⟨RX1, "readAll", "()I"⟩
abbrev cX1_isItem : ByteArray := prog_3_method_3_code
def yX1_isItem : MethodName := ⟨RX1, "isItem", "()Z"⟩
abbrev cX1_isSize : ByteArray := prog_3_method_4_code
def yX1_isSize : MethodName := ⟨RX1, "isSize", "()Z"⟩
abbrev cX1_isHolder : ByteArray := prog_3_method_5_code
def yX1_isHolder : MethodName := ⟨RX1, "isHolder", "()Z"⟩
abbrev cX1_isCloth : ByteArray := prog_3_method_6_code
def yX1_isCloth : MethodName := ⟨RX1, "isCloth", "()Z"⟩
abbrev cX1_isWind : ByteArray := prog_3_method_7_code
def yX1_isWind : MethodName := ⟨RX1, "isWind", "()Z"⟩
abbrev cX1_isStop : ByteArray := prog_3_method_8_code
def yX1_isStop : MethodName := ⟨RX1, "isStop", "()Z"⟩
abbrev cX1_readFreeBit : ByteArray := prog_3_method_9_code
def yX1_readFreeBit : MethodName := ⟨RX1, "readFreeBit", "(I)I"⟩
abbrev cX1_isNumber : ByteArray := prog_3_method_10_code
def yX1_isNumber : MethodName := ⟨RX1, "isNumber", "(II)Z"⟩
abbrev cX1_readToken : ByteArray := prog_3_method_11_code
def yX1_readToken : MethodName := ⟨RX1, "readToken", "()V"⟩
abbrev cX1_tokenOf : ByteArray := prog_3_method_12_code
def yX1_tokenOf : MethodName := ⟨RX1, "tokenOf", "(I)I"⟩
def RX2 : String := "WindFrontiers$Seen"
def TX2 : u_T := fun k => match k with
  | 0 => ("WindFrontiers$Seen", "much", "I", false)
  | 1 => ("WindFrontiers$Seen", "stillByLeft", "I", false)
  | 2 => ("WindFrontiers$Seen", "stillByRight", "I", false)
  | 3 => ("WindFrontiers$Seen", "openByLeft", "I", false)
  | _ => ("WindFrontiers$Seen", "openByRight", "I", false)
def tyX2 : Nat → FieldType := fun k => match k with
  | 0 => .int
  | 1 => .int
  | 2 => .int
  | 3 => .int
  | _ => .int
abbrev wsX20 : List Cond := u_ws RX2 TX2 5
theorem nmX2 : ∀ a, a < 5 → ∀ b, b < 5 → a ≠ b → (TX2 a).2.1 ≠ (TX2 b).2.1 := by decide +kernel
theorem tyX2_ok : ∀ k, k < 5 → parseFieldDescriptor (TX2 k).2.2.1 = some (tyX2 k) := by decide +kernel
abbrev cX2_init : ByteArray := prog_4_method_1_code
def yX2_init : MethodName := ⟨RX2, "<init>", "()V"⟩
abbrev cX2_dropAll : ByteArray := prog_4_method_2_code
def yX2_dropAll : MethodName := ⟨RX2, "dropAll", "()V"⟩
abbrev cX2_add : ByteArray := prog_4_method_3_code
def yX2_add : MethodName := ⟨RX2, "add", "(III)Z"⟩
abbrev cX2_agrees : ByteArray := prog_4_method_4_code
def yX2_agrees : MethodName := ⟨RX2, "agrees", "(II)Z"⟩
def RX3 : String := "WindFrontiers$Story"
def TX3 : u_T := fun k => match k with
  | 0 => ("WindFrontiers$Story", "present", "LWindFrontiers$Strand;", true)
  | 1 => ("WindFrontiers$Story", "before", "[LWindFrontiers$Strand;", true)
  | 2 => ("WindFrontiers$Story", "undoable", "I", false)
  | _ => ("WindFrontiers$Story", "kept", "Z", false)
def tyX3 : Nat → FieldType := fun k => match k with
  | 0 => .object "WindFrontiers$Strand"
  | 1 => .array (.object "WindFrontiers$Strand")
  | 2 => .int
  | _ => .boolean
abbrev wsX30 : List Cond := u_ws RX3 TX3 4
theorem nmX3 : ∀ a, a < 4 → ∀ b, b < 4 → a ≠ b → (TX3 a).2.1 ≠ (TX3 b).2.1 := by decide +kernel
theorem tyX3_ok : ∀ k, k < 4 → parseFieldDescriptor (TX3 k).2.2.1 = some (tyX3 k) := by decide +kernel
abbrev cX3_init : ByteArray := prog_5_method_1_code
def yX3_init : MethodName := ⟨RX3, "<init>", "()V"⟩
abbrev cX3_remember : ByteArray := prog_5_method_2_code
def yX3_remember : MethodName := ⟨RX3, "remember", "()V"⟩
abbrev cX3_dropOldest : ByteArray := prog_5_method_3_code
def yX3_dropOldest : MethodName := ⟨RX3, "dropOldest", "()V"⟩
abbrev cX3_goBack : ByteArray := prog_5_method_4_code
def yX3_goBack : MethodName := ⟨RX3, "goBack", "()Z"⟩
abbrev cX3_becomes : ByteArray := prog_5_method_5_code
def yX3_becomes : MethodName := ⟨RX3, "becomes", "(LWindFrontiers$Story;)V"⟩
abbrev cX3_beforeAt : ByteArray := prog_5_method_6_code
def yX3_beforeAt : MethodName := ⟨RX3, "beforeAt", "(I)LWindFrontiers$Strand;"⟩
abbrev cX3_copy : ByteArray := prog_5_method_7_code
def yX3_copy : MethodName := ⟨RX3, "copy", "(LWindFrontiers$Strand;LWindFrontiers$Strand;)V"⟩
def RX4 : String := "WindFrontiers$Strand"
def TX4 : u_T := fun k => match k with
  | 0 => ("WindFrontiers$Strand", "wide", "I", false)
  | 1 => ("WindFrontiers$Strand", "rows", "I", false)
  | 2 => ("WindFrontiers$Strand", "cloth", "I", false)
  | 3 => ("WindFrontiers$Strand", "wind", "I", false)
  | 4 => ("WindFrontiers$Strand", "tide", "I", false)
  | _ => ("WindFrontiers$Strand", "held", "[I", true)
def tyX4 : Nat → FieldType := fun k => match k with
  | 0 => .int
  | 1 => .int
  | 2 => .int
  | 3 => .int
  | 4 => .int
  | _ => .array .int
abbrev wsX40 : List Cond := u_ws RX4 TX4 6
theorem nmX4 : ∀ a, a < 6 → ∀ b, b < 6 → a ≠ b → (TX4 a).2.1 ≠ (TX4 b).2.1 := by decide +kernel
theorem tyX4_ok : ∀ k, k < 6 → parseFieldDescriptor (TX4 k).2.2.1 = some (tyX4 k) := by decide +kernel
abbrev cX4_init : ByteArray := prog_6_method_1_code
def yX4_init : MethodName := ⟨RX4, "<init>", "()V"⟩
abbrev cX4_startAnew : ByteArray := prog_6_method_2_code
def yX4_startAnew : MethodName := ⟨RX4, "startAnew", "()V"⟩
abbrev cX4_becomes : ByteArray := prog_6_method_3_code
def yX4_becomes : MethodName := ⟨RX4, "becomes", "(LWindFrontiers$Strand;)V"⟩
abbrev cX4_isCell : ByteArray := prog_6_method_4_code
def yX4_isCell : MethodName := ⟨RX4, "isCell", "(II)Z"⟩
abbrev cX4_allCells : ByteArray := prog_6_method_5_code
def yX4_allCells : MethodName := ⟨RX4, "allCells", "()I"⟩
abbrev cX4_dryCells : ByteArray := prog_6_method_6_code
def yX4_dryCells : MethodName := ⟨RX4, "dryCells", "()I"⟩
abbrev cX4_bareCells : ByteArray := prog_6_method_7_code
def yX4_bareCells : MethodName := ⟨RX4, "bareCells", "()I"⟩
abbrev cX4_cellsFrom : ByteArray := prog_6_method_8_code
def yX4_cellsFrom : MethodName := ⟨RX4, "cellsFrom", "(I)I"⟩
abbrev cX4_rowOf : ByteArray := prog_6_method_9_code
def yX4_rowOf : MethodName := ⟨RX4, "rowOf", "(I)I"⟩
abbrev cX4_heldBy : ByteArray := prog_6_method_10_code
def yX4_heldBy : MethodName := ⟨RX4, "heldBy", "(I)I"⟩
abbrev cX4_heldByAny : ByteArray := prog_6_method_11_code
def yX4_heldByAny : MethodName := ⟨RX4, "heldByAny", "()I"⟩
abbrev cX4_holderOf : ByteArray := prog_6_method_12_code
def yX4_holderOf : MethodName := ⟨RX4, "holderOf", "(I)I"⟩
abbrev cX4_give : ByteArray := prog_6_method_13_code
def yX4_give : MethodName := ⟨RX4, "give", "(II)V"⟩
abbrev cX4_freeAllBut : ByteArray := prog_6_method_14_code
def yX4_freeAllBut : MethodName := ⟨RX4, "freeAllBut", "(I)V"⟩
abbrev cX4_tideBecomes : ByteArray := prog_6_method_15_code
def yX4_tideBecomes : MethodName := ⟨RX4, "tideBecomes", "(I)V"⟩
abbrev cX4_stillBy : ByteArray := prog_6_method_16_code
def yX4_stillBy : MethodName := ⟨RX4, "stillBy", "(I)I"⟩
abbrev cX4_stillWith : ByteArray := prog_6_method_17_code
def yX4_stillWith : MethodName := ⟨RX4, "stillWith", "(II)I"⟩
abbrev cX4_shelterOf : ByteArray := prog_6_method_18_code
def yX4_shelterOf : MethodName := ⟨RX4, "shelterOf", "(I)I"⟩
abbrev cX4_shelterWith : ByteArray := prog_6_method_19_code
def yX4_shelterWith : MethodName := ⟨RX4, "shelterWith", "(II)I"⟩
abbrev cX4_borderLength : ByteArray := prog_6_method_20_code
def yX4_borderLength : MethodName := ⟨RX4, "borderLength", "()I"⟩
abbrev cX4_losesAfter : ByteArray := prog_6_method_21_code
def yX4_losesAfter : MethodName := ⟨RX4, "losesAfter", "(I)I"⟩
abbrev cX4_fewestOthers : ByteArray := prog_6_method_22_code
def yX4_fewestOthers : MethodName := ⟨RX4, "fewestOthers", "(II)I"⟩
abbrev cX4_floodedOver : ByteArray := prog_6_method_23_code
def yX4_floodedOver : MethodName := ⟨RX4, "floodedOver", "(II)I"⟩
abbrev cX4_bestCloth : ByteArray := prog_6_method_24_code
def yX4_bestCloth : MethodName := ⟨RX4, "bestCloth", "(I)I"⟩
abbrev cX4_cellsBeside : ByteArray := prog_6_method_25_code
def yX4_cellsBeside : MethodName := ⟨RX4, "cellsBeside", "(I)I"⟩
abbrev cX4_rightOf : ByteArray := prog_6_method_26_code
def yX4_rightOf : MethodName := ⟨RX4, "rightOf", "(I)I"⟩
abbrev cX4_leftOf : ByteArray := prog_6_method_27_code
def yX4_leftOf : MethodName := ⟨RX4, "leftOf", "(I)I"⟩
abbrev cX4_besideAny : ByteArray := prog_6_method_28_code
def yX4_besideAny : MethodName := ⟨RX4, "besideAny", "(I)I"⟩
abbrev cX4_twosIn : ByteArray := prog_6_method_29_code
def yX4_twosIn : MethodName := ⟨RX4, "twosIn", "(I)I"⟩
def RX5 : String := "WindFrontiers$Text"
def TX5 : u_T := fun k => match k with
  | 0 => ("WindFrontiers$Text", "bytes", "[I", true)
  | _ => ("WindFrontiers$Text", "length", "I", false)
def tyX5 : Nat → FieldType := fun k => match k with
  | 0 => .array .int
  | _ => .int
abbrev wsX50 : List Cond := u_ws RX5 TX5 2
theorem nmX5 : ∀ a, a < 2 → ∀ b, b < 2 → a ≠ b → (TX5 a).2.1 ≠ (TX5 b).2.1 := by decide +kernel
theorem tyX5_ok : ∀ k, k < 2 → parseFieldDescriptor (TX5 k).2.2.1 = some (tyX5 k) := by decide +kernel
abbrev cX5_init : ByteArray := prog_7_method_1_code
def yX5_init : MethodName := ⟨RX5, "<init>", "()V"⟩
abbrev cX5_append : ByteArray := prog_7_method_2_code
def yX5_append : MethodName := ⟨RX5, "append", "(I)Z"⟩
abbrev cX5_byteAt : ByteArray := prog_7_method_3_code
def yX5_byteAt : MethodName := ⟨RX5, "byteAt", "(I)I"⟩
def RX6 : String := "WindFrontiers"
def TX6 : u_T := fun k => match k with
  | 0 => ("WindFrontiers", "reader", "LWindFrontiers$Reader;", true)
  | 1 => ("WindFrontiers", "text", "LWindFrontiers$Text;", true)
  | 2 => ("WindFrontiers", "story", "LWindFrontiers$Story;", true)
  | 3 => ("WindFrontiers", "shore", "LWindFrontiers$Strand;", true)
  | 4 => ("WindFrontiers", "firstImage", "LWindFrontiers$Story;", true)
  | 5 => ("WindFrontiers", "secondImage", "LWindFrontiers$Story;", true)
  | 6 => ("WindFrontiers", "seen", "LWindFrontiers$Seen;", true)
  | _ => ("WindFrontiers", "marks", "LWindFrontiers$Marks;", true)
def tyX6 : Nat → FieldType := fun k => match k with
  | 0 => .object "WindFrontiers$Reader"
  | 1 => .object "WindFrontiers$Text"
  | 2 => .object "WindFrontiers$Story"
  | 3 => .object "WindFrontiers$Strand"
  | 4 => .object "WindFrontiers$Story"
  | 5 => .object "WindFrontiers$Story"
  | 6 => .object "WindFrontiers$Seen"
  | _ => .object "WindFrontiers$Marks"
abbrev wsX60 : List Cond := u_ws RX6 TX6 8
theorem nmX6 : ∀ a, a < 8 → ∀ b, b < 8 → a ≠ b → (TX6 a).2.1 ≠ (TX6 b).2.1 := by decide +kernel
theorem tyX6_ok : ∀ k, k < 8 → parseFieldDescriptor (TX6 k).2.2.1 = some (tyX6 k) := by decide +kernel
abbrev cX6_init : ByteArray := prog_1_method_1_code
def yX6_init : MethodName := ⟨RX6, "<init>", "()V"⟩
abbrev cX6_type : ByteArray := prog_1_method_2_code
def yX6_type : MethodName := ⟨RX6, "type", "(I)I"⟩
abbrev cX6_clear : ByteArray := prog_1_method_3_code
def yX6_clear : MethodName := ⟨RX6, "clear", "()I"⟩
abbrev cX6_strand : ByteArray := prog_1_method_4_code
def yX6_strand : MethodName := ⟨RX6, "strand", "()I"⟩
abbrev cX6_cell : ByteArray := prog_1_method_5_code
def yX6_cell : MethodName := ⟨RX6, "cell", "(III)I"⟩
abbrev cX6_family : ByteArray := prog_1_method_6_code
def yX6_family : MethodName := ⟨RX6, "family", "(II)I"⟩
abbrev cX6_takes : ByteArray := prog_1_method_7_code
def yX6_takes : MethodName := ⟨RX6, "takes", "(III)I"⟩
abbrev cX6_leaves : ByteArray := prog_1_method_8_code
def yX6_leaves : MethodName := ⟨RX6, "leaves", "(II)I"⟩
abbrev cX6_puts : ByteArray := prog_1_method_9_code
def yX6_puts : MethodName := ⟨RX6, "puts", "(III)I"⟩
abbrev cX6_veers : ByteArray := prog_1_method_10_code
def yX6_veers : MethodName := ⟨RX6, "veers", "()I"⟩
abbrev cX6_tide : ByteArray := prog_1_method_11_code
def yX6_tide : MethodName := ⟨RX6, "tide", "(I)I"⟩
abbrev cX6_undo : ByteArray := prog_1_method_12_code
def yX6_undo : MethodName := ⟨RX6, "undo", "()I"⟩
abbrev cX6_now : ByteArray := prog_1_method_13_code
def yX6_now : MethodName := ⟨RX6, "now", "(I)I"⟩
abbrev cX6_water : ByteArray := prog_1_method_14_code
def yX6_water : MethodName := ⟨RX6, "water", "(III)I"⟩
abbrev cX6_help : ByteArray := prog_1_method_15_code
def yX6_help : MethodName := ⟨RX6, "help", "(II)I"⟩
abbrev cX6_odds : ByteArray := prog_1_method_16_code
def yX6_odds : MethodName := ⟨RX6, "odds", "(IIIII)I"⟩
abbrev cX6_saw : ByteArray := prog_1_method_17_code
def yX6_saw : MethodName := ⟨RX6, "saw", "(IIII)I"⟩
abbrev cX6_forget : ByteArray := prog_1_method_18_code
def yX6_forget : MethodName := ⟨RX6, "forget", "()I"⟩
abbrev cX6_moved : ByteArray := prog_1_method_19_code
def yX6_moved : MethodName := ⟨RX6, "moved", "(I)I"⟩
abbrev cX6_mark : ByteArray := prog_1_method_20_code
def yX6_mark : MethodName := ⟨RX6, "mark", "(III)I"⟩
abbrev cX6_keep : ByteArray := prog_1_method_21_code
def yX6_keep : MethodName := ⟨RX6, "keep", "(I)I"⟩
abbrev cX6_back : ByteArray := prog_1_method_22_code
def yX6_back : MethodName := ⟨RX6, "back", "(I)I"⟩
abbrev cX6_count : ByteArray := prog_1_method_23_code
def yX6_count : MethodName := ⟨RX6, "count", "(I)I"⟩
abbrev cX6_trace : ByteArray := prog_1_method_24_code
def yX6_trace : MethodName := ⟨RX6, "trace", "()J"⟩
abbrev cX6_mayHaveMoved : ByteArray := prog_1_method_25_code
def yX6_mayHaveMoved : MethodName := ⟨RX6, "mayHaveMoved", "(II)Z"⟩
abbrev cX6_imageOf : ByteArray := prog_1_method_26_code
def yX6_imageOf : MethodName := ⟨RX6, "imageOf", "(I)LWindFrontiers$Story;"⟩
abbrev cX6_isWithin : ByteArray := prog_1_method_27_code
def yX6_isWithin : MethodName := ⟨RX6, "isWithin", "(II)Z"⟩
abbrev cX6_isFamily : ByteArray := prog_1_method_28_code
def yX6_isFamily : MethodName := ⟨RX6, "isFamily", "(I)Z"⟩
abbrev cX6_oneIf : ByteArray := prog_1_method_29_code
def yX6_oneIf : MethodName := ⟨RX6, "oneIf", "(Z)I"⟩
abbrev cX6_bitOf : ByteArray := prog_1_method_30_code
def yX6_bitOf : MethodName := ⟨RX6, "bitOf", "(II)I"⟩
abbrev cX6_inLeastTerms : ByteArray := prog_1_method_31_code
def yX6_inLeastTerms : MethodName := ⟨RX6, "inLeastTerms", "(III)I"⟩
def RX7 : String := "WindFrontiersModel"
def TX7 : u_T := fun k => match k with
  | 0 => ("WindFrontiersModel", "wide", "I", false)
  | 1 => ("WindFrontiersModel", "rows", "I", false)
  | 2 => ("WindFrontiersModel", "st", "[I", true)
  | 3 => ("WindFrontiersModel", "images", "[I", true)
  | 4 => ("WindFrontiersModel", "isKept", "[Z", true)
  | 5 => ("WindFrontiersModel", "seenMany", "I", false)
  | 6 => ("WindFrontiersModel", "seen", "[I", true)
  | 7 => ("WindFrontiersModel", "trace", "J", false)
  | 8 => ("WindFrontiersModel", "text", "[I", true)
  | 9 => ("WindFrontiersModel", "texted", "I", false)
  | 10 => ("WindFrontiersModel", "cursor", "I", false)
  | 11 => ("WindFrontiersModel", "start", "I", false)
  | 12 => ("WindFrontiersModel", "token", "I", false)
  | 13 => ("WindFrontiersModel", "number", "I", false)
  | 14 => ("WindFrontiersModel", "isWrong", "Z", false)
  | 15 => ("WindFrontiersModel", "items", "I", false)
  | 16 => ("WindFrontiersModel", "saidWide", "I", false)
  | 17 => ("WindFrontiersModel", "saidRows", "I", false)
  | 18 => ("WindFrontiersModel", "saidHolder", "[I", true)
  | 19 => ("WindFrontiersModel", "saidCloth", "I", false)
  | 20 => ("WindFrontiersModel", "saidWind", "I", false)
  | _ => ("WindFrontiersModel", "far", "[I", true)
def tyX7 : Nat → FieldType := fun k => match k with
  | 0 => .int
  | 1 => .int
  | 2 => .array .int
  | 3 => .array .int
  | 4 => .array .boolean
  | 5 => .int
  | 6 => .array .int
  | 7 => .long
  | 8 => .array .int
  | 9 => .int
  | 10 => .int
  | 11 => .int
  | 12 => .int
  | 13 => .int
  | 14 => .boolean
  | 15 => .int
  | 16 => .int
  | 17 => .int
  | 18 => .array .int
  | 19 => .int
  | 20 => .int
  | _ => .array .int
abbrev wsX70 : List Cond := u_ws RX7 TX7 22
theorem nmX7 : ∀ a, a < 22 → ∀ b, b < 22 → a ≠ b → (TX7 a).2.1 ≠ (TX7 b).2.1 := by decide +kernel
theorem tyX7_ok : ∀ k, k < 22 → parseFieldDescriptor (TX7 k).2.2.1 = some (tyX7 k) := by decide +kernel
abbrev cX7_init : ByteArray := prog_9_method_1_code
def yX7_init : MethodName := ⟨RX7, "<init>", "()V"⟩
abbrev cX7_in : ByteArray := prog_9_method_3_code
def yX7_in : MethodName := ⟨RX7, "in", "(III)Z"⟩
abbrev cX7_has : ByteArray := prog_9_method_4_code
def yX7_has : MethodName := ⟨RX7, "has", "(II)Z"⟩
abbrev cX7_bits : ByteArray := prog_9_method_5_code
def yX7_bits : MethodName := ⟨RX7, "bits", "(I)I"⟩
abbrev cX7_isCell : ByteArray := prog_9_method_6_code
def yX7_isCell : MethodName := ⟨RX7, "isCell", "(II)Z"⟩
abbrev cX7_isFamily : ByteArray := prog_9_method_7_code
def yX7_isFamily : MethodName := ⟨RX7, "isFamily", "(I)Z"⟩
abbrev cX7_type : ByteArray := prog_9_method_8_code
def yX7_type : MethodName := ⟨RX7, "type", "(I)I"⟩
abbrev cX7_clear : ByteArray := prog_9_method_9_code
def yX7_clear : MethodName := ⟨RX7, "clear", "()I"⟩
abbrev cX7_letterAt : ByteArray := prog_9_method_10_code
def yX7_letterAt : MethodName := ⟨RX7, "letterAt", "(I)I"⟩
abbrev cX7_isFigure : ByteArray := prog_9_method_11_code
def yX7_isFigure : MethodName := ⟨RX7, "isFigure", "(I)Z"⟩
abbrev cX7_isLetter : ByteArray := prog_9_method_12_code
def yX7_isLetter : MethodName := ⟨RX7, "isLetter", "(I)Z"⟩
abbrev cX7_next : ByteArray := prog_9_method_13_code
def yX7_next : MethodName := ⟨RX7, "next", "()V"⟩
abbrev cX7_takesNumber : ByteArray := prog_9_method_14_code
def yX7_takesNumber : MethodName := ⟨RX7, "takesNumber", "(II)I"⟩
abbrev cX7_takesCell : ByteArray := prog_9_method_15_code
def yX7_takesCell : MethodName := ⟨RX7, "takesCell", "(Z)I"⟩
abbrev cX7_readItem : ByteArray := prog_9_method_16_code
def yX7_readItem : MethodName := ⟨RX7, "readItem", "()V"⟩
abbrev cX7_strand : ByteArray := prog_9_method_17_code
def yX7_strand : MethodName := ⟨RX7, "strand", "()I"⟩
abbrev cX7_settles : ByteArray := prog_9_method_18_code
def yX7_settles : MethodName := ⟨RX7, "settles", "()V"⟩
abbrev cX7_isDry : ByteArray := prog_9_method_19_code
def yX7_isDry : MethodName := ⟨RX7, "isDry", "(I)Z"⟩
abbrev cX7_isCloth : ByteArray := prog_9_method_20_code
def yX7_isCloth : MethodName := ⟨RX7, "isCloth", "(III)Z"⟩
abbrev cX7_isStill : ByteArray := prog_9_method_21_code
def yX7_isStill : MethodName := ⟨RX7, "isStill", "(IIII)Z"⟩
abbrev cX7_stillOnes : ByteArray := prog_9_method_22_code
def yX7_stillOnes : MethodName := ⟨RX7, "stillOnes", "(II)I"⟩
abbrev cX7_heldBy : ByteArray := prog_9_method_23_code
def yX7_heldBy : MethodName := ⟨RX7, "heldBy", "(I)I"⟩
abbrev cX7_losesOf : ByteArray := prog_9_method_24_code
def yX7_losesOf : MethodName := ⟨RX7, "losesOf", "(I)I"⟩
abbrev cX7_cell : ByteArray := prog_9_method_25_code
def yX7_cell : MethodName := ⟨RX7, "cell", "(III)I"⟩
abbrev cX7_family : ByteArray := prog_9_method_26_code
def yX7_family : MethodName := ⟨RX7, "family", "(II)I"⟩
abbrev cX7_remembers : ByteArray := prog_9_method_27_code
def yX7_remembers : MethodName := ⟨RX7, "remembers", "()V"⟩
abbrev cX7_takes : ByteArray := prog_9_method_28_code
def yX7_takes : MethodName := ⟨RX7, "takes", "(III)I"⟩
abbrev cX7_leaves : ByteArray := prog_9_method_29_code
def yX7_leaves : MethodName := ⟨RX7, "leaves", "(II)I"⟩
abbrev cX7_puts : ByteArray := prog_9_method_30_code
def yX7_puts : MethodName := ⟨RX7, "puts", "(III)I"⟩
abbrev cX7_veers : ByteArray := prog_9_method_31_code
def yX7_veers : MethodName := ⟨RX7, "veers", "()I"⟩
abbrev cX7_tide : ByteArray := prog_9_method_32_code
def yX7_tide : MethodName := ⟨RX7, "tide", "(I)I"⟩
abbrev cX7_undo : ByteArray := prog_9_method_33_code
def yX7_undo : MethodName := ⟨RX7, "undo", "()I"⟩
abbrev cX7_isBorder : ByteArray := prog_9_method_34_code
def yX7_isBorder : MethodName := ⟨RX7, "isBorder", "(IIII)Z"⟩
abbrev cX7_border : ByteArray := prog_9_method_35_code
def yX7_border : MethodName := ⟨RX7, "border", "()I"⟩
abbrev cX7_now : ByteArray := prog_9_method_36_code
def yX7_now : MethodName := ⟨RX7, "now", "(I)I"⟩
abbrev cX7_costOf : ByteArray := prog_9_method_37_code
def yX7_costOf : MethodName := ⟨RX7, "costOf", "(II)I"⟩
abbrev cX7_leastBeside : ByteArray := prog_9_method_38_code
def yX7_leastBeside : MethodName := ⟨RX7, "leastBeside", "(II)I"⟩
abbrev cX7_findFar : ByteArray := prog_9_method_39_code
def yX7_findFar : MethodName := ⟨RX7, "findFar", "(I)V"⟩
abbrev cX7_water : ByteArray := prog_9_method_40_code
def yX7_water : MethodName := ⟨RX7, "water", "(III)I"⟩
abbrev cX7_help : ByteArray := prog_9_method_41_code
def yX7_help : MethodName := ⟨RX7, "help", "(II)I"⟩
abbrev cX7_odds : ByteArray := prog_9_method_42_code
def yX7_odds : MethodName := ⟨RX7, "odds", "(IIIII)I"⟩
abbrev cX7_saw : ByteArray := prog_9_method_43_code
def yX7_saw : MethodName := ⟨RX7, "saw", "(IIII)I"⟩
abbrev cX7_forget : ByteArray := prog_9_method_44_code
def yX7_forget : MethodName := ⟨RX7, "forget", "()I"⟩
abbrev cX7_isSo : ByteArray := prog_9_method_45_code
def yX7_isSo : MethodName := ⟨RX7, "isSo", "(I)Z"⟩
abbrev cX7_moved : ByteArray := prog_9_method_46_code
def yX7_moved : MethodName := ⟨RX7, "moved", "(I)I"⟩
abbrev cX7_mark : ByteArray := prog_9_method_47_code
def yX7_mark : MethodName := ⟨RX7, "mark", "(III)I"⟩
abbrev cX7_keep : ByteArray := prog_9_method_48_code
def yX7_keep : MethodName := ⟨RX7, "keep", "(I)I"⟩
abbrev cX7_back : ByteArray := prog_9_method_49_code
def yX7_back : MethodName := ⟨RX7, "back", "(I)I"⟩
abbrev cX7_count : ByteArray := prog_9_method_50_code
def yX7_count : MethodName := ⟨RX7, "count", "(I)I"⟩
abbrev cX7_trace : ByteArray := prog_9_method_51_code
def yX7_trace : MethodName := ⟨RX7, "trace", "()J"⟩
def RJ6 : String := "java/lang/Integer"
def TJ6 : u_T := fun k => match k with
  | _ => ("", "", "", false)
def tyJ6 : Nat → FieldType := fun k => match k with
  | _ => .int
abbrev wsJ60 : List Cond := u_ws RJ6 TJ6 0
theorem nmJ6 : ∀ a, a < 0 → ∀ b, b < 0 → a ≠ b → (TJ6 a).2.1 ≠ (TJ6 b).2.1 := by decide +kernel
theorem tyJ6_ok : ∀ k, k < 0 → parseFieldDescriptor (TJ6 k).2.2.1 = some (tyJ6 k) := by decide +kernel
abbrev cJ6_bitCount_0f7a4 : ByteArray := prog_10_method_49_code
def yJ6_bitCount_0f7a4 : MethodName := ⟨RJ6, "bitCount", "(I)I"⟩
def RL : String := "WindFrontiersLaw"
abbrev cL_law : ByteArray := code
def yL_law : MethodName := ⟨RL, "law", "([I)Z"⟩
abbrev vwCl : List vw_C := [(RX0, TX0, 1), (RX1, TX1, 8), (RX2, TX2, 5), (RX3, TX3, 4), (RX4, TX4, 6), (RX5, TX5, 2), (RX6, TX6, 8), (RX7, TX7, 22)]
/-! the words of all methods: the good ones of the tables' -/
def AL : List Cond := lw_tbl.filter goodWord
theorem AL_of {w : Cond} (h : w ∈ lw_tbl) (g : goodWord w = true) : w ∈ AL := List.mem_filter.mpr ⟨h, g⟩
theorem AL_in {w : Cond} (h : w ∈ AL) : w ∈ lw_tbl := (List.mem_filter.mp h).1
theorem AL_good : GoodIn AL AL := fun w h => ⟨h, good_of_word (List.mem_filter.mp h).2⟩
theorem tb_0 {w : Cond} (h : w ∈ k2_sels lw_privs) (g : goodWord w = true) : w ∈ AL := AL_of (List.mem_append_left _ h) g
theorem tb_1 {w : Cond} (h : w ∈ tables_1_1) (g : goodWord w = true) : w ∈ AL := AL_of (List.mem_append_right _ (List.mem_append_left _ h)) g
theorem tb_2 {w : Cond} (h : w ∈ tables_1_2) (g : goodWord w = true) : w ∈ AL := AL_of (List.mem_append_right _ (List.mem_append_right _ (List.mem_append_left _ h))) g
theorem tb_3 {w : Cond} (h : w ∈ tables_1_3) (g : goodWord w = true) : w ∈ AL := AL_of (List.mem_append_right _ (List.mem_append_right _ (List.mem_append_right _ (List.mem_append_left _ h)))) g
theorem tb_4 {w : Cond} (h : w ∈ tables_1_4) (g : goodWord w = true) : w ∈ AL := AL_of (List.mem_append_right _ (List.mem_append_right _ (List.mem_append_right _ (List.mem_append_right _ h)))) g
theorem ws_0 : Cond.selects RX1 yX1_readToken yX1_readToken ∈ AL := tb_0 (List.mem_map.mpr ⟨(yX1_readToken, _), List.mem_of_getElem? (i := 0) rfl, rfl⟩) rfl
theorem ws_1 : Cond.selects RX1 yX1_isItem yX1_isItem ∈ AL := tb_0 (List.mem_map.mpr ⟨(yX1_isItem, _), List.mem_of_getElem? (i := 1) rfl, rfl⟩) rfl
theorem ws_2 : Cond.selects RX1 yX1_isSize yX1_isSize ∈ AL := tb_0 (List.mem_map.mpr ⟨(yX1_isSize, _), List.mem_of_getElem? (i := 2) rfl, rfl⟩) rfl
theorem ws_3 : Cond.selects RX1 yX1_isNumber yX1_isNumber ∈ AL := tb_0 (List.mem_map.mpr ⟨(yX1_isNumber, _), List.mem_of_getElem? (i := 3) rfl, rfl⟩) rfl
theorem ws_4 : Cond.selects RX1 yX1_isStop yX1_isStop ∈ AL := tb_0 (List.mem_map.mpr ⟨(yX1_isStop, _), List.mem_of_getElem? (i := 4) rfl, rfl⟩) rfl
theorem ws_5 : Cond.selects RX1 yX1_isHolder yX1_isHolder ∈ AL := tb_0 (List.mem_map.mpr ⟨(yX1_isHolder, _), List.mem_of_getElem? (i := 5) rfl, rfl⟩) rfl
theorem ws_6 : Cond.selects RX1 yX1_readFreeBit yX1_readFreeBit ∈ AL := tb_0 (List.mem_map.mpr ⟨(yX1_readFreeBit, _), List.mem_of_getElem? (i := 6) rfl, rfl⟩) rfl
theorem ws_7 : Cond.selects RX1 yX1_isCloth yX1_isCloth ∈ AL := tb_0 (List.mem_map.mpr ⟨(yX1_isCloth, _), List.mem_of_getElem? (i := 7) rfl, rfl⟩) rfl
theorem ws_8 : Cond.selects RX1 yX1_isWind yX1_isWind ∈ AL := tb_0 (List.mem_map.mpr ⟨(yX1_isWind, _), List.mem_of_getElem? (i := 8) rfl, rfl⟩) rfl
theorem ws_9 : Cond.selects RX4 yX4_cellsFrom yX4_cellsFrom ∈ AL := tb_0 (List.mem_map.mpr ⟨(yX4_cellsFrom, _), List.mem_of_getElem? (i := 9) rfl, rfl⟩) rfl
theorem ws_10 : Cond.selects RX4 yX4_rowOf yX4_rowOf ∈ AL := tb_0 (List.mem_map.mpr ⟨(yX4_rowOf, _), List.mem_of_getElem? (i := 10) rfl, rfl⟩) rfl
theorem ws_11 : Cond.selects RX3 yX3_dropOldest yX3_dropOldest ∈ AL := tb_0 (List.mem_map.mpr ⟨(yX3_dropOldest, _), List.mem_of_getElem? (i := 11) rfl, rfl⟩) rfl
theorem ws_12 : Cond.selects RX3 yX3_beforeAt yX3_beforeAt ∈ AL := tb_0 (List.mem_map.mpr ⟨(yX3_beforeAt, _), List.mem_of_getElem? (i := 12) rfl, rfl⟩) rfl
theorem ws_13 : Cond.selects RX6 yX6_mayHaveMoved yX6_mayHaveMoved ∈ AL := tb_0 (List.mem_map.mpr ⟨(yX6_mayHaveMoved, _), List.mem_of_getElem? (i := 13) rfl, rfl⟩) rfl
theorem ws_14 : Cond.selects RX0 yX0_asCell yX0_asCell ∈ AL := tb_0 (List.mem_map.mpr ⟨(yX0_asCell, _), List.mem_of_getElem? (i := 14) rfl, rfl⟩) rfl
theorem ws_15 : Cond.selects RX0 yX0_asCastle yX0_asCastle ∈ AL := tb_0 (List.mem_map.mpr ⟨(yX0_asCastle, _), List.mem_of_getElem? (i := 15) rfl, rfl⟩) rfl
theorem ws_16 : Cond.selects RX0 yX0_asCorridor yX0_asCorridor ∈ AL := tb_0 (List.mem_map.mpr ⟨(yX0_asCorridor, _), List.mem_of_getElem? (i := 16) rfl, rfl⟩) rfl
theorem ws_17 : Cond.selects RX0 yX0_asEmpire yX0_asEmpire ∈ AL := tb_0 (List.mem_map.mpr ⟨(yX0_asEmpire, _), List.mem_of_getElem? (i := 17) rfl, rfl⟩) rfl
theorem ws_18 : Cond.selects RX0 yX0_asPoland yX0_asPoland ∈ AL := tb_0 (List.mem_map.mpr ⟨(yX0_asPoland, _), List.mem_of_getElem? (i := 18) rfl, rfl⟩) rfl
theorem ws_19 : Cond.selects RX0 yX0_asSalient yX0_asSalient ∈ AL := tb_0 (List.mem_map.mpr ⟨(yX0_asSalient, _), List.mem_of_getElem? (i := 19) rfl, rfl⟩) rfl
theorem ws_20 : Cond.selects RX6 yX6_imageOf yX6_imageOf ∈ AL := tb_0 (List.mem_map.mpr ⟨(yX6_imageOf, _), List.mem_of_getElem? (i := 20) rfl, rfl⟩) rfl
theorem ws_21 : Cond.selects RX7 yX7_next yX7_next ∈ AL := tb_0 (List.mem_map.mpr ⟨(yX7_next, _), List.mem_of_getElem? (i := 21) rfl, rfl⟩) rfl
theorem ws_22 : Cond.selects RX7 yX7_letterAt yX7_letterAt ∈ AL := tb_0 (List.mem_map.mpr ⟨(yX7_letterAt, _), List.mem_of_getElem? (i := 22) rfl, rfl⟩) rfl
theorem ws_23 : Cond.selects RX7 yX7_readItem yX7_readItem ∈ AL := tb_0 (List.mem_map.mpr ⟨(yX7_readItem, _), List.mem_of_getElem? (i := 23) rfl, rfl⟩) rfl
theorem ws_24 : Cond.selects RX7 yX7_takesNumber yX7_takesNumber ∈ AL := tb_0 (List.mem_map.mpr ⟨(yX7_takesNumber, _), List.mem_of_getElem? (i := 24) rfl, rfl⟩) rfl
theorem ws_25 : Cond.selects RX7 yX7_takesCell yX7_takesCell ∈ AL := tb_0 (List.mem_map.mpr ⟨(yX7_takesCell, _), List.mem_of_getElem? (i := 25) rfl, rfl⟩) rfl
theorem ws_26 : Cond.selects RX7 yX7_settles yX7_settles ∈ AL := tb_0 (List.mem_map.mpr ⟨(yX7_settles, _), List.mem_of_getElem? (i := 26) rfl, rfl⟩) rfl
theorem ws_27 : Cond.selects RX7 yX7_isCell yX7_isCell ∈ AL := tb_0 (List.mem_map.mpr ⟨(yX7_isCell, _), List.mem_of_getElem? (i := 27) rfl, rfl⟩) rfl
theorem ws_28 : Cond.selects RX7 yX7_isDry yX7_isDry ∈ AL := tb_0 (List.mem_map.mpr ⟨(yX7_isDry, _), List.mem_of_getElem? (i := 28) rfl, rfl⟩) rfl
theorem ws_29 : Cond.selects RX7 yX7_isStill yX7_isStill ∈ AL := tb_0 (List.mem_map.mpr ⟨(yX7_isStill, _), List.mem_of_getElem? (i := 29) rfl, rfl⟩) rfl
theorem ws_30 : Cond.selects RX7 yX7_isCloth yX7_isCloth ∈ AL := tb_0 (List.mem_map.mpr ⟨(yX7_isCloth, _), List.mem_of_getElem? (i := 30) rfl, rfl⟩) rfl
theorem ws_31 : Cond.selects RX7 yX7_heldBy yX7_heldBy ∈ AL := tb_0 (List.mem_map.mpr ⟨(yX7_heldBy, _), List.mem_of_getElem? (i := 31) rfl, rfl⟩) rfl
theorem ws_32 : Cond.selects RX7 yX7_stillOnes yX7_stillOnes ∈ AL := tb_0 (List.mem_map.mpr ⟨(yX7_stillOnes, _), List.mem_of_getElem? (i := 32) rfl, rfl⟩) rfl
theorem ws_33 : Cond.selects RX7 yX7_losesOf yX7_losesOf ∈ AL := tb_0 (List.mem_map.mpr ⟨(yX7_losesOf, _), List.mem_of_getElem? (i := 33) rfl, rfl⟩) rfl
theorem ws_34 : Cond.selects RX7 yX7_remembers yX7_remembers ∈ AL := tb_0 (List.mem_map.mpr ⟨(yX7_remembers, _), List.mem_of_getElem? (i := 34) rfl, rfl⟩) rfl
theorem ws_35 : Cond.selects RX7 yX7_border yX7_border ∈ AL := tb_0 (List.mem_map.mpr ⟨(yX7_border, _), List.mem_of_getElem? (i := 35) rfl, rfl⟩) rfl
theorem ws_36 : Cond.selects RX7 yX7_isBorder yX7_isBorder ∈ AL := tb_0 (List.mem_map.mpr ⟨(yX7_isBorder, _), List.mem_of_getElem? (i := 36) rfl, rfl⟩) rfl
theorem ws_37 : Cond.selects RX7 yX7_findFar yX7_findFar ∈ AL := tb_0 (List.mem_map.mpr ⟨(yX7_findFar, _), List.mem_of_getElem? (i := 37) rfl, rfl⟩) rfl
theorem ws_38 : Cond.selects RX7 yX7_costOf yX7_costOf ∈ AL := tb_0 (List.mem_map.mpr ⟨(yX7_costOf, _), List.mem_of_getElem? (i := 38) rfl, rfl⟩) rfl
theorem ws_39 : Cond.selects RX7 yX7_leastBeside yX7_leastBeside ∈ AL := tb_0 (List.mem_map.mpr ⟨(yX7_leastBeside, _), List.mem_of_getElem? (i := 39) rfl, rfl⟩) rfl
theorem ws_40 : Cond.selects RX7 yX7_isSo yX7_isSo ∈ AL := tb_0 (List.mem_map.mpr ⟨(yX7_isSo, _), List.mem_of_getElem? (i := 40) rfl, rfl⟩) rfl
theorem wd_1_0 : Cond.initialized RL ∈ AL := tb_1 (List.mem_of_getElem? (i := 0) rfl) rfl
theorem wd_1_1 : Cond.initialized RX6 ∈ AL := tb_1 (List.mem_of_getElem? (i := 1) rfl) rfl
theorem wd_1_2 : Cond.initialized RX1 ∈ AL := tb_1 (List.mem_of_getElem? (i := 2) rfl) rfl
theorem wd_1_3 : Cond.initialized RX5 ∈ AL := tb_1 (List.mem_of_getElem? (i := 3) rfl) rfl
theorem wd_1_4 : Cond.initialized RX4 ∈ AL := tb_1 (List.mem_of_getElem? (i := 4) rfl) rfl
theorem wd_1_5 : Cond.initialized RX3 ∈ AL := tb_1 (List.mem_of_getElem? (i := 5) rfl) rfl
theorem wd_1_6 : Cond.initialized RX2 ∈ AL := tb_1 (List.mem_of_getElem? (i := 6) rfl) rfl
theorem wd_1_7 : Cond.initialized RX0 ∈ AL := tb_1 (List.mem_of_getElem? (i := 7) rfl) rfl
theorem wd_1_8 : Cond.initialized RX7 ∈ AL := tb_1 (List.mem_of_getElem? (i := 8) rfl) rfl
theorem wd_1_9 : Cond.initialized RJ6 ∈ AL := tb_1 (List.mem_of_getElem? (i := 9) rfl) rfl
theorem wd_1_10 : Cond.classLink RL 7 RX6 ∈ AL := tb_1 (List.mem_of_getElem? (i := 10) rfl) rfl
theorem wd_1_11 : Cond.instantiable RX6 8 ∈ AL := tb_1 (List.mem_of_getElem? (i := 11) rfl) rfl
theorem wd_1_12 : Cond.methodLink RL 9 yX6_init ∈ AL := tb_1 (List.mem_of_getElem? (i := 12) rfl) rfl
theorem wd_1_13 : Cond.instanceMethod yX6_init ∈ AL := tb_1 (List.mem_of_getElem? (i := 13) rfl) rfl
theorem wd_1_14 : Cond.code yX6_init cX6_init 1 none ∈ AL := tb_1 (List.mem_of_getElem? (i := 14) rfl) rfl
theorem wd_1_15 : Cond.methodLink RX6 3 objectInit ∈ AL := tb_1 (List.mem_of_getElem? (i := 15) rfl) rfl
theorem wd_1_16 : Cond.instanceMethod objectInit ∈ AL := tb_1 (List.mem_of_getElem? (i := 16) rfl) rfl
theorem wd_1_17 : Cond.code objectInit ⟨#[0xb1]⟩ 1 none ∈ AL := tb_1 (List.mem_of_getElem? (i := 17) rfl) rfl
theorem wd_1_18 : Cond.classLink RX6 9 RX1 ∈ AL := tb_1 (List.mem_of_getElem? (i := 18) rfl) rfl
theorem wd_1_19 : Cond.instantiable RX1 8 ∈ AL := tb_1 (List.mem_of_getElem? (i := 19) rfl) rfl
theorem wn_1_20 : Cond.methodLinkNest RX6 11 yX1_init "WindFrontiers" ∈ lw_tbl := List.mem_append_right _ (List.mem_append_left _ (List.mem_of_getElem? (i := 20) rfl))
theorem wd_1_21 : Cond.instanceMethod yX1_init ∈ AL := tb_1 (List.mem_of_getElem? (i := 21) rfl) rfl
theorem wd_1_22 : Cond.code yX1_init cX1_init 1 none ∈ AL := tb_1 (List.mem_of_getElem? (i := 22) rfl) rfl
theorem wd_1_23 : Cond.methodLink RX1 3 objectInit ∈ AL := tb_1 (List.mem_of_getElem? (i := 23) rfl) rfl
theorem wd_1_24 : Cond.classLink RX1 9 RX5 ∈ AL := tb_1 (List.mem_of_getElem? (i := 24) rfl) rfl
theorem wd_1_25 : Cond.instantiable RX5 2 ∈ AL := tb_1 (List.mem_of_getElem? (i := 25) rfl) rfl
theorem wn_1_26 : Cond.methodLinkNest RX1 11 yX5_init "WindFrontiers" ∈ lw_tbl := List.mem_append_right _ (List.mem_append_left _ (List.mem_of_getElem? (i := 26) rfl))
theorem wd_1_27 : Cond.instanceMethod yX5_init ∈ AL := tb_1 (List.mem_of_getElem? (i := 27) rfl) rfl
theorem wd_1_28 : Cond.code yX5_init cX5_init 1 none ∈ AL := tb_1 (List.mem_of_getElem? (i := 28) rfl) rfl
theorem wd_1_29 : Cond.methodLink RX5 3 objectInit ∈ AL := tb_1 (List.mem_of_getElem? (i := 29) rfl) rfl
theorem wd_1_30 : Cond.fieldLink RX5 9 "WindFrontiers$Text" "bytes" "[I" ∈ AL := tb_1 (List.mem_of_getElem? (i := 30) rfl) rfl
theorem wd_1_31 : Cond.fieldLink RX5 15 "WindFrontiers$Text" "length" "I" ∈ AL := tb_1 (List.mem_of_getElem? (i := 31) rfl) rfl
theorem wd_1_32 : Cond.fieldLink RX6 65 "WindFrontiers$Text" "length" "I" ∈ AL := tb_1 (List.mem_of_getElem? (i := 32) rfl) rfl
theorem wd_1_33 : Cond.laysFinal RX5 "WindFrontiers$Text" "bytes" "[I" ∈ AL := tb_1 (List.mem_of_getElem? (i := 33) rfl) rfl
theorem wd_1_35 : Cond.lays RX5 "WindFrontiers$Text" "length" "I" ∈ AL := tb_1 (List.mem_of_getElem? (i := 35) rfl) rfl
theorem wd_1_38 : Cond.arrayClass FieldType.int ∈ AL := tb_1 (List.mem_of_getElem? (i := 38) rfl) rfl
theorem wd_1_39 : Cond.classLink RX1 18 RX4 ∈ AL := tb_1 (List.mem_of_getElem? (i := 39) rfl) rfl
theorem wd_1_40 : Cond.instantiable RX4 6 ∈ AL := tb_1 (List.mem_of_getElem? (i := 40) rfl) rfl
theorem wn_1_41 : Cond.methodLinkNest RX1 20 yX4_init "WindFrontiers" ∈ lw_tbl := List.mem_append_right _ (List.mem_append_left _ (List.mem_of_getElem? (i := 41) rfl))
theorem wd_1_42 : Cond.instanceMethod yX4_init ∈ AL := tb_1 (List.mem_of_getElem? (i := 42) rfl) rfl
theorem wd_1_43 : Cond.code yX4_init cX4_init 1 none ∈ AL := tb_1 (List.mem_of_getElem? (i := 43) rfl) rfl
theorem wd_1_44 : Cond.methodLink RX4 3 objectInit ∈ AL := tb_1 (List.mem_of_getElem? (i := 44) rfl) rfl
theorem wd_1_45 : Cond.fieldLink RX4 9 "WindFrontiers$Strand" "wide" "I" ∈ AL := tb_1 (List.mem_of_getElem? (i := 45) rfl) rfl
theorem wd_1_46 : Cond.fieldLink RX1 74 "WindFrontiers$Strand" "wide" "I" ∈ AL := tb_1 (List.mem_of_getElem? (i := 46) rfl) rfl
theorem wd_1_47 : Cond.fieldLink RX6 201 "WindFrontiers$Strand" "wide" "I" ∈ AL := tb_1 (List.mem_of_getElem? (i := 47) rfl) rfl
theorem wd_1_48 : Cond.fieldLink RX4 15 "WindFrontiers$Strand" "rows" "I" ∈ AL := tb_1 (List.mem_of_getElem? (i := 48) rfl) rfl
theorem wd_1_49 : Cond.fieldLink RX1 77 "WindFrontiers$Strand" "rows" "I" ∈ AL := tb_1 (List.mem_of_getElem? (i := 49) rfl) rfl
theorem wd_1_50 : Cond.fieldLink RX6 150 "WindFrontiers$Strand" "rows" "I" ∈ AL := tb_1 (List.mem_of_getElem? (i := 50) rfl) rfl
theorem wd_1_51 : Cond.fieldLink RX4 22 "WindFrontiers$Strand" "cloth" "I" ∈ AL := tb_1 (List.mem_of_getElem? (i := 51) rfl) rfl
theorem wd_1_52 : Cond.fieldLink RX6 103 "WindFrontiers$Strand" "cloth" "I" ∈ AL := tb_1 (List.mem_of_getElem? (i := 52) rfl) rfl
theorem wd_1_53 : Cond.fieldLink RX1 92 "WindFrontiers$Strand" "cloth" "I" ∈ AL := tb_1 (List.mem_of_getElem? (i := 53) rfl) rfl
theorem wd_1_54 : Cond.fieldLink RX4 25 "WindFrontiers$Strand" "wind" "I" ∈ AL := tb_1 (List.mem_of_getElem? (i := 54) rfl) rfl
theorem wd_1_55 : Cond.fieldLink RX1 95 "WindFrontiers$Strand" "wind" "I" ∈ AL := tb_1 (List.mem_of_getElem? (i := 55) rfl) rfl
theorem wd_1_56 : Cond.fieldLink RX6 144 "WindFrontiers$Strand" "wind" "I" ∈ AL := tb_1 (List.mem_of_getElem? (i := 56) rfl) rfl
theorem wd_1_57 : Cond.fieldLink RX4 28 "WindFrontiers$Strand" "tide" "I" ∈ AL := tb_1 (List.mem_of_getElem? (i := 57) rfl) rfl
theorem wd_1_58 : Cond.fieldLink RX0 67 "WindFrontiers$Strand" "tide" "I" ∈ AL := tb_1 (List.mem_of_getElem? (i := 58) rfl) rfl
theorem wd_1_59 : Cond.fieldLink RX6 147 "WindFrontiers$Strand" "tide" "I" ∈ AL := tb_1 (List.mem_of_getElem? (i := 59) rfl) rfl
theorem wd_1_60 : Cond.fieldLink RX4 18 "WindFrontiers$Strand" "held" "[I" ∈ AL := tb_1 (List.mem_of_getElem? (i := 60) rfl) rfl
theorem wd_1_61 : Cond.lays RX4 "WindFrontiers$Strand" "wide" "I" ∈ AL := tb_1 (List.mem_of_getElem? (i := 61) rfl) rfl
theorem wd_1_63 : Cond.lays RX4 "WindFrontiers$Strand" "rows" "I" ∈ AL := tb_1 (List.mem_of_getElem? (i := 63) rfl) rfl
theorem wd_1_65 : Cond.lays RX4 "WindFrontiers$Strand" "cloth" "I" ∈ AL := tb_1 (List.mem_of_getElem? (i := 65) rfl) rfl
theorem wd_1_67 : Cond.lays RX4 "WindFrontiers$Strand" "wind" "I" ∈ AL := tb_1 (List.mem_of_getElem? (i := 67) rfl) rfl
theorem wd_1_69 : Cond.lays RX4 "WindFrontiers$Strand" "tide" "I" ∈ AL := tb_1 (List.mem_of_getElem? (i := 69) rfl) rfl
theorem wd_1_71 : Cond.laysFinal RX4 "WindFrontiers$Strand" "held" "[I" ∈ AL := tb_1 (List.mem_of_getElem? (i := 71) rfl) rfl
theorem wd_1_74 : Cond.fieldLink RX1 12 "WindFrontiers$Reader" "text" "LWindFrontiers$Text;" ∈ AL := tb_1 (List.mem_of_getElem? (i := 74) rfl) rfl
theorem wd_1_75 : Cond.fieldLink RX6 16 "WindFrontiers$Reader" "text" "LWindFrontiers$Text;" ∈ AL := tb_1 (List.mem_of_getElem? (i := 75) rfl) rfl
theorem wd_1_76 : Cond.fieldLink RX1 21 "WindFrontiers$Reader" "draft" "LWindFrontiers$Strand;" ∈ AL := tb_1 (List.mem_of_getElem? (i := 76) rfl) rfl
theorem wd_1_77 : Cond.fieldLink RX6 73 "WindFrontiers$Reader" "draft" "LWindFrontiers$Strand;" ∈ AL := tb_1 (List.mem_of_getElem? (i := 77) rfl) rfl
theorem wd_1_78 : Cond.fieldLink RX1 28 "WindFrontiers$Reader" "place" "I" ∈ AL := tb_1 (List.mem_of_getElem? (i := 78) rfl) rfl
theorem wd_1_79 : Cond.fieldLink RX1 49 "WindFrontiers$Reader" "start" "I" ∈ AL := tb_1 (List.mem_of_getElem? (i := 79) rfl) rfl
theorem wd_1_80 : Cond.fieldLink RX1 42 "WindFrontiers$Reader" "token" "I" ∈ AL := tb_1 (List.mem_of_getElem? (i := 80) rfl) rfl
theorem wd_1_81 : Cond.fieldLink RX1 52 "WindFrontiers$Reader" "value" "I" ∈ AL := tb_1 (List.mem_of_getElem? (i := 81) rfl) rfl
theorem wd_1_82 : Cond.fieldLink RX1 32 "WindFrontiers$Reader" "items" "I" ∈ AL := tb_1 (List.mem_of_getElem? (i := 82) rfl) rfl
theorem wd_1_83 : Cond.fieldLink RX1 35 "WindFrontiers$Reader" "windTold" "Z" ∈ AL := tb_1 (List.mem_of_getElem? (i := 83) rfl) rfl
theorem wd_1_84 : Cond.laysFinal RX1 "WindFrontiers$Reader" "text" "LWindFrontiers$Text;" ∈ AL := tb_1 (List.mem_of_getElem? (i := 84) rfl) rfl
theorem wd_1_86 : Cond.laysFinal RX1 "WindFrontiers$Reader" "draft" "LWindFrontiers$Strand;" ∈ AL := tb_1 (List.mem_of_getElem? (i := 86) rfl) rfl
theorem wd_1_88 : Cond.lays RX1 "WindFrontiers$Reader" "place" "I" ∈ AL := tb_1 (List.mem_of_getElem? (i := 88) rfl) rfl
theorem wd_1_90 : Cond.lays RX1 "WindFrontiers$Reader" "start" "I" ∈ AL := tb_1 (List.mem_of_getElem? (i := 90) rfl) rfl
theorem wd_1_92 : Cond.lays RX1 "WindFrontiers$Reader" "token" "I" ∈ AL := tb_1 (List.mem_of_getElem? (i := 92) rfl) rfl
theorem wd_1_94 : Cond.lays RX1 "WindFrontiers$Reader" "value" "I" ∈ AL := tb_1 (List.mem_of_getElem? (i := 94) rfl) rfl
theorem wd_1_96 : Cond.lays RX1 "WindFrontiers$Reader" "items" "I" ∈ AL := tb_1 (List.mem_of_getElem? (i := 96) rfl) rfl
theorem wd_1_98 : Cond.lays RX1 "WindFrontiers$Reader" "windTold" "Z" ∈ AL := tb_1 (List.mem_of_getElem? (i := 98) rfl) rfl
theorem wd_1_101 : Cond.classLink RX6 21 RX3 ∈ AL := tb_1 (List.mem_of_getElem? (i := 101) rfl) rfl
theorem wd_1_102 : Cond.instantiable RX3 4 ∈ AL := tb_1 (List.mem_of_getElem? (i := 102) rfl) rfl
theorem wd_1_103 : Cond.methodLink RX6 23 yX3_init ∈ AL := tb_1 (List.mem_of_getElem? (i := 103) rfl) rfl
theorem wd_1_104 : Cond.instanceMethod yX3_init ∈ AL := tb_1 (List.mem_of_getElem? (i := 104) rfl) rfl
theorem wd_1_105 : Cond.code yX3_init cX3_init 2 none ∈ AL := tb_1 (List.mem_of_getElem? (i := 105) rfl) rfl
theorem wd_1_106 : Cond.methodLink RX3 3 objectInit ∈ AL := tb_1 (List.mem_of_getElem? (i := 106) rfl) rfl
theorem wd_1_107 : Cond.classLink RX3 9 RX4 ∈ AL := tb_1 (List.mem_of_getElem? (i := 107) rfl) rfl
theorem wn_1_108 : Cond.methodLinkNest RX3 11 yX4_init "WindFrontiers" ∈ lw_tbl := List.mem_append_right _ (List.mem_append_left _ (List.mem_of_getElem? (i := 108) rfl))
theorem wn_1_109 : Cond.arrayOver (FieldType.object "WindFrontiers$Strand") ∈ lw_tbl := List.mem_append_right _ (List.mem_append_left _ (List.mem_of_getElem? (i := 109) rfl))
theorem wd_1_110 : Cond.fieldLink RX3 12 "WindFrontiers$Story" "present" "LWindFrontiers$Strand;" ∈ AL := tb_1 (List.mem_of_getElem? (i := 110) rfl) rfl
theorem wd_1_111 : Cond.fieldLink RX6 28 "WindFrontiers$Story" "present" "LWindFrontiers$Strand;" ∈ AL := tb_1 (List.mem_of_getElem? (i := 111) rfl) rfl
theorem wd_1_112 : Cond.fieldLink RX3 18 "WindFrontiers$Story" "before" "[LWindFrontiers$Strand;" ∈ AL := tb_1 (List.mem_of_getElem? (i := 112) rfl) rfl
theorem wd_1_113 : Cond.fieldLink RX3 22 "WindFrontiers$Story" "undoable" "I" ∈ AL := tb_1 (List.mem_of_getElem? (i := 113) rfl) rfl
theorem wd_1_114 : Cond.fieldLink RX6 82 "WindFrontiers$Story" "undoable" "I" ∈ AL := tb_1 (List.mem_of_getElem? (i := 114) rfl) rfl
theorem wd_1_115 : Cond.fieldLink RX6 85 "WindFrontiers$Story" "kept" "Z" ∈ AL := tb_1 (List.mem_of_getElem? (i := 115) rfl) rfl
theorem wd_1_116 : Cond.laysFinal RX3 "WindFrontiers$Story" "present" "LWindFrontiers$Strand;" ∈ AL := tb_1 (List.mem_of_getElem? (i := 116) rfl) rfl
theorem wd_1_118 : Cond.laysFinal RX3 "WindFrontiers$Story" "before" "[LWindFrontiers$Strand;" ∈ AL := tb_1 (List.mem_of_getElem? (i := 118) rfl) rfl
theorem wd_1_120 : Cond.lays RX3 "WindFrontiers$Story" "undoable" "I" ∈ AL := tb_1 (List.mem_of_getElem? (i := 120) rfl) rfl
theorem wd_1_122 : Cond.lays RX3 "WindFrontiers$Story" "kept" "Z" ∈ AL := tb_1 (List.mem_of_getElem? (i := 122) rfl) rfl
theorem wd_1_125 : Cond.classLink RX6 41 RX2 ∈ AL := tb_1 (List.mem_of_getElem? (i := 125) rfl) rfl
theorem wd_1_126 : Cond.instantiable RX2 5 ∈ AL := tb_1 (List.mem_of_getElem? (i := 126) rfl) rfl
theorem wn_1_127 : Cond.methodLinkNest RX6 43 yX2_init "WindFrontiers" ∈ lw_tbl := List.mem_append_right _ (List.mem_append_left _ (List.mem_of_getElem? (i := 127) rfl))
theorem wd_1_128 : Cond.instanceMethod yX2_init ∈ AL := tb_1 (List.mem_of_getElem? (i := 128) rfl) rfl
theorem wd_1_129 : Cond.code yX2_init cX2_init 1 none ∈ AL := tb_1 (List.mem_of_getElem? (i := 129) rfl) rfl
theorem wd_1_130 : Cond.methodLink RX2 3 objectInit ∈ AL := tb_1 (List.mem_of_getElem? (i := 130) rfl) rfl
theorem wd_1_131 : Cond.fieldLink RX2 9 "WindFrontiers$Seen" "much" "I" ∈ AL := tb_1 (List.mem_of_getElem? (i := 131) rfl) rfl
theorem wd_1_132 : Cond.fieldLink RX6 183 "WindFrontiers$Seen" "much" "I" ∈ AL := tb_1 (List.mem_of_getElem? (i := 132) rfl) rfl
theorem wd_1_133 : Cond.fieldLink RX2 15 "WindFrontiers$Seen" "stillByLeft" "I" ∈ AL := tb_1 (List.mem_of_getElem? (i := 133) rfl) rfl
theorem wd_1_134 : Cond.fieldLink RX2 18 "WindFrontiers$Seen" "stillByRight" "I" ∈ AL := tb_1 (List.mem_of_getElem? (i := 134) rfl) rfl
theorem wd_1_135 : Cond.fieldLink RX2 21 "WindFrontiers$Seen" "openByLeft" "I" ∈ AL := tb_1 (List.mem_of_getElem? (i := 135) rfl) rfl
theorem wd_1_136 : Cond.fieldLink RX2 24 "WindFrontiers$Seen" "openByRight" "I" ∈ AL := tb_1 (List.mem_of_getElem? (i := 136) rfl) rfl
theorem wd_1_137 : Cond.lays RX2 "WindFrontiers$Seen" "much" "I" ∈ AL := tb_1 (List.mem_of_getElem? (i := 137) rfl) rfl
theorem wd_1_139 : Cond.lays RX2 "WindFrontiers$Seen" "stillByLeft" "I" ∈ AL := tb_1 (List.mem_of_getElem? (i := 139) rfl) rfl
theorem wd_1_141 : Cond.lays RX2 "WindFrontiers$Seen" "stillByRight" "I" ∈ AL := tb_1 (List.mem_of_getElem? (i := 141) rfl) rfl
theorem wd_1_143 : Cond.lays RX2 "WindFrontiers$Seen" "openByLeft" "I" ∈ AL := tb_1 (List.mem_of_getElem? (i := 143) rfl) rfl
theorem wd_1_145 : Cond.lays RX2 "WindFrontiers$Seen" "openByRight" "I" ∈ AL := tb_1 (List.mem_of_getElem? (i := 145) rfl) rfl
theorem wd_1_148 : Cond.classLink RX6 48 RX0 ∈ AL := tb_1 (List.mem_of_getElem? (i := 148) rfl) rfl
theorem wd_1_149 : Cond.instantiable RX0 1 ∈ AL := tb_1 (List.mem_of_getElem? (i := 149) rfl) rfl
theorem wn_1_150 : Cond.methodLinkNest RX6 50 yX0_init "WindFrontiers" ∈ lw_tbl := List.mem_append_right _ (List.mem_append_left _ (List.mem_of_getElem? (i := 150) rfl))
theorem wd_1_151 : Cond.instanceMethod yX0_init ∈ AL := tb_1 (List.mem_of_getElem? (i := 151) rfl) rfl
theorem wd_1_152 : Cond.code yX0_init cX0_init 1 none ∈ AL := tb_1 (List.mem_of_getElem? (i := 152) rfl) rfl
theorem wd_1_153 : Cond.methodLink RX0 3 objectInit ∈ AL := tb_1 (List.mem_of_getElem? (i := 153) rfl) rfl
theorem wd_1_154 : Cond.fieldLink RX0 34 "WindFrontiers$Marks" "sum" "J" ∈ AL := tb_1 (List.mem_of_getElem? (i := 154) rfl) rfl
theorem wd_1_155 : Cond.fieldLink RX6 204 "WindFrontiers$Marks" "sum" "J" ∈ AL := tb_1 (List.mem_of_getElem? (i := 155) rfl) rfl
theorem wd_1_156 : Cond.lays RX0 "WindFrontiers$Marks" "sum" "J" ∈ AL := tb_1 (List.mem_of_getElem? (i := 156) rfl) rfl
theorem wd_1_159 : Cond.fieldLink RX6 12 "WindFrontiers" "reader" "LWindFrontiers$Reader;" ∈ AL := tb_1 (List.mem_of_getElem? (i := 159) rfl) rfl
theorem wd_1_160 : Cond.fieldLink RX6 20 "WindFrontiers" "text" "LWindFrontiers$Text;" ∈ AL := tb_1 (List.mem_of_getElem? (i := 160) rfl) rfl
theorem wd_1_161 : Cond.fieldLink RX6 24 "WindFrontiers" "story" "LWindFrontiers$Story;" ∈ AL := tb_1 (List.mem_of_getElem? (i := 161) rfl) rfl
theorem wd_1_162 : Cond.fieldLink RX6 32 "WindFrontiers" "shore" "LWindFrontiers$Strand;" ∈ AL := tb_1 (List.mem_of_getElem? (i := 162) rfl) rfl
theorem wd_1_163 : Cond.fieldLink RX6 35 "WindFrontiers" "firstImage" "LWindFrontiers$Story;" ∈ AL := tb_1 (List.mem_of_getElem? (i := 163) rfl) rfl
theorem wd_1_164 : Cond.fieldLink RX6 38 "WindFrontiers" "secondImage" "LWindFrontiers$Story;" ∈ AL := tb_1 (List.mem_of_getElem? (i := 164) rfl) rfl
theorem wd_1_165 : Cond.fieldLink RX6 44 "WindFrontiers" "seen" "LWindFrontiers$Seen;" ∈ AL := tb_1 (List.mem_of_getElem? (i := 165) rfl) rfl
theorem wd_1_166 : Cond.fieldLink RX6 51 "WindFrontiers" "marks" "LWindFrontiers$Marks;" ∈ AL := tb_1 (List.mem_of_getElem? (i := 166) rfl) rfl
theorem wd_1_167 : Cond.laysFinal RX6 "WindFrontiers" "reader" "LWindFrontiers$Reader;" ∈ AL := tb_1 (List.mem_of_getElem? (i := 167) rfl) rfl
theorem wd_1_169 : Cond.laysFinal RX6 "WindFrontiers" "text" "LWindFrontiers$Text;" ∈ AL := tb_1 (List.mem_of_getElem? (i := 169) rfl) rfl
theorem wd_1_171 : Cond.laysFinal RX6 "WindFrontiers" "story" "LWindFrontiers$Story;" ∈ AL := tb_1 (List.mem_of_getElem? (i := 171) rfl) rfl
theorem wd_1_173 : Cond.laysFinal RX6 "WindFrontiers" "shore" "LWindFrontiers$Strand;" ∈ AL := tb_1 (List.mem_of_getElem? (i := 173) rfl) rfl
theorem wd_1_175 : Cond.laysFinal RX6 "WindFrontiers" "firstImage" "LWindFrontiers$Story;" ∈ AL := tb_1 (List.mem_of_getElem? (i := 175) rfl) rfl
theorem wd_1_177 : Cond.laysFinal RX6 "WindFrontiers" "secondImage" "LWindFrontiers$Story;" ∈ AL := tb_1 (List.mem_of_getElem? (i := 177) rfl) rfl
theorem wd_1_179 : Cond.laysFinal RX6 "WindFrontiers" "seen" "LWindFrontiers$Seen;" ∈ AL := tb_1 (List.mem_of_getElem? (i := 179) rfl) rfl
theorem wd_1_181 : Cond.laysFinal RX6 "WindFrontiers" "marks" "LWindFrontiers$Marks;" ∈ AL := tb_1 (List.mem_of_getElem? (i := 181) rfl) rfl
theorem wd_1_184 : Cond.methodLink RL 13 yX6_type ∈ AL := tb_1 (List.mem_of_getElem? (i := 184) rfl) rfl
theorem wd_1_185 : Cond.instanceMethod yX6_type ∈ AL := tb_1 (List.mem_of_getElem? (i := 185) rfl) rfl
theorem wd_1_186 : Cond.selects RX6 yX6_type yX6_type ∈ AL := tb_1 (List.mem_of_getElem? (i := 186) rfl) rfl
theorem wd_1_187 : Cond.code yX6_type cX6_type 2 (some .int) ∈ AL := tb_1 (List.mem_of_getElem? (i := 187) rfl) rfl
theorem wd_1_188 : Cond.methodLink RX6 55 yX6_isWithin ∈ AL := tb_1 (List.mem_of_getElem? (i := 188) rfl) rfl
theorem wd_1_189 : Cond.static yX6_isWithin ∈ AL := tb_1 (List.mem_of_getElem? (i := 189) rfl) rfl
theorem wd_1_190 : Cond.code yX6_isWithin cX6_isWithin 2 (some .boolean) ∈ AL := tb_1 (List.mem_of_getElem? (i := 190) rfl) rfl
theorem wd_1_191 : Cond.methodLink RX6 59 yX5_append ∈ AL := tb_1 (List.mem_of_getElem? (i := 191) rfl) rfl
theorem wd_1_192 : Cond.instanceMethod yX5_append ∈ AL := tb_1 (List.mem_of_getElem? (i := 192) rfl) rfl
theorem wd_1_193 : Cond.selects RX5 yX5_append yX5_append ∈ AL := tb_1 (List.mem_of_getElem? (i := 193) rfl) rfl
theorem wd_1_194 : Cond.code yX5_append cX5_append 2 (some .boolean) ∈ AL := tb_1 (List.mem_of_getElem? (i := 194) rfl) rfl
theorem wd_1_195 : Cond.methodLink RL 18 yX6_clear ∈ AL := tb_1 (List.mem_of_getElem? (i := 195) rfl) rfl
theorem wd_1_196 : Cond.instanceMethod yX6_clear ∈ AL := tb_1 (List.mem_of_getElem? (i := 196) rfl) rfl
theorem wd_1_197 : Cond.selects RX6 yX6_clear yX6_clear ∈ AL := tb_1 (List.mem_of_getElem? (i := 197) rfl) rfl
theorem wd_1_198 : Cond.code yX6_clear cX6_clear 2 (some .int) ∈ AL := tb_1 (List.mem_of_getElem? (i := 198) rfl) rfl
theorem wd_1_199 : Cond.methodLink RL 23 yX6_strand ∈ AL := tb_1 (List.mem_of_getElem? (i := 199) rfl) rfl
theorem wd_1_200 : Cond.instanceMethod yX6_strand ∈ AL := tb_1 (List.mem_of_getElem? (i := 200) rfl) rfl
theorem wd_1_201 : Cond.selects RX6 yX6_strand yX6_strand ∈ AL := tb_1 (List.mem_of_getElem? (i := 201) rfl) rfl
theorem wd_1_202 : Cond.code yX6_strand cX6_strand 2 (some .int) ∈ AL := tb_1 (List.mem_of_getElem? (i := 202) rfl) rfl
theorem wd_1_203 : Cond.methodLink RX6 69 yX1_readAll ∈ AL := tb_1 (List.mem_of_getElem? (i := 203) rfl) rfl
theorem wd_1_204 : Cond.instanceMethod yX1_readAll ∈ AL := tb_1 (List.mem_of_getElem? (i := 204) rfl) rfl
theorem wd_1_205 : Cond.selects RX1 yX1_readAll yX1_readAll ∈ AL := tb_1 (List.mem_of_getElem? (i := 205) rfl) rfl
theorem wd_1_206 : Cond.code yX1_readAll cX1_readAll 2 (some .int) ∈ AL := tb_1 (List.mem_of_getElem? (i := 206) rfl) rfl
theorem wd_1_207 : Cond.methodLink RX1 25 yX4_startAnew ∈ AL := tb_1 (List.mem_of_getElem? (i := 207) rfl) rfl
theorem wd_1_208 : Cond.instanceMethod yX4_startAnew ∈ AL := tb_1 (List.mem_of_getElem? (i := 208) rfl) rfl
theorem wd_1_209 : Cond.selects RX4 yX4_startAnew yX4_startAnew ∈ AL := tb_1 (List.mem_of_getElem? (i := 209) rfl) rfl
theorem wd_1_210 : Cond.code yX4_startAnew cX4_startAnew 1 none ∈ AL := tb_1 (List.mem_of_getElem? (i := 210) rfl) rfl
theorem wd_1_211 : Cond.methodLink RX4 31 yX4_freeAllBut ∈ AL := tb_1 (List.mem_of_getElem? (i := 211) rfl) rfl
theorem wd_1_212 : Cond.instanceMethod yX4_freeAllBut ∈ AL := tb_1 (List.mem_of_getElem? (i := 212) rfl) rfl
theorem wd_1_213 : Cond.selects RX4 yX4_freeAllBut yX4_freeAllBut ∈ AL := tb_1 (List.mem_of_getElem? (i := 213) rfl) rfl
theorem wd_1_214 : Cond.code yX4_freeAllBut cX4_freeAllBut 3 none ∈ AL := tb_1 (List.mem_of_getElem? (i := 214) rfl) rfl
theorem wd_1_215 : Cond.methodLink RX1 39 yX1_readToken ∈ AL := tb_1 (List.mem_of_getElem? (i := 215) rfl) rfl
theorem wd_1_217 : Cond.instanceMethod yX1_readToken ∈ AL := tb_1 (List.mem_of_getElem? (i := 217) rfl) rfl
theorem wd_1_218 : Cond.code yX1_readToken cX1_readToken 4 none ∈ AL := tb_1 (List.mem_of_getElem? (i := 218) rfl) rfl
theorem wd_1_219 : Cond.methodLink RX1 102 yX5_byteAt ∈ AL := tb_1 (List.mem_of_getElem? (i := 219) rfl) rfl
theorem wd_1_220 : Cond.instanceMethod yX5_byteAt ∈ AL := tb_1 (List.mem_of_getElem? (i := 220) rfl) rfl
theorem wd_1_221 : Cond.selects RX5 yX5_byteAt yX5_byteAt ∈ AL := tb_1 (List.mem_of_getElem? (i := 221) rfl) rfl
theorem wd_1_222 : Cond.code yX5_byteAt cX5_byteAt 2 (some .int) ∈ AL := tb_1 (List.mem_of_getElem? (i := 222) rfl) rfl
theorem wd_1_223 : Cond.methodLink RX1 105 yX1_tokenOf ∈ AL := tb_1 (List.mem_of_getElem? (i := 223) rfl) rfl
theorem wd_1_224 : Cond.static yX1_tokenOf ∈ AL := tb_1 (List.mem_of_getElem? (i := 224) rfl) rfl
theorem wd_1_225 : Cond.code yX1_tokenOf cX1_tokenOf 1 (some .int) ∈ AL := tb_1 (List.mem_of_getElem? (i := 225) rfl) rfl
theorem wd_1_226 : Cond.methodLink RX1 45 yX1_isItem ∈ AL := tb_1 (List.mem_of_getElem? (i := 226) rfl) rfl
theorem wd_1_228 : Cond.instanceMethod yX1_isItem ∈ AL := tb_1 (List.mem_of_getElem? (i := 228) rfl) rfl
theorem wd_1_229 : Cond.code yX1_isItem cX1_isItem 1 (some .boolean) ∈ AL := tb_1 (List.mem_of_getElem? (i := 229) rfl) rfl
theorem wd_1_230 : Cond.methodLink RX1 55 yX1_isSize ∈ AL := tb_1 (List.mem_of_getElem? (i := 230) rfl) rfl
theorem wd_1_232 : Cond.instanceMethod yX1_isSize ∈ AL := tb_1 (List.mem_of_getElem? (i := 232) rfl) rfl
theorem wd_1_233 : Cond.code yX1_isSize cX1_isSize 1 (some .boolean) ∈ AL := tb_1 (List.mem_of_getElem? (i := 233) rfl) rfl
theorem wd_1_234 : Cond.methodLink RX1 70 yX1_isNumber ∈ AL := tb_1 (List.mem_of_getElem? (i := 234) rfl) rfl
theorem wd_1_236 : Cond.instanceMethod yX1_isNumber ∈ AL := tb_1 (List.mem_of_getElem? (i := 236) rfl) rfl
theorem wd_1_237 : Cond.code yX1_isNumber cX1_isNumber 3 (some .boolean) ∈ AL := tb_1 (List.mem_of_getElem? (i := 237) rfl) rfl
theorem wd_1_238 : Cond.methodLink RX1 58 yX1_isStop ∈ AL := tb_1 (List.mem_of_getElem? (i := 238) rfl) rfl
theorem wd_2_0 : Cond.instanceMethod yX1_isStop ∈ AL := tb_2 (List.mem_of_getElem? (i := 0) rfl) rfl
theorem wd_2_1 : Cond.code yX1_isStop cX1_isStop 1 (some .boolean) ∈ AL := tb_2 (List.mem_of_getElem? (i := 1) rfl) rfl
theorem wd_2_2 : Cond.methodLink RX1 61 yX1_isHolder ∈ AL := tb_2 (List.mem_of_getElem? (i := 2) rfl) rfl
theorem wd_2_4 : Cond.instanceMethod yX1_isHolder ∈ AL := tb_2 (List.mem_of_getElem? (i := 4) rfl) rfl
theorem wd_2_5 : Cond.code yX1_isHolder cX1_isHolder 3 (some .boolean) ∈ AL := tb_2 (List.mem_of_getElem? (i := 5) rfl) rfl
theorem wd_2_6 : Cond.methodLink RX1 80 yX4_heldByAny ∈ AL := tb_2 (List.mem_of_getElem? (i := 6) rfl) rfl
theorem wd_2_7 : Cond.instanceMethod yX4_heldByAny ∈ AL := tb_2 (List.mem_of_getElem? (i := 7) rfl) rfl
theorem wd_2_8 : Cond.selects RX4 yX4_heldByAny yX4_heldByAny ∈ AL := tb_2 (List.mem_of_getElem? (i := 8) rfl) rfl
theorem wd_2_9 : Cond.code yX4_heldByAny cX4_heldByAny 3 (some .int) ∈ AL := tb_2 (List.mem_of_getElem? (i := 9) rfl) rfl
theorem wd_2_10 : Cond.methodLink RX1 84 yX1_readFreeBit ∈ AL := tb_2 (List.mem_of_getElem? (i := 10) rfl) rfl
theorem wd_2_12 : Cond.instanceMethod yX1_readFreeBit ∈ AL := tb_2 (List.mem_of_getElem? (i := 12) rfl) rfl
theorem wd_2_13 : Cond.code yX1_readFreeBit cX1_readFreeBit 3 (some .int) ∈ AL := tb_2 (List.mem_of_getElem? (i := 13) rfl) rfl
theorem wn_2_14 : Cond.methodLinkNest RX1 98 yX6_bitOf "WindFrontiers" ∈ lw_tbl := List.mem_append_right _ (List.mem_append_right _ (List.mem_append_left _ (List.mem_of_getElem? (i := 14) rfl)))
theorem wd_2_15 : Cond.static yX6_bitOf ∈ AL := tb_2 (List.mem_of_getElem? (i := 15) rfl) rfl
theorem wd_2_16 : Cond.code yX6_bitOf cX6_bitOf 2 (some .int) ∈ AL := tb_2 (List.mem_of_getElem? (i := 16) rfl) rfl
theorem wd_2_17 : Cond.methodLink RX1 88 yX4_give ∈ AL := tb_2 (List.mem_of_getElem? (i := 17) rfl) rfl
theorem wd_2_18 : Cond.instanceMethod yX4_give ∈ AL := tb_2 (List.mem_of_getElem? (i := 18) rfl) rfl
theorem wd_2_19 : Cond.selects RX4 yX4_give yX4_give ∈ AL := tb_2 (List.mem_of_getElem? (i := 19) rfl) rfl
theorem wd_2_20 : Cond.code yX4_give cX4_give 3 none ∈ AL := tb_2 (List.mem_of_getElem? (i := 20) rfl) rfl
theorem wd_2_21 : Cond.methodLink RX1 64 yX1_isCloth ∈ AL := tb_2 (List.mem_of_getElem? (i := 21) rfl) rfl
theorem wd_2_23 : Cond.instanceMethod yX1_isCloth ∈ AL := tb_2 (List.mem_of_getElem? (i := 23) rfl) rfl
theorem wd_2_24 : Cond.code yX1_isCloth cX1_isCloth 2 (some .boolean) ∈ AL := tb_2 (List.mem_of_getElem? (i := 24) rfl) rfl
theorem wd_2_25 : Cond.methodLink RX1 67 yX1_isWind ∈ AL := tb_2 (List.mem_of_getElem? (i := 25) rfl) rfl
theorem wd_2_27 : Cond.instanceMethod yX1_isWind ∈ AL := tb_2 (List.mem_of_getElem? (i := 27) rfl) rfl
theorem wd_2_28 : Cond.code yX1_isWind cX1_isWind 1 (some .boolean) ∈ AL := tb_2 (List.mem_of_getElem? (i := 28) rfl) rfl
theorem wd_2_29 : Cond.methodLink RX6 76 yX4_becomes ∈ AL := tb_2 (List.mem_of_getElem? (i := 29) rfl) rfl
theorem wd_2_30 : Cond.instanceMethod yX4_becomes ∈ AL := tb_2 (List.mem_of_getElem? (i := 30) rfl) rfl
theorem wd_2_31 : Cond.selects RX4 yX4_becomes yX4_becomes ∈ AL := tb_2 (List.mem_of_getElem? (i := 31) rfl) rfl
theorem wd_2_32 : Cond.code yX4_becomes cX4_becomes 3 none ∈ AL := tb_2 (List.mem_of_getElem? (i := 32) rfl) rfl
theorem wd_2_33 : Cond.methodLink RX4 35 yX4_heldBy ∈ AL := tb_2 (List.mem_of_getElem? (i := 33) rfl) rfl
theorem wd_2_34 : Cond.instanceMethod yX4_heldBy ∈ AL := tb_2 (List.mem_of_getElem? (i := 34) rfl) rfl
theorem wd_2_35 : Cond.selects RX4 yX4_heldBy yX4_heldBy ∈ AL := tb_2 (List.mem_of_getElem? (i := 35) rfl) rfl
theorem wd_2_36 : Cond.code yX4_heldBy cX4_heldBy 2 (some .int) ∈ AL := tb_2 (List.mem_of_getElem? (i := 36) rfl) rfl
theorem wd_2_37 : Cond.methodLink RX6 89 yX2_dropAll ∈ AL := tb_2 (List.mem_of_getElem? (i := 37) rfl) rfl
theorem wd_2_38 : Cond.instanceMethod yX2_dropAll ∈ AL := tb_2 (List.mem_of_getElem? (i := 38) rfl) rfl
theorem wd_2_39 : Cond.selects RX2 yX2_dropAll yX2_dropAll ∈ AL := tb_2 (List.mem_of_getElem? (i := 39) rfl) rfl
theorem wd_2_40 : Cond.code yX2_dropAll cX2_dropAll 1 none ∈ AL := tb_2 (List.mem_of_getElem? (i := 40) rfl) rfl
theorem wd_2_41 : Cond.methodLink RL 27 yX6_cell ∈ AL := tb_2 (List.mem_of_getElem? (i := 41) rfl) rfl
theorem wd_2_42 : Cond.instanceMethod yX6_cell ∈ AL := tb_2 (List.mem_of_getElem? (i := 42) rfl) rfl
theorem wd_2_43 : Cond.selects RX6 yX6_cell yX6_cell ∈ AL := tb_2 (List.mem_of_getElem? (i := 43) rfl) rfl
theorem wd_2_44 : Cond.code yX6_cell cX6_cell 5 (some .int) ∈ AL := tb_2 (List.mem_of_getElem? (i := 44) rfl) rfl
theorem wd_2_45 : Cond.methodLink RX6 92 yX4_isCell ∈ AL := tb_2 (List.mem_of_getElem? (i := 45) rfl) rfl
theorem wd_2_46 : Cond.instanceMethod yX4_isCell ∈ AL := tb_2 (List.mem_of_getElem? (i := 46) rfl) rfl
theorem wd_2_47 : Cond.selects RX4 yX4_isCell yX4_isCell ∈ AL := tb_2 (List.mem_of_getElem? (i := 47) rfl) rfl
theorem wd_2_48 : Cond.code yX4_isCell cX4_isCell 3 (some .boolean) ∈ AL := tb_2 (List.mem_of_getElem? (i := 48) rfl) rfl
theorem wn_2_49 : Cond.methodLinkNest RX4 39 yX6_isWithin "WindFrontiers" ∈ lw_tbl := List.mem_append_right _ (List.mem_append_right _ (List.mem_append_left _ (List.mem_of_getElem? (i := 49) rfl)))
theorem wd_2_50 : Cond.methodLink RX6 95 yX6_bitOf ∈ AL := tb_2 (List.mem_of_getElem? (i := 50) rfl) rfl
theorem wd_2_51 : Cond.methodLink RX6 99 yX4_holderOf ∈ AL := tb_2 (List.mem_of_getElem? (i := 51) rfl) rfl
theorem wd_2_52 : Cond.instanceMethod yX4_holderOf ∈ AL := tb_2 (List.mem_of_getElem? (i := 52) rfl) rfl
theorem wd_2_53 : Cond.selects RX4 yX4_holderOf yX4_holderOf ∈ AL := tb_2 (List.mem_of_getElem? (i := 53) rfl) rfl
theorem wd_2_54 : Cond.code yX4_holderOf cX4_holderOf 3 (some .int) ∈ AL := tb_2 (List.mem_of_getElem? (i := 54) rfl) rfl
theorem wd_2_55 : Cond.methodLink RX6 106 yX6_oneIf ∈ AL := tb_2 (List.mem_of_getElem? (i := 55) rfl) rfl
theorem wd_2_56 : Cond.static yX6_oneIf ∈ AL := tb_2 (List.mem_of_getElem? (i := 56) rfl) rfl
theorem wd_2_57 : Cond.code yX6_oneIf cX6_oneIf 1 (some .int) ∈ AL := tb_2 (List.mem_of_getElem? (i := 57) rfl) rfl
theorem wd_2_58 : Cond.methodLink RX6 110 yX4_dryCells ∈ AL := tb_2 (List.mem_of_getElem? (i := 58) rfl) rfl
theorem wd_2_59 : Cond.instanceMethod yX4_dryCells ∈ AL := tb_2 (List.mem_of_getElem? (i := 59) rfl) rfl
theorem wd_2_60 : Cond.selects RX4 yX4_dryCells yX4_dryCells ∈ AL := tb_2 (List.mem_of_getElem? (i := 60) rfl) rfl
theorem wd_2_61 : Cond.code yX4_dryCells cX4_dryCells 1 (some .int) ∈ AL := tb_2 (List.mem_of_getElem? (i := 61) rfl) rfl
theorem wd_2_62 : Cond.methodLink RX4 43 yX4_cellsFrom ∈ AL := tb_2 (List.mem_of_getElem? (i := 62) rfl) rfl
theorem wd_2_64 : Cond.instanceMethod yX4_cellsFrom ∈ AL := tb_2 (List.mem_of_getElem? (i := 64) rfl) rfl
theorem wd_2_65 : Cond.code yX4_cellsFrom cX4_cellsFrom 4 (some .int) ∈ AL := tb_2 (List.mem_of_getElem? (i := 65) rfl) rfl
theorem wd_2_66 : Cond.methodLink RX4 50 yX4_rowOf ∈ AL := tb_2 (List.mem_of_getElem? (i := 66) rfl) rfl
theorem wd_2_68 : Cond.instanceMethod yX4_rowOf ∈ AL := tb_2 (List.mem_of_getElem? (i := 68) rfl) rfl
theorem wd_2_69 : Cond.code yX4_rowOf cX4_rowOf 2 (some .int) ∈ AL := tb_2 (List.mem_of_getElem? (i := 69) rfl) rfl
theorem wd_2_70 : Cond.methodLink RX6 113 yX4_stillBy ∈ AL := tb_2 (List.mem_of_getElem? (i := 70) rfl) rfl
theorem wd_2_71 : Cond.instanceMethod yX4_stillBy ∈ AL := tb_2 (List.mem_of_getElem? (i := 71) rfl) rfl
theorem wd_2_72 : Cond.selects RX4 yX4_stillBy yX4_stillBy ∈ AL := tb_2 (List.mem_of_getElem? (i := 72) rfl) rfl
theorem wd_2_73 : Cond.code yX4_stillBy cX4_stillBy 2 (some .int) ∈ AL := tb_2 (List.mem_of_getElem? (i := 73) rfl) rfl
theorem wd_2_74 : Cond.methodLink RX4 53 yX4_stillWith ∈ AL := tb_2 (List.mem_of_getElem? (i := 74) rfl) rfl
theorem wd_2_75 : Cond.instanceMethod yX4_stillWith ∈ AL := tb_2 (List.mem_of_getElem? (i := 75) rfl) rfl
theorem wd_2_76 : Cond.selects RX4 yX4_stillWith yX4_stillWith ∈ AL := tb_2 (List.mem_of_getElem? (i := 76) rfl) rfl
theorem wd_2_77 : Cond.code yX4_stillWith cX4_stillWith 4 (some .int) ∈ AL := tb_2 (List.mem_of_getElem? (i := 77) rfl) rfl
theorem wd_2_78 : Cond.methodLink RX4 57 yX4_rightOf ∈ AL := tb_2 (List.mem_of_getElem? (i := 78) rfl) rfl
theorem wd_2_79 : Cond.static yX4_rightOf ∈ AL := tb_2 (List.mem_of_getElem? (i := 79) rfl) rfl
theorem wd_2_80 : Cond.code yX4_rightOf cX4_rightOf 1 (some .int) ∈ AL := tb_2 (List.mem_of_getElem? (i := 80) rfl) rfl
theorem wd_2_81 : Cond.constant RX4 93 (-541201) ∈ AL := tb_2 (List.mem_of_getElem? (i := 81) rfl) rfl
theorem wd_2_82 : Cond.methodLink RX4 60 yX4_leftOf ∈ AL := tb_2 (List.mem_of_getElem? (i := 82) rfl) rfl
theorem wd_2_83 : Cond.static yX4_leftOf ∈ AL := tb_2 (List.mem_of_getElem? (i := 83) rfl) rfl
theorem wd_2_84 : Cond.code yX4_leftOf cX4_leftOf 1 (some .int) ∈ AL := tb_2 (List.mem_of_getElem? (i := 84) rfl) rfl
theorem wd_2_85 : Cond.constant RX4 94 (-33826) ∈ AL := tb_2 (List.mem_of_getElem? (i := 85) rfl) rfl
theorem wd_2_86 : Cond.methodLink RX4 46 yX4_dryCells ∈ AL := tb_2 (List.mem_of_getElem? (i := 86) rfl) rfl
theorem wd_2_87 : Cond.methodLink RL 32 yX6_family ∈ AL := tb_2 (List.mem_of_getElem? (i := 87) rfl) rfl
theorem wd_2_88 : Cond.instanceMethod yX6_family ∈ AL := tb_2 (List.mem_of_getElem? (i := 88) rfl) rfl
theorem wd_2_89 : Cond.selects RX6 yX6_family yX6_family ∈ AL := tb_2 (List.mem_of_getElem? (i := 89) rfl) rfl
theorem wd_2_90 : Cond.code yX6_family cX6_family 3 (some .int) ∈ AL := tb_2 (List.mem_of_getElem? (i := 90) rfl) rfl
theorem wd_2_91 : Cond.methodLink RX6 116 yX6_isFamily ∈ AL := tb_2 (List.mem_of_getElem? (i := 91) rfl) rfl
theorem wd_2_92 : Cond.static yX6_isFamily ∈ AL := tb_2 (List.mem_of_getElem? (i := 92) rfl) rfl
theorem wd_2_93 : Cond.code yX6_isFamily cX6_isFamily 1 (some .boolean) ∈ AL := tb_2 (List.mem_of_getElem? (i := 93) rfl) rfl
theorem wd_2_94 : Cond.methodLink RX6 119 yX4_heldBy ∈ AL := tb_2 (List.mem_of_getElem? (i := 94) rfl) rfl
theorem wd_2_95 : Cond.methodLink RX6 122 yX4_shelterOf ∈ AL := tb_2 (List.mem_of_getElem? (i := 95) rfl) rfl
theorem wd_2_96 : Cond.instanceMethod yX4_shelterOf ∈ AL := tb_2 (List.mem_of_getElem? (i := 96) rfl) rfl
theorem wd_2_97 : Cond.selects RX4 yX4_shelterOf yX4_shelterOf ∈ AL := tb_2 (List.mem_of_getElem? (i := 97) rfl) rfl
theorem wd_2_98 : Cond.code yX4_shelterOf cX4_shelterOf 2 (some .int) ∈ AL := tb_2 (List.mem_of_getElem? (i := 98) rfl) rfl
theorem wd_2_99 : Cond.methodLink RX4 63 yX4_shelterWith ∈ AL := tb_2 (List.mem_of_getElem? (i := 99) rfl) rfl
theorem wd_2_100 : Cond.instanceMethod yX4_shelterWith ∈ AL := tb_2 (List.mem_of_getElem? (i := 100) rfl) rfl
theorem wd_2_101 : Cond.selects RX4 yX4_shelterWith yX4_shelterWith ∈ AL := tb_2 (List.mem_of_getElem? (i := 101) rfl) rfl
theorem wd_2_102 : Cond.code yX4_shelterWith cX4_shelterWith 3 (some .int) ∈ AL := tb_2 (List.mem_of_getElem? (i := 102) rfl) rfl
theorem wd_2_103 : Cond.methodLink RX4 66 yJ6_bitCount_0f7a4 ∈ AL := tb_2 (List.mem_of_getElem? (i := 103) rfl) rfl
theorem wd_2_104 : Cond.static yJ6_bitCount_0f7a4 ∈ AL := tb_2 (List.mem_of_getElem? (i := 104) rfl) rfl
theorem wd_2_105 : Cond.code yJ6_bitCount_0f7a4 cJ6_bitCount_0f7a4 1 (some .int) ∈ AL := tb_2 (List.mem_of_getElem? (i := 105) rfl) rfl
theorem wd_2_106 : Cond.constant RJ6 265 (1431655765) ∈ AL := tb_2 (List.mem_of_getElem? (i := 106) rfl) rfl
theorem wd_2_107 : Cond.constant RJ6 266 (858993459) ∈ AL := tb_2 (List.mem_of_getElem? (i := 107) rfl) rfl
theorem wd_2_108 : Cond.constant RJ6 267 (252645135) ∈ AL := tb_2 (List.mem_of_getElem? (i := 108) rfl) rfl
theorem wd_2_109 : Cond.methodLink RX6 125 yX4_losesAfter ∈ AL := tb_2 (List.mem_of_getElem? (i := 109) rfl) rfl
theorem wd_2_110 : Cond.instanceMethod yX4_losesAfter ∈ AL := tb_2 (List.mem_of_getElem? (i := 110) rfl) rfl
theorem wd_2_111 : Cond.selects RX4 yX4_losesAfter yX4_losesAfter ∈ AL := tb_2 (List.mem_of_getElem? (i := 111) rfl) rfl
theorem wd_2_112 : Cond.code yX4_losesAfter cX4_losesAfter 3 (some .int) ∈ AL := tb_2 (List.mem_of_getElem? (i := 112) rfl) rfl
theorem wd_2_113 : Cond.methodLink RL 37 yX6_takes ∈ AL := tb_2 (List.mem_of_getElem? (i := 113) rfl) rfl
theorem wd_2_114 : Cond.instanceMethod yX6_takes ∈ AL := tb_2 (List.mem_of_getElem? (i := 114) rfl) rfl
theorem wd_2_115 : Cond.selects RX6 yX6_takes yX6_takes ∈ AL := tb_2 (List.mem_of_getElem? (i := 115) rfl) rfl
theorem wd_2_116 : Cond.code yX6_takes cX6_takes 5 (some .int) ∈ AL := tb_2 (List.mem_of_getElem? (i := 116) rfl) rfl
theorem wd_2_117 : Cond.methodLink RX6 128 yX3_remember ∈ AL := tb_2 (List.mem_of_getElem? (i := 117) rfl) rfl
theorem wd_2_118 : Cond.instanceMethod yX3_remember ∈ AL := tb_2 (List.mem_of_getElem? (i := 118) rfl) rfl
theorem wd_2_119 : Cond.selects RX3 yX3_remember yX3_remember ∈ AL := tb_2 (List.mem_of_getElem? (i := 119) rfl) rfl
theorem wd_2_120 : Cond.code yX3_remember cX3_remember 1 none ∈ AL := tb_2 (List.mem_of_getElem? (i := 120) rfl) rfl
theorem wd_2_121 : Cond.methodLink RX3 26 yX3_dropOldest ∈ AL := tb_2 (List.mem_of_getElem? (i := 121) rfl) rfl
theorem wd_2_123 : Cond.instanceMethod yX3_dropOldest ∈ AL := tb_2 (List.mem_of_getElem? (i := 123) rfl) rfl
theorem wd_2_124 : Cond.code yX3_dropOldest cX3_dropOldest 2 none ∈ AL := tb_2 (List.mem_of_getElem? (i := 124) rfl) rfl
theorem wd_2_125 : Cond.methodLink RX3 29 yX3_beforeAt ∈ AL := tb_2 (List.mem_of_getElem? (i := 125) rfl) rfl
theorem wd_2_127 : Cond.instanceMethod yX3_beforeAt ∈ AL := tb_2 (List.mem_of_getElem? (i := 127) rfl) rfl
theorem wd_2_128 : Cond.code yX3_beforeAt cX3_beforeAt 2 (some (FieldType.object "WindFrontiers$Strand")) ∈ AL := tb_2 (List.mem_of_getElem? (i := 128) rfl) rfl
theorem wd_2_129 : Cond.methodLink RX3 33 yX3_copy ∈ AL := tb_2 (List.mem_of_getElem? (i := 129) rfl) rfl
theorem wd_2_130 : Cond.static yX3_copy ∈ AL := tb_2 (List.mem_of_getElem? (i := 130) rfl) rfl
theorem wd_2_131 : Cond.code yX3_copy cX3_copy 2 none ∈ AL := tb_2 (List.mem_of_getElem? (i := 131) rfl) rfl
theorem wd_2_132 : Cond.methodLink RX3 37 yX4_becomes ∈ AL := tb_2 (List.mem_of_getElem? (i := 132) rfl) rfl
theorem wd_2_133 : Cond.methodLink RX6 131 yX4_give ∈ AL := tb_2 (List.mem_of_getElem? (i := 133) rfl) rfl
theorem wd_2_134 : Cond.methodLink RX6 135 yJ6_bitCount_0f7a4 ∈ AL := tb_2 (List.mem_of_getElem? (i := 134) rfl) rfl
theorem wd_2_135 : Cond.methodLink RL 41 yX6_leaves ∈ AL := tb_2 (List.mem_of_getElem? (i := 135) rfl) rfl
theorem wd_2_136 : Cond.instanceMethod yX6_leaves ∈ AL := tb_2 (List.mem_of_getElem? (i := 136) rfl) rfl
theorem wd_2_137 : Cond.selects RX6 yX6_leaves yX6_leaves ∈ AL := tb_2 (List.mem_of_getElem? (i := 137) rfl) rfl
theorem wd_2_138 : Cond.code yX6_leaves cX6_leaves 5 (some .int) ∈ AL := tb_2 (List.mem_of_getElem? (i := 138) rfl) rfl
theorem wd_2_139 : Cond.methodLink RX6 140 yX4_freeAllBut ∈ AL := tb_2 (List.mem_of_getElem? (i := 139) rfl) rfl
theorem wd_2_140 : Cond.methodLink RL 45 yX6_puts ∈ AL := tb_2 (List.mem_of_getElem? (i := 140) rfl) rfl
theorem wd_2_141 : Cond.instanceMethod yX6_puts ∈ AL := tb_2 (List.mem_of_getElem? (i := 141) rfl) rfl
theorem wd_2_142 : Cond.selects RX6 yX6_puts yX6_puts ∈ AL := tb_2 (List.mem_of_getElem? (i := 142) rfl) rfl
theorem wd_2_143 : Cond.code yX6_puts cX6_puts 5 (some .int) ∈ AL := tb_2 (List.mem_of_getElem? (i := 143) rfl) rfl
theorem wd_2_144 : Cond.methodLink RL 49 yX6_veers ∈ AL := tb_2 (List.mem_of_getElem? (i := 144) rfl) rfl
theorem wd_2_145 : Cond.instanceMethod yX6_veers ∈ AL := tb_2 (List.mem_of_getElem? (i := 145) rfl) rfl
theorem wd_2_146 : Cond.selects RX6 yX6_veers yX6_veers ∈ AL := tb_2 (List.mem_of_getElem? (i := 146) rfl) rfl
theorem wd_2_147 : Cond.code yX6_veers cX6_veers 1 (some .int) ∈ AL := tb_2 (List.mem_of_getElem? (i := 147) rfl) rfl
theorem wd_2_148 : Cond.methodLink RL 53 yX6_tide ∈ AL := tb_2 (List.mem_of_getElem? (i := 148) rfl) rfl
theorem wd_2_149 : Cond.instanceMethod yX6_tide ∈ AL := tb_2 (List.mem_of_getElem? (i := 149) rfl) rfl
theorem wd_2_150 : Cond.selects RX6 yX6_tide yX6_tide ∈ AL := tb_2 (List.mem_of_getElem? (i := 150) rfl) rfl
theorem wd_2_151 : Cond.code yX6_tide cX6_tide 3 (some .int) ∈ AL := tb_2 (List.mem_of_getElem? (i := 151) rfl) rfl
theorem wd_2_152 : Cond.methodLink RX6 153 yX4_tideBecomes ∈ AL := tb_2 (List.mem_of_getElem? (i := 152) rfl) rfl
theorem wd_2_153 : Cond.instanceMethod yX4_tideBecomes ∈ AL := tb_2 (List.mem_of_getElem? (i := 153) rfl) rfl
theorem wd_2_154 : Cond.selects RX4 yX4_tideBecomes yX4_tideBecomes ∈ AL := tb_2 (List.mem_of_getElem? (i := 154) rfl) rfl
theorem wd_2_155 : Cond.code yX4_tideBecomes cX4_tideBecomes 2 none ∈ AL := tb_2 (List.mem_of_getElem? (i := 155) rfl) rfl
theorem wd_2_156 : Cond.methodLink RL 57 yX6_undo ∈ AL := tb_2 (List.mem_of_getElem? (i := 156) rfl) rfl
theorem wd_2_157 : Cond.instanceMethod yX6_undo ∈ AL := tb_2 (List.mem_of_getElem? (i := 157) rfl) rfl
theorem wd_2_158 : Cond.selects RX6 yX6_undo yX6_undo ∈ AL := tb_2 (List.mem_of_getElem? (i := 158) rfl) rfl
theorem wd_2_159 : Cond.code yX6_undo cX6_undo 1 (some .int) ∈ AL := tb_2 (List.mem_of_getElem? (i := 159) rfl) rfl
theorem wd_2_160 : Cond.methodLink RX6 156 yX3_goBack ∈ AL := tb_2 (List.mem_of_getElem? (i := 160) rfl) rfl
theorem wd_2_161 : Cond.instanceMethod yX3_goBack ∈ AL := tb_2 (List.mem_of_getElem? (i := 161) rfl) rfl
theorem wd_2_162 : Cond.selects RX3 yX3_goBack yX3_goBack ∈ AL := tb_2 (List.mem_of_getElem? (i := 162) rfl) rfl
theorem wd_2_163 : Cond.code yX3_goBack cX3_goBack 1 (some .boolean) ∈ AL := tb_2 (List.mem_of_getElem? (i := 163) rfl) rfl
theorem wd_2_164 : Cond.methodLink RL 61 yX6_now ∈ AL := tb_2 (List.mem_of_getElem? (i := 164) rfl) rfl
theorem wd_2_165 : Cond.instanceMethod yX6_now ∈ AL := tb_2 (List.mem_of_getElem? (i := 165) rfl) rfl
theorem wd_2_166 : Cond.selects RX6 yX6_now yX6_now ∈ AL := tb_2 (List.mem_of_getElem? (i := 166) rfl) rfl
theorem wd_2_167 : Cond.code yX6_now cX6_now 2 (some .int) ∈ AL := tb_2 (List.mem_of_getElem? (i := 167) rfl) rfl
theorem wd_2_168 : Cond.methodLink RX6 160 yX4_heldByAny ∈ AL := tb_2 (List.mem_of_getElem? (i := 168) rfl) rfl
theorem wd_2_169 : Cond.methodLink RX6 163 yX4_borderLength ∈ AL := tb_2 (List.mem_of_getElem? (i := 169) rfl) rfl
theorem wd_2_170 : Cond.instanceMethod yX4_borderLength ∈ AL := tb_2 (List.mem_of_getElem? (i := 170) rfl) rfl
theorem wd_2_171 : Cond.selects RX4 yX4_borderLength yX4_borderLength ∈ AL := tb_2 (List.mem_of_getElem? (i := 171) rfl) rfl
theorem wd_2_172 : Cond.code yX4_borderLength cX4_borderLength 3 (some .int) ∈ AL := tb_2 (List.mem_of_getElem? (i := 172) rfl) rfl
theorem wd_2_173 : Cond.methodLink RX4 71 yX4_heldByAny ∈ AL := tb_2 (List.mem_of_getElem? (i := 173) rfl) rfl
theorem wd_2_174 : Cond.methodLink RX4 74 yX4_twosIn ∈ AL := tb_2 (List.mem_of_getElem? (i := 174) rfl) rfl
theorem wd_2_175 : Cond.static yX4_twosIn ∈ AL := tb_2 (List.mem_of_getElem? (i := 175) rfl) rfl
theorem wd_2_176 : Cond.code yX4_twosIn cX4_twosIn 1 (some .int) ∈ AL := tb_2 (List.mem_of_getElem? (i := 176) rfl) rfl
theorem wd_2_177 : Cond.methodLink RL 65 yX6_water ∈ AL := tb_2 (List.mem_of_getElem? (i := 177) rfl) rfl
theorem wd_2_178 : Cond.instanceMethod yX6_water ∈ AL := tb_2 (List.mem_of_getElem? (i := 178) rfl) rfl
theorem wd_2_179 : Cond.selects RX6 yX6_water yX6_water ∈ AL := tb_2 (List.mem_of_getElem? (i := 179) rfl) rfl
theorem wd_2_180 : Cond.code yX6_water cX6_water 5 (some .int) ∈ AL := tb_2 (List.mem_of_getElem? (i := 180) rfl) rfl
theorem wd_2_181 : Cond.methodLink RX6 166 yX4_fewestOthers ∈ AL := tb_2 (List.mem_of_getElem? (i := 181) rfl) rfl
theorem wd_2_182 : Cond.instanceMethod yX4_fewestOthers ∈ AL := tb_2 (List.mem_of_getElem? (i := 182) rfl) rfl
theorem wd_2_183 : Cond.selects RX4 yX4_fewestOthers yX4_fewestOthers ∈ AL := tb_2 (List.mem_of_getElem? (i := 183) rfl) rfl
theorem wd_2_184 : Cond.code yX4_fewestOthers cX4_fewestOthers 8 (some .int) ∈ AL := tb_2 (List.mem_of_getElem? (i := 184) rfl) rfl
theorem wn_2_185 : Cond.methodLinkNest RX4 77 yX6_oneIf "WindFrontiers" ∈ lw_tbl := List.mem_append_right _ (List.mem_append_right _ (List.mem_append_left _ (List.mem_of_getElem? (i := 185) rfl)))
theorem wd_2_186 : Cond.methodLink RX4 81 yX4_floodedOver ∈ AL := tb_2 (List.mem_of_getElem? (i := 186) rfl) rfl
theorem wd_2_187 : Cond.static yX4_floodedOver ∈ AL := tb_2 (List.mem_of_getElem? (i := 187) rfl) rfl
theorem wd_2_188 : Cond.code yX4_floodedOver cX4_floodedOver 4 (some .int) ∈ AL := tb_2 (List.mem_of_getElem? (i := 188) rfl) rfl
theorem wd_2_189 : Cond.methodLink RX4 84 yX4_besideAny ∈ AL := tb_2 (List.mem_of_getElem? (i := 189) rfl) rfl
theorem wd_2_190 : Cond.static yX4_besideAny ∈ AL := tb_2 (List.mem_of_getElem? (i := 190) rfl) rfl
theorem wd_2_191 : Cond.code yX4_besideAny cX4_besideAny 1 (some .int) ∈ AL := tb_2 (List.mem_of_getElem? (i := 191) rfl) rfl
theorem wd_2_192 : Cond.methodLink RL 69 yX6_help ∈ AL := tb_2 (List.mem_of_getElem? (i := 192) rfl) rfl
theorem wd_2_193 : Cond.instanceMethod yX6_help ∈ AL := tb_2 (List.mem_of_getElem? (i := 193) rfl) rfl
theorem wd_2_194 : Cond.selects RX6 yX6_help yX6_help ∈ AL := tb_2 (List.mem_of_getElem? (i := 194) rfl) rfl
theorem wd_2_195 : Cond.code yX6_help cX6_help 4 (some .int) ∈ AL := tb_2 (List.mem_of_getElem? (i := 195) rfl) rfl
theorem wd_2_196 : Cond.methodLink RX6 169 yX4_bestCloth ∈ AL := tb_2 (List.mem_of_getElem? (i := 196) rfl) rfl
theorem wd_2_197 : Cond.instanceMethod yX4_bestCloth ∈ AL := tb_2 (List.mem_of_getElem? (i := 197) rfl) rfl
theorem wd_2_198 : Cond.selects RX4 yX4_bestCloth yX4_bestCloth ∈ AL := tb_2 (List.mem_of_getElem? (i := 198) rfl) rfl
theorem wd_2_199 : Cond.code yX4_bestCloth cX4_bestCloth 7 (some .int) ∈ AL := tb_2 (List.mem_of_getElem? (i := 199) rfl) rfl
theorem wd_2_200 : Cond.methodLink RX4 87 yX4_bareCells ∈ AL := tb_2 (List.mem_of_getElem? (i := 200) rfl) rfl
theorem wd_2_201 : Cond.instanceMethod yX4_bareCells ∈ AL := tb_2 (List.mem_of_getElem? (i := 201) rfl) rfl
theorem wd_2_202 : Cond.selects RX4 yX4_bareCells yX4_bareCells ∈ AL := tb_2 (List.mem_of_getElem? (i := 202) rfl) rfl
theorem wd_2_203 : Cond.code yX4_bareCells cX4_bareCells 1 (some .int) ∈ AL := tb_2 (List.mem_of_getElem? (i := 203) rfl) rfl
theorem wd_2_204 : Cond.methodLink RX6 172 yX4_shelterWith ∈ AL := tb_2 (List.mem_of_getElem? (i := 204) rfl) rfl
theorem wd_2_205 : Cond.methodLink RL 73 yX6_odds ∈ AL := tb_2 (List.mem_of_getElem? (i := 205) rfl) rfl
theorem wd_2_206 : Cond.instanceMethod yX6_odds ∈ AL := tb_2 (List.mem_of_getElem? (i := 206) rfl) rfl
theorem wd_2_207 : Cond.selects RX6 yX6_odds yX6_odds ∈ AL := tb_2 (List.mem_of_getElem? (i := 207) rfl) rfl
theorem wd_2_208 : Cond.code yX6_odds cX6_odds 11 (some .int) ∈ AL := tb_2 (List.mem_of_getElem? (i := 208) rfl) rfl
theorem wd_2_209 : Cond.methodLink RX6 175 yX6_inLeastTerms ∈ AL := tb_2 (List.mem_of_getElem? (i := 209) rfl) rfl
theorem wd_2_210 : Cond.static yX6_inLeastTerms ∈ AL := tb_2 (List.mem_of_getElem? (i := 210) rfl) rfl
theorem wd_2_211 : Cond.code yX6_inLeastTerms cX6_inLeastTerms 6 (some .int) ∈ AL := tb_2 (List.mem_of_getElem? (i := 211) rfl) rfl
theorem wd_2_212 : Cond.methodLink RL 78 yX6_saw ∈ AL := tb_2 (List.mem_of_getElem? (i := 212) rfl) rfl
theorem wd_2_213 : Cond.instanceMethod yX6_saw ∈ AL := tb_2 (List.mem_of_getElem? (i := 213) rfl) rfl
theorem wd_2_214 : Cond.selects RX6 yX6_saw yX6_saw ∈ AL := tb_2 (List.mem_of_getElem? (i := 214) rfl) rfl
theorem wd_2_215 : Cond.code yX6_saw cX6_saw 5 (some .int) ∈ AL := tb_2 (List.mem_of_getElem? (i := 215) rfl) rfl
theorem wd_2_216 : Cond.methodLink RX6 179 yX2_add ∈ AL := tb_2 (List.mem_of_getElem? (i := 216) rfl) rfl
theorem wd_2_217 : Cond.instanceMethod yX2_add ∈ AL := tb_2 (List.mem_of_getElem? (i := 217) rfl) rfl
theorem wd_2_218 : Cond.selects RX2 yX2_add yX2_add ∈ AL := tb_2 (List.mem_of_getElem? (i := 218) rfl) rfl
theorem wd_2_219 : Cond.code yX2_add cX2_add 4 (some .boolean) ∈ AL := tb_2 (List.mem_of_getElem? (i := 219) rfl) rfl
theorem wd_2_220 : Cond.methodLink RL 83 yX6_forget ∈ AL := tb_2 (List.mem_of_getElem? (i := 220) rfl) rfl
theorem wd_2_221 : Cond.instanceMethod yX6_forget ∈ AL := tb_2 (List.mem_of_getElem? (i := 221) rfl) rfl
theorem wd_2_222 : Cond.selects RX6 yX6_forget yX6_forget ∈ AL := tb_2 (List.mem_of_getElem? (i := 222) rfl) rfl
theorem wd_2_223 : Cond.code yX6_forget cX6_forget 2 (some .int) ∈ AL := tb_2 (List.mem_of_getElem? (i := 223) rfl) rfl
theorem wd_2_224 : Cond.methodLink RL 87 yX6_moved ∈ AL := tb_2 (List.mem_of_getElem? (i := 224) rfl) rfl
theorem wd_2_225 : Cond.instanceMethod yX6_moved ∈ AL := tb_2 (List.mem_of_getElem? (i := 225) rfl) rfl
theorem wd_2_226 : Cond.selects RX6 yX6_moved yX6_moved ∈ AL := tb_2 (List.mem_of_getElem? (i := 226) rfl) rfl
theorem wd_2_227 : Cond.code yX6_moved cX6_moved 6 (some .int) ∈ AL := tb_2 (List.mem_of_getElem? (i := 227) rfl) rfl
theorem wd_2_228 : Cond.methodLink RX6 186 yX6_mayHaveMoved ∈ AL := tb_2 (List.mem_of_getElem? (i := 228) rfl) rfl
theorem wd_2_230 : Cond.instanceMethod yX6_mayHaveMoved ∈ AL := tb_2 (List.mem_of_getElem? (i := 230) rfl) rfl
theorem wd_2_231 : Cond.code yX6_mayHaveMoved cX6_mayHaveMoved 6 (some .boolean) ∈ AL := tb_2 (List.mem_of_getElem? (i := 231) rfl) rfl
theorem wd_2_232 : Cond.methodLink RX6 208 yX4_bareCells ∈ AL := tb_2 (List.mem_of_getElem? (i := 232) rfl) rfl
theorem wd_2_233 : Cond.methodLink RX6 211 yX4_stillWith ∈ AL := tb_2 (List.mem_of_getElem? (i := 233) rfl) rfl
theorem wd_2_234 : Cond.methodLink RX6 214 yX2_agrees ∈ AL := tb_2 (List.mem_of_getElem? (i := 234) rfl) rfl
theorem wd_2_235 : Cond.instanceMethod yX2_agrees ∈ AL := tb_2 (List.mem_of_getElem? (i := 235) rfl) rfl
theorem wd_2_236 : Cond.selects RX2 yX2_agrees yX2_agrees ∈ AL := tb_2 (List.mem_of_getElem? (i := 236) rfl) rfl
theorem wd_2_237 : Cond.code yX2_agrees cX2_agrees 3 (some .boolean) ∈ AL := tb_2 (List.mem_of_getElem? (i := 237) rfl) rfl
theorem wd_2_238 : Cond.methodLink RL 91 yX6_mark ∈ AL := tb_2 (List.mem_of_getElem? (i := 238) rfl) rfl
theorem wd_2_239 : Cond.instanceMethod yX6_mark ∈ AL := tb_2 (List.mem_of_getElem? (i := 239) rfl) rfl
theorem wd_3_0 : Cond.selects RX6 yX6_mark yX6_mark ∈ AL := tb_3 (List.mem_of_getElem? (i := 0) rfl) rfl
theorem wd_3_1 : Cond.code yX6_mark cX6_mark 4 (some .int) ∈ AL := tb_3 (List.mem_of_getElem? (i := 1) rfl) rfl
theorem wd_3_2 : Cond.methodLink RX6 189 yX0_markAs ∈ AL := tb_3 (List.mem_of_getElem? (i := 2) rfl) rfl
theorem wd_3_3 : Cond.instanceMethod yX0_markAs ∈ AL := tb_3 (List.mem_of_getElem? (i := 3) rfl) rfl
theorem wd_3_4 : Cond.selects RX0 yX0_markAs yX0_markAs ∈ AL := tb_3 (List.mem_of_getElem? (i := 4) rfl) rfl
theorem wd_3_5 : Cond.code yX0_markAs cX0_markAs 5 (some .int) ∈ AL := tb_3 (List.mem_of_getElem? (i := 5) rfl) rfl
theorem wd_3_6 : Cond.methodLink RX0 9 yX0_asCell ∈ AL := tb_3 (List.mem_of_getElem? (i := 6) rfl) rfl
theorem wd_3_8 : Cond.instanceMethod yX0_asCell ∈ AL := tb_3 (List.mem_of_getElem? (i := 8) rfl) rfl
theorem wd_3_9 : Cond.code yX0_asCell cX0_asCell 2 (some .int) ∈ AL := tb_3 (List.mem_of_getElem? (i := 9) rfl) rfl
theorem wd_3_10 : Cond.methodLink RX0 15 yX0_asCastle ∈ AL := tb_3 (List.mem_of_getElem? (i := 10) rfl) rfl
theorem wd_3_12 : Cond.instanceMethod yX0_asCastle ∈ AL := tb_3 (List.mem_of_getElem? (i := 12) rfl) rfl
theorem wd_3_13 : Cond.code yX0_asCastle cX0_asCastle 4 (some .int) ∈ AL := tb_3 (List.mem_of_getElem? (i := 13) rfl) rfl
theorem wd_3_14 : Cond.constantLong RX0 38 (10) ∈ AL := tb_3 (List.mem_of_getElem? (i := 14) rfl) rfl
theorem wn_3_15 : Cond.methodLinkNest RX0 40 yX6_bitOf "WindFrontiers" ∈ lw_tbl := List.mem_append_right _ (List.mem_append_right _ (List.mem_append_right _ (List.mem_append_left _ (List.mem_of_getElem? (i := 15) rfl))))
theorem wd_3_16 : Cond.methodLink RX0 43 yX4_cellsBeside ∈ AL := tb_3 (List.mem_of_getElem? (i := 16) rfl) rfl
theorem wd_3_17 : Cond.instanceMethod yX4_cellsBeside ∈ AL := tb_3 (List.mem_of_getElem? (i := 17) rfl) rfl
theorem wd_3_18 : Cond.selects RX4 yX4_cellsBeside yX4_cellsBeside ∈ AL := tb_3 (List.mem_of_getElem? (i := 18) rfl) rfl
theorem wd_3_19 : Cond.code yX4_cellsBeside cX4_cellsBeside 2 (some .int) ∈ AL := tb_3 (List.mem_of_getElem? (i := 19) rfl) rfl
theorem wd_3_20 : Cond.methodLink RX4 90 yX4_allCells ∈ AL := tb_3 (List.mem_of_getElem? (i := 20) rfl) rfl
theorem wd_3_21 : Cond.instanceMethod yX4_allCells ∈ AL := tb_3 (List.mem_of_getElem? (i := 21) rfl) rfl
theorem wd_3_22 : Cond.selects RX4 yX4_allCells yX4_allCells ∈ AL := tb_3 (List.mem_of_getElem? (i := 22) rfl) rfl
theorem wd_3_23 : Cond.code yX4_allCells cX4_allCells 1 (some .int) ∈ AL := tb_3 (List.mem_of_getElem? (i := 23) rfl) rfl
theorem wd_3_24 : Cond.methodLink RX0 19 yX0_asCorridor ∈ AL := tb_3 (List.mem_of_getElem? (i := 24) rfl) rfl
theorem wd_3_26 : Cond.instanceMethod yX0_asCorridor ∈ AL := tb_3 (List.mem_of_getElem? (i := 26) rfl) rfl
theorem wd_3_27 : Cond.code yX0_asCorridor cX0_asCorridor 3 (some .int) ∈ AL := tb_3 (List.mem_of_getElem? (i := 27) rfl) rfl
theorem wd_3_28 : Cond.constantLong RX0 48 (100) ∈ AL := tb_3 (List.mem_of_getElem? (i := 28) rfl) rfl
theorem wd_3_29 : Cond.methodLink RX0 23 yX0_asEmpire ∈ AL := tb_3 (List.mem_of_getElem? (i := 29) rfl) rfl
theorem wd_3_31 : Cond.instanceMethod yX0_asEmpire ∈ AL := tb_3 (List.mem_of_getElem? (i := 31) rfl) rfl
theorem wd_3_32 : Cond.code yX0_asEmpire cX0_asEmpire 4 (some .int) ∈ AL := tb_3 (List.mem_of_getElem? (i := 32) rfl) rfl
theorem wd_3_33 : Cond.constantLong RX0 50 (1000) ∈ AL := tb_3 (List.mem_of_getElem? (i := 33) rfl) rfl
theorem wd_3_34 : Cond.methodLink RX0 26 yX0_asPoland ∈ AL := tb_3 (List.mem_of_getElem? (i := 34) rfl) rfl
theorem wd_3_36 : Cond.instanceMethod yX0_asPoland ∈ AL := tb_3 (List.mem_of_getElem? (i := 36) rfl) rfl
theorem wd_3_37 : Cond.code yX0_asPoland cX0_asPoland 5 (some .int) ∈ AL := tb_3 (List.mem_of_getElem? (i := 37) rfl) rfl
theorem wd_3_38 : Cond.constantLong RX0 52 (10000) ∈ AL := tb_3 (List.mem_of_getElem? (i := 38) rfl) rfl
theorem wd_3_39 : Cond.methodLink RX0 54 yX4_holderOf ∈ AL := tb_3 (List.mem_of_getElem? (i := 39) rfl) rfl
theorem wd_3_40 : Cond.methodLink RX0 57 yX4_heldBy ∈ AL := tb_3 (List.mem_of_getElem? (i := 40) rfl) rfl
theorem wd_3_41 : Cond.methodLink RX0 60 yJ6_bitCount_0f7a4 ∈ AL := tb_3 (List.mem_of_getElem? (i := 41) rfl) rfl
theorem wd_3_42 : Cond.methodLink RX0 29 yX0_asSalient ∈ AL := tb_3 (List.mem_of_getElem? (i := 42) rfl) rfl
theorem wd_3_44 : Cond.instanceMethod yX0_asSalient ∈ AL := tb_3 (List.mem_of_getElem? (i := 44) rfl) rfl
theorem wd_3_45 : Cond.code yX0_asSalient cX0_asSalient 3 (some .int) ∈ AL := tb_3 (List.mem_of_getElem? (i := 45) rfl) rfl
theorem wd_3_46 : Cond.constantLong RX0 65 (100000) ∈ AL := tb_3 (List.mem_of_getElem? (i := 46) rfl) rfl
theorem wd_3_47 : Cond.constant RX0 33 (-1000000) ∈ AL := tb_3 (List.mem_of_getElem? (i := 47) rfl) rfl
theorem wd_3_48 : Cond.constant RX6 193 (-1000000) ∈ AL := tb_3 (List.mem_of_getElem? (i := 48) rfl) rfl
theorem wd_3_49 : Cond.methodLink RL 95 yX6_keep ∈ AL := tb_3 (List.mem_of_getElem? (i := 49) rfl) rfl
theorem wd_3_50 : Cond.instanceMethod yX6_keep ∈ AL := tb_3 (List.mem_of_getElem? (i := 50) rfl) rfl
theorem wd_3_51 : Cond.selects RX6 yX6_keep yX6_keep ∈ AL := tb_3 (List.mem_of_getElem? (i := 51) rfl) rfl
theorem wd_3_52 : Cond.code yX6_keep cX6_keep 3 (some .int) ∈ AL := tb_3 (List.mem_of_getElem? (i := 52) rfl) rfl
theorem wd_3_53 : Cond.methodLink RX6 194 yX6_imageOf ∈ AL := tb_3 (List.mem_of_getElem? (i := 53) rfl) rfl
theorem wd_3_55 : Cond.instanceMethod yX6_imageOf ∈ AL := tb_3 (List.mem_of_getElem? (i := 55) rfl) rfl
theorem wd_3_56 : Cond.code yX6_imageOf cX6_imageOf 2 (some (FieldType.object "WindFrontiers$Story")) ∈ AL := tb_3 (List.mem_of_getElem? (i := 56) rfl) rfl
theorem wd_3_57 : Cond.methodLink RX6 198 yX3_becomes ∈ AL := tb_3 (List.mem_of_getElem? (i := 57) rfl) rfl
theorem wd_3_58 : Cond.instanceMethod yX3_becomes ∈ AL := tb_3 (List.mem_of_getElem? (i := 58) rfl) rfl
theorem wd_3_59 : Cond.selects RX3 yX3_becomes yX3_becomes ∈ AL := tb_3 (List.mem_of_getElem? (i := 59) rfl) rfl
theorem wd_3_60 : Cond.code yX3_becomes cX3_becomes 3 none ∈ AL := tb_3 (List.mem_of_getElem? (i := 60) rfl) rfl
theorem wd_3_61 : Cond.methodLink RL 99 yX6_back ∈ AL := tb_3 (List.mem_of_getElem? (i := 61) rfl) rfl
theorem wd_3_62 : Cond.instanceMethod yX6_back ∈ AL := tb_3 (List.mem_of_getElem? (i := 62) rfl) rfl
theorem wd_3_63 : Cond.selects RX6 yX6_back yX6_back ∈ AL := tb_3 (List.mem_of_getElem? (i := 63) rfl) rfl
theorem wd_3_64 : Cond.code yX6_back cX6_back 3 (some .int) ∈ AL := tb_3 (List.mem_of_getElem? (i := 64) rfl) rfl
theorem wd_3_65 : Cond.methodLink RL 103 yX6_count ∈ AL := tb_3 (List.mem_of_getElem? (i := 65) rfl) rfl
theorem wd_3_66 : Cond.instanceMethod yX6_count ∈ AL := tb_3 (List.mem_of_getElem? (i := 66) rfl) rfl
theorem wd_3_67 : Cond.selects RX6 yX6_count yX6_count ∈ AL := tb_3 (List.mem_of_getElem? (i := 67) rfl) rfl
theorem wd_3_68 : Cond.code yX6_count cX6_count 2 (some .int) ∈ AL := tb_3 (List.mem_of_getElem? (i := 68) rfl) rfl
theorem wd_3_69 : Cond.methodLink RL 107 yX6_trace ∈ AL := tb_3 (List.mem_of_getElem? (i := 69) rfl) rfl
theorem wd_3_70 : Cond.instanceMethod yX6_trace ∈ AL := tb_3 (List.mem_of_getElem? (i := 70) rfl) rfl
theorem wd_3_71 : Cond.selects RX6 yX6_trace yX6_trace ∈ AL := tb_3 (List.mem_of_getElem? (i := 71) rfl) rfl
theorem wd_3_72 : Cond.code yX6_trace cX6_trace 1 (some .long) ∈ AL := tb_3 (List.mem_of_getElem? (i := 72) rfl) rfl
theorem wd_3_73 : Cond.classLink RL 10 RX7 ∈ AL := tb_3 (List.mem_of_getElem? (i := 73) rfl) rfl
theorem wd_3_74 : Cond.instantiable RX7 22 ∈ AL := tb_3 (List.mem_of_getElem? (i := 74) rfl) rfl
theorem wd_3_75 : Cond.methodLink RL 12 yX7_init ∈ AL := tb_3 (List.mem_of_getElem? (i := 75) rfl) rfl
theorem wd_3_76 : Cond.instanceMethod yX7_init ∈ AL := tb_3 (List.mem_of_getElem? (i := 76) rfl) rfl
theorem wd_3_77 : Cond.code yX7_init cX7_init 1 none ∈ AL := tb_3 (List.mem_of_getElem? (i := 77) rfl) rfl
theorem wd_3_78 : Cond.methodLink RX7 1 objectInit ∈ AL := tb_3 (List.mem_of_getElem? (i := 78) rfl) rfl
theorem wd_3_79 : Cond.fieldLink RX7 7 "WindFrontiersModel" "wide" "I" ∈ AL := tb_3 (List.mem_of_getElem? (i := 79) rfl) rfl
theorem wd_3_80 : Cond.fieldLink RX7 13 "WindFrontiersModel" "rows" "I" ∈ AL := tb_3 (List.mem_of_getElem? (i := 80) rfl) rfl
theorem wd_3_81 : Cond.fieldLink RX7 16 "WindFrontiersModel" "st" "[I" ∈ AL := tb_3 (List.mem_of_getElem? (i := 81) rfl) rfl
theorem wd_3_82 : Cond.fieldLink RX7 20 "WindFrontiersModel" "images" "[I" ∈ AL := tb_3 (List.mem_of_getElem? (i := 82) rfl) rfl
theorem wd_3_83 : Cond.fieldLink RX7 23 "WindFrontiersModel" "isKept" "[Z" ∈ AL := tb_3 (List.mem_of_getElem? (i := 83) rfl) rfl
theorem wd_3_84 : Cond.fieldLink RX7 109 "WindFrontiersModel" "seenMany" "I" ∈ AL := tb_3 (List.mem_of_getElem? (i := 84) rfl) rfl
theorem wd_3_85 : Cond.fieldLink RX7 27 "WindFrontiersModel" "seen" "[I" ∈ AL := tb_3 (List.mem_of_getElem? (i := 85) rfl) rfl
theorem wd_3_86 : Cond.fieldLink RX7 164 "WindFrontiersModel" "trace" "J" ∈ AL := tb_3 (List.mem_of_getElem? (i := 86) rfl) rfl
theorem wd_3_87 : Cond.fieldLink RX7 30 "WindFrontiersModel" "text" "[I" ∈ AL := tb_3 (List.mem_of_getElem? (i := 87) rfl) rfl
theorem wd_3_88 : Cond.fieldLink RX7 43 "WindFrontiersModel" "texted" "I" ∈ AL := tb_3 (List.mem_of_getElem? (i := 88) rfl) rfl
theorem wd_3_89 : Cond.fieldLink RX7 46 "WindFrontiersModel" "cursor" "I" ∈ AL := tb_3 (List.mem_of_getElem? (i := 89) rfl) rfl
theorem wd_3_90 : Cond.fieldLink RX7 53 "WindFrontiersModel" "start" "I" ∈ AL := tb_3 (List.mem_of_getElem? (i := 90) rfl) rfl
theorem wd_3_91 : Cond.fieldLink RX7 59 "WindFrontiersModel" "token" "I" ∈ AL := tb_3 (List.mem_of_getElem? (i := 91) rfl) rfl
theorem wd_3_92 : Cond.fieldLink RX7 56 "WindFrontiersModel" "number" "I" ∈ AL := tb_3 (List.mem_of_getElem? (i := 92) rfl) rfl
theorem wd_3_93 : Cond.fieldLink RX7 69 "WindFrontiersModel" "isWrong" "Z" ∈ AL := tb_3 (List.mem_of_getElem? (i := 93) rfl) rfl
theorem wd_3_94 : Cond.fieldLink RX7 93 "WindFrontiersModel" "items" "I" ∈ AL := tb_3 (List.mem_of_getElem? (i := 94) rfl) rfl
theorem wd_3_95 : Cond.fieldLink RX7 76 "WindFrontiersModel" "saidWide" "I" ∈ AL := tb_3 (List.mem_of_getElem? (i := 95) rfl) rfl
theorem wd_3_96 : Cond.fieldLink RX7 83 "WindFrontiersModel" "saidRows" "I" ∈ AL := tb_3 (List.mem_of_getElem? (i := 96) rfl) rfl
theorem wd_3_97 : Cond.fieldLink RX7 33 "WindFrontiersModel" "saidHolder" "[I" ∈ AL := tb_3 (List.mem_of_getElem? (i := 97) rfl) rfl
theorem wd_3_98 : Cond.fieldLink RX7 86 "WindFrontiersModel" "saidCloth" "I" ∈ AL := tb_3 (List.mem_of_getElem? (i := 98) rfl) rfl
theorem wd_3_99 : Cond.fieldLink RX7 96 "WindFrontiersModel" "saidWind" "I" ∈ AL := tb_3 (List.mem_of_getElem? (i := 99) rfl) rfl
theorem wd_3_100 : Cond.fieldLink RX7 36 "WindFrontiersModel" "far" "[I" ∈ AL := tb_3 (List.mem_of_getElem? (i := 100) rfl) rfl
theorem wd_3_101 : Cond.lays RX7 "WindFrontiersModel" "wide" "I" ∈ AL := tb_3 (List.mem_of_getElem? (i := 101) rfl) rfl
theorem wd_3_103 : Cond.lays RX7 "WindFrontiersModel" "rows" "I" ∈ AL := tb_3 (List.mem_of_getElem? (i := 103) rfl) rfl
theorem wd_3_105 : Cond.laysFinal RX7 "WindFrontiersModel" "st" "[I" ∈ AL := tb_3 (List.mem_of_getElem? (i := 105) rfl) rfl
theorem wd_3_107 : Cond.laysFinal RX7 "WindFrontiersModel" "images" "[I" ∈ AL := tb_3 (List.mem_of_getElem? (i := 107) rfl) rfl
theorem wd_3_109 : Cond.laysFinal RX7 "WindFrontiersModel" "isKept" "[Z" ∈ AL := tb_3 (List.mem_of_getElem? (i := 109) rfl) rfl
theorem wd_3_111 : Cond.lays RX7 "WindFrontiersModel" "seenMany" "I" ∈ AL := tb_3 (List.mem_of_getElem? (i := 111) rfl) rfl
theorem wd_3_113 : Cond.laysFinal RX7 "WindFrontiersModel" "seen" "[I" ∈ AL := tb_3 (List.mem_of_getElem? (i := 113) rfl) rfl
theorem wd_3_115 : Cond.lays RX7 "WindFrontiersModel" "trace" "J" ∈ AL := tb_3 (List.mem_of_getElem? (i := 115) rfl) rfl
theorem wd_3_117 : Cond.laysFinal RX7 "WindFrontiersModel" "text" "[I" ∈ AL := tb_3 (List.mem_of_getElem? (i := 117) rfl) rfl
theorem wd_3_119 : Cond.lays RX7 "WindFrontiersModel" "texted" "I" ∈ AL := tb_3 (List.mem_of_getElem? (i := 119) rfl) rfl
theorem wd_3_121 : Cond.lays RX7 "WindFrontiersModel" "cursor" "I" ∈ AL := tb_3 (List.mem_of_getElem? (i := 121) rfl) rfl
theorem wd_3_123 : Cond.lays RX7 "WindFrontiersModel" "start" "I" ∈ AL := tb_3 (List.mem_of_getElem? (i := 123) rfl) rfl
theorem wd_3_125 : Cond.lays RX7 "WindFrontiersModel" "token" "I" ∈ AL := tb_3 (List.mem_of_getElem? (i := 125) rfl) rfl
theorem wd_3_127 : Cond.lays RX7 "WindFrontiersModel" "number" "I" ∈ AL := tb_3 (List.mem_of_getElem? (i := 127) rfl) rfl
theorem wd_3_129 : Cond.lays RX7 "WindFrontiersModel" "isWrong" "Z" ∈ AL := tb_3 (List.mem_of_getElem? (i := 129) rfl) rfl
theorem wd_3_131 : Cond.lays RX7 "WindFrontiersModel" "items" "I" ∈ AL := tb_3 (List.mem_of_getElem? (i := 131) rfl) rfl
theorem wd_3_133 : Cond.lays RX7 "WindFrontiersModel" "saidWide" "I" ∈ AL := tb_3 (List.mem_of_getElem? (i := 133) rfl) rfl
theorem wd_3_135 : Cond.lays RX7 "WindFrontiersModel" "saidRows" "I" ∈ AL := tb_3 (List.mem_of_getElem? (i := 135) rfl) rfl
theorem wd_3_137 : Cond.laysFinal RX7 "WindFrontiersModel" "saidHolder" "[I" ∈ AL := tb_3 (List.mem_of_getElem? (i := 137) rfl) rfl
theorem wd_3_139 : Cond.lays RX7 "WindFrontiersModel" "saidCloth" "I" ∈ AL := tb_3 (List.mem_of_getElem? (i := 139) rfl) rfl
theorem wd_3_141 : Cond.lays RX7 "WindFrontiersModel" "saidWind" "I" ∈ AL := tb_3 (List.mem_of_getElem? (i := 141) rfl) rfl
theorem wd_3_143 : Cond.laysFinal RX7 "WindFrontiersModel" "far" "[I" ∈ AL := tb_3 (List.mem_of_getElem? (i := 143) rfl) rfl
theorem wd_3_146 : Cond.arrayClass FieldType.boolean ∈ AL := tb_3 (List.mem_of_getElem? (i := 146) rfl) rfl
theorem wd_3_147 : Cond.methodLink RL 17 yX7_type ∈ AL := tb_3 (List.mem_of_getElem? (i := 147) rfl) rfl
theorem wd_3_148 : Cond.instanceMethod yX7_type ∈ AL := tb_3 (List.mem_of_getElem? (i := 148) rfl) rfl
theorem wd_3_149 : Cond.selects RX7 yX7_type yX7_type ∈ AL := tb_3 (List.mem_of_getElem? (i := 149) rfl) rfl
theorem wd_3_150 : Cond.code yX7_type cX7_type 2 (some .int) ∈ AL := tb_3 (List.mem_of_getElem? (i := 150) rfl) rfl
theorem wd_3_151 : Cond.methodLink RX7 39 yX7_in ∈ AL := tb_3 (List.mem_of_getElem? (i := 151) rfl) rfl
theorem wd_3_152 : Cond.static yX7_in ∈ AL := tb_3 (List.mem_of_getElem? (i := 152) rfl) rfl
theorem wd_3_153 : Cond.code yX7_in cX7_in 3 (some .boolean) ∈ AL := tb_3 (List.mem_of_getElem? (i := 153) rfl) rfl
theorem wd_3_154 : Cond.methodLink RL 22 yX7_clear ∈ AL := tb_3 (List.mem_of_getElem? (i := 154) rfl) rfl
theorem wd_3_155 : Cond.instanceMethod yX7_clear ∈ AL := tb_3 (List.mem_of_getElem? (i := 155) rfl) rfl
theorem wd_3_156 : Cond.selects RX7 yX7_clear yX7_clear ∈ AL := tb_3 (List.mem_of_getElem? (i := 156) rfl) rfl
theorem wd_3_157 : Cond.code yX7_clear cX7_clear 2 (some .int) ∈ AL := tb_3 (List.mem_of_getElem? (i := 157) rfl) rfl
theorem wd_3_158 : Cond.methodLink RL 26 yX7_strand ∈ AL := tb_3 (List.mem_of_getElem? (i := 158) rfl) rfl
theorem wd_3_159 : Cond.instanceMethod yX7_strand ∈ AL := tb_3 (List.mem_of_getElem? (i := 159) rfl) rfl
theorem wd_3_160 : Cond.selects RX7 yX7_strand yX7_strand ∈ AL := tb_3 (List.mem_of_getElem? (i := 160) rfl) rfl
theorem wd_3_161 : Cond.code yX7_strand cX7_strand 2 (some .int) ∈ AL := tb_3 (List.mem_of_getElem? (i := 161) rfl) rfl
theorem wd_3_162 : Cond.methodLink RX7 73 yX7_next ∈ AL := tb_3 (List.mem_of_getElem? (i := 162) rfl) rfl
theorem wd_3_164 : Cond.instanceMethod yX7_next ∈ AL := tb_3 (List.mem_of_getElem? (i := 164) rfl) rfl
theorem wd_3_165 : Cond.code yX7_next cX7_next 2 none ∈ AL := tb_3 (List.mem_of_getElem? (i := 165) rfl) rfl
theorem wd_3_166 : Cond.methodLink RX7 49 yX7_letterAt ∈ AL := tb_3 (List.mem_of_getElem? (i := 166) rfl) rfl
theorem wd_3_168 : Cond.instanceMethod yX7_letterAt ∈ AL := tb_3 (List.mem_of_getElem? (i := 168) rfl) rfl
theorem wd_3_169 : Cond.code yX7_letterAt cX7_letterAt 2 (some .int) ∈ AL := tb_3 (List.mem_of_getElem? (i := 169) rfl) rfl
theorem wd_3_170 : Cond.methodLink RX7 62 yX7_isFigure ∈ AL := tb_3 (List.mem_of_getElem? (i := 170) rfl) rfl
theorem wd_3_171 : Cond.static yX7_isFigure ∈ AL := tb_3 (List.mem_of_getElem? (i := 171) rfl) rfl
theorem wd_3_172 : Cond.code yX7_isFigure cX7_isFigure 1 (some .boolean) ∈ AL := tb_3 (List.mem_of_getElem? (i := 172) rfl) rfl
theorem wd_3_173 : Cond.methodLink RX7 66 yX7_isLetter ∈ AL := tb_3 (List.mem_of_getElem? (i := 173) rfl) rfl
theorem wd_3_174 : Cond.static yX7_isLetter ∈ AL := tb_3 (List.mem_of_getElem? (i := 174) rfl) rfl
theorem wd_3_175 : Cond.code yX7_isLetter cX7_isLetter 1 (some .boolean) ∈ AL := tb_3 (List.mem_of_getElem? (i := 175) rfl) rfl
theorem wd_3_176 : Cond.methodLink RX7 103 yX7_readItem ∈ AL := tb_3 (List.mem_of_getElem? (i := 176) rfl) rfl
theorem wd_3_178 : Cond.instanceMethod yX7_readItem ∈ AL := tb_3 (List.mem_of_getElem? (i := 178) rfl) rfl
theorem wd_3_179 : Cond.code yX7_readItem cX7_readItem 5 none ∈ AL := tb_3 (List.mem_of_getElem? (i := 179) rfl) rfl
theorem wd_3_180 : Cond.methodLink RX7 79 yX7_takesNumber ∈ AL := tb_3 (List.mem_of_getElem? (i := 180) rfl) rfl
theorem wd_3_182 : Cond.instanceMethod yX7_takesNumber ∈ AL := tb_3 (List.mem_of_getElem? (i := 182) rfl) rfl
theorem wd_3_183 : Cond.code yX7_takesNumber cX7_takesNumber 5 (some .int) ∈ AL := tb_3 (List.mem_of_getElem? (i := 183) rfl) rfl
theorem wd_3_184 : Cond.methodLink RX7 99 yX7_takesCell ∈ AL := tb_3 (List.mem_of_getElem? (i := 184) rfl) rfl
theorem wd_3_186 : Cond.instanceMethod yX7_takesCell ∈ AL := tb_3 (List.mem_of_getElem? (i := 186) rfl) rfl
theorem wd_3_187 : Cond.code yX7_takesCell cX7_takesCell 5 (some .int) ∈ AL := tb_3 (List.mem_of_getElem? (i := 187) rfl) rfl
theorem wd_3_188 : Cond.methodLink RX7 89 yX7_has ∈ AL := tb_3 (List.mem_of_getElem? (i := 188) rfl) rfl
theorem wd_3_189 : Cond.static yX7_has ∈ AL := tb_3 (List.mem_of_getElem? (i := 189) rfl) rfl
theorem wd_3_190 : Cond.code yX7_has cX7_has 2 (some .boolean) ∈ AL := tb_3 (List.mem_of_getElem? (i := 190) rfl) rfl
theorem wd_3_191 : Cond.methodLink RX7 106 yX7_settles ∈ AL := tb_3 (List.mem_of_getElem? (i := 191) rfl) rfl
theorem wd_3_193 : Cond.instanceMethod yX7_settles ∈ AL := tb_3 (List.mem_of_getElem? (i := 193) rfl) rfl
theorem wd_3_194 : Cond.code yX7_settles cX7_settles 2 none ∈ AL := tb_3 (List.mem_of_getElem? (i := 194) rfl) rfl
theorem wd_3_195 : Cond.methodLink RL 31 yX7_cell ∈ AL := tb_3 (List.mem_of_getElem? (i := 195) rfl) rfl
theorem wd_3_196 : Cond.instanceMethod yX7_cell ∈ AL := tb_3 (List.mem_of_getElem? (i := 196) rfl) rfl
theorem wd_3_197 : Cond.selects RX7 yX7_cell yX7_cell ∈ AL := tb_3 (List.mem_of_getElem? (i := 197) rfl) rfl
theorem wd_3_198 : Cond.code yX7_cell cX7_cell 5 (some .int) ∈ AL := tb_3 (List.mem_of_getElem? (i := 198) rfl) rfl
theorem wd_3_199 : Cond.methodLink RX7 112 yX7_isCell ∈ AL := tb_3 (List.mem_of_getElem? (i := 199) rfl) rfl
theorem wd_3_201 : Cond.instanceMethod yX7_isCell ∈ AL := tb_3 (List.mem_of_getElem? (i := 201) rfl) rfl
theorem wd_3_202 : Cond.code yX7_isCell cX7_isCell 3 (some .boolean) ∈ AL := tb_3 (List.mem_of_getElem? (i := 202) rfl) rfl
theorem wd_3_203 : Cond.methodLink RX7 125 yX7_isDry ∈ AL := tb_3 (List.mem_of_getElem? (i := 203) rfl) rfl
theorem wd_3_205 : Cond.instanceMethod yX7_isDry ∈ AL := tb_3 (List.mem_of_getElem? (i := 205) rfl) rfl
theorem wd_3_206 : Cond.code yX7_isDry cX7_isDry 2 (some .boolean) ∈ AL := tb_3 (List.mem_of_getElem? (i := 206) rfl) rfl
theorem wd_3_207 : Cond.methodLink RX7 118 yX7_isStill ∈ AL := tb_3 (List.mem_of_getElem? (i := 207) rfl) rfl
theorem wd_3_209 : Cond.instanceMethod yX7_isStill ∈ AL := tb_3 (List.mem_of_getElem? (i := 209) rfl) rfl
theorem wd_3_210 : Cond.code yX7_isStill cX7_isStill 6 (some .boolean) ∈ AL := tb_3 (List.mem_of_getElem? (i := 210) rfl) rfl
theorem wd_3_211 : Cond.methodLink RX7 115 yX7_isCloth ∈ AL := tb_3 (List.mem_of_getElem? (i := 211) rfl) rfl
theorem wd_3_213 : Cond.instanceMethod yX7_isCloth ∈ AL := tb_3 (List.mem_of_getElem? (i := 213) rfl) rfl
theorem wd_3_214 : Cond.code yX7_isCloth cX7_isCloth 4 (some .boolean) ∈ AL := tb_3 (List.mem_of_getElem? (i := 214) rfl) rfl
theorem wd_3_215 : Cond.methodLink RL 36 yX7_family ∈ AL := tb_3 (List.mem_of_getElem? (i := 215) rfl) rfl
theorem wd_3_216 : Cond.instanceMethod yX7_family ∈ AL := tb_3 (List.mem_of_getElem? (i := 216) rfl) rfl
theorem wd_3_217 : Cond.selects RX7 yX7_family yX7_family ∈ AL := tb_3 (List.mem_of_getElem? (i := 217) rfl) rfl
theorem wd_3_218 : Cond.code yX7_family cX7_family 3 (some .int) ∈ AL := tb_3 (List.mem_of_getElem? (i := 218) rfl) rfl
theorem wd_3_219 : Cond.methodLink RX7 128 yX7_isFamily ∈ AL := tb_3 (List.mem_of_getElem? (i := 219) rfl) rfl
theorem wd_3_220 : Cond.static yX7_isFamily ∈ AL := tb_3 (List.mem_of_getElem? (i := 220) rfl) rfl
theorem wd_3_221 : Cond.code yX7_isFamily cX7_isFamily 1 (some .boolean) ∈ AL := tb_3 (List.mem_of_getElem? (i := 221) rfl) rfl
theorem wd_3_222 : Cond.methodLink RX7 122 yX7_heldBy ∈ AL := tb_3 (List.mem_of_getElem? (i := 222) rfl) rfl
theorem wd_3_224 : Cond.instanceMethod yX7_heldBy ∈ AL := tb_3 (List.mem_of_getElem? (i := 224) rfl) rfl
theorem wd_3_225 : Cond.code yX7_heldBy cX7_heldBy 4 (some .int) ∈ AL := tb_3 (List.mem_of_getElem? (i := 225) rfl) rfl
theorem wd_3_226 : Cond.methodLink RX7 131 yX7_stillOnes ∈ AL := tb_3 (List.mem_of_getElem? (i := 226) rfl) rfl
theorem wd_3_228 : Cond.instanceMethod yX7_stillOnes ∈ AL := tb_3 (List.mem_of_getElem? (i := 228) rfl) rfl
theorem wd_3_229 : Cond.code yX7_stillOnes cX7_stillOnes 6 (some .int) ∈ AL := tb_3 (List.mem_of_getElem? (i := 229) rfl) rfl
theorem wd_3_230 : Cond.methodLink RX7 134 yX7_bits ∈ AL := tb_3 (List.mem_of_getElem? (i := 230) rfl) rfl
theorem wd_3_231 : Cond.static yX7_bits ∈ AL := tb_3 (List.mem_of_getElem? (i := 231) rfl) rfl
theorem wd_3_232 : Cond.code yX7_bits cX7_bits 3 (some .int) ∈ AL := tb_3 (List.mem_of_getElem? (i := 232) rfl) rfl
theorem wd_3_233 : Cond.methodLink RX7 137 yX7_losesOf ∈ AL := tb_3 (List.mem_of_getElem? (i := 233) rfl) rfl
theorem wd_3_235 : Cond.instanceMethod yX7_losesOf ∈ AL := tb_3 (List.mem_of_getElem? (i := 235) rfl) rfl
theorem wd_3_236 : Cond.code yX7_losesOf cX7_losesOf 4 (some .int) ∈ AL := tb_3 (List.mem_of_getElem? (i := 236) rfl) rfl
theorem wd_3_237 : Cond.methodLink RL 40 yX7_takes ∈ AL := tb_3 (List.mem_of_getElem? (i := 237) rfl) rfl
theorem wd_3_238 : Cond.instanceMethod yX7_takes ∈ AL := tb_3 (List.mem_of_getElem? (i := 238) rfl) rfl
theorem wd_3_239 : Cond.selects RX7 yX7_takes yX7_takes ∈ AL := tb_3 (List.mem_of_getElem? (i := 239) rfl) rfl
theorem wd_4_0 : Cond.code yX7_takes cX7_takes 5 (some .int) ∈ AL := tb_4 (List.mem_of_getElem? (i := 0) rfl) rfl
theorem wd_4_1 : Cond.methodLink RX7 140 yX7_remembers ∈ AL := tb_4 (List.mem_of_getElem? (i := 1) rfl) rfl
theorem wd_4_3 : Cond.instanceMethod yX7_remembers ∈ AL := tb_4 (List.mem_of_getElem? (i := 3) rfl) rfl
theorem wd_4_4 : Cond.code yX7_remembers cX7_remembers 3 none ∈ AL := tb_4 (List.mem_of_getElem? (i := 4) rfl) rfl
theorem wd_4_5 : Cond.methodLink RL 44 yX7_leaves ∈ AL := tb_4 (List.mem_of_getElem? (i := 5) rfl) rfl
theorem wd_4_6 : Cond.instanceMethod yX7_leaves ∈ AL := tb_4 (List.mem_of_getElem? (i := 6) rfl) rfl
theorem wd_4_7 : Cond.selects RX7 yX7_leaves yX7_leaves ∈ AL := tb_4 (List.mem_of_getElem? (i := 7) rfl) rfl
theorem wd_4_8 : Cond.code yX7_leaves cX7_leaves 5 (some .int) ∈ AL := tb_4 (List.mem_of_getElem? (i := 8) rfl) rfl
theorem wd_4_9 : Cond.methodLink RL 48 yX7_puts ∈ AL := tb_4 (List.mem_of_getElem? (i := 9) rfl) rfl
theorem wd_4_10 : Cond.instanceMethod yX7_puts ∈ AL := tb_4 (List.mem_of_getElem? (i := 10) rfl) rfl
theorem wd_4_11 : Cond.selects RX7 yX7_puts yX7_puts ∈ AL := tb_4 (List.mem_of_getElem? (i := 11) rfl) rfl
theorem wd_4_12 : Cond.code yX7_puts cX7_puts 5 (some .int) ∈ AL := tb_4 (List.mem_of_getElem? (i := 12) rfl) rfl
theorem wd_4_13 : Cond.methodLink RL 52 yX7_veers ∈ AL := tb_4 (List.mem_of_getElem? (i := 13) rfl) rfl
theorem wd_4_14 : Cond.instanceMethod yX7_veers ∈ AL := tb_4 (List.mem_of_getElem? (i := 14) rfl) rfl
theorem wd_4_15 : Cond.selects RX7 yX7_veers yX7_veers ∈ AL := tb_4 (List.mem_of_getElem? (i := 15) rfl) rfl
theorem wd_4_16 : Cond.code yX7_veers cX7_veers 1 (some .int) ∈ AL := tb_4 (List.mem_of_getElem? (i := 16) rfl) rfl
theorem wd_4_17 : Cond.methodLink RL 56 yX7_tide ∈ AL := tb_4 (List.mem_of_getElem? (i := 17) rfl) rfl
theorem wd_4_18 : Cond.instanceMethod yX7_tide ∈ AL := tb_4 (List.mem_of_getElem? (i := 18) rfl) rfl
theorem wd_4_19 : Cond.selects RX7 yX7_tide yX7_tide ∈ AL := tb_4 (List.mem_of_getElem? (i := 19) rfl) rfl
theorem wd_4_20 : Cond.code yX7_tide cX7_tide 3 (some .int) ∈ AL := tb_4 (List.mem_of_getElem? (i := 20) rfl) rfl
theorem wd_4_21 : Cond.methodLink RL 60 yX7_undo ∈ AL := tb_4 (List.mem_of_getElem? (i := 21) rfl) rfl
theorem wd_4_22 : Cond.instanceMethod yX7_undo ∈ AL := tb_4 (List.mem_of_getElem? (i := 22) rfl) rfl
theorem wd_4_23 : Cond.selects RX7 yX7_undo yX7_undo ∈ AL := tb_4 (List.mem_of_getElem? (i := 23) rfl) rfl
theorem wd_4_24 : Cond.code yX7_undo cX7_undo 3 (some .int) ∈ AL := tb_4 (List.mem_of_getElem? (i := 24) rfl) rfl
theorem wd_4_25 : Cond.methodLink RL 64 yX7_now ∈ AL := tb_4 (List.mem_of_getElem? (i := 25) rfl) rfl
theorem wd_4_26 : Cond.instanceMethod yX7_now ∈ AL := tb_4 (List.mem_of_getElem? (i := 26) rfl) rfl
theorem wd_4_27 : Cond.selects RX7 yX7_now yX7_now ∈ AL := tb_4 (List.mem_of_getElem? (i := 27) rfl) rfl
theorem wd_4_28 : Cond.code yX7_now cX7_now 4 (some .int) ∈ AL := tb_4 (List.mem_of_getElem? (i := 28) rfl) rfl
theorem wd_4_29 : Cond.methodLink RX7 146 yX7_border ∈ AL := tb_4 (List.mem_of_getElem? (i := 29) rfl) rfl
theorem wd_4_31 : Cond.instanceMethod yX7_border ∈ AL := tb_4 (List.mem_of_getElem? (i := 31) rfl) rfl
theorem wd_4_32 : Cond.code yX7_border cX7_border 4 (some .int) ∈ AL := tb_4 (List.mem_of_getElem? (i := 32) rfl) rfl
theorem wd_4_33 : Cond.methodLink RX7 143 yX7_isBorder ∈ AL := tb_4 (List.mem_of_getElem? (i := 33) rfl) rfl
theorem wd_4_35 : Cond.instanceMethod yX7_isBorder ∈ AL := tb_4 (List.mem_of_getElem? (i := 35) rfl) rfl
theorem wd_4_36 : Cond.code yX7_isBorder cX7_isBorder 5 (some .boolean) ∈ AL := tb_4 (List.mem_of_getElem? (i := 36) rfl) rfl
theorem wd_4_37 : Cond.methodLink RL 68 yX7_water ∈ AL := tb_4 (List.mem_of_getElem? (i := 37) rfl) rfl
theorem wd_4_38 : Cond.instanceMethod yX7_water ∈ AL := tb_4 (List.mem_of_getElem? (i := 38) rfl) rfl
theorem wd_4_39 : Cond.selects RX7 yX7_water yX7_water ∈ AL := tb_4 (List.mem_of_getElem? (i := 39) rfl) rfl
theorem wd_4_40 : Cond.code yX7_water cX7_water 4 (some .int) ∈ AL := tb_4 (List.mem_of_getElem? (i := 40) rfl) rfl
theorem wd_4_41 : Cond.methodLink RX7 156 yX7_findFar ∈ AL := tb_4 (List.mem_of_getElem? (i := 41) rfl) rfl
theorem wd_4_43 : Cond.instanceMethod yX7_findFar ∈ AL := tb_4 (List.mem_of_getElem? (i := 43) rfl) rfl
theorem wd_4_44 : Cond.code yX7_findFar cX7_findFar 5 none ∈ AL := tb_4 (List.mem_of_getElem? (i := 44) rfl) rfl
theorem wd_4_45 : Cond.methodLink RX7 150 yX7_costOf ∈ AL := tb_4 (List.mem_of_getElem? (i := 45) rfl) rfl
theorem wd_4_47 : Cond.instanceMethod yX7_costOf ∈ AL := tb_4 (List.mem_of_getElem? (i := 47) rfl) rfl
theorem wd_4_48 : Cond.code yX7_costOf cX7_costOf 3 (some .int) ∈ AL := tb_4 (List.mem_of_getElem? (i := 48) rfl) rfl
theorem wd_4_49 : Cond.methodLink RX7 153 yX7_leastBeside ∈ AL := tb_4 (List.mem_of_getElem? (i := 49) rfl) rfl
theorem wd_4_51 : Cond.instanceMethod yX7_leastBeside ∈ AL := tb_4 (List.mem_of_getElem? (i := 51) rfl) rfl
theorem wd_4_52 : Cond.code yX7_leastBeside cX7_leastBeside 8 (some .int) ∈ AL := tb_4 (List.mem_of_getElem? (i := 52) rfl) rfl
theorem wd_4_53 : Cond.methodLink RL 72 yX7_help ∈ AL := tb_4 (List.mem_of_getElem? (i := 53) rfl) rfl
theorem wd_4_54 : Cond.instanceMethod yX7_help ∈ AL := tb_4 (List.mem_of_getElem? (i := 54) rfl) rfl
theorem wd_4_55 : Cond.selects RX7 yX7_help yX7_help ∈ AL := tb_4 (List.mem_of_getElem? (i := 55) rfl) rfl
theorem wd_4_56 : Cond.code yX7_help cX7_help 9 (some .int) ∈ AL := tb_4 (List.mem_of_getElem? (i := 56) rfl) rfl
theorem wd_4_57 : Cond.methodLink RL 77 yX7_odds ∈ AL := tb_4 (List.mem_of_getElem? (i := 57) rfl) rfl
theorem wd_4_58 : Cond.instanceMethod yX7_odds ∈ AL := tb_4 (List.mem_of_getElem? (i := 58) rfl) rfl
theorem wd_4_59 : Cond.selects RX7 yX7_odds yX7_odds ∈ AL := tb_4 (List.mem_of_getElem? (i := 59) rfl) rfl
theorem wd_4_60 : Cond.code yX7_odds cX7_odds 12 (some .int) ∈ AL := tb_4 (List.mem_of_getElem? (i := 60) rfl) rfl
theorem wd_4_61 : Cond.methodLink RL 82 yX7_saw ∈ AL := tb_4 (List.mem_of_getElem? (i := 61) rfl) rfl
theorem wd_4_62 : Cond.instanceMethod yX7_saw ∈ AL := tb_4 (List.mem_of_getElem? (i := 62) rfl) rfl
theorem wd_4_63 : Cond.selects RX7 yX7_saw yX7_saw ∈ AL := tb_4 (List.mem_of_getElem? (i := 63) rfl) rfl
theorem wd_4_64 : Cond.code yX7_saw cX7_saw 5 (some .int) ∈ AL := tb_4 (List.mem_of_getElem? (i := 64) rfl) rfl
theorem wd_4_65 : Cond.methodLink RL 86 yX7_forget ∈ AL := tb_4 (List.mem_of_getElem? (i := 65) rfl) rfl
theorem wd_4_66 : Cond.instanceMethod yX7_forget ∈ AL := tb_4 (List.mem_of_getElem? (i := 66) rfl) rfl
theorem wd_4_67 : Cond.selects RX7 yX7_forget yX7_forget ∈ AL := tb_4 (List.mem_of_getElem? (i := 67) rfl) rfl
theorem wd_4_68 : Cond.code yX7_forget cX7_forget 2 (some .int) ∈ AL := tb_4 (List.mem_of_getElem? (i := 68) rfl) rfl
theorem wd_4_69 : Cond.methodLink RL 90 yX7_moved ∈ AL := tb_4 (List.mem_of_getElem? (i := 69) rfl) rfl
theorem wd_4_70 : Cond.instanceMethod yX7_moved ∈ AL := tb_4 (List.mem_of_getElem? (i := 70) rfl) rfl
theorem wd_4_71 : Cond.selects RX7 yX7_moved yX7_moved ∈ AL := tb_4 (List.mem_of_getElem? (i := 71) rfl) rfl
theorem wd_4_72 : Cond.code yX7_moved cX7_moved 7 (some .int) ∈ AL := tb_4 (List.mem_of_getElem? (i := 72) rfl) rfl
theorem wd_4_73 : Cond.methodLink RX7 160 yX7_isSo ∈ AL := tb_4 (List.mem_of_getElem? (i := 73) rfl) rfl
theorem wd_4_75 : Cond.instanceMethod yX7_isSo ∈ AL := tb_4 (List.mem_of_getElem? (i := 75) rfl) rfl
theorem wd_4_76 : Cond.code yX7_isSo cX7_isSo 5 (some .boolean) ∈ AL := tb_4 (List.mem_of_getElem? (i := 76) rfl) rfl
theorem wd_4_77 : Cond.methodLink RL 94 yX7_mark ∈ AL := tb_4 (List.mem_of_getElem? (i := 77) rfl) rfl
theorem wd_4_78 : Cond.instanceMethod yX7_mark ∈ AL := tb_4 (List.mem_of_getElem? (i := 78) rfl) rfl
theorem wd_4_79 : Cond.selects RX7 yX7_mark yX7_mark ∈ AL := tb_4 (List.mem_of_getElem? (i := 79) rfl) rfl
theorem wd_4_80 : Cond.code yX7_mark cX7_mark 6 (some .int) ∈ AL := tb_4 (List.mem_of_getElem? (i := 80) rfl) rfl
theorem wd_4_81 : Cond.constant RX7 163 (-1000000) ∈ AL := tb_4 (List.mem_of_getElem? (i := 81) rfl) rfl
theorem wd_4_82 : Cond.constantLong RX7 168 (11) ∈ AL := tb_4 (List.mem_of_getElem? (i := 82) rfl) rfl
theorem wd_4_83 : Cond.constantLong RX7 170 (101) ∈ AL := tb_4 (List.mem_of_getElem? (i := 83) rfl) rfl
theorem wd_4_84 : Cond.constantLong RX7 172 (1011) ∈ AL := tb_4 (List.mem_of_getElem? (i := 84) rfl) rfl
theorem wd_4_85 : Cond.constantLong RX7 174 (10101) ∈ AL := tb_4 (List.mem_of_getElem? (i := 85) rfl) rfl
theorem wd_4_86 : Cond.constantLong RX7 176 (100001) ∈ AL := tb_4 (List.mem_of_getElem? (i := 86) rfl) rfl
theorem wd_4_87 : Cond.methodLink RL 98 yX7_keep ∈ AL := tb_4 (List.mem_of_getElem? (i := 87) rfl) rfl
theorem wd_4_88 : Cond.instanceMethod yX7_keep ∈ AL := tb_4 (List.mem_of_getElem? (i := 88) rfl) rfl
theorem wd_4_89 : Cond.selects RX7 yX7_keep yX7_keep ∈ AL := tb_4 (List.mem_of_getElem? (i := 89) rfl) rfl
theorem wd_4_90 : Cond.code yX7_keep cX7_keep 3 (some .int) ∈ AL := tb_4 (List.mem_of_getElem? (i := 90) rfl) rfl
theorem wd_4_91 : Cond.methodLink RL 102 yX7_back ∈ AL := tb_4 (List.mem_of_getElem? (i := 91) rfl) rfl
theorem wd_4_92 : Cond.instanceMethod yX7_back ∈ AL := tb_4 (List.mem_of_getElem? (i := 92) rfl) rfl
theorem wd_4_93 : Cond.selects RX7 yX7_back yX7_back ∈ AL := tb_4 (List.mem_of_getElem? (i := 93) rfl) rfl
theorem wd_4_94 : Cond.code yX7_back cX7_back 3 (some .int) ∈ AL := tb_4 (List.mem_of_getElem? (i := 94) rfl) rfl
theorem wd_4_95 : Cond.methodLink RL 106 yX7_count ∈ AL := tb_4 (List.mem_of_getElem? (i := 95) rfl) rfl
theorem wd_4_96 : Cond.instanceMethod yX7_count ∈ AL := tb_4 (List.mem_of_getElem? (i := 96) rfl) rfl
theorem wd_4_97 : Cond.selects RX7 yX7_count yX7_count ∈ AL := tb_4 (List.mem_of_getElem? (i := 97) rfl) rfl
theorem wd_4_98 : Cond.code yX7_count cX7_count 2 (some .int) ∈ AL := tb_4 (List.mem_of_getElem? (i := 98) rfl) rfl
theorem wd_4_99 : Cond.methodLink RL 111 yX7_trace ∈ AL := tb_4 (List.mem_of_getElem? (i := 99) rfl) rfl
theorem wd_4_100 : Cond.instanceMethod yX7_trace ∈ AL := tb_4 (List.mem_of_getElem? (i := 100) rfl) rfl
theorem wd_4_101 : Cond.selects RX7 yX7_trace yX7_trace ∈ AL := tb_4 (List.mem_of_getElem? (i := 101) rfl) rfl
theorem wd_4_102 : Cond.code yX7_trace cX7_trace 1 (some .long) ∈ AL := tb_4 (List.mem_of_getElem? (i := 102) rfl) rfl
theorem inA0 : ∀ w ∈ u_ws RX0 TX0 1, w ∈ AL := by
  intro w hw
  obtain ⟨k, hk, rfl⟩ := List.mem_map.mp hw
  have hk := List.mem_range.mp hk
  obtain rfl : k = 0 := by omega
  exact wd_1_156
theorem inA1 : ∀ w ∈ u_ws RX1 TX1 8, w ∈ AL := by
  intro w hw
  obtain ⟨k, hk, rfl⟩ := List.mem_map.mp hw
  have hk := List.mem_range.mp hk
  rcases (show k = 0 ∨ k = 1 ∨ k = 2 ∨ k = 3 ∨ k = 4 ∨ k = 5 ∨ k = 6 ∨ k = 7 by omega) with rfl | rfl | rfl | rfl | rfl | rfl | rfl | rfl
  · exact wd_1_84
  · exact wd_1_86
  · exact wd_1_88
  · exact wd_1_90
  · exact wd_1_92
  · exact wd_1_94
  · exact wd_1_96
  · exact wd_1_98
theorem inA2 : ∀ w ∈ u_ws RX2 TX2 5, w ∈ AL := by
  intro w hw
  obtain ⟨k, hk, rfl⟩ := List.mem_map.mp hw
  have hk := List.mem_range.mp hk
  rcases (show k = 0 ∨ k = 1 ∨ k = 2 ∨ k = 3 ∨ k = 4 by omega) with rfl | rfl | rfl | rfl | rfl
  · exact wd_1_137
  · exact wd_1_139
  · exact wd_1_141
  · exact wd_1_143
  · exact wd_1_145
theorem inA3 : ∀ w ∈ u_ws RX3 TX3 4, w ∈ AL := by
  intro w hw
  obtain ⟨k, hk, rfl⟩ := List.mem_map.mp hw
  have hk := List.mem_range.mp hk
  rcases (show k = 0 ∨ k = 1 ∨ k = 2 ∨ k = 3 by omega) with rfl | rfl | rfl | rfl
  · exact wd_1_116
  · exact wd_1_118
  · exact wd_1_120
  · exact wd_1_122
theorem inA4 : ∀ w ∈ u_ws RX4 TX4 6, w ∈ AL := by
  intro w hw
  obtain ⟨k, hk, rfl⟩ := List.mem_map.mp hw
  have hk := List.mem_range.mp hk
  rcases (show k = 0 ∨ k = 1 ∨ k = 2 ∨ k = 3 ∨ k = 4 ∨ k = 5 by omega) with rfl | rfl | rfl | rfl | rfl | rfl
  · exact wd_1_61
  · exact wd_1_63
  · exact wd_1_65
  · exact wd_1_67
  · exact wd_1_69
  · exact wd_1_71
theorem inA5 : ∀ w ∈ u_ws RX5 TX5 2, w ∈ AL := by
  intro w hw
  obtain ⟨k, hk, rfl⟩ := List.mem_map.mp hw
  have hk := List.mem_range.mp hk
  rcases (show k = 0 ∨ k = 1 by omega) with rfl | rfl
  · exact wd_1_33
  · exact wd_1_35
theorem inA6 : ∀ w ∈ u_ws RX6 TX6 8, w ∈ AL := by
  intro w hw
  obtain ⟨k, hk, rfl⟩ := List.mem_map.mp hw
  have hk := List.mem_range.mp hk
  rcases (show k = 0 ∨ k = 1 ∨ k = 2 ∨ k = 3 ∨ k = 4 ∨ k = 5 ∨ k = 6 ∨ k = 7 by omega) with rfl | rfl | rfl | rfl | rfl | rfl | rfl | rfl
  · exact wd_1_167
  · exact wd_1_169
  · exact wd_1_171
  · exact wd_1_173
  · exact wd_1_175
  · exact wd_1_177
  · exact wd_1_179
  · exact wd_1_181
theorem inA7 : ∀ w ∈ u_ws RX7 TX7 22, w ∈ AL := by
  intro w hw
  obtain ⟨k, hk, rfl⟩ := List.mem_map.mp hw
  have hk := List.mem_range.mp hk
  rcases (show k = 0 ∨ k = 1 ∨ k = 2 ∨ k = 3 ∨ k = 4 ∨ k = 5 ∨ k = 6 ∨ k = 7 ∨ k = 8 ∨ k = 9 ∨ k = 10 ∨ k = 11 ∨ k = 12 ∨ k = 13 ∨ k = 14 ∨ k = 15 ∨ k = 16 ∨ k = 17 ∨ k = 18 ∨ k = 19 ∨ k = 20 ∨ k = 21 by omega) with rfl | rfl | rfl | rfl | rfl | rfl | rfl | rfl | rfl | rfl | rfl | rfl | rfl | rfl | rfl | rfl | rfl | rfl | rfl | rfl | rfl | rfl
  · exact wd_3_101
  · exact wd_3_103
  · exact wd_3_105
  · exact wd_3_107
  · exact wd_3_109
  · exact wd_3_111
  · exact wd_3_113
  · exact wd_3_115
  · exact wd_3_117
  · exact wd_3_119
  · exact wd_3_121
  · exact wd_3_123
  · exact wd_3_125
  · exact wd_3_127
  · exact wd_3_129
  · exact wd_3_131
  · exact wd_3_133
  · exact wd_3_135
  · exact wd_3_137
  · exact wd_3_139
  · exact wd_3_141
  · exact wd_3_143
end
section
/-! a method's words: its own code, and the words of all -/
def wm (y : MethodName) (cc : ByteArray) (n : Nat) (ret : Option FieldType) : List Cond := Cond.code y cc n ret :: AL
theorem gd_wm {y : MethodName} {cc : ByteArray} {n : Nat} {ret : Option FieldType} {big : List Cond} (hb : ∀ w ∈ AL, w ∈ big) (h : Cond.code y cc n ret ∈ AL) : GoodIn big (wm y cc n ret) := fun w hw => by
  rcases List.mem_cons.mp hw with e | e
  · exact ⟨hb _ (by rw [e]; exact h), (AL_good _ (by rw [e]; exact h)).2⟩
  · exact ⟨hb _ e, (AL_good _ e).2⟩
theorem gd_V {own C : String} {idx : Nat} {y : MethodName} {cc : ByteArray} {n : Nat} {ret : Option FieldType} (h1 : Cond.methodLink own idx y ∈ AL) (h2 : Cond.instanceMethod y ∈ AL) (h3 : Cond.selects C y y ∈ AL) (h4 : Cond.initialized C ∈ AL) (h5 : Cond.code y cc n ret ∈ AL) : GoodIn AL (wsV own idx C y (wm y cc n ret)) := by
  unfold wsV
  refine goodIn_app (fun w hw => ?_) (gd_wm (fun _ h => h) h5)
  have h : w ∈ AL := by
    simp only [List.mem_cons, List.not_mem_nil, or_false] at hw
    rcases hw with rfl | rfl | rfl | rfl
    · exact h1
    · exact h2
    · exact h3
    · exact h4
  exact AL_good _ h
theorem gd_S {own : String} {idx : Nat} {y : MethodName} {cc : ByteArray} {n : Nat} {ret : Option FieldType} (h1 : Cond.methodLink own idx y ∈ AL) (h2 : Cond.static y ∈ AL) (h4 : Cond.initialized y.cls ∈ AL) (h5 : Cond.code y cc n ret ∈ AL) : GoodIn AL (va_wsS own idx y (wm y cc n ret)) := by
  unfold va_wsS
  refine goodIn_app (fun w hw => ?_) (gd_wm (fun _ h => h) h5)
  have h : w ∈ AL := by
    simp only [List.mem_cons, List.not_mem_nil, or_false] at hw
    rcases hw with rfl | rfl | rfl
    · exact h1
    · exact h2
    · exact h4
  exact AL_good _ h
/-! reading a finished tree: what an answer's text says at a branch, a name -/
theorem it_t {α : Sort _} {c : Prop} {i : Decidable c} {a b T : α} (h : c) (e : (@ite α c i a b) = T) : a = T := by rw [if_pos h] at e; exact e
theorem it_f {α : Sort _} {c : Prop} {i : Decidable c} {a b T : α} (h : ¬ c) (e : (@ite α c i a b) = T) : b = T := by rw [if_neg h] at e; exact e
def nm {α β : Type} (v : α) (k : α → β) : β := k v
theorem nm_u {α β : Type} {v x : α} {k : α → β} {T : β} (e : x = v) (h : nm v k = T) : k x = T := by subst e; exact h
def vs (V : Nat → Nat → Int32) (k j : Nat) (x : Int32) : Nat → Nat → Int32 := fun a b => if a = k ∧ b = j then x else V a b
theorem bo_nar {v : Int32} (h : v = 0 ∨ v = 1) : narrow .boolean (.int v) = .int v := by rcases h with rfl | rfl <;> rfl
theorem bo_fit {v : Int32} (h : v = 0 ∨ v = 1) : fits .boolean (.int v) = true := by rcases h with rfl | rfl <;> rfl
theorem setmap {α : Type} {n k : Nat} (f f' : Nat → α) (hk : k < n) (h : ∀ j, j ≠ k → f' j = f j) : ((List.range n).map f).set k (f' k) = (List.range n).map f' := by
  apply List.ext_getElem?
  intro i
  by_cases hi : i = k
  · subst hi
    rw [List.getElem?_set_self (by simpa using hk)]
    simp [hk]
  · rw [List.getElem?_set_ne (Ne.symm hi)]
    by_cases hn : i < n
    · simp [hn, h i hi]
    · simp [hn]
/-! the worlds -/
def ty3 (cI cZ cO : ClassId) : List (ClassId × FieldType) := [(cI, .int), (cZ, .boolean), (cO, .object "WindFrontiers$Strand")]
def wSt (sk : Nat → Nat) (V : Nat → Nat → Int32) (k : Nat) : Nat × va_E := (sk (20 + 2 * k), .inr (4, [.int (V k 0), .int (V k 1), .int (V k 2), .int (V k 3), .int (V k 4), .ref (sk (21 + 2 * k))]))
def wHd (sk : Nat → Nat) (cI : ClassId) (Hd : Nat → Nat → Int32) (k : Nat) : Nat × va_E := (sk (21 + 2 * k), .inl (cI, 5, .inl (Hd k)))
def wSy (sk : Nat → Nat) (g : Nat → Int32) (q : Nat) : Nat × va_E := (sk (4 + q), .inr (3, [.ref (sk (20 + 2 * (11 * q + 10))), .ref (sk (7 + q)), .int (g (7 + q)), .int (g (10 + q))]))
def wBf (sk : Nat → Nat) (cO : ClassId) (q : Nat) : Nat × va_E := (sk (7 + q), .inl (cO, 10, .inr (.inr (.inr (.inr (fun i => some (sk (20 + 2 * (11 * q + i)))))))))
def wX (cI cO : ClassId) (sk : Nat → Nat) (g tb : Nat → Int32) (tr : Int64) : va_W := [
  (sk 0, .inr (6, [.ref (sk 1), .ref (sk 2), .ref (sk 4), .ref (sk (20 + 2 * (11 * 0 + 10))), .ref (sk (4 + 1)), .ref (sk (4 + 2)), .ref (sk 10), .ref (sk 11)])),
  (sk 1, .inr (1, [.ref (sk 2), .ref (sk (20 + 2 * 33)), .int (g 0), .int (g 1), .int (g 2), .int (g 3), .int (g 4), .int (g 5)])),
  (sk 2, .inr (5, [.ref (sk 3), .int (g 6)])),
  (sk 3, .inl (cI, 150, .inl tb)),
  wSy sk g 0, wSy sk g 1, wSy sk g 2, wBf sk cO 0, wBf sk cO 1, wBf sk cO 2,
  (sk 10, .inr (2, [.int (g 13), .int (g 14), .int (g 15), .int (g 16), .int (g 17)])),
  (sk 11, .inr (0, [.long tr]))]
def WW (cI cO : ClassId) (sk : Nat → Nat) (g tb : Nat → Int32) (V Hd : Nat → Nat → Int32) (tr : Int64) : va_W := wX cI cO sk g tb tr ++ ((List.range 34).map (wSt sk V) ++ (List.range 34).map (wHd sk cI Hd))
def MW (cI cZ : ClassId) (mk : Nat → Nat) (mg st im ke se tx sh fa : Nat → Int32) (mt : Int64) : va_W := [
  (mk 0, .inr (7, [.int (mg 0), .int (mg 1), .ref (mk 1), .ref (mk 2), .ref (mk 3), .int (mg 2), .ref (mk 4), .long mt, .ref (mk 5), .int (mg 3), .int (mg 4), .int (mg 5), .int (mg 6), .int (mg 7), .int (mg 8), .int (mg 9), .int (mg 10), .int (mg 11), .ref (mk 6), .int (mg 12), .int (mg 13), .ref (mk 7)])),
  (mk 1, .inl (cI, 254, .inl st)), (mk 2, .inl (cI, 508, .inl im)), (mk 3, .inl (cZ, 2, .inl ke)), (mk 4, .inl (cI, 18, .inl se)), (mk 5, .inl (cI, 150, .inl tx)), (mk 6, .inl (cI, 20, .inl sh)), (mk 7, .inl (cI, 20, .inl fa))]
theorem WW_x (cI cO : ClassId) (sk : Nat → Nat) (g tb : Nat → Int32) (V Hd : Nat → Nat → Int32) (tr : Int64) {i : Nat} (hi : i < 12) : (WW cI cO sk g tb V Hd tr)[i]? = (wX cI cO sk g tb tr)[i]? := by
  unfold WW
  rw [List.getElem?_append_left (show i < (wX cI cO sk g tb tr).length from hi)]
theorem WW_st {cI cO : ClassId} {sk : Nat → Nat} {g tb : Nat → Int32} {V Hd : Nat → Nat → Int32} {tr : Int64} {k : Nat} (hk : k < 34) : (WW cI cO sk g tb V Hd tr)[12 + k]? = some (wSt sk V k) := by
  unfold WW
  rw [List.getElem?_append_right (show (wX cI cO sk g tb tr).length ≤ 12 + k from Nat.le_add_right 12 k), show 12 + k - (wX cI cO sk g tb tr).length = k from Nat.add_sub_cancel_left 12 k, List.getElem?_append_left (by simpa using hk)]
  simp [hk]
theorem WW_hd {cI cO : ClassId} {sk : Nat → Nat} {g tb : Nat → Int32} {V Hd : Nat → Nat → Int32} {tr : Int64} {k : Nat} (hk : k < 34) : (WW cI cO sk g tb V Hd tr)[46 + k]? = some (wHd sk cI Hd k) := by
  unfold WW
  rw [List.getElem?_append_right (show (wX cI cO sk g tb tr).length ≤ 46 + k by show 12 ≤ 46 + k; omega), show 46 + k - (wX cI cO sk g tb tr).length = 34 + k by show 46 + k - 12 = 34 + k; omega, List.getElem?_append_right (by simp), List.length_map, List.length_range, Nat.add_sub_cancel_left]
  simp [hk]
theorem WW_setX {cI cO : ClassId} {sk : Nat → Nat} {g tb g' tb' : Nat → Int32} {V Hd : Nat → Nat → Int32} {tr tr' : Int64} {i : Nat} (hi : i < 12) {x : Nat × va_E} (h : (wX cI cO sk g tb tr).set i x = wX cI cO sk g' tb' tr') : (WW cI cO sk g tb V Hd tr).set i x = WW cI cO sk g' tb' V Hd tr' := by
  unfold WW
  rw [List.set_append_left i x (show i < (wX cI cO sk g tb tr).length from hi), h]
theorem WW_setS {cI cO : ClassId} {sk : Nat → Nat} {g tb : Nat → Int32} {V V' Hd : Nat → Nat → Int32} {tr : Int64} {k : Nat} (hk : k < 34) (h : ∀ j, j ≠ k → V' j = V j) {x : Nat × va_E} (hx : x = wSt sk V' k) : (WW cI cO sk g tb V Hd tr).set (12 + k) x = WW cI cO sk g tb V' Hd tr := by
  unfold WW
  rw [List.set_append_right (12 + k) x (show (wX cI cO sk g tb tr).length ≤ 12 + k from Nat.le_add_right 12 k), show 12 + k - (wX cI cO sk g tb tr).length = k from Nat.add_sub_cancel_left 12 k, List.set_append_left k x (by simpa using hk), hx, setmap (wSt sk V) (wSt sk V') hk (fun j hj => by simp only [wSt, h j hj])]
theorem WW_setH {cI cO : ClassId} {sk : Nat → Nat} {g tb : Nat → Int32} {V Hd Hd' : Nat → Nat → Int32} {tr : Int64} {k : Nat} (hk : k < 34) (h : ∀ j, j ≠ k → Hd' j = Hd j) {x : Nat × va_E} (hx : x = wHd sk cI Hd' k) : (WW cI cO sk g tb V Hd tr).set (46 + k) x = WW cI cO sk g tb V Hd' tr := by
  unfold WW
  rw [List.set_append_right (46 + k) x (show (wX cI cO sk g tb tr).length ≤ 46 + k by show 12 ≤ 46 + k; omega), show 46 + k - (wX cI cO sk g tb tr).length = 34 + k by show 46 + k - 12 = 34 + k; omega, List.set_append_right (34 + k) x (by simp), List.length_map, List.length_range, Nat.add_sub_cancel_left, hx, setmap (wHd sk cI Hd) (wHd sk cI Hd') hk (fun j hj => by simp only [wHd, h j hj])]
theorem vs_ne {V : Nat → Nat → Int32} {k i j : Nat} {x : Int32} (h : j ≠ k) : vs V k i x j = V j := by
  funext b
  simp [vs, h]
theorem vs_eq {V : Nat → Nat → Int32} {k i : Nat} {x : Int32} : vs V k i x k = upd (V k) i x := by
  funext b
  simp [vs, upd]
theorem WW_sy {cI cO : ClassId} {sk : Nat → Nat} {g tb : Nat → Int32} {V Hd : Nat → Nat → Int32} {tr : Int64} {q : Nat} (hq : q < 3) : (WW cI cO sk g tb V Hd tr)[4 + q]? = some (wSy sk g q) := by
  rw [WW_x cI cO sk g tb V Hd tr (by omega)]
  rcases (show q = 0 ∨ q = 1 ∨ q = 2 by omega) with rfl | rfl | rfl <;> rfl
theorem WW_bf {cI cO : ClassId} {sk : Nat → Nat} {g tb : Nat → Int32} {V Hd : Nat → Nat → Int32} {tr : Int64} {q : Nat} (hq : q < 3) : (WW cI cO sk g tb V Hd tr)[7 + q]? = some (wBf sk cO q) := by
  rw [WW_x cI cO sk g tb V Hd tr (by omega)]
  rcases (show q = 0 ∨ q = 1 ∨ q = 2 by omega) with rfl | rfl | rfl <;> rfl
section STEP
variable {p : Program} {l : Launch} {e : Env} {R : Room} {s : State} {m : MethodId} {args : Array Value} {below : List Frame} {meth : Method} {c : Code} {H : Heap} {locs : List Loc} {cells slots : Nat} {Q : State → Prop}
variable {cc : ByteArray} {pc nL : Nat} {ls : Array Slot} {rest : List Value} {D : va_G} {A : Nat → Prop} {H0 : Heap} {own : String}
variable {cI cZ cO : ClassId} {sk mk : Nat → Nat} {g tb : Nat → Int32} {V Hd : Nat → Nat → Int32} {tr : Int64} {mg st im ke se tx sh fa : Nat → Int32} {mt : Int64}
theorem gX6_reader (C : CallFix p m c cc nL s args AL own) (hK : va_K D vwCl (ty3 cI cZ cO) s) (hP : va_P D vwCl (WW cI cO sk g tb V Hd tr) H) {idx : Nat} (hl : Cond.fieldLink own idx "WindFrontiers" "reader" "LWindFrontiers$Reader;" ∈ AL) (hdg : decode cc pc = .ok (.getfield idx, 3)) (kk : W p l e R s m args below meth c H locs cells slots Q (F0 m (pc + 3) ls (.ref (sk 1) :: rest))) : W p l e R s m args below meth c H locs cells slots Q (F0 m pc ls (.ref (sk 0) :: rest)) :=
  va_get (D := D) (ci := 6) (C := RX6) (T := TX6) (N := 8) C.1 C.2.1 C.2.2.2.2 inA6 C.2.2.2.1 hK hP 0 ((WW_x cI cO sk g tb V Hd tr (show 0 < 12 by decide)).trans rfl) rfl 0 (by decide) (C.2.2.2.2 _ hl) (fun _ h => h) rfl hdg kk
theorem gX6_text (C : CallFix p m c cc nL s args AL own) (hK : va_K D vwCl (ty3 cI cZ cO) s) (hP : va_P D vwCl (WW cI cO sk g tb V Hd tr) H) {idx : Nat} (hl : Cond.fieldLink own idx "WindFrontiers" "text" "LWindFrontiers$Text;" ∈ AL) (hdg : decode cc pc = .ok (.getfield idx, 3)) (kk : W p l e R s m args below meth c H locs cells slots Q (F0 m (pc + 3) ls (.ref (sk 2) :: rest))) : W p l e R s m args below meth c H locs cells slots Q (F0 m pc ls (.ref (sk 0) :: rest)) :=
  va_get (D := D) (ci := 6) (C := RX6) (T := TX6) (N := 8) C.1 C.2.1 C.2.2.2.2 inA6 C.2.2.2.1 hK hP 0 ((WW_x cI cO sk g tb V Hd tr (show 0 < 12 by decide)).trans rfl) rfl 1 (by decide) (C.2.2.2.2 _ hl) (fun _ h => h) rfl hdg kk
theorem gX6_story (C : CallFix p m c cc nL s args AL own) (hK : va_K D vwCl (ty3 cI cZ cO) s) (hP : va_P D vwCl (WW cI cO sk g tb V Hd tr) H) {idx : Nat} (hl : Cond.fieldLink own idx "WindFrontiers" "story" "LWindFrontiers$Story;" ∈ AL) (hdg : decode cc pc = .ok (.getfield idx, 3)) (kk : W p l e R s m args below meth c H locs cells slots Q (F0 m (pc + 3) ls (.ref (sk 4) :: rest))) : W p l e R s m args below meth c H locs cells slots Q (F0 m pc ls (.ref (sk 0) :: rest)) :=
  va_get (D := D) (ci := 6) (C := RX6) (T := TX6) (N := 8) C.1 C.2.1 C.2.2.2.2 inA6 C.2.2.2.1 hK hP 0 ((WW_x cI cO sk g tb V Hd tr (show 0 < 12 by decide)).trans rfl) rfl 2 (by decide) (C.2.2.2.2 _ hl) (fun _ h => h) rfl hdg kk
theorem gX6_shore (C : CallFix p m c cc nL s args AL own) (hK : va_K D vwCl (ty3 cI cZ cO) s) (hP : va_P D vwCl (WW cI cO sk g tb V Hd tr) H) {idx : Nat} (hl : Cond.fieldLink own idx "WindFrontiers" "shore" "LWindFrontiers$Strand;" ∈ AL) (hdg : decode cc pc = .ok (.getfield idx, 3)) (kk : W p l e R s m args below meth c H locs cells slots Q (F0 m (pc + 3) ls (.ref (sk (20 + 2 * (11 * 0 + 10))) :: rest))) : W p l e R s m args below meth c H locs cells slots Q (F0 m pc ls (.ref (sk 0) :: rest)) :=
  va_get (D := D) (ci := 6) (C := RX6) (T := TX6) (N := 8) C.1 C.2.1 C.2.2.2.2 inA6 C.2.2.2.1 hK hP 0 ((WW_x cI cO sk g tb V Hd tr (show 0 < 12 by decide)).trans rfl) rfl 3 (by decide) (C.2.2.2.2 _ hl) (fun _ h => h) rfl hdg kk
theorem gX6_firstImage (C : CallFix p m c cc nL s args AL own) (hK : va_K D vwCl (ty3 cI cZ cO) s) (hP : va_P D vwCl (WW cI cO sk g tb V Hd tr) H) {idx : Nat} (hl : Cond.fieldLink own idx "WindFrontiers" "firstImage" "LWindFrontiers$Story;" ∈ AL) (hdg : decode cc pc = .ok (.getfield idx, 3)) (kk : W p l e R s m args below meth c H locs cells slots Q (F0 m (pc + 3) ls (.ref (sk (4 + 1)) :: rest))) : W p l e R s m args below meth c H locs cells slots Q (F0 m pc ls (.ref (sk 0) :: rest)) :=
  va_get (D := D) (ci := 6) (C := RX6) (T := TX6) (N := 8) C.1 C.2.1 C.2.2.2.2 inA6 C.2.2.2.1 hK hP 0 ((WW_x cI cO sk g tb V Hd tr (show 0 < 12 by decide)).trans rfl) rfl 4 (by decide) (C.2.2.2.2 _ hl) (fun _ h => h) rfl hdg kk
theorem gX6_secondImage (C : CallFix p m c cc nL s args AL own) (hK : va_K D vwCl (ty3 cI cZ cO) s) (hP : va_P D vwCl (WW cI cO sk g tb V Hd tr) H) {idx : Nat} (hl : Cond.fieldLink own idx "WindFrontiers" "secondImage" "LWindFrontiers$Story;" ∈ AL) (hdg : decode cc pc = .ok (.getfield idx, 3)) (kk : W p l e R s m args below meth c H locs cells slots Q (F0 m (pc + 3) ls (.ref (sk (4 + 2)) :: rest))) : W p l e R s m args below meth c H locs cells slots Q (F0 m pc ls (.ref (sk 0) :: rest)) :=
  va_get (D := D) (ci := 6) (C := RX6) (T := TX6) (N := 8) C.1 C.2.1 C.2.2.2.2 inA6 C.2.2.2.1 hK hP 0 ((WW_x cI cO sk g tb V Hd tr (show 0 < 12 by decide)).trans rfl) rfl 5 (by decide) (C.2.2.2.2 _ hl) (fun _ h => h) rfl hdg kk
theorem gX6_seen (C : CallFix p m c cc nL s args AL own) (hK : va_K D vwCl (ty3 cI cZ cO) s) (hP : va_P D vwCl (WW cI cO sk g tb V Hd tr) H) {idx : Nat} (hl : Cond.fieldLink own idx "WindFrontiers" "seen" "LWindFrontiers$Seen;" ∈ AL) (hdg : decode cc pc = .ok (.getfield idx, 3)) (kk : W p l e R s m args below meth c H locs cells slots Q (F0 m (pc + 3) ls (.ref (sk 10) :: rest))) : W p l e R s m args below meth c H locs cells slots Q (F0 m pc ls (.ref (sk 0) :: rest)) :=
  va_get (D := D) (ci := 6) (C := RX6) (T := TX6) (N := 8) C.1 C.2.1 C.2.2.2.2 inA6 C.2.2.2.1 hK hP 0 ((WW_x cI cO sk g tb V Hd tr (show 0 < 12 by decide)).trans rfl) rfl 6 (by decide) (C.2.2.2.2 _ hl) (fun _ h => h) rfl hdg kk
theorem gX6_marks (C : CallFix p m c cc nL s args AL own) (hK : va_K D vwCl (ty3 cI cZ cO) s) (hP : va_P D vwCl (WW cI cO sk g tb V Hd tr) H) {idx : Nat} (hl : Cond.fieldLink own idx "WindFrontiers" "marks" "LWindFrontiers$Marks;" ∈ AL) (hdg : decode cc pc = .ok (.getfield idx, 3)) (kk : W p l e R s m args below meth c H locs cells slots Q (F0 m (pc + 3) ls (.ref (sk 11) :: rest))) : W p l e R s m args below meth c H locs cells slots Q (F0 m pc ls (.ref (sk 0) :: rest)) :=
  va_get (D := D) (ci := 6) (C := RX6) (T := TX6) (N := 8) C.1 C.2.1 C.2.2.2.2 inA6 C.2.2.2.1 hK hP 0 ((WW_x cI cO sk g tb V Hd tr (show 0 < 12 by decide)).trans rfl) rfl 7 (by decide) (C.2.2.2.2 _ hl) (fun _ h => h) rfl hdg kk
theorem gX1_text (C : CallFix p m c cc nL s args AL own) (hK : va_K D vwCl (ty3 cI cZ cO) s) (hP : va_P D vwCl (WW cI cO sk g tb V Hd tr) H) {idx : Nat} (hl : Cond.fieldLink own idx "WindFrontiers$Reader" "text" "LWindFrontiers$Text;" ∈ AL) (hdg : decode cc pc = .ok (.getfield idx, 3)) (kk : W p l e R s m args below meth c H locs cells slots Q (F0 m (pc + 3) ls (.ref (sk 2) :: rest))) : W p l e R s m args below meth c H locs cells slots Q (F0 m pc ls (.ref (sk 1) :: rest)) :=
  va_get (D := D) (ci := 1) (C := RX1) (T := TX1) (N := 8) C.1 C.2.1 C.2.2.2.2 inA1 C.2.2.2.1 hK hP 1 ((WW_x cI cO sk g tb V Hd tr (show 1 < 12 by decide)).trans rfl) rfl 0 (by decide) (C.2.2.2.2 _ hl) (fun _ h => h) rfl hdg kk
theorem gX1_draft (C : CallFix p m c cc nL s args AL own) (hK : va_K D vwCl (ty3 cI cZ cO) s) (hP : va_P D vwCl (WW cI cO sk g tb V Hd tr) H) {idx : Nat} (hl : Cond.fieldLink own idx "WindFrontiers$Reader" "draft" "LWindFrontiers$Strand;" ∈ AL) (hdg : decode cc pc = .ok (.getfield idx, 3)) (kk : W p l e R s m args below meth c H locs cells slots Q (F0 m (pc + 3) ls (.ref (sk (20 + 2 * 33)) :: rest))) : W p l e R s m args below meth c H locs cells slots Q (F0 m pc ls (.ref (sk 1) :: rest)) :=
  va_get (D := D) (ci := 1) (C := RX1) (T := TX1) (N := 8) C.1 C.2.1 C.2.2.2.2 inA1 C.2.2.2.1 hK hP 1 ((WW_x cI cO sk g tb V Hd tr (show 1 < 12 by decide)).trans rfl) rfl 1 (by decide) (C.2.2.2.2 _ hl) (fun _ h => h) rfl hdg kk
theorem gX1_place (C : CallFix p m c cc nL s args AL own) (hK : va_K D vwCl (ty3 cI cZ cO) s) (hP : va_P D vwCl (WW cI cO sk g tb V Hd tr) H) {idx : Nat} (hl : Cond.fieldLink own idx "WindFrontiers$Reader" "place" "I" ∈ AL) (hdg : decode cc pc = .ok (.getfield idx, 3)) (kk : W p l e R s m args below meth c H locs cells slots Q (F0 m (pc + 3) ls (.int (g 0) :: rest))) : W p l e R s m args below meth c H locs cells slots Q (F0 m pc ls (.ref (sk 1) :: rest)) :=
  va_get (D := D) (ci := 1) (C := RX1) (T := TX1) (N := 8) C.1 C.2.1 C.2.2.2.2 inA1 C.2.2.2.1 hK hP 1 ((WW_x cI cO sk g tb V Hd tr (show 1 < 12 by decide)).trans rfl) rfl 2 (by decide) (C.2.2.2.2 _ hl) (fun _ h => h) rfl hdg kk
theorem gX1_start (C : CallFix p m c cc nL s args AL own) (hK : va_K D vwCl (ty3 cI cZ cO) s) (hP : va_P D vwCl (WW cI cO sk g tb V Hd tr) H) {idx : Nat} (hl : Cond.fieldLink own idx "WindFrontiers$Reader" "start" "I" ∈ AL) (hdg : decode cc pc = .ok (.getfield idx, 3)) (kk : W p l e R s m args below meth c H locs cells slots Q (F0 m (pc + 3) ls (.int (g 1) :: rest))) : W p l e R s m args below meth c H locs cells slots Q (F0 m pc ls (.ref (sk 1) :: rest)) :=
  va_get (D := D) (ci := 1) (C := RX1) (T := TX1) (N := 8) C.1 C.2.1 C.2.2.2.2 inA1 C.2.2.2.1 hK hP 1 ((WW_x cI cO sk g tb V Hd tr (show 1 < 12 by decide)).trans rfl) rfl 3 (by decide) (C.2.2.2.2 _ hl) (fun _ h => h) rfl hdg kk
theorem gX1_token (C : CallFix p m c cc nL s args AL own) (hK : va_K D vwCl (ty3 cI cZ cO) s) (hP : va_P D vwCl (WW cI cO sk g tb V Hd tr) H) {idx : Nat} (hl : Cond.fieldLink own idx "WindFrontiers$Reader" "token" "I" ∈ AL) (hdg : decode cc pc = .ok (.getfield idx, 3)) (kk : W p l e R s m args below meth c H locs cells slots Q (F0 m (pc + 3) ls (.int (g 2) :: rest))) : W p l e R s m args below meth c H locs cells slots Q (F0 m pc ls (.ref (sk 1) :: rest)) :=
  va_get (D := D) (ci := 1) (C := RX1) (T := TX1) (N := 8) C.1 C.2.1 C.2.2.2.2 inA1 C.2.2.2.1 hK hP 1 ((WW_x cI cO sk g tb V Hd tr (show 1 < 12 by decide)).trans rfl) rfl 4 (by decide) (C.2.2.2.2 _ hl) (fun _ h => h) rfl hdg kk
theorem gX1_value (C : CallFix p m c cc nL s args AL own) (hK : va_K D vwCl (ty3 cI cZ cO) s) (hP : va_P D vwCl (WW cI cO sk g tb V Hd tr) H) {idx : Nat} (hl : Cond.fieldLink own idx "WindFrontiers$Reader" "value" "I" ∈ AL) (hdg : decode cc pc = .ok (.getfield idx, 3)) (kk : W p l e R s m args below meth c H locs cells slots Q (F0 m (pc + 3) ls (.int (g 3) :: rest))) : W p l e R s m args below meth c H locs cells slots Q (F0 m pc ls (.ref (sk 1) :: rest)) :=
  va_get (D := D) (ci := 1) (C := RX1) (T := TX1) (N := 8) C.1 C.2.1 C.2.2.2.2 inA1 C.2.2.2.1 hK hP 1 ((WW_x cI cO sk g tb V Hd tr (show 1 < 12 by decide)).trans rfl) rfl 5 (by decide) (C.2.2.2.2 _ hl) (fun _ h => h) rfl hdg kk
theorem gX1_items (C : CallFix p m c cc nL s args AL own) (hK : va_K D vwCl (ty3 cI cZ cO) s) (hP : va_P D vwCl (WW cI cO sk g tb V Hd tr) H) {idx : Nat} (hl : Cond.fieldLink own idx "WindFrontiers$Reader" "items" "I" ∈ AL) (hdg : decode cc pc = .ok (.getfield idx, 3)) (kk : W p l e R s m args below meth c H locs cells slots Q (F0 m (pc + 3) ls (.int (g 4) :: rest))) : W p l e R s m args below meth c H locs cells slots Q (F0 m pc ls (.ref (sk 1) :: rest)) :=
  va_get (D := D) (ci := 1) (C := RX1) (T := TX1) (N := 8) C.1 C.2.1 C.2.2.2.2 inA1 C.2.2.2.1 hK hP 1 ((WW_x cI cO sk g tb V Hd tr (show 1 < 12 by decide)).trans rfl) rfl 6 (by decide) (C.2.2.2.2 _ hl) (fun _ h => h) rfl hdg kk
theorem gX1_windTold (C : CallFix p m c cc nL s args AL own) (hK : va_K D vwCl (ty3 cI cZ cO) s) (hP : va_P D vwCl (WW cI cO sk g tb V Hd tr) H) {idx : Nat} (hl : Cond.fieldLink own idx "WindFrontiers$Reader" "windTold" "Z" ∈ AL) (hdg : decode cc pc = .ok (.getfield idx, 3)) (kk : W p l e R s m args below meth c H locs cells slots Q (F0 m (pc + 3) ls (.int (g 5) :: rest))) : W p l e R s m args below meth c H locs cells slots Q (F0 m pc ls (.ref (sk 1) :: rest)) :=
  va_get (D := D) (ci := 1) (C := RX1) (T := TX1) (N := 8) C.1 C.2.1 C.2.2.2.2 inA1 C.2.2.2.1 hK hP 1 ((WW_x cI cO sk g tb V Hd tr (show 1 < 12 by decide)).trans rfl) rfl 7 (by decide) (C.2.2.2.2 _ hl) (fun _ h => h) rfl hdg kk
theorem gX5_bytes (C : CallFix p m c cc nL s args AL own) (hK : va_K D vwCl (ty3 cI cZ cO) s) (hP : va_P D vwCl (WW cI cO sk g tb V Hd tr) H) {idx : Nat} (hl : Cond.fieldLink own idx "WindFrontiers$Text" "bytes" "[I" ∈ AL) (hdg : decode cc pc = .ok (.getfield idx, 3)) (kk : W p l e R s m args below meth c H locs cells slots Q (F0 m (pc + 3) ls (.ref (sk 3) :: rest))) : W p l e R s m args below meth c H locs cells slots Q (F0 m pc ls (.ref (sk 2) :: rest)) :=
  va_get (D := D) (ci := 5) (C := RX5) (T := TX5) (N := 2) C.1 C.2.1 C.2.2.2.2 inA5 C.2.2.2.1 hK hP 2 ((WW_x cI cO sk g tb V Hd tr (show 2 < 12 by decide)).trans rfl) rfl 0 (by decide) (C.2.2.2.2 _ hl) (fun _ h => h) rfl hdg kk
theorem gX5_length (C : CallFix p m c cc nL s args AL own) (hK : va_K D vwCl (ty3 cI cZ cO) s) (hP : va_P D vwCl (WW cI cO sk g tb V Hd tr) H) {idx : Nat} (hl : Cond.fieldLink own idx "WindFrontiers$Text" "length" "I" ∈ AL) (hdg : decode cc pc = .ok (.getfield idx, 3)) (kk : W p l e R s m args below meth c H locs cells slots Q (F0 m (pc + 3) ls (.int (g 6) :: rest))) : W p l e R s m args below meth c H locs cells slots Q (F0 m pc ls (.ref (sk 2) :: rest)) :=
  va_get (D := D) (ci := 5) (C := RX5) (T := TX5) (N := 2) C.1 C.2.1 C.2.2.2.2 inA5 C.2.2.2.1 hK hP 2 ((WW_x cI cO sk g tb V Hd tr (show 2 < 12 by decide)).trans rfl) rfl 1 (by decide) (C.2.2.2.2 _ hl) (fun _ h => h) rfl hdg kk
theorem gX2_much (C : CallFix p m c cc nL s args AL own) (hK : va_K D vwCl (ty3 cI cZ cO) s) (hP : va_P D vwCl (WW cI cO sk g tb V Hd tr) H) {idx : Nat} (hl : Cond.fieldLink own idx "WindFrontiers$Seen" "much" "I" ∈ AL) (hdg : decode cc pc = .ok (.getfield idx, 3)) (kk : W p l e R s m args below meth c H locs cells slots Q (F0 m (pc + 3) ls (.int (g 13) :: rest))) : W p l e R s m args below meth c H locs cells slots Q (F0 m pc ls (.ref (sk 10) :: rest)) :=
  va_get (D := D) (ci := 2) (C := RX2) (T := TX2) (N := 5) C.1 C.2.1 C.2.2.2.2 inA2 C.2.2.2.1 hK hP 10 ((WW_x cI cO sk g tb V Hd tr (show 10 < 12 by decide)).trans rfl) rfl 0 (by decide) (C.2.2.2.2 _ hl) (fun _ h => h) rfl hdg kk
theorem gX2_stillByLeft (C : CallFix p m c cc nL s args AL own) (hK : va_K D vwCl (ty3 cI cZ cO) s) (hP : va_P D vwCl (WW cI cO sk g tb V Hd tr) H) {idx : Nat} (hl : Cond.fieldLink own idx "WindFrontiers$Seen" "stillByLeft" "I" ∈ AL) (hdg : decode cc pc = .ok (.getfield idx, 3)) (kk : W p l e R s m args below meth c H locs cells slots Q (F0 m (pc + 3) ls (.int (g 14) :: rest))) : W p l e R s m args below meth c H locs cells slots Q (F0 m pc ls (.ref (sk 10) :: rest)) :=
  va_get (D := D) (ci := 2) (C := RX2) (T := TX2) (N := 5) C.1 C.2.1 C.2.2.2.2 inA2 C.2.2.2.1 hK hP 10 ((WW_x cI cO sk g tb V Hd tr (show 10 < 12 by decide)).trans rfl) rfl 1 (by decide) (C.2.2.2.2 _ hl) (fun _ h => h) rfl hdg kk
theorem gX2_stillByRight (C : CallFix p m c cc nL s args AL own) (hK : va_K D vwCl (ty3 cI cZ cO) s) (hP : va_P D vwCl (WW cI cO sk g tb V Hd tr) H) {idx : Nat} (hl : Cond.fieldLink own idx "WindFrontiers$Seen" "stillByRight" "I" ∈ AL) (hdg : decode cc pc = .ok (.getfield idx, 3)) (kk : W p l e R s m args below meth c H locs cells slots Q (F0 m (pc + 3) ls (.int (g 15) :: rest))) : W p l e R s m args below meth c H locs cells slots Q (F0 m pc ls (.ref (sk 10) :: rest)) :=
  va_get (D := D) (ci := 2) (C := RX2) (T := TX2) (N := 5) C.1 C.2.1 C.2.2.2.2 inA2 C.2.2.2.1 hK hP 10 ((WW_x cI cO sk g tb V Hd tr (show 10 < 12 by decide)).trans rfl) rfl 2 (by decide) (C.2.2.2.2 _ hl) (fun _ h => h) rfl hdg kk
theorem gX2_openByLeft (C : CallFix p m c cc nL s args AL own) (hK : va_K D vwCl (ty3 cI cZ cO) s) (hP : va_P D vwCl (WW cI cO sk g tb V Hd tr) H) {idx : Nat} (hl : Cond.fieldLink own idx "WindFrontiers$Seen" "openByLeft" "I" ∈ AL) (hdg : decode cc pc = .ok (.getfield idx, 3)) (kk : W p l e R s m args below meth c H locs cells slots Q (F0 m (pc + 3) ls (.int (g 16) :: rest))) : W p l e R s m args below meth c H locs cells slots Q (F0 m pc ls (.ref (sk 10) :: rest)) :=
  va_get (D := D) (ci := 2) (C := RX2) (T := TX2) (N := 5) C.1 C.2.1 C.2.2.2.2 inA2 C.2.2.2.1 hK hP 10 ((WW_x cI cO sk g tb V Hd tr (show 10 < 12 by decide)).trans rfl) rfl 3 (by decide) (C.2.2.2.2 _ hl) (fun _ h => h) rfl hdg kk
theorem gX2_openByRight (C : CallFix p m c cc nL s args AL own) (hK : va_K D vwCl (ty3 cI cZ cO) s) (hP : va_P D vwCl (WW cI cO sk g tb V Hd tr) H) {idx : Nat} (hl : Cond.fieldLink own idx "WindFrontiers$Seen" "openByRight" "I" ∈ AL) (hdg : decode cc pc = .ok (.getfield idx, 3)) (kk : W p l e R s m args below meth c H locs cells slots Q (F0 m (pc + 3) ls (.int (g 17) :: rest))) : W p l e R s m args below meth c H locs cells slots Q (F0 m pc ls (.ref (sk 10) :: rest)) :=
  va_get (D := D) (ci := 2) (C := RX2) (T := TX2) (N := 5) C.1 C.2.1 C.2.2.2.2 inA2 C.2.2.2.1 hK hP 10 ((WW_x cI cO sk g tb V Hd tr (show 10 < 12 by decide)).trans rfl) rfl 4 (by decide) (C.2.2.2.2 _ hl) (fun _ h => h) rfl hdg kk
theorem gX0_sum (C : CallFix p m c cc nL s args AL own) (hK : va_K D vwCl (ty3 cI cZ cO) s) (hP : va_P D vwCl (WW cI cO sk g tb V Hd tr) H) {idx : Nat} (hl : Cond.fieldLink own idx "WindFrontiers$Marks" "sum" "J" ∈ AL) (hdg : decode cc pc = .ok (.getfield idx, 3)) (kk : W p l e R s m args below meth c H locs cells slots Q (F0 m (pc + 3) ls (.long tr :: rest))) : W p l e R s m args below meth c H locs cells slots Q (F0 m pc ls (.ref (sk 11) :: rest)) :=
  va_get (D := D) (ci := 0) (C := RX0) (T := TX0) (N := 1) C.1 C.2.1 C.2.2.2.2 inA0 C.2.2.2.1 hK hP 11 ((WW_x cI cO sk g tb V Hd tr (show 11 < 12 by decide)).trans rfl) rfl 0 (by decide) (C.2.2.2.2 _ hl) (fun _ h => h) rfl hdg kk
theorem pX1_place (C : CallFix p m c cc nL s args AL own) (hK : va_K D vwCl (ty3 cI cZ cO) s) (hP : va_P D vwCl (WW cI cO sk g tb V Hd tr) H) (hD : va_D A (WW cI cO sk g tb V Hd tr)) (hS : va_S A H0 H locs) {idx : Nat} {x : Int32} (hl : Cond.fieldLink own idx "WindFrontiers$Reader" "place" "I" ∈ AL) (hdg : decode cc pc = .ok (.putfield idx, 3)) (kk : ∀ (H : Heap) (locs : List Loc), va_P D vwCl (WW cI cO sk (upd g 0 x) tb V Hd tr) H → va_D A (WW cI cO sk (upd g 0 x) tb V Hd tr) → va_S A H0 H locs → W p l e R s m args below meth c H locs cells slots Q (F0 m (pc + 3) ls rest)) : W p l e R s m args below meth c H locs cells slots Q (F0 m pc ls (.int x :: .ref (sk 1) :: rest)) := by
  refine va_put (D := D) (ci := 1) (v := .int x) (ty := .int) (C := RX1) (T := TX1) (N := 8) C.1 C.2.1 C.2.2.2.2 inA1 tyX1 tyX1_ok nmX1 C.2.2.2.1 hK hP hD hS 1 ((WW_x cI cO sk g tb V Hd tr (show 1 < 12 by decide)).trans rfl) rfl 2 (by decide) (C.2.2.2.2 _ hl) (fun _ h => h) rfl (by decide +kernel) rfl rfl (Nat.le_of_ble_eq_true rfl) hdg (fun H1 locs1 h1 h2 h3 => ?_)
  have e := WW_setX (V := V) (Hd := Hd) (tr := tr) (g := g) (tb := tb) (sk := sk) (cI := cI) (cO := cO) (show 1 < 12 by decide) (show (wX cI cO sk g tb tr).set 1 (sk 1, .inr (1, [.ref (sk 2), .ref (sk (20 + 2 * 33)), .int x, .int (g 1), .int (g 2), .int (g 3), .int (g 4), .int (g 5)])) = wX cI cO sk (upd g 0 x) tb tr from rfl)
  exact kk H1 locs1 (e ▸ h1) (e ▸ h2) h3
theorem pX1_start (C : CallFix p m c cc nL s args AL own) (hK : va_K D vwCl (ty3 cI cZ cO) s) (hP : va_P D vwCl (WW cI cO sk g tb V Hd tr) H) (hD : va_D A (WW cI cO sk g tb V Hd tr)) (hS : va_S A H0 H locs) {idx : Nat} {x : Int32} (hl : Cond.fieldLink own idx "WindFrontiers$Reader" "start" "I" ∈ AL) (hdg : decode cc pc = .ok (.putfield idx, 3)) (kk : ∀ (H : Heap) (locs : List Loc), va_P D vwCl (WW cI cO sk (upd g 1 x) tb V Hd tr) H → va_D A (WW cI cO sk (upd g 1 x) tb V Hd tr) → va_S A H0 H locs → W p l e R s m args below meth c H locs cells slots Q (F0 m (pc + 3) ls rest)) : W p l e R s m args below meth c H locs cells slots Q (F0 m pc ls (.int x :: .ref (sk 1) :: rest)) := by
  refine va_put (D := D) (ci := 1) (v := .int x) (ty := .int) (C := RX1) (T := TX1) (N := 8) C.1 C.2.1 C.2.2.2.2 inA1 tyX1 tyX1_ok nmX1 C.2.2.2.1 hK hP hD hS 1 ((WW_x cI cO sk g tb V Hd tr (show 1 < 12 by decide)).trans rfl) rfl 3 (by decide) (C.2.2.2.2 _ hl) (fun _ h => h) rfl (by decide +kernel) rfl rfl (Nat.le_of_ble_eq_true rfl) hdg (fun H1 locs1 h1 h2 h3 => ?_)
  have e := WW_setX (V := V) (Hd := Hd) (tr := tr) (g := g) (tb := tb) (sk := sk) (cI := cI) (cO := cO) (show 1 < 12 by decide) (show (wX cI cO sk g tb tr).set 1 (sk 1, .inr (1, [.ref (sk 2), .ref (sk (20 + 2 * 33)), .int (g 0), .int x, .int (g 2), .int (g 3), .int (g 4), .int (g 5)])) = wX cI cO sk (upd g 1 x) tb tr from rfl)
  exact kk H1 locs1 (e ▸ h1) (e ▸ h2) h3
theorem pX1_token (C : CallFix p m c cc nL s args AL own) (hK : va_K D vwCl (ty3 cI cZ cO) s) (hP : va_P D vwCl (WW cI cO sk g tb V Hd tr) H) (hD : va_D A (WW cI cO sk g tb V Hd tr)) (hS : va_S A H0 H locs) {idx : Nat} {x : Int32} (hl : Cond.fieldLink own idx "WindFrontiers$Reader" "token" "I" ∈ AL) (hdg : decode cc pc = .ok (.putfield idx, 3)) (kk : ∀ (H : Heap) (locs : List Loc), va_P D vwCl (WW cI cO sk (upd g 2 x) tb V Hd tr) H → va_D A (WW cI cO sk (upd g 2 x) tb V Hd tr) → va_S A H0 H locs → W p l e R s m args below meth c H locs cells slots Q (F0 m (pc + 3) ls rest)) : W p l e R s m args below meth c H locs cells slots Q (F0 m pc ls (.int x :: .ref (sk 1) :: rest)) := by
  refine va_put (D := D) (ci := 1) (v := .int x) (ty := .int) (C := RX1) (T := TX1) (N := 8) C.1 C.2.1 C.2.2.2.2 inA1 tyX1 tyX1_ok nmX1 C.2.2.2.1 hK hP hD hS 1 ((WW_x cI cO sk g tb V Hd tr (show 1 < 12 by decide)).trans rfl) rfl 4 (by decide) (C.2.2.2.2 _ hl) (fun _ h => h) rfl (by decide +kernel) rfl rfl (Nat.le_of_ble_eq_true rfl) hdg (fun H1 locs1 h1 h2 h3 => ?_)
  have e := WW_setX (V := V) (Hd := Hd) (tr := tr) (g := g) (tb := tb) (sk := sk) (cI := cI) (cO := cO) (show 1 < 12 by decide) (show (wX cI cO sk g tb tr).set 1 (sk 1, .inr (1, [.ref (sk 2), .ref (sk (20 + 2 * 33)), .int (g 0), .int (g 1), .int x, .int (g 3), .int (g 4), .int (g 5)])) = wX cI cO sk (upd g 2 x) tb tr from rfl)
  exact kk H1 locs1 (e ▸ h1) (e ▸ h2) h3
theorem pX1_value (C : CallFix p m c cc nL s args AL own) (hK : va_K D vwCl (ty3 cI cZ cO) s) (hP : va_P D vwCl (WW cI cO sk g tb V Hd tr) H) (hD : va_D A (WW cI cO sk g tb V Hd tr)) (hS : va_S A H0 H locs) {idx : Nat} {x : Int32} (hl : Cond.fieldLink own idx "WindFrontiers$Reader" "value" "I" ∈ AL) (hdg : decode cc pc = .ok (.putfield idx, 3)) (kk : ∀ (H : Heap) (locs : List Loc), va_P D vwCl (WW cI cO sk (upd g 3 x) tb V Hd tr) H → va_D A (WW cI cO sk (upd g 3 x) tb V Hd tr) → va_S A H0 H locs → W p l e R s m args below meth c H locs cells slots Q (F0 m (pc + 3) ls rest)) : W p l e R s m args below meth c H locs cells slots Q (F0 m pc ls (.int x :: .ref (sk 1) :: rest)) := by
  refine va_put (D := D) (ci := 1) (v := .int x) (ty := .int) (C := RX1) (T := TX1) (N := 8) C.1 C.2.1 C.2.2.2.2 inA1 tyX1 tyX1_ok nmX1 C.2.2.2.1 hK hP hD hS 1 ((WW_x cI cO sk g tb V Hd tr (show 1 < 12 by decide)).trans rfl) rfl 5 (by decide) (C.2.2.2.2 _ hl) (fun _ h => h) rfl (by decide +kernel) rfl rfl (Nat.le_of_ble_eq_true rfl) hdg (fun H1 locs1 h1 h2 h3 => ?_)
  have e := WW_setX (V := V) (Hd := Hd) (tr := tr) (g := g) (tb := tb) (sk := sk) (cI := cI) (cO := cO) (show 1 < 12 by decide) (show (wX cI cO sk g tb tr).set 1 (sk 1, .inr (1, [.ref (sk 2), .ref (sk (20 + 2 * 33)), .int (g 0), .int (g 1), .int (g 2), .int x, .int (g 4), .int (g 5)])) = wX cI cO sk (upd g 3 x) tb tr from rfl)
  exact kk H1 locs1 (e ▸ h1) (e ▸ h2) h3
theorem pX1_items (C : CallFix p m c cc nL s args AL own) (hK : va_K D vwCl (ty3 cI cZ cO) s) (hP : va_P D vwCl (WW cI cO sk g tb V Hd tr) H) (hD : va_D A (WW cI cO sk g tb V Hd tr)) (hS : va_S A H0 H locs) {idx : Nat} {x : Int32} (hl : Cond.fieldLink own idx "WindFrontiers$Reader" "items" "I" ∈ AL) (hdg : decode cc pc = .ok (.putfield idx, 3)) (kk : ∀ (H : Heap) (locs : List Loc), va_P D vwCl (WW cI cO sk (upd g 4 x) tb V Hd tr) H → va_D A (WW cI cO sk (upd g 4 x) tb V Hd tr) → va_S A H0 H locs → W p l e R s m args below meth c H locs cells slots Q (F0 m (pc + 3) ls rest)) : W p l e R s m args below meth c H locs cells slots Q (F0 m pc ls (.int x :: .ref (sk 1) :: rest)) := by
  refine va_put (D := D) (ci := 1) (v := .int x) (ty := .int) (C := RX1) (T := TX1) (N := 8) C.1 C.2.1 C.2.2.2.2 inA1 tyX1 tyX1_ok nmX1 C.2.2.2.1 hK hP hD hS 1 ((WW_x cI cO sk g tb V Hd tr (show 1 < 12 by decide)).trans rfl) rfl 6 (by decide) (C.2.2.2.2 _ hl) (fun _ h => h) rfl (by decide +kernel) rfl rfl (Nat.le_of_ble_eq_true rfl) hdg (fun H1 locs1 h1 h2 h3 => ?_)
  have e := WW_setX (V := V) (Hd := Hd) (tr := tr) (g := g) (tb := tb) (sk := sk) (cI := cI) (cO := cO) (show 1 < 12 by decide) (show (wX cI cO sk g tb tr).set 1 (sk 1, .inr (1, [.ref (sk 2), .ref (sk (20 + 2 * 33)), .int (g 0), .int (g 1), .int (g 2), .int (g 3), .int x, .int (g 5)])) = wX cI cO sk (upd g 4 x) tb tr from rfl)
  exact kk H1 locs1 (e ▸ h1) (e ▸ h2) h3
theorem pX1_windTold (C : CallFix p m c cc nL s args AL own) (hK : va_K D vwCl (ty3 cI cZ cO) s) (hP : va_P D vwCl (WW cI cO sk g tb V Hd tr) H) (hD : va_D A (WW cI cO sk g tb V Hd tr)) (hS : va_S A H0 H locs) {idx : Nat} {x : Int32} (hb : x = 0 ∨ x = 1) (hl : Cond.fieldLink own idx "WindFrontiers$Reader" "windTold" "Z" ∈ AL) (hdg : decode cc pc = .ok (.putfield idx, 3)) (kk : ∀ (H : Heap) (locs : List Loc), va_P D vwCl (WW cI cO sk (upd g 5 x) tb V Hd tr) H → va_D A (WW cI cO sk (upd g 5 x) tb V Hd tr) → va_S A H0 H locs → W p l e R s m args below meth c H locs cells slots Q (F0 m (pc + 3) ls rest)) : W p l e R s m args below meth c H locs cells slots Q (F0 m pc ls (.int x :: .ref (sk 1) :: rest)) := by
  refine va_put (D := D) (ci := 1) (v := .int x) (ty := .boolean) (C := RX1) (T := TX1) (N := 8) C.1 C.2.1 C.2.2.2.2 inA1 tyX1 tyX1_ok nmX1 C.2.2.2.1 hK hP hD hS 1 ((WW_x cI cO sk g tb V Hd tr (show 1 < 12 by decide)).trans rfl) rfl 7 (by decide) (C.2.2.2.2 _ hl) (fun _ h => h) rfl (by decide +kernel) (bo_nar hb) (bo_fit hb) (Nat.le_of_ble_eq_true rfl) hdg (fun H1 locs1 h1 h2 h3 => ?_)
  have e := WW_setX (V := V) (Hd := Hd) (tr := tr) (g := g) (tb := tb) (sk := sk) (cI := cI) (cO := cO) (show 1 < 12 by decide) (show (wX cI cO sk g tb tr).set 1 (sk 1, .inr (1, [.ref (sk 2), .ref (sk (20 + 2 * 33)), .int (g 0), .int (g 1), .int (g 2), .int (g 3), .int (g 4), .int x])) = wX cI cO sk (upd g 5 x) tb tr from rfl)
  exact kk H1 locs1 (e ▸ h1) (e ▸ h2) h3
theorem pX5_length (C : CallFix p m c cc nL s args AL own) (hK : va_K D vwCl (ty3 cI cZ cO) s) (hP : va_P D vwCl (WW cI cO sk g tb V Hd tr) H) (hD : va_D A (WW cI cO sk g tb V Hd tr)) (hS : va_S A H0 H locs) {idx : Nat} {x : Int32} (hl : Cond.fieldLink own idx "WindFrontiers$Text" "length" "I" ∈ AL) (hdg : decode cc pc = .ok (.putfield idx, 3)) (kk : ∀ (H : Heap) (locs : List Loc), va_P D vwCl (WW cI cO sk (upd g 6 x) tb V Hd tr) H → va_D A (WW cI cO sk (upd g 6 x) tb V Hd tr) → va_S A H0 H locs → W p l e R s m args below meth c H locs cells slots Q (F0 m (pc + 3) ls rest)) : W p l e R s m args below meth c H locs cells slots Q (F0 m pc ls (.int x :: .ref (sk 2) :: rest)) := by
  refine va_put (D := D) (ci := 5) (v := .int x) (ty := .int) (C := RX5) (T := TX5) (N := 2) C.1 C.2.1 C.2.2.2.2 inA5 tyX5 tyX5_ok nmX5 C.2.2.2.1 hK hP hD hS 2 ((WW_x cI cO sk g tb V Hd tr (show 2 < 12 by decide)).trans rfl) rfl 1 (by decide) (C.2.2.2.2 _ hl) (fun _ h => h) rfl (by decide +kernel) rfl rfl (Nat.le_of_ble_eq_true rfl) hdg (fun H1 locs1 h1 h2 h3 => ?_)
  have e := WW_setX (V := V) (Hd := Hd) (tr := tr) (g := g) (tb := tb) (sk := sk) (cI := cI) (cO := cO) (show 2 < 12 by decide) (show (wX cI cO sk g tb tr).set 2 (sk 2, .inr (5, [.ref (sk 3), .int x])) = wX cI cO sk (upd g 6 x) tb tr from rfl)
  exact kk H1 locs1 (e ▸ h1) (e ▸ h2) h3
theorem pX2_much (C : CallFix p m c cc nL s args AL own) (hK : va_K D vwCl (ty3 cI cZ cO) s) (hP : va_P D vwCl (WW cI cO sk g tb V Hd tr) H) (hD : va_D A (WW cI cO sk g tb V Hd tr)) (hS : va_S A H0 H locs) {idx : Nat} {x : Int32} (hl : Cond.fieldLink own idx "WindFrontiers$Seen" "much" "I" ∈ AL) (hdg : decode cc pc = .ok (.putfield idx, 3)) (kk : ∀ (H : Heap) (locs : List Loc), va_P D vwCl (WW cI cO sk (upd g 13 x) tb V Hd tr) H → va_D A (WW cI cO sk (upd g 13 x) tb V Hd tr) → va_S A H0 H locs → W p l e R s m args below meth c H locs cells slots Q (F0 m (pc + 3) ls rest)) : W p l e R s m args below meth c H locs cells slots Q (F0 m pc ls (.int x :: .ref (sk 10) :: rest)) := by
  refine va_put (D := D) (ci := 2) (v := .int x) (ty := .int) (C := RX2) (T := TX2) (N := 5) C.1 C.2.1 C.2.2.2.2 inA2 tyX2 tyX2_ok nmX2 C.2.2.2.1 hK hP hD hS 10 ((WW_x cI cO sk g tb V Hd tr (show 10 < 12 by decide)).trans rfl) rfl 0 (by decide) (C.2.2.2.2 _ hl) (fun _ h => h) rfl (by decide +kernel) rfl rfl (Nat.le_of_ble_eq_true rfl) hdg (fun H1 locs1 h1 h2 h3 => ?_)
  have e := WW_setX (V := V) (Hd := Hd) (tr := tr) (g := g) (tb := tb) (sk := sk) (cI := cI) (cO := cO) (show 10 < 12 by decide) (show (wX cI cO sk g tb tr).set 10 (sk 10, .inr (2, [.int x, .int (g 14), .int (g 15), .int (g 16), .int (g 17)])) = wX cI cO sk (upd g 13 x) tb tr from rfl)
  exact kk H1 locs1 (e ▸ h1) (e ▸ h2) h3
theorem pX2_stillByLeft (C : CallFix p m c cc nL s args AL own) (hK : va_K D vwCl (ty3 cI cZ cO) s) (hP : va_P D vwCl (WW cI cO sk g tb V Hd tr) H) (hD : va_D A (WW cI cO sk g tb V Hd tr)) (hS : va_S A H0 H locs) {idx : Nat} {x : Int32} (hl : Cond.fieldLink own idx "WindFrontiers$Seen" "stillByLeft" "I" ∈ AL) (hdg : decode cc pc = .ok (.putfield idx, 3)) (kk : ∀ (H : Heap) (locs : List Loc), va_P D vwCl (WW cI cO sk (upd g 14 x) tb V Hd tr) H → va_D A (WW cI cO sk (upd g 14 x) tb V Hd tr) → va_S A H0 H locs → W p l e R s m args below meth c H locs cells slots Q (F0 m (pc + 3) ls rest)) : W p l e R s m args below meth c H locs cells slots Q (F0 m pc ls (.int x :: .ref (sk 10) :: rest)) := by
  refine va_put (D := D) (ci := 2) (v := .int x) (ty := .int) (C := RX2) (T := TX2) (N := 5) C.1 C.2.1 C.2.2.2.2 inA2 tyX2 tyX2_ok nmX2 C.2.2.2.1 hK hP hD hS 10 ((WW_x cI cO sk g tb V Hd tr (show 10 < 12 by decide)).trans rfl) rfl 1 (by decide) (C.2.2.2.2 _ hl) (fun _ h => h) rfl (by decide +kernel) rfl rfl (Nat.le_of_ble_eq_true rfl) hdg (fun H1 locs1 h1 h2 h3 => ?_)
  have e := WW_setX (V := V) (Hd := Hd) (tr := tr) (g := g) (tb := tb) (sk := sk) (cI := cI) (cO := cO) (show 10 < 12 by decide) (show (wX cI cO sk g tb tr).set 10 (sk 10, .inr (2, [.int (g 13), .int x, .int (g 15), .int (g 16), .int (g 17)])) = wX cI cO sk (upd g 14 x) tb tr from rfl)
  exact kk H1 locs1 (e ▸ h1) (e ▸ h2) h3
theorem pX2_stillByRight (C : CallFix p m c cc nL s args AL own) (hK : va_K D vwCl (ty3 cI cZ cO) s) (hP : va_P D vwCl (WW cI cO sk g tb V Hd tr) H) (hD : va_D A (WW cI cO sk g tb V Hd tr)) (hS : va_S A H0 H locs) {idx : Nat} {x : Int32} (hl : Cond.fieldLink own idx "WindFrontiers$Seen" "stillByRight" "I" ∈ AL) (hdg : decode cc pc = .ok (.putfield idx, 3)) (kk : ∀ (H : Heap) (locs : List Loc), va_P D vwCl (WW cI cO sk (upd g 15 x) tb V Hd tr) H → va_D A (WW cI cO sk (upd g 15 x) tb V Hd tr) → va_S A H0 H locs → W p l e R s m args below meth c H locs cells slots Q (F0 m (pc + 3) ls rest)) : W p l e R s m args below meth c H locs cells slots Q (F0 m pc ls (.int x :: .ref (sk 10) :: rest)) := by
  refine va_put (D := D) (ci := 2) (v := .int x) (ty := .int) (C := RX2) (T := TX2) (N := 5) C.1 C.2.1 C.2.2.2.2 inA2 tyX2 tyX2_ok nmX2 C.2.2.2.1 hK hP hD hS 10 ((WW_x cI cO sk g tb V Hd tr (show 10 < 12 by decide)).trans rfl) rfl 2 (by decide) (C.2.2.2.2 _ hl) (fun _ h => h) rfl (by decide +kernel) rfl rfl (Nat.le_of_ble_eq_true rfl) hdg (fun H1 locs1 h1 h2 h3 => ?_)
  have e := WW_setX (V := V) (Hd := Hd) (tr := tr) (g := g) (tb := tb) (sk := sk) (cI := cI) (cO := cO) (show 10 < 12 by decide) (show (wX cI cO sk g tb tr).set 10 (sk 10, .inr (2, [.int (g 13), .int (g 14), .int x, .int (g 16), .int (g 17)])) = wX cI cO sk (upd g 15 x) tb tr from rfl)
  exact kk H1 locs1 (e ▸ h1) (e ▸ h2) h3
theorem pX2_openByLeft (C : CallFix p m c cc nL s args AL own) (hK : va_K D vwCl (ty3 cI cZ cO) s) (hP : va_P D vwCl (WW cI cO sk g tb V Hd tr) H) (hD : va_D A (WW cI cO sk g tb V Hd tr)) (hS : va_S A H0 H locs) {idx : Nat} {x : Int32} (hl : Cond.fieldLink own idx "WindFrontiers$Seen" "openByLeft" "I" ∈ AL) (hdg : decode cc pc = .ok (.putfield idx, 3)) (kk : ∀ (H : Heap) (locs : List Loc), va_P D vwCl (WW cI cO sk (upd g 16 x) tb V Hd tr) H → va_D A (WW cI cO sk (upd g 16 x) tb V Hd tr) → va_S A H0 H locs → W p l e R s m args below meth c H locs cells slots Q (F0 m (pc + 3) ls rest)) : W p l e R s m args below meth c H locs cells slots Q (F0 m pc ls (.int x :: .ref (sk 10) :: rest)) := by
  refine va_put (D := D) (ci := 2) (v := .int x) (ty := .int) (C := RX2) (T := TX2) (N := 5) C.1 C.2.1 C.2.2.2.2 inA2 tyX2 tyX2_ok nmX2 C.2.2.2.1 hK hP hD hS 10 ((WW_x cI cO sk g tb V Hd tr (show 10 < 12 by decide)).trans rfl) rfl 3 (by decide) (C.2.2.2.2 _ hl) (fun _ h => h) rfl (by decide +kernel) rfl rfl (Nat.le_of_ble_eq_true rfl) hdg (fun H1 locs1 h1 h2 h3 => ?_)
  have e := WW_setX (V := V) (Hd := Hd) (tr := tr) (g := g) (tb := tb) (sk := sk) (cI := cI) (cO := cO) (show 10 < 12 by decide) (show (wX cI cO sk g tb tr).set 10 (sk 10, .inr (2, [.int (g 13), .int (g 14), .int (g 15), .int x, .int (g 17)])) = wX cI cO sk (upd g 16 x) tb tr from rfl)
  exact kk H1 locs1 (e ▸ h1) (e ▸ h2) h3
theorem pX2_openByRight (C : CallFix p m c cc nL s args AL own) (hK : va_K D vwCl (ty3 cI cZ cO) s) (hP : va_P D vwCl (WW cI cO sk g tb V Hd tr) H) (hD : va_D A (WW cI cO sk g tb V Hd tr)) (hS : va_S A H0 H locs) {idx : Nat} {x : Int32} (hl : Cond.fieldLink own idx "WindFrontiers$Seen" "openByRight" "I" ∈ AL) (hdg : decode cc pc = .ok (.putfield idx, 3)) (kk : ∀ (H : Heap) (locs : List Loc), va_P D vwCl (WW cI cO sk (upd g 17 x) tb V Hd tr) H → va_D A (WW cI cO sk (upd g 17 x) tb V Hd tr) → va_S A H0 H locs → W p l e R s m args below meth c H locs cells slots Q (F0 m (pc + 3) ls rest)) : W p l e R s m args below meth c H locs cells slots Q (F0 m pc ls (.int x :: .ref (sk 10) :: rest)) := by
  refine va_put (D := D) (ci := 2) (v := .int x) (ty := .int) (C := RX2) (T := TX2) (N := 5) C.1 C.2.1 C.2.2.2.2 inA2 tyX2 tyX2_ok nmX2 C.2.2.2.1 hK hP hD hS 10 ((WW_x cI cO sk g tb V Hd tr (show 10 < 12 by decide)).trans rfl) rfl 4 (by decide) (C.2.2.2.2 _ hl) (fun _ h => h) rfl (by decide +kernel) rfl rfl (Nat.le_of_ble_eq_true rfl) hdg (fun H1 locs1 h1 h2 h3 => ?_)
  have e := WW_setX (V := V) (Hd := Hd) (tr := tr) (g := g) (tb := tb) (sk := sk) (cI := cI) (cO := cO) (show 10 < 12 by decide) (show (wX cI cO sk g tb tr).set 10 (sk 10, .inr (2, [.int (g 13), .int (g 14), .int (g 15), .int (g 16), .int x])) = wX cI cO sk (upd g 17 x) tb tr from rfl)
  exact kk H1 locs1 (e ▸ h1) (e ▸ h2) h3
theorem pX0_sum (C : CallFix p m c cc nL s args AL own) (hK : va_K D vwCl (ty3 cI cZ cO) s) (hP : va_P D vwCl (WW cI cO sk g tb V Hd tr) H) (hD : va_D A (WW cI cO sk g tb V Hd tr)) (hS : va_S A H0 H locs) {idx : Nat} {x : Int64} (hl : Cond.fieldLink own idx "WindFrontiers$Marks" "sum" "J" ∈ AL) (hdg : decode cc pc = .ok (.putfield idx, 3)) (kk : ∀ (H : Heap) (locs : List Loc), va_P D vwCl (WW cI cO sk g tb V Hd x) H → va_D A (WW cI cO sk g tb V Hd x) → va_S A H0 H locs → W p l e R s m args below meth c H locs cells slots Q (F0 m (pc + 3) ls rest)) : W p l e R s m args below meth c H locs cells slots Q (F0 m pc ls (.long x :: .ref (sk 11) :: rest)) := by
  refine va_put (D := D) (ci := 0) (v := .long x) (ty := .long) (C := RX0) (T := TX0) (N := 1) C.1 C.2.1 C.2.2.2.2 inA0 tyX0 tyX0_ok nmX0 C.2.2.2.1 hK hP hD hS 11 ((WW_x cI cO sk g tb V Hd tr (show 11 < 12 by decide)).trans rfl) rfl 0 (by decide) (C.2.2.2.2 _ hl) (fun _ h => h) rfl (by decide +kernel) rfl rfl (Nat.le_of_ble_eq_true rfl) hdg (fun H1 locs1 h1 h2 h3 => ?_)
  have e := WW_setX (V := V) (Hd := Hd) (tr := tr) (g := g) (tb := tb) (sk := sk) (cI := cI) (cO := cO) (show 11 < 12 by decide) (show (wX cI cO sk g tb tr).set 11 (sk 11, .inr (0, [.long x])) = wX cI cO sk g tb x from rfl)
  exact kk H1 locs1 (e ▸ h1) (e ▸ h2) h3
theorem gX4_wide (C : CallFix p m c cc nL s args AL own) (hK : va_K D vwCl (ty3 cI cZ cO) s) (hP : va_P D vwCl (WW cI cO sk g tb V Hd tr) H) {k : Nat} (hk : k < 34) {idx : Nat} (hl : Cond.fieldLink own idx "WindFrontiers$Strand" "wide" "I" ∈ AL) (hdg : decode cc pc = .ok (.getfield idx, 3)) (kk : W p l e R s m args below meth c H locs cells slots Q (F0 m (pc + 3) ls (.int (V k 0) :: rest))) : W p l e R s m args below meth c H locs cells slots Q (F0 m pc ls (.ref (sk (20 + 2 * k)) :: rest)) :=
  va_get (D := D) (ci := 4) (C := RX4) (T := TX4) (N := 6) C.1 C.2.1 C.2.2.2.2 inA4 C.2.2.2.1 hK hP (12 + k) (WW_st hk) rfl 0 (by decide) (C.2.2.2.2 _ hl) (fun _ h => h) rfl hdg kk
theorem gX4_rows (C : CallFix p m c cc nL s args AL own) (hK : va_K D vwCl (ty3 cI cZ cO) s) (hP : va_P D vwCl (WW cI cO sk g tb V Hd tr) H) {k : Nat} (hk : k < 34) {idx : Nat} (hl : Cond.fieldLink own idx "WindFrontiers$Strand" "rows" "I" ∈ AL) (hdg : decode cc pc = .ok (.getfield idx, 3)) (kk : W p l e R s m args below meth c H locs cells slots Q (F0 m (pc + 3) ls (.int (V k 1) :: rest))) : W p l e R s m args below meth c H locs cells slots Q (F0 m pc ls (.ref (sk (20 + 2 * k)) :: rest)) :=
  va_get (D := D) (ci := 4) (C := RX4) (T := TX4) (N := 6) C.1 C.2.1 C.2.2.2.2 inA4 C.2.2.2.1 hK hP (12 + k) (WW_st hk) rfl 1 (by decide) (C.2.2.2.2 _ hl) (fun _ h => h) rfl hdg kk
theorem gX4_cloth (C : CallFix p m c cc nL s args AL own) (hK : va_K D vwCl (ty3 cI cZ cO) s) (hP : va_P D vwCl (WW cI cO sk g tb V Hd tr) H) {k : Nat} (hk : k < 34) {idx : Nat} (hl : Cond.fieldLink own idx "WindFrontiers$Strand" "cloth" "I" ∈ AL) (hdg : decode cc pc = .ok (.getfield idx, 3)) (kk : W p l e R s m args below meth c H locs cells slots Q (F0 m (pc + 3) ls (.int (V k 2) :: rest))) : W p l e R s m args below meth c H locs cells slots Q (F0 m pc ls (.ref (sk (20 + 2 * k)) :: rest)) :=
  va_get (D := D) (ci := 4) (C := RX4) (T := TX4) (N := 6) C.1 C.2.1 C.2.2.2.2 inA4 C.2.2.2.1 hK hP (12 + k) (WW_st hk) rfl 2 (by decide) (C.2.2.2.2 _ hl) (fun _ h => h) rfl hdg kk
theorem gX4_wind (C : CallFix p m c cc nL s args AL own) (hK : va_K D vwCl (ty3 cI cZ cO) s) (hP : va_P D vwCl (WW cI cO sk g tb V Hd tr) H) {k : Nat} (hk : k < 34) {idx : Nat} (hl : Cond.fieldLink own idx "WindFrontiers$Strand" "wind" "I" ∈ AL) (hdg : decode cc pc = .ok (.getfield idx, 3)) (kk : W p l e R s m args below meth c H locs cells slots Q (F0 m (pc + 3) ls (.int (V k 3) :: rest))) : W p l e R s m args below meth c H locs cells slots Q (F0 m pc ls (.ref (sk (20 + 2 * k)) :: rest)) :=
  va_get (D := D) (ci := 4) (C := RX4) (T := TX4) (N := 6) C.1 C.2.1 C.2.2.2.2 inA4 C.2.2.2.1 hK hP (12 + k) (WW_st hk) rfl 3 (by decide) (C.2.2.2.2 _ hl) (fun _ h => h) rfl hdg kk
theorem gX4_tide (C : CallFix p m c cc nL s args AL own) (hK : va_K D vwCl (ty3 cI cZ cO) s) (hP : va_P D vwCl (WW cI cO sk g tb V Hd tr) H) {k : Nat} (hk : k < 34) {idx : Nat} (hl : Cond.fieldLink own idx "WindFrontiers$Strand" "tide" "I" ∈ AL) (hdg : decode cc pc = .ok (.getfield idx, 3)) (kk : W p l e R s m args below meth c H locs cells slots Q (F0 m (pc + 3) ls (.int (V k 4) :: rest))) : W p l e R s m args below meth c H locs cells slots Q (F0 m pc ls (.ref (sk (20 + 2 * k)) :: rest)) :=
  va_get (D := D) (ci := 4) (C := RX4) (T := TX4) (N := 6) C.1 C.2.1 C.2.2.2.2 inA4 C.2.2.2.1 hK hP (12 + k) (WW_st hk) rfl 4 (by decide) (C.2.2.2.2 _ hl) (fun _ h => h) rfl hdg kk
theorem gX4_held (C : CallFix p m c cc nL s args AL own) (hK : va_K D vwCl (ty3 cI cZ cO) s) (hP : va_P D vwCl (WW cI cO sk g tb V Hd tr) H) {k : Nat} (hk : k < 34) {idx : Nat} (hl : Cond.fieldLink own idx "WindFrontiers$Strand" "held" "[I" ∈ AL) (hdg : decode cc pc = .ok (.getfield idx, 3)) (kk : W p l e R s m args below meth c H locs cells slots Q (F0 m (pc + 3) ls (.ref (sk (21 + 2 * k)) :: rest))) : W p l e R s m args below meth c H locs cells slots Q (F0 m pc ls (.ref (sk (20 + 2 * k)) :: rest)) :=
  va_get (D := D) (ci := 4) (C := RX4) (T := TX4) (N := 6) C.1 C.2.1 C.2.2.2.2 inA4 C.2.2.2.1 hK hP (12 + k) (WW_st hk) rfl 5 (by decide) (C.2.2.2.2 _ hl) (fun _ h => h) rfl hdg kk
theorem pX4_wide (C : CallFix p m c cc nL s args AL own) (hK : va_K D vwCl (ty3 cI cZ cO) s) (hP : va_P D vwCl (WW cI cO sk g tb V Hd tr) H) (hD : va_D A (WW cI cO sk g tb V Hd tr)) (hS : va_S A H0 H locs) {k : Nat} (hk : k < 34) {idx : Nat} {x : Int32} (hl : Cond.fieldLink own idx "WindFrontiers$Strand" "wide" "I" ∈ AL) (hdg : decode cc pc = .ok (.putfield idx, 3)) (kk : ∀ (H : Heap) (locs : List Loc), va_P D vwCl (WW cI cO sk g tb (vs V k 0 x) Hd tr) H → va_D A (WW cI cO sk g tb (vs V k 0 x) Hd tr) → va_S A H0 H locs → W p l e R s m args below meth c H locs cells slots Q (F0 m (pc + 3) ls rest)) : W p l e R s m args below meth c H locs cells slots Q (F0 m pc ls (.int x :: .ref (sk (20 + 2 * k)) :: rest)) := by
  refine va_put (D := D) (ci := 4) (v := .int x) (ty := .int) (C := RX4) (T := TX4) (N := 6) C.1 C.2.1 C.2.2.2.2 inA4 tyX4 tyX4_ok nmX4 C.2.2.2.1 hK hP hD hS (12 + k) (WW_st hk) rfl 0 (by decide) (C.2.2.2.2 _ hl) (fun _ h => h) rfl (by decide +kernel) rfl rfl (Nat.le_of_ble_eq_true rfl) hdg (fun H1 locs1 h1 h2 h3 => ?_)
  have e := WW_setS (V := V) (V' := vs V k 0 x) (Hd := Hd) (tr := tr) (g := g) (tb := tb) (sk := sk) (cI := cI) (cO := cO) hk (fun j hj => vs_ne hj) (x := (sk (20 + 2 * k), .inr (4, [.int x, .int (V k 1), .int (V k 2), .int (V k 3), .int (V k 4), .ref (sk (21 + 2 * k))]))) (by simp [wSt, vs])
  exact kk H1 locs1 (e ▸ h1) (e ▸ h2) h3
theorem pX4_rows (C : CallFix p m c cc nL s args AL own) (hK : va_K D vwCl (ty3 cI cZ cO) s) (hP : va_P D vwCl (WW cI cO sk g tb V Hd tr) H) (hD : va_D A (WW cI cO sk g tb V Hd tr)) (hS : va_S A H0 H locs) {k : Nat} (hk : k < 34) {idx : Nat} {x : Int32} (hl : Cond.fieldLink own idx "WindFrontiers$Strand" "rows" "I" ∈ AL) (hdg : decode cc pc = .ok (.putfield idx, 3)) (kk : ∀ (H : Heap) (locs : List Loc), va_P D vwCl (WW cI cO sk g tb (vs V k 1 x) Hd tr) H → va_D A (WW cI cO sk g tb (vs V k 1 x) Hd tr) → va_S A H0 H locs → W p l e R s m args below meth c H locs cells slots Q (F0 m (pc + 3) ls rest)) : W p l e R s m args below meth c H locs cells slots Q (F0 m pc ls (.int x :: .ref (sk (20 + 2 * k)) :: rest)) := by
  refine va_put (D := D) (ci := 4) (v := .int x) (ty := .int) (C := RX4) (T := TX4) (N := 6) C.1 C.2.1 C.2.2.2.2 inA4 tyX4 tyX4_ok nmX4 C.2.2.2.1 hK hP hD hS (12 + k) (WW_st hk) rfl 1 (by decide) (C.2.2.2.2 _ hl) (fun _ h => h) rfl (by decide +kernel) rfl rfl (Nat.le_of_ble_eq_true rfl) hdg (fun H1 locs1 h1 h2 h3 => ?_)
  have e := WW_setS (V := V) (V' := vs V k 1 x) (Hd := Hd) (tr := tr) (g := g) (tb := tb) (sk := sk) (cI := cI) (cO := cO) hk (fun j hj => vs_ne hj) (x := (sk (20 + 2 * k), .inr (4, [.int (V k 0), .int x, .int (V k 2), .int (V k 3), .int (V k 4), .ref (sk (21 + 2 * k))]))) (by simp [wSt, vs])
  exact kk H1 locs1 (e ▸ h1) (e ▸ h2) h3
theorem pX4_cloth (C : CallFix p m c cc nL s args AL own) (hK : va_K D vwCl (ty3 cI cZ cO) s) (hP : va_P D vwCl (WW cI cO sk g tb V Hd tr) H) (hD : va_D A (WW cI cO sk g tb V Hd tr)) (hS : va_S A H0 H locs) {k : Nat} (hk : k < 34) {idx : Nat} {x : Int32} (hl : Cond.fieldLink own idx "WindFrontiers$Strand" "cloth" "I" ∈ AL) (hdg : decode cc pc = .ok (.putfield idx, 3)) (kk : ∀ (H : Heap) (locs : List Loc), va_P D vwCl (WW cI cO sk g tb (vs V k 2 x) Hd tr) H → va_D A (WW cI cO sk g tb (vs V k 2 x) Hd tr) → va_S A H0 H locs → W p l e R s m args below meth c H locs cells slots Q (F0 m (pc + 3) ls rest)) : W p l e R s m args below meth c H locs cells slots Q (F0 m pc ls (.int x :: .ref (sk (20 + 2 * k)) :: rest)) := by
  refine va_put (D := D) (ci := 4) (v := .int x) (ty := .int) (C := RX4) (T := TX4) (N := 6) C.1 C.2.1 C.2.2.2.2 inA4 tyX4 tyX4_ok nmX4 C.2.2.2.1 hK hP hD hS (12 + k) (WW_st hk) rfl 2 (by decide) (C.2.2.2.2 _ hl) (fun _ h => h) rfl (by decide +kernel) rfl rfl (Nat.le_of_ble_eq_true rfl) hdg (fun H1 locs1 h1 h2 h3 => ?_)
  have e := WW_setS (V := V) (V' := vs V k 2 x) (Hd := Hd) (tr := tr) (g := g) (tb := tb) (sk := sk) (cI := cI) (cO := cO) hk (fun j hj => vs_ne hj) (x := (sk (20 + 2 * k), .inr (4, [.int (V k 0), .int (V k 1), .int x, .int (V k 3), .int (V k 4), .ref (sk (21 + 2 * k))]))) (by simp [wSt, vs])
  exact kk H1 locs1 (e ▸ h1) (e ▸ h2) h3
theorem pX4_wind (C : CallFix p m c cc nL s args AL own) (hK : va_K D vwCl (ty3 cI cZ cO) s) (hP : va_P D vwCl (WW cI cO sk g tb V Hd tr) H) (hD : va_D A (WW cI cO sk g tb V Hd tr)) (hS : va_S A H0 H locs) {k : Nat} (hk : k < 34) {idx : Nat} {x : Int32} (hl : Cond.fieldLink own idx "WindFrontiers$Strand" "wind" "I" ∈ AL) (hdg : decode cc pc = .ok (.putfield idx, 3)) (kk : ∀ (H : Heap) (locs : List Loc), va_P D vwCl (WW cI cO sk g tb (vs V k 3 x) Hd tr) H → va_D A (WW cI cO sk g tb (vs V k 3 x) Hd tr) → va_S A H0 H locs → W p l e R s m args below meth c H locs cells slots Q (F0 m (pc + 3) ls rest)) : W p l e R s m args below meth c H locs cells slots Q (F0 m pc ls (.int x :: .ref (sk (20 + 2 * k)) :: rest)) := by
  refine va_put (D := D) (ci := 4) (v := .int x) (ty := .int) (C := RX4) (T := TX4) (N := 6) C.1 C.2.1 C.2.2.2.2 inA4 tyX4 tyX4_ok nmX4 C.2.2.2.1 hK hP hD hS (12 + k) (WW_st hk) rfl 3 (by decide) (C.2.2.2.2 _ hl) (fun _ h => h) rfl (by decide +kernel) rfl rfl (Nat.le_of_ble_eq_true rfl) hdg (fun H1 locs1 h1 h2 h3 => ?_)
  have e := WW_setS (V := V) (V' := vs V k 3 x) (Hd := Hd) (tr := tr) (g := g) (tb := tb) (sk := sk) (cI := cI) (cO := cO) hk (fun j hj => vs_ne hj) (x := (sk (20 + 2 * k), .inr (4, [.int (V k 0), .int (V k 1), .int (V k 2), .int x, .int (V k 4), .ref (sk (21 + 2 * k))]))) (by simp [wSt, vs])
  exact kk H1 locs1 (e ▸ h1) (e ▸ h2) h3
theorem pX4_tide (C : CallFix p m c cc nL s args AL own) (hK : va_K D vwCl (ty3 cI cZ cO) s) (hP : va_P D vwCl (WW cI cO sk g tb V Hd tr) H) (hD : va_D A (WW cI cO sk g tb V Hd tr)) (hS : va_S A H0 H locs) {k : Nat} (hk : k < 34) {idx : Nat} {x : Int32} (hl : Cond.fieldLink own idx "WindFrontiers$Strand" "tide" "I" ∈ AL) (hdg : decode cc pc = .ok (.putfield idx, 3)) (kk : ∀ (H : Heap) (locs : List Loc), va_P D vwCl (WW cI cO sk g tb (vs V k 4 x) Hd tr) H → va_D A (WW cI cO sk g tb (vs V k 4 x) Hd tr) → va_S A H0 H locs → W p l e R s m args below meth c H locs cells slots Q (F0 m (pc + 3) ls rest)) : W p l e R s m args below meth c H locs cells slots Q (F0 m pc ls (.int x :: .ref (sk (20 + 2 * k)) :: rest)) := by
  refine va_put (D := D) (ci := 4) (v := .int x) (ty := .int) (C := RX4) (T := TX4) (N := 6) C.1 C.2.1 C.2.2.2.2 inA4 tyX4 tyX4_ok nmX4 C.2.2.2.1 hK hP hD hS (12 + k) (WW_st hk) rfl 4 (by decide) (C.2.2.2.2 _ hl) (fun _ h => h) rfl (by decide +kernel) rfl rfl (Nat.le_of_ble_eq_true rfl) hdg (fun H1 locs1 h1 h2 h3 => ?_)
  have e := WW_setS (V := V) (V' := vs V k 4 x) (Hd := Hd) (tr := tr) (g := g) (tb := tb) (sk := sk) (cI := cI) (cO := cO) hk (fun j hj => vs_ne hj) (x := (sk (20 + 2 * k), .inr (4, [.int (V k 0), .int (V k 1), .int (V k 2), .int (V k 3), .int x, .ref (sk (21 + 2 * k))]))) (by simp [wSt, vs])
  exact kk H1 locs1 (e ▸ h1) (e ▸ h2) h3
theorem gX3_present (C : CallFix p m c cc nL s args AL own) (hK : va_K D vwCl (ty3 cI cZ cO) s) (hP : va_P D vwCl (WW cI cO sk g tb V Hd tr) H) {q : Nat} (hq : q < 3) {idx : Nat} (hl : Cond.fieldLink own idx "WindFrontiers$Story" "present" "LWindFrontiers$Strand;" ∈ AL) (hdg : decode cc pc = .ok (.getfield idx, 3)) (kk : W p l e R s m args below meth c H locs cells slots Q (F0 m (pc + 3) ls (.ref (sk (20 + 2 * (11 * q + 10))) :: rest))) : W p l e R s m args below meth c H locs cells slots Q (F0 m pc ls (.ref (sk (4 + q)) :: rest)) :=
  va_get (D := D) (ci := 3) (C := RX3) (T := TX3) (N := 4) C.1 C.2.1 C.2.2.2.2 inA3 C.2.2.2.1 hK hP (4 + q) (WW_sy hq) rfl 0 (by decide) (C.2.2.2.2 _ hl) (fun _ h => h) rfl hdg kk
theorem gX3_before (C : CallFix p m c cc nL s args AL own) (hK : va_K D vwCl (ty3 cI cZ cO) s) (hP : va_P D vwCl (WW cI cO sk g tb V Hd tr) H) {q : Nat} (hq : q < 3) {idx : Nat} (hl : Cond.fieldLink own idx "WindFrontiers$Story" "before" "[LWindFrontiers$Strand;" ∈ AL) (hdg : decode cc pc = .ok (.getfield idx, 3)) (kk : W p l e R s m args below meth c H locs cells slots Q (F0 m (pc + 3) ls (.ref (sk (7 + q)) :: rest))) : W p l e R s m args below meth c H locs cells slots Q (F0 m pc ls (.ref (sk (4 + q)) :: rest)) :=
  va_get (D := D) (ci := 3) (C := RX3) (T := TX3) (N := 4) C.1 C.2.1 C.2.2.2.2 inA3 C.2.2.2.1 hK hP (4 + q) (WW_sy hq) rfl 1 (by decide) (C.2.2.2.2 _ hl) (fun _ h => h) rfl hdg kk
theorem gX3_undoable (C : CallFix p m c cc nL s args AL own) (hK : va_K D vwCl (ty3 cI cZ cO) s) (hP : va_P D vwCl (WW cI cO sk g tb V Hd tr) H) {q : Nat} (hq : q < 3) {idx : Nat} (hl : Cond.fieldLink own idx "WindFrontiers$Story" "undoable" "I" ∈ AL) (hdg : decode cc pc = .ok (.getfield idx, 3)) (kk : W p l e R s m args below meth c H locs cells slots Q (F0 m (pc + 3) ls (.int (g (7 + q)) :: rest))) : W p l e R s m args below meth c H locs cells slots Q (F0 m pc ls (.ref (sk (4 + q)) :: rest)) :=
  va_get (D := D) (ci := 3) (C := RX3) (T := TX3) (N := 4) C.1 C.2.1 C.2.2.2.2 inA3 C.2.2.2.1 hK hP (4 + q) (WW_sy hq) rfl 2 (by decide) (C.2.2.2.2 _ hl) (fun _ h => h) rfl hdg kk
theorem gX3_kept (C : CallFix p m c cc nL s args AL own) (hK : va_K D vwCl (ty3 cI cZ cO) s) (hP : va_P D vwCl (WW cI cO sk g tb V Hd tr) H) {q : Nat} (hq : q < 3) {idx : Nat} (hl : Cond.fieldLink own idx "WindFrontiers$Story" "kept" "Z" ∈ AL) (hdg : decode cc pc = .ok (.getfield idx, 3)) (kk : W p l e R s m args below meth c H locs cells slots Q (F0 m (pc + 3) ls (.int (g (10 + q)) :: rest))) : W p l e R s m args below meth c H locs cells slots Q (F0 m pc ls (.ref (sk (4 + q)) :: rest)) :=
  va_get (D := D) (ci := 3) (C := RX3) (T := TX3) (N := 4) C.1 C.2.1 C.2.2.2.2 inA3 C.2.2.2.1 hK hP (4 + q) (WW_sy hq) rfl 3 (by decide) (C.2.2.2.2 _ hl) (fun _ h => h) rfl hdg kk
theorem pX3_undoable (C : CallFix p m c cc nL s args AL own) (hK : va_K D vwCl (ty3 cI cZ cO) s) (hP : va_P D vwCl (WW cI cO sk g tb V Hd tr) H) (hD : va_D A (WW cI cO sk g tb V Hd tr)) (hS : va_S A H0 H locs) {q : Nat} (hq : q < 3) {idx : Nat} {x : Int32} (hl : Cond.fieldLink own idx "WindFrontiers$Story" "undoable" "I" ∈ AL) (hdg : decode cc pc = .ok (.putfield idx, 3)) (kk : ∀ (H : Heap) (locs : List Loc), va_P D vwCl (WW cI cO sk (upd g (7 + q) x) tb V Hd tr) H → va_D A (WW cI cO sk (upd g (7 + q) x) tb V Hd tr) → va_S A H0 H locs → W p l e R s m args below meth c H locs cells slots Q (F0 m (pc + 3) ls rest)) : W p l e R s m args below meth c H locs cells slots Q (F0 m pc ls (.int x :: .ref (sk (4 + q)) :: rest)) := by
  refine va_put (D := D) (ci := 3) (v := .int x) (ty := .int) (C := RX3) (T := TX3) (N := 4) C.1 C.2.1 C.2.2.2.2 inA3 tyX3 tyX3_ok nmX3 C.2.2.2.1 hK hP hD hS (4 + q) (WW_sy hq) rfl 2 (by decide) (C.2.2.2.2 _ hl) (fun _ h => h) rfl (by decide +kernel) rfl rfl (Nat.le_of_ble_eq_true rfl) hdg (fun H1 locs1 h1 h2 h3 => ?_)
  have e : (WW cI cO sk g tb V Hd tr).set (4 + q) (sk (4 + q), .inr (3, [.ref (sk (20 + 2 * (11 * q + 10))), .ref (sk (7 + q)), .int x, .int (g (10 + q))])) = WW cI cO sk (upd g (7 + q) x) tb V Hd tr := by
    rcases (show q = 0 ∨ q = 1 ∨ q = 2 by omega) with rfl | rfl | rfl
    · exact WW_setX (show 4 < 12 by decide) rfl
    · exact WW_setX (show 5 < 12 by decide) rfl
    · exact WW_setX (show 6 < 12 by decide) rfl
  exact kk H1 locs1 (e ▸ h1) (e ▸ h2) h3
theorem pX3_kept (C : CallFix p m c cc nL s args AL own) (hK : va_K D vwCl (ty3 cI cZ cO) s) (hP : va_P D vwCl (WW cI cO sk g tb V Hd tr) H) (hD : va_D A (WW cI cO sk g tb V Hd tr)) (hS : va_S A H0 H locs) {q : Nat} (hq : q < 3) {idx : Nat} {x : Int32} (hb : x = 0 ∨ x = 1) (hl : Cond.fieldLink own idx "WindFrontiers$Story" "kept" "Z" ∈ AL) (hdg : decode cc pc = .ok (.putfield idx, 3)) (kk : ∀ (H : Heap) (locs : List Loc), va_P D vwCl (WW cI cO sk (upd g (10 + q) x) tb V Hd tr) H → va_D A (WW cI cO sk (upd g (10 + q) x) tb V Hd tr) → va_S A H0 H locs → W p l e R s m args below meth c H locs cells slots Q (F0 m (pc + 3) ls rest)) : W p l e R s m args below meth c H locs cells slots Q (F0 m pc ls (.int x :: .ref (sk (4 + q)) :: rest)) := by
  refine va_put (D := D) (ci := 3) (v := .int x) (ty := .boolean) (C := RX3) (T := TX3) (N := 4) C.1 C.2.1 C.2.2.2.2 inA3 tyX3 tyX3_ok nmX3 C.2.2.2.1 hK hP hD hS (4 + q) (WW_sy hq) rfl 3 (by decide) (C.2.2.2.2 _ hl) (fun _ h => h) rfl (by decide +kernel) (bo_nar hb) (bo_fit hb) (Nat.le_of_ble_eq_true rfl) hdg (fun H1 locs1 h1 h2 h3 => ?_)
  have e : (WW cI cO sk g tb V Hd tr).set (4 + q) (sk (4 + q), .inr (3, [.ref (sk (20 + 2 * (11 * q + 10))), .ref (sk (7 + q)), .int (g (7 + q)), .int x])) = WW cI cO sk (upd g (10 + q) x) tb V Hd tr := by
    rcases (show q = 0 ∨ q = 1 ∨ q = 2 by omega) with rfl | rfl | rfl
    · exact WW_setX (show 4 < 12 by decide) rfl
    · exact WW_setX (show 5 < 12 by decide) rfl
    · exact WW_setX (show 6 < 12 by decide) rfl
  exact kk H1 locs1 (e ▸ h1) (e ▸ h2) h3
theorem aX_held (C : CallFix p m c cc nL s args AL own) (hK : va_K D vwCl (ty3 cI cZ cO) s) (hP : va_P D vwCl (WW cI cO sk g tb V Hd tr) H) {k : Nat} (hk : k < 34) {i : Int32} (hin : vp_in i 5) (hdg : decode cc pc = .ok (.iaload, 1)) (kk : W p l e R s m args below meth c H locs cells slots Q (F0 m (pc + 1) ls (.int (Hd k i.toNatClampNeg) :: rest))) : W p l e R s m args below meth c H locs cells slots Q (F0 m pc ls (.int i :: .ref (sk (21 + 2 * k)) :: rest)) :=
  va_iald C.1 C.2.1 hK hP (46 + k) 0 (WW_hd hk) rfl hin hdg kk
theorem sX_held (C : CallFix p m c cc nL s args AL own) (hK : va_K D vwCl (ty3 cI cZ cO) s) (hP : va_P D vwCl (WW cI cO sk g tb V Hd tr) H) (hD : va_D A (WW cI cO sk g tb V Hd tr)) (hS : va_S A H0 H locs) {k : Nat} (hk : k < 34) {i x : Int32} (hin : vp_in i 5) (hdg : decode cc pc = .ok (.iastore, 1)) (kk : ∀ (H : Heap) (locs : List Loc), va_P D vwCl (WW cI cO sk g tb V (vs Hd k i.toNatClampNeg x) tr) H → va_D A (WW cI cO sk g tb V (vs Hd k i.toNatClampNeg x) tr) → va_S A H0 H locs → W p l e R s m args below meth c H locs cells slots Q (F0 m (pc + 1) ls rest)) : W p l e R s m args below meth c H locs cells slots Q (F0 m pc ls (.int x :: .int i :: .ref (sk (21 + 2 * k)) :: rest)) := by
  refine va_iast C.1 C.2.1 hK hP hD hS (46 + k) 0 (WW_hd hk) rfl hin hdg (fun H1 locs1 h1 h2 h3 => ?_)
  have e := WW_setH (V := V) (Hd := Hd) (Hd' := vs Hd k i.toNatClampNeg x) (tr := tr) (g := g) (tb := tb) (sk := sk) (cI := cI) (cO := cO) hk (fun j hj => vs_ne hj) (x := (sk (21 + 2 * k), .inl (cI, 5, .inl (upd (Hd k) i.toNatClampNeg x)))) (by simp [wHd, vs_eq])
  exact kk H1 locs1 (e ▸ h1) (e ▸ h2) h3
theorem lX_held (C : CallFix p m c cc nL s args AL own) (hK : va_K D vwCl (ty3 cI cZ cO) s) (hP : va_P D vwCl (WW cI cO sk g tb V Hd tr) H) {k : Nat} (hk : k < 34) (hdg : decode cc pc = .ok (.arraylength, 1)) (kk : W p l e R s m args below meth c H locs cells slots Q (F0 m (pc + 1) ls (.int 5 :: rest))) : W p l e R s m args below meth c H locs cells slots Q (F0 m pc ls (.ref (sk (21 + 2 * k)) :: rest)) :=
  va_alen C.1 C.2.1 hK hP (46 + k) 0 (WW_hd hk) rfl rfl hdg kk
theorem lX_before (C : CallFix p m c cc nL s args AL own) (hK : va_K D vwCl (ty3 cI cZ cO) s) (hP : va_P D vwCl (WW cI cO sk g tb V Hd tr) H) {q : Nat} (hq : q < 3) (hdg : decode cc pc = .ok (.arraylength, 1)) (kk : W p l e R s m args below meth c H locs cells slots Q (F0 m (pc + 1) ls (.int 10 :: rest))) : W p l e R s m args below meth c H locs cells slots Q (F0 m pc ls (.ref (sk (7 + q)) :: rest)) :=
  va_alen C.1 C.2.1 hK hP (7 + q) 2 (WW_bf hq) rfl rfl hdg kk
theorem aX_before (C : CallFix p m c cc nL s args AL own) (hK : va_K D vwCl (ty3 cI cZ cO) s) (hP : va_P D vwCl (WW cI cO sk g tb V Hd tr) H) {q : Nat} (hq : q < 3) {i : Int32} (hin : vp_in i 10) (hdg : decode cc pc = .ok (.aaload, 1)) (kk : W p l e R s m args below meth c H locs cells slots Q (F0 m (pc + 1) ls (.ref (sk (20 + 2 * (11 * q + i.toNatClampNeg))) :: rest))) : W p l e R s m args below meth c H locs cells slots Q (F0 m pc ls (.int i :: .ref (sk (7 + q)) :: rest)) :=
  va_aldq C.1 C.2.1 hK hP (7 + q) 2 (WW_bf hq) rfl hin hdg kk
theorem aX_bytes (C : CallFix p m c cc nL s args AL own) (hK : va_K D vwCl (ty3 cI cZ cO) s) (hP : va_P D vwCl (WW cI cO sk g tb V Hd tr) H) {i : Int32} (hin : vp_in i 150) (hdg : decode cc pc = .ok (.iaload, 1)) (kk : W p l e R s m args below meth c H locs cells slots Q (F0 m (pc + 1) ls (.int (tb i.toNatClampNeg) :: rest))) : W p l e R s m args below meth c H locs cells slots Q (F0 m pc ls (.int i :: .ref (sk 3) :: rest)) :=
  va_iald C.1 C.2.1 hK hP 3 0 ((WW_x cI cO sk g tb V Hd tr (show 3 < 12 by decide)).trans rfl) rfl hin hdg kk
theorem sX_bytes (C : CallFix p m c cc nL s args AL own) (hK : va_K D vwCl (ty3 cI cZ cO) s) (hP : va_P D vwCl (WW cI cO sk g tb V Hd tr) H) (hD : va_D A (WW cI cO sk g tb V Hd tr)) (hS : va_S A H0 H locs) {i x : Int32} (hin : vp_in i 150) (hdg : decode cc pc = .ok (.iastore, 1)) (kk : ∀ (H : Heap) (locs : List Loc), va_P D vwCl (WW cI cO sk g (upd tb i.toNatClampNeg x) V Hd tr) H → va_D A (WW cI cO sk g (upd tb i.toNatClampNeg x) V Hd tr) → va_S A H0 H locs → W p l e R s m args below meth c H locs cells slots Q (F0 m (pc + 1) ls rest)) : W p l e R s m args below meth c H locs cells slots Q (F0 m pc ls (.int x :: .int i :: .ref (sk 3) :: rest)) := by
  refine va_iast C.1 C.2.1 hK hP hD hS 3 0 ((WW_x cI cO sk g tb V Hd tr (show 3 < 12 by decide)).trans rfl) rfl hin hdg (fun H1 locs1 h1 h2 h3 => ?_)
  have e : (WW cI cO sk g tb V Hd tr).set 3 (sk 3, .inl (cI, 150, .inl (upd tb i.toNatClampNeg x))) = WW cI cO sk g (upd tb i.toNatClampNeg x) V Hd tr := WW_setX (show 3 < 12 by decide) rfl
  exact kk H1 locs1 (e ▸ h1) (e ▸ h2) h3
theorem lX_bytes (C : CallFix p m c cc nL s args AL own) (hK : va_K D vwCl (ty3 cI cZ cO) s) (hP : va_P D vwCl (WW cI cO sk g tb V Hd tr) H) (hdg : decode cc pc = .ok (.arraylength, 1)) (kk : W p l e R s m args below meth c H locs cells slots Q (F0 m (pc + 1) ls (.int 150 :: rest))) : W p l e R s m args below meth c H locs cells slots Q (F0 m pc ls (.ref (sk 3) :: rest)) :=
  va_alen C.1 C.2.1 hK hP 3 0 ((WW_x cI cO sk g tb V Hd tr (show 3 < 12 by decide)).trans rfl) rfl rfl hdg kk
/-! receivers -/
theorem rX6_r (hK : va_K D vwCl (ty3 cI cZ cO) s) (hP : va_P D vwCl (WW cI cO sk g tb V Hd tr) H) : ∃ cell : Cell, H[sk 0]? = some cell ∧ cell.vm.isStatics = false ∧ s.vm.findClass RX6 = some cell.cls :=
  va_recv (q := (RX6, TX6, 8)) hK hP (ci := 6) rfl ((WW_x cI cO sk g tb V Hd tr (show 0 < 12 by decide)).trans rfl)
theorem rX1_r (hK : va_K D vwCl (ty3 cI cZ cO) s) (hP : va_P D vwCl (WW cI cO sk g tb V Hd tr) H) : ∃ cell : Cell, H[sk 1]? = some cell ∧ cell.vm.isStatics = false ∧ s.vm.findClass RX1 = some cell.cls :=
  va_recv (q := (RX1, TX1, 8)) hK hP (ci := 1) rfl ((WW_x cI cO sk g tb V Hd tr (show 1 < 12 by decide)).trans rfl)
theorem rX5_r (hK : va_K D vwCl (ty3 cI cZ cO) s) (hP : va_P D vwCl (WW cI cO sk g tb V Hd tr) H) : ∃ cell : Cell, H[sk 2]? = some cell ∧ cell.vm.isStatics = false ∧ s.vm.findClass RX5 = some cell.cls :=
  va_recv (q := (RX5, TX5, 2)) hK hP (ci := 5) rfl ((WW_x cI cO sk g tb V Hd tr (show 2 < 12 by decide)).trans rfl)
theorem rX2_r (hK : va_K D vwCl (ty3 cI cZ cO) s) (hP : va_P D vwCl (WW cI cO sk g tb V Hd tr) H) : ∃ cell : Cell, H[sk 10]? = some cell ∧ cell.vm.isStatics = false ∧ s.vm.findClass RX2 = some cell.cls :=
  va_recv (q := (RX2, TX2, 5)) hK hP (ci := 2) rfl ((WW_x cI cO sk g tb V Hd tr (show 10 < 12 by decide)).trans rfl)
theorem rX0_r (hK : va_K D vwCl (ty3 cI cZ cO) s) (hP : va_P D vwCl (WW cI cO sk g tb V Hd tr) H) : ∃ cell : Cell, H[sk 11]? = some cell ∧ cell.vm.isStatics = false ∧ s.vm.findClass RX0 = some cell.cls :=
  va_recv (q := (RX0, TX0, 1)) hK hP (ci := 0) rfl ((WW_x cI cO sk g tb V Hd tr (show 11 < 12 by decide)).trans rfl)
theorem rX4_r (hK : va_K D vwCl (ty3 cI cZ cO) s) (hP : va_P D vwCl (WW cI cO sk g tb V Hd tr) H) {k : Nat} (hk : k < 34) : ∃ cell : Cell, H[sk (20 + 2 * k)]? = some cell ∧ cell.vm.isStatics = false ∧ s.vm.findClass RX4 = some cell.cls :=
  va_recv (q := (RX4, TX4, 6)) hK hP (ci := 4) rfl (WW_st hk)
theorem rX3_r (hK : va_K D vwCl (ty3 cI cZ cO) s) (hP : va_P D vwCl (WW cI cO sk g tb V Hd tr) H) {q : Nat} (hq : q < 3) : ∃ cell : Cell, H[sk (4 + q)]? = some cell ∧ cell.vm.isStatics = false ∧ s.vm.findClass RX3 = some cell.cls :=
  va_recv (q := (RX3, TX3, 4)) hK hP (ci := 3) rfl (WW_sy hq)
theorem rX7_r (hK : va_K D vwCl (ty3 cI cZ cO) s) (hP : va_P D vwCl (MW cI cZ mk mg st im ke se tx sh fa mt) H) : ∃ cell : Cell, H[mk 0]? = some cell ∧ cell.vm.isStatics = false ∧ s.vm.findClass RX7 = some cell.cls :=
  va_recv (q := (RX7, TX7, 22)) hK hP (ci := 7) rfl (q0 := 0) rfl
/-! the reference -/
theorem gX7_wide (C : CallFix p m c cc nL s args AL own) (hK : va_K D vwCl (ty3 cI cZ cO) s) (hP : va_P D vwCl (MW cI cZ mk mg st im ke se tx sh fa mt) H) {idx : Nat} (hl : Cond.fieldLink own idx "WindFrontiersModel" "wide" "I" ∈ AL) (hdg : decode cc pc = .ok (.getfield idx, 3)) (kk : W p l e R s m args below meth c H locs cells slots Q (F0 m (pc + 3) ls (.int (mg 0) :: rest))) : W p l e R s m args below meth c H locs cells slots Q (F0 m pc ls (.ref (mk 0) :: rest)) :=
  va_get (D := D) (ci := 7) (C := RX7) (T := TX7) (N := 22) C.1 C.2.1 C.2.2.2.2 inA7 C.2.2.2.1 hK hP 0 rfl rfl 0 (by decide) (C.2.2.2.2 _ hl) (fun _ h => h) rfl hdg kk
theorem pX7_wide (C : CallFix p m c cc nL s args AL own) (hK : va_K D vwCl (ty3 cI cZ cO) s) (hP : va_P D vwCl (MW cI cZ mk mg st im ke se tx sh fa mt) H) (hD : va_D A (MW cI cZ mk mg st im ke se tx sh fa mt)) (hS : va_S A H0 H locs) {idx : Nat} {x : Int32} (hl : Cond.fieldLink own idx "WindFrontiersModel" "wide" "I" ∈ AL) (hdg : decode cc pc = .ok (.putfield idx, 3)) (kk : ∀ (H : Heap) (locs : List Loc), va_P D vwCl (MW cI cZ mk (upd mg 0 x) st im ke se tx sh fa mt) H → va_D A (MW cI cZ mk (upd mg 0 x) st im ke se tx sh fa mt) → va_S A H0 H locs → W p l e R s m args below meth c H locs cells slots Q (F0 m (pc + 3) ls rest)) : W p l e R s m args below meth c H locs cells slots Q (F0 m pc ls (.int x :: .ref (mk 0) :: rest)) := by
  refine va_put (D := D) (ci := 7) (v := .int x) (ty := .int) (C := RX7) (T := TX7) (N := 22) C.1 C.2.1 C.2.2.2.2 inA7 tyX7 tyX7_ok nmX7 C.2.2.2.1 hK hP hD hS 0 rfl rfl 0 (by decide) (C.2.2.2.2 _ hl) (fun _ h => h) rfl (by decide +kernel) rfl rfl (Nat.le_of_ble_eq_true rfl) hdg (fun H1 locs1 h1 h2 h3 => ?_)
  exact kk H1 locs1 h1 h2 h3
theorem gX7_rows (C : CallFix p m c cc nL s args AL own) (hK : va_K D vwCl (ty3 cI cZ cO) s) (hP : va_P D vwCl (MW cI cZ mk mg st im ke se tx sh fa mt) H) {idx : Nat} (hl : Cond.fieldLink own idx "WindFrontiersModel" "rows" "I" ∈ AL) (hdg : decode cc pc = .ok (.getfield idx, 3)) (kk : W p l e R s m args below meth c H locs cells slots Q (F0 m (pc + 3) ls (.int (mg 1) :: rest))) : W p l e R s m args below meth c H locs cells slots Q (F0 m pc ls (.ref (mk 0) :: rest)) :=
  va_get (D := D) (ci := 7) (C := RX7) (T := TX7) (N := 22) C.1 C.2.1 C.2.2.2.2 inA7 C.2.2.2.1 hK hP 0 rfl rfl 1 (by decide) (C.2.2.2.2 _ hl) (fun _ h => h) rfl hdg kk
theorem pX7_rows (C : CallFix p m c cc nL s args AL own) (hK : va_K D vwCl (ty3 cI cZ cO) s) (hP : va_P D vwCl (MW cI cZ mk mg st im ke se tx sh fa mt) H) (hD : va_D A (MW cI cZ mk mg st im ke se tx sh fa mt)) (hS : va_S A H0 H locs) {idx : Nat} {x : Int32} (hl : Cond.fieldLink own idx "WindFrontiersModel" "rows" "I" ∈ AL) (hdg : decode cc pc = .ok (.putfield idx, 3)) (kk : ∀ (H : Heap) (locs : List Loc), va_P D vwCl (MW cI cZ mk (upd mg 1 x) st im ke se tx sh fa mt) H → va_D A (MW cI cZ mk (upd mg 1 x) st im ke se tx sh fa mt) → va_S A H0 H locs → W p l e R s m args below meth c H locs cells slots Q (F0 m (pc + 3) ls rest)) : W p l e R s m args below meth c H locs cells slots Q (F0 m pc ls (.int x :: .ref (mk 0) :: rest)) := by
  refine va_put (D := D) (ci := 7) (v := .int x) (ty := .int) (C := RX7) (T := TX7) (N := 22) C.1 C.2.1 C.2.2.2.2 inA7 tyX7 tyX7_ok nmX7 C.2.2.2.1 hK hP hD hS 0 rfl rfl 1 (by decide) (C.2.2.2.2 _ hl) (fun _ h => h) rfl (by decide +kernel) rfl rfl (Nat.le_of_ble_eq_true rfl) hdg (fun H1 locs1 h1 h2 h3 => ?_)
  exact kk H1 locs1 h1 h2 h3
theorem gX7_st (C : CallFix p m c cc nL s args AL own) (hK : va_K D vwCl (ty3 cI cZ cO) s) (hP : va_P D vwCl (MW cI cZ mk mg st im ke se tx sh fa mt) H) {idx : Nat} (hl : Cond.fieldLink own idx "WindFrontiersModel" "st" "[I" ∈ AL) (hdg : decode cc pc = .ok (.getfield idx, 3)) (kk : W p l e R s m args below meth c H locs cells slots Q (F0 m (pc + 3) ls (.ref (mk 1) :: rest))) : W p l e R s m args below meth c H locs cells slots Q (F0 m pc ls (.ref (mk 0) :: rest)) :=
  va_get (D := D) (ci := 7) (C := RX7) (T := TX7) (N := 22) C.1 C.2.1 C.2.2.2.2 inA7 C.2.2.2.1 hK hP 0 rfl rfl 2 (by decide) (C.2.2.2.2 _ hl) (fun _ h => h) rfl hdg kk
theorem gX7_images (C : CallFix p m c cc nL s args AL own) (hK : va_K D vwCl (ty3 cI cZ cO) s) (hP : va_P D vwCl (MW cI cZ mk mg st im ke se tx sh fa mt) H) {idx : Nat} (hl : Cond.fieldLink own idx "WindFrontiersModel" "images" "[I" ∈ AL) (hdg : decode cc pc = .ok (.getfield idx, 3)) (kk : W p l e R s m args below meth c H locs cells slots Q (F0 m (pc + 3) ls (.ref (mk 2) :: rest))) : W p l e R s m args below meth c H locs cells slots Q (F0 m pc ls (.ref (mk 0) :: rest)) :=
  va_get (D := D) (ci := 7) (C := RX7) (T := TX7) (N := 22) C.1 C.2.1 C.2.2.2.2 inA7 C.2.2.2.1 hK hP 0 rfl rfl 3 (by decide) (C.2.2.2.2 _ hl) (fun _ h => h) rfl hdg kk
theorem gX7_isKept (C : CallFix p m c cc nL s args AL own) (hK : va_K D vwCl (ty3 cI cZ cO) s) (hP : va_P D vwCl (MW cI cZ mk mg st im ke se tx sh fa mt) H) {idx : Nat} (hl : Cond.fieldLink own idx "WindFrontiersModel" "isKept" "[Z" ∈ AL) (hdg : decode cc pc = .ok (.getfield idx, 3)) (kk : W p l e R s m args below meth c H locs cells slots Q (F0 m (pc + 3) ls (.ref (mk 3) :: rest))) : W p l e R s m args below meth c H locs cells slots Q (F0 m pc ls (.ref (mk 0) :: rest)) :=
  va_get (D := D) (ci := 7) (C := RX7) (T := TX7) (N := 22) C.1 C.2.1 C.2.2.2.2 inA7 C.2.2.2.1 hK hP 0 rfl rfl 4 (by decide) (C.2.2.2.2 _ hl) (fun _ h => h) rfl hdg kk
theorem gX7_seenMany (C : CallFix p m c cc nL s args AL own) (hK : va_K D vwCl (ty3 cI cZ cO) s) (hP : va_P D vwCl (MW cI cZ mk mg st im ke se tx sh fa mt) H) {idx : Nat} (hl : Cond.fieldLink own idx "WindFrontiersModel" "seenMany" "I" ∈ AL) (hdg : decode cc pc = .ok (.getfield idx, 3)) (kk : W p l e R s m args below meth c H locs cells slots Q (F0 m (pc + 3) ls (.int (mg 2) :: rest))) : W p l e R s m args below meth c H locs cells slots Q (F0 m pc ls (.ref (mk 0) :: rest)) :=
  va_get (D := D) (ci := 7) (C := RX7) (T := TX7) (N := 22) C.1 C.2.1 C.2.2.2.2 inA7 C.2.2.2.1 hK hP 0 rfl rfl 5 (by decide) (C.2.2.2.2 _ hl) (fun _ h => h) rfl hdg kk
theorem pX7_seenMany (C : CallFix p m c cc nL s args AL own) (hK : va_K D vwCl (ty3 cI cZ cO) s) (hP : va_P D vwCl (MW cI cZ mk mg st im ke se tx sh fa mt) H) (hD : va_D A (MW cI cZ mk mg st im ke se tx sh fa mt)) (hS : va_S A H0 H locs) {idx : Nat} {x : Int32} (hl : Cond.fieldLink own idx "WindFrontiersModel" "seenMany" "I" ∈ AL) (hdg : decode cc pc = .ok (.putfield idx, 3)) (kk : ∀ (H : Heap) (locs : List Loc), va_P D vwCl (MW cI cZ mk (upd mg 2 x) st im ke se tx sh fa mt) H → va_D A (MW cI cZ mk (upd mg 2 x) st im ke se tx sh fa mt) → va_S A H0 H locs → W p l e R s m args below meth c H locs cells slots Q (F0 m (pc + 3) ls rest)) : W p l e R s m args below meth c H locs cells slots Q (F0 m pc ls (.int x :: .ref (mk 0) :: rest)) := by
  refine va_put (D := D) (ci := 7) (v := .int x) (ty := .int) (C := RX7) (T := TX7) (N := 22) C.1 C.2.1 C.2.2.2.2 inA7 tyX7 tyX7_ok nmX7 C.2.2.2.1 hK hP hD hS 0 rfl rfl 5 (by decide) (C.2.2.2.2 _ hl) (fun _ h => h) rfl (by decide +kernel) rfl rfl (Nat.le_of_ble_eq_true rfl) hdg (fun H1 locs1 h1 h2 h3 => ?_)
  exact kk H1 locs1 h1 h2 h3
theorem gX7_seen (C : CallFix p m c cc nL s args AL own) (hK : va_K D vwCl (ty3 cI cZ cO) s) (hP : va_P D vwCl (MW cI cZ mk mg st im ke se tx sh fa mt) H) {idx : Nat} (hl : Cond.fieldLink own idx "WindFrontiersModel" "seen" "[I" ∈ AL) (hdg : decode cc pc = .ok (.getfield idx, 3)) (kk : W p l e R s m args below meth c H locs cells slots Q (F0 m (pc + 3) ls (.ref (mk 4) :: rest))) : W p l e R s m args below meth c H locs cells slots Q (F0 m pc ls (.ref (mk 0) :: rest)) :=
  va_get (D := D) (ci := 7) (C := RX7) (T := TX7) (N := 22) C.1 C.2.1 C.2.2.2.2 inA7 C.2.2.2.1 hK hP 0 rfl rfl 6 (by decide) (C.2.2.2.2 _ hl) (fun _ h => h) rfl hdg kk
theorem gX7_trace (C : CallFix p m c cc nL s args AL own) (hK : va_K D vwCl (ty3 cI cZ cO) s) (hP : va_P D vwCl (MW cI cZ mk mg st im ke se tx sh fa mt) H) {idx : Nat} (hl : Cond.fieldLink own idx "WindFrontiersModel" "trace" "J" ∈ AL) (hdg : decode cc pc = .ok (.getfield idx, 3)) (kk : W p l e R s m args below meth c H locs cells slots Q (F0 m (pc + 3) ls (.long mt :: rest))) : W p l e R s m args below meth c H locs cells slots Q (F0 m pc ls (.ref (mk 0) :: rest)) :=
  va_get (D := D) (ci := 7) (C := RX7) (T := TX7) (N := 22) C.1 C.2.1 C.2.2.2.2 inA7 C.2.2.2.1 hK hP 0 rfl rfl 7 (by decide) (C.2.2.2.2 _ hl) (fun _ h => h) rfl hdg kk
theorem pX7_trace (C : CallFix p m c cc nL s args AL own) (hK : va_K D vwCl (ty3 cI cZ cO) s) (hP : va_P D vwCl (MW cI cZ mk mg st im ke se tx sh fa mt) H) (hD : va_D A (MW cI cZ mk mg st im ke se tx sh fa mt)) (hS : va_S A H0 H locs) {idx : Nat} {x : Int64} (hl : Cond.fieldLink own idx "WindFrontiersModel" "trace" "J" ∈ AL) (hdg : decode cc pc = .ok (.putfield idx, 3)) (kk : ∀ (H : Heap) (locs : List Loc), va_P D vwCl (MW cI cZ mk mg st im ke se tx sh fa x) H → va_D A (MW cI cZ mk mg st im ke se tx sh fa x) → va_S A H0 H locs → W p l e R s m args below meth c H locs cells slots Q (F0 m (pc + 3) ls rest)) : W p l e R s m args below meth c H locs cells slots Q (F0 m pc ls (.long x :: .ref (mk 0) :: rest)) := by
  refine va_put (D := D) (ci := 7) (v := .long x) (ty := .long) (C := RX7) (T := TX7) (N := 22) C.1 C.2.1 C.2.2.2.2 inA7 tyX7 tyX7_ok nmX7 C.2.2.2.1 hK hP hD hS 0 rfl rfl 7 (by decide) (C.2.2.2.2 _ hl) (fun _ h => h) rfl (by decide +kernel) rfl rfl (Nat.le_of_ble_eq_true rfl) hdg (fun H1 locs1 h1 h2 h3 => ?_)
  exact kk H1 locs1 h1 h2 h3
theorem gX7_text (C : CallFix p m c cc nL s args AL own) (hK : va_K D vwCl (ty3 cI cZ cO) s) (hP : va_P D vwCl (MW cI cZ mk mg st im ke se tx sh fa mt) H) {idx : Nat} (hl : Cond.fieldLink own idx "WindFrontiersModel" "text" "[I" ∈ AL) (hdg : decode cc pc = .ok (.getfield idx, 3)) (kk : W p l e R s m args below meth c H locs cells slots Q (F0 m (pc + 3) ls (.ref (mk 5) :: rest))) : W p l e R s m args below meth c H locs cells slots Q (F0 m pc ls (.ref (mk 0) :: rest)) :=
  va_get (D := D) (ci := 7) (C := RX7) (T := TX7) (N := 22) C.1 C.2.1 C.2.2.2.2 inA7 C.2.2.2.1 hK hP 0 rfl rfl 8 (by decide) (C.2.2.2.2 _ hl) (fun _ h => h) rfl hdg kk
theorem gX7_texted (C : CallFix p m c cc nL s args AL own) (hK : va_K D vwCl (ty3 cI cZ cO) s) (hP : va_P D vwCl (MW cI cZ mk mg st im ke se tx sh fa mt) H) {idx : Nat} (hl : Cond.fieldLink own idx "WindFrontiersModel" "texted" "I" ∈ AL) (hdg : decode cc pc = .ok (.getfield idx, 3)) (kk : W p l e R s m args below meth c H locs cells slots Q (F0 m (pc + 3) ls (.int (mg 3) :: rest))) : W p l e R s m args below meth c H locs cells slots Q (F0 m pc ls (.ref (mk 0) :: rest)) :=
  va_get (D := D) (ci := 7) (C := RX7) (T := TX7) (N := 22) C.1 C.2.1 C.2.2.2.2 inA7 C.2.2.2.1 hK hP 0 rfl rfl 9 (by decide) (C.2.2.2.2 _ hl) (fun _ h => h) rfl hdg kk
theorem pX7_texted (C : CallFix p m c cc nL s args AL own) (hK : va_K D vwCl (ty3 cI cZ cO) s) (hP : va_P D vwCl (MW cI cZ mk mg st im ke se tx sh fa mt) H) (hD : va_D A (MW cI cZ mk mg st im ke se tx sh fa mt)) (hS : va_S A H0 H locs) {idx : Nat} {x : Int32} (hl : Cond.fieldLink own idx "WindFrontiersModel" "texted" "I" ∈ AL) (hdg : decode cc pc = .ok (.putfield idx, 3)) (kk : ∀ (H : Heap) (locs : List Loc), va_P D vwCl (MW cI cZ mk (upd mg 3 x) st im ke se tx sh fa mt) H → va_D A (MW cI cZ mk (upd mg 3 x) st im ke se tx sh fa mt) → va_S A H0 H locs → W p l e R s m args below meth c H locs cells slots Q (F0 m (pc + 3) ls rest)) : W p l e R s m args below meth c H locs cells slots Q (F0 m pc ls (.int x :: .ref (mk 0) :: rest)) := by
  refine va_put (D := D) (ci := 7) (v := .int x) (ty := .int) (C := RX7) (T := TX7) (N := 22) C.1 C.2.1 C.2.2.2.2 inA7 tyX7 tyX7_ok nmX7 C.2.2.2.1 hK hP hD hS 0 rfl rfl 9 (by decide) (C.2.2.2.2 _ hl) (fun _ h => h) rfl (by decide +kernel) rfl rfl (Nat.le_of_ble_eq_true rfl) hdg (fun H1 locs1 h1 h2 h3 => ?_)
  exact kk H1 locs1 h1 h2 h3
theorem gX7_cursor (C : CallFix p m c cc nL s args AL own) (hK : va_K D vwCl (ty3 cI cZ cO) s) (hP : va_P D vwCl (MW cI cZ mk mg st im ke se tx sh fa mt) H) {idx : Nat} (hl : Cond.fieldLink own idx "WindFrontiersModel" "cursor" "I" ∈ AL) (hdg : decode cc pc = .ok (.getfield idx, 3)) (kk : W p l e R s m args below meth c H locs cells slots Q (F0 m (pc + 3) ls (.int (mg 4) :: rest))) : W p l e R s m args below meth c H locs cells slots Q (F0 m pc ls (.ref (mk 0) :: rest)) :=
  va_get (D := D) (ci := 7) (C := RX7) (T := TX7) (N := 22) C.1 C.2.1 C.2.2.2.2 inA7 C.2.2.2.1 hK hP 0 rfl rfl 10 (by decide) (C.2.2.2.2 _ hl) (fun _ h => h) rfl hdg kk
theorem pX7_cursor (C : CallFix p m c cc nL s args AL own) (hK : va_K D vwCl (ty3 cI cZ cO) s) (hP : va_P D vwCl (MW cI cZ mk mg st im ke se tx sh fa mt) H) (hD : va_D A (MW cI cZ mk mg st im ke se tx sh fa mt)) (hS : va_S A H0 H locs) {idx : Nat} {x : Int32} (hl : Cond.fieldLink own idx "WindFrontiersModel" "cursor" "I" ∈ AL) (hdg : decode cc pc = .ok (.putfield idx, 3)) (kk : ∀ (H : Heap) (locs : List Loc), va_P D vwCl (MW cI cZ mk (upd mg 4 x) st im ke se tx sh fa mt) H → va_D A (MW cI cZ mk (upd mg 4 x) st im ke se tx sh fa mt) → va_S A H0 H locs → W p l e R s m args below meth c H locs cells slots Q (F0 m (pc + 3) ls rest)) : W p l e R s m args below meth c H locs cells slots Q (F0 m pc ls (.int x :: .ref (mk 0) :: rest)) := by
  refine va_put (D := D) (ci := 7) (v := .int x) (ty := .int) (C := RX7) (T := TX7) (N := 22) C.1 C.2.1 C.2.2.2.2 inA7 tyX7 tyX7_ok nmX7 C.2.2.2.1 hK hP hD hS 0 rfl rfl 10 (by decide) (C.2.2.2.2 _ hl) (fun _ h => h) rfl (by decide +kernel) rfl rfl (Nat.le_of_ble_eq_true rfl) hdg (fun H1 locs1 h1 h2 h3 => ?_)
  exact kk H1 locs1 h1 h2 h3
theorem gX7_start (C : CallFix p m c cc nL s args AL own) (hK : va_K D vwCl (ty3 cI cZ cO) s) (hP : va_P D vwCl (MW cI cZ mk mg st im ke se tx sh fa mt) H) {idx : Nat} (hl : Cond.fieldLink own idx "WindFrontiersModel" "start" "I" ∈ AL) (hdg : decode cc pc = .ok (.getfield idx, 3)) (kk : W p l e R s m args below meth c H locs cells slots Q (F0 m (pc + 3) ls (.int (mg 5) :: rest))) : W p l e R s m args below meth c H locs cells slots Q (F0 m pc ls (.ref (mk 0) :: rest)) :=
  va_get (D := D) (ci := 7) (C := RX7) (T := TX7) (N := 22) C.1 C.2.1 C.2.2.2.2 inA7 C.2.2.2.1 hK hP 0 rfl rfl 11 (by decide) (C.2.2.2.2 _ hl) (fun _ h => h) rfl hdg kk
theorem pX7_start (C : CallFix p m c cc nL s args AL own) (hK : va_K D vwCl (ty3 cI cZ cO) s) (hP : va_P D vwCl (MW cI cZ mk mg st im ke se tx sh fa mt) H) (hD : va_D A (MW cI cZ mk mg st im ke se tx sh fa mt)) (hS : va_S A H0 H locs) {idx : Nat} {x : Int32} (hl : Cond.fieldLink own idx "WindFrontiersModel" "start" "I" ∈ AL) (hdg : decode cc pc = .ok (.putfield idx, 3)) (kk : ∀ (H : Heap) (locs : List Loc), va_P D vwCl (MW cI cZ mk (upd mg 5 x) st im ke se tx sh fa mt) H → va_D A (MW cI cZ mk (upd mg 5 x) st im ke se tx sh fa mt) → va_S A H0 H locs → W p l e R s m args below meth c H locs cells slots Q (F0 m (pc + 3) ls rest)) : W p l e R s m args below meth c H locs cells slots Q (F0 m pc ls (.int x :: .ref (mk 0) :: rest)) := by
  refine va_put (D := D) (ci := 7) (v := .int x) (ty := .int) (C := RX7) (T := TX7) (N := 22) C.1 C.2.1 C.2.2.2.2 inA7 tyX7 tyX7_ok nmX7 C.2.2.2.1 hK hP hD hS 0 rfl rfl 11 (by decide) (C.2.2.2.2 _ hl) (fun _ h => h) rfl (by decide +kernel) rfl rfl (Nat.le_of_ble_eq_true rfl) hdg (fun H1 locs1 h1 h2 h3 => ?_)
  exact kk H1 locs1 h1 h2 h3
theorem gX7_token (C : CallFix p m c cc nL s args AL own) (hK : va_K D vwCl (ty3 cI cZ cO) s) (hP : va_P D vwCl (MW cI cZ mk mg st im ke se tx sh fa mt) H) {idx : Nat} (hl : Cond.fieldLink own idx "WindFrontiersModel" "token" "I" ∈ AL) (hdg : decode cc pc = .ok (.getfield idx, 3)) (kk : W p l e R s m args below meth c H locs cells slots Q (F0 m (pc + 3) ls (.int (mg 6) :: rest))) : W p l e R s m args below meth c H locs cells slots Q (F0 m pc ls (.ref (mk 0) :: rest)) :=
  va_get (D := D) (ci := 7) (C := RX7) (T := TX7) (N := 22) C.1 C.2.1 C.2.2.2.2 inA7 C.2.2.2.1 hK hP 0 rfl rfl 12 (by decide) (C.2.2.2.2 _ hl) (fun _ h => h) rfl hdg kk
theorem pX7_token (C : CallFix p m c cc nL s args AL own) (hK : va_K D vwCl (ty3 cI cZ cO) s) (hP : va_P D vwCl (MW cI cZ mk mg st im ke se tx sh fa mt) H) (hD : va_D A (MW cI cZ mk mg st im ke se tx sh fa mt)) (hS : va_S A H0 H locs) {idx : Nat} {x : Int32} (hl : Cond.fieldLink own idx "WindFrontiersModel" "token" "I" ∈ AL) (hdg : decode cc pc = .ok (.putfield idx, 3)) (kk : ∀ (H : Heap) (locs : List Loc), va_P D vwCl (MW cI cZ mk (upd mg 6 x) st im ke se tx sh fa mt) H → va_D A (MW cI cZ mk (upd mg 6 x) st im ke se tx sh fa mt) → va_S A H0 H locs → W p l e R s m args below meth c H locs cells slots Q (F0 m (pc + 3) ls rest)) : W p l e R s m args below meth c H locs cells slots Q (F0 m pc ls (.int x :: .ref (mk 0) :: rest)) := by
  refine va_put (D := D) (ci := 7) (v := .int x) (ty := .int) (C := RX7) (T := TX7) (N := 22) C.1 C.2.1 C.2.2.2.2 inA7 tyX7 tyX7_ok nmX7 C.2.2.2.1 hK hP hD hS 0 rfl rfl 12 (by decide) (C.2.2.2.2 _ hl) (fun _ h => h) rfl (by decide +kernel) rfl rfl (Nat.le_of_ble_eq_true rfl) hdg (fun H1 locs1 h1 h2 h3 => ?_)
  exact kk H1 locs1 h1 h2 h3
theorem gX7_number (C : CallFix p m c cc nL s args AL own) (hK : va_K D vwCl (ty3 cI cZ cO) s) (hP : va_P D vwCl (MW cI cZ mk mg st im ke se tx sh fa mt) H) {idx : Nat} (hl : Cond.fieldLink own idx "WindFrontiersModel" "number" "I" ∈ AL) (hdg : decode cc pc = .ok (.getfield idx, 3)) (kk : W p l e R s m args below meth c H locs cells slots Q (F0 m (pc + 3) ls (.int (mg 7) :: rest))) : W p l e R s m args below meth c H locs cells slots Q (F0 m pc ls (.ref (mk 0) :: rest)) :=
  va_get (D := D) (ci := 7) (C := RX7) (T := TX7) (N := 22) C.1 C.2.1 C.2.2.2.2 inA7 C.2.2.2.1 hK hP 0 rfl rfl 13 (by decide) (C.2.2.2.2 _ hl) (fun _ h => h) rfl hdg kk
theorem pX7_number (C : CallFix p m c cc nL s args AL own) (hK : va_K D vwCl (ty3 cI cZ cO) s) (hP : va_P D vwCl (MW cI cZ mk mg st im ke se tx sh fa mt) H) (hD : va_D A (MW cI cZ mk mg st im ke se tx sh fa mt)) (hS : va_S A H0 H locs) {idx : Nat} {x : Int32} (hl : Cond.fieldLink own idx "WindFrontiersModel" "number" "I" ∈ AL) (hdg : decode cc pc = .ok (.putfield idx, 3)) (kk : ∀ (H : Heap) (locs : List Loc), va_P D vwCl (MW cI cZ mk (upd mg 7 x) st im ke se tx sh fa mt) H → va_D A (MW cI cZ mk (upd mg 7 x) st im ke se tx sh fa mt) → va_S A H0 H locs → W p l e R s m args below meth c H locs cells slots Q (F0 m (pc + 3) ls rest)) : W p l e R s m args below meth c H locs cells slots Q (F0 m pc ls (.int x :: .ref (mk 0) :: rest)) := by
  refine va_put (D := D) (ci := 7) (v := .int x) (ty := .int) (C := RX7) (T := TX7) (N := 22) C.1 C.2.1 C.2.2.2.2 inA7 tyX7 tyX7_ok nmX7 C.2.2.2.1 hK hP hD hS 0 rfl rfl 13 (by decide) (C.2.2.2.2 _ hl) (fun _ h => h) rfl (by decide +kernel) rfl rfl (Nat.le_of_ble_eq_true rfl) hdg (fun H1 locs1 h1 h2 h3 => ?_)
  exact kk H1 locs1 h1 h2 h3
theorem gX7_isWrong (C : CallFix p m c cc nL s args AL own) (hK : va_K D vwCl (ty3 cI cZ cO) s) (hP : va_P D vwCl (MW cI cZ mk mg st im ke se tx sh fa mt) H) {idx : Nat} (hl : Cond.fieldLink own idx "WindFrontiersModel" "isWrong" "Z" ∈ AL) (hdg : decode cc pc = .ok (.getfield idx, 3)) (kk : W p l e R s m args below meth c H locs cells slots Q (F0 m (pc + 3) ls (.int (mg 8) :: rest))) : W p l e R s m args below meth c H locs cells slots Q (F0 m pc ls (.ref (mk 0) :: rest)) :=
  va_get (D := D) (ci := 7) (C := RX7) (T := TX7) (N := 22) C.1 C.2.1 C.2.2.2.2 inA7 C.2.2.2.1 hK hP 0 rfl rfl 14 (by decide) (C.2.2.2.2 _ hl) (fun _ h => h) rfl hdg kk
theorem pX7_isWrong (C : CallFix p m c cc nL s args AL own) (hK : va_K D vwCl (ty3 cI cZ cO) s) (hP : va_P D vwCl (MW cI cZ mk mg st im ke se tx sh fa mt) H) (hD : va_D A (MW cI cZ mk mg st im ke se tx sh fa mt)) (hS : va_S A H0 H locs) {idx : Nat} {x : Int32} (hb : x = 0 ∨ x = 1) (hl : Cond.fieldLink own idx "WindFrontiersModel" "isWrong" "Z" ∈ AL) (hdg : decode cc pc = .ok (.putfield idx, 3)) (kk : ∀ (H : Heap) (locs : List Loc), va_P D vwCl (MW cI cZ mk (upd mg 8 x) st im ke se tx sh fa mt) H → va_D A (MW cI cZ mk (upd mg 8 x) st im ke se tx sh fa mt) → va_S A H0 H locs → W p l e R s m args below meth c H locs cells slots Q (F0 m (pc + 3) ls rest)) : W p l e R s m args below meth c H locs cells slots Q (F0 m pc ls (.int x :: .ref (mk 0) :: rest)) := by
  refine va_put (D := D) (ci := 7) (v := .int x) (ty := .boolean) (C := RX7) (T := TX7) (N := 22) C.1 C.2.1 C.2.2.2.2 inA7 tyX7 tyX7_ok nmX7 C.2.2.2.1 hK hP hD hS 0 rfl rfl 14 (by decide) (C.2.2.2.2 _ hl) (fun _ h => h) rfl (by decide +kernel) (bo_nar hb) (bo_fit hb) (Nat.le_of_ble_eq_true rfl) hdg (fun H1 locs1 h1 h2 h3 => ?_)
  exact kk H1 locs1 h1 h2 h3
theorem gX7_items (C : CallFix p m c cc nL s args AL own) (hK : va_K D vwCl (ty3 cI cZ cO) s) (hP : va_P D vwCl (MW cI cZ mk mg st im ke se tx sh fa mt) H) {idx : Nat} (hl : Cond.fieldLink own idx "WindFrontiersModel" "items" "I" ∈ AL) (hdg : decode cc pc = .ok (.getfield idx, 3)) (kk : W p l e R s m args below meth c H locs cells slots Q (F0 m (pc + 3) ls (.int (mg 9) :: rest))) : W p l e R s m args below meth c H locs cells slots Q (F0 m pc ls (.ref (mk 0) :: rest)) :=
  va_get (D := D) (ci := 7) (C := RX7) (T := TX7) (N := 22) C.1 C.2.1 C.2.2.2.2 inA7 C.2.2.2.1 hK hP 0 rfl rfl 15 (by decide) (C.2.2.2.2 _ hl) (fun _ h => h) rfl hdg kk
theorem pX7_items (C : CallFix p m c cc nL s args AL own) (hK : va_K D vwCl (ty3 cI cZ cO) s) (hP : va_P D vwCl (MW cI cZ mk mg st im ke se tx sh fa mt) H) (hD : va_D A (MW cI cZ mk mg st im ke se tx sh fa mt)) (hS : va_S A H0 H locs) {idx : Nat} {x : Int32} (hl : Cond.fieldLink own idx "WindFrontiersModel" "items" "I" ∈ AL) (hdg : decode cc pc = .ok (.putfield idx, 3)) (kk : ∀ (H : Heap) (locs : List Loc), va_P D vwCl (MW cI cZ mk (upd mg 9 x) st im ke se tx sh fa mt) H → va_D A (MW cI cZ mk (upd mg 9 x) st im ke se tx sh fa mt) → va_S A H0 H locs → W p l e R s m args below meth c H locs cells slots Q (F0 m (pc + 3) ls rest)) : W p l e R s m args below meth c H locs cells slots Q (F0 m pc ls (.int x :: .ref (mk 0) :: rest)) := by
  refine va_put (D := D) (ci := 7) (v := .int x) (ty := .int) (C := RX7) (T := TX7) (N := 22) C.1 C.2.1 C.2.2.2.2 inA7 tyX7 tyX7_ok nmX7 C.2.2.2.1 hK hP hD hS 0 rfl rfl 15 (by decide) (C.2.2.2.2 _ hl) (fun _ h => h) rfl (by decide +kernel) rfl rfl (Nat.le_of_ble_eq_true rfl) hdg (fun H1 locs1 h1 h2 h3 => ?_)
  exact kk H1 locs1 h1 h2 h3
theorem gX7_saidWide (C : CallFix p m c cc nL s args AL own) (hK : va_K D vwCl (ty3 cI cZ cO) s) (hP : va_P D vwCl (MW cI cZ mk mg st im ke se tx sh fa mt) H) {idx : Nat} (hl : Cond.fieldLink own idx "WindFrontiersModel" "saidWide" "I" ∈ AL) (hdg : decode cc pc = .ok (.getfield idx, 3)) (kk : W p l e R s m args below meth c H locs cells slots Q (F0 m (pc + 3) ls (.int (mg 10) :: rest))) : W p l e R s m args below meth c H locs cells slots Q (F0 m pc ls (.ref (mk 0) :: rest)) :=
  va_get (D := D) (ci := 7) (C := RX7) (T := TX7) (N := 22) C.1 C.2.1 C.2.2.2.2 inA7 C.2.2.2.1 hK hP 0 rfl rfl 16 (by decide) (C.2.2.2.2 _ hl) (fun _ h => h) rfl hdg kk
theorem pX7_saidWide (C : CallFix p m c cc nL s args AL own) (hK : va_K D vwCl (ty3 cI cZ cO) s) (hP : va_P D vwCl (MW cI cZ mk mg st im ke se tx sh fa mt) H) (hD : va_D A (MW cI cZ mk mg st im ke se tx sh fa mt)) (hS : va_S A H0 H locs) {idx : Nat} {x : Int32} (hl : Cond.fieldLink own idx "WindFrontiersModel" "saidWide" "I" ∈ AL) (hdg : decode cc pc = .ok (.putfield idx, 3)) (kk : ∀ (H : Heap) (locs : List Loc), va_P D vwCl (MW cI cZ mk (upd mg 10 x) st im ke se tx sh fa mt) H → va_D A (MW cI cZ mk (upd mg 10 x) st im ke se tx sh fa mt) → va_S A H0 H locs → W p l e R s m args below meth c H locs cells slots Q (F0 m (pc + 3) ls rest)) : W p l e R s m args below meth c H locs cells slots Q (F0 m pc ls (.int x :: .ref (mk 0) :: rest)) := by
  refine va_put (D := D) (ci := 7) (v := .int x) (ty := .int) (C := RX7) (T := TX7) (N := 22) C.1 C.2.1 C.2.2.2.2 inA7 tyX7 tyX7_ok nmX7 C.2.2.2.1 hK hP hD hS 0 rfl rfl 16 (by decide) (C.2.2.2.2 _ hl) (fun _ h => h) rfl (by decide +kernel) rfl rfl (Nat.le_of_ble_eq_true rfl) hdg (fun H1 locs1 h1 h2 h3 => ?_)
  exact kk H1 locs1 h1 h2 h3
theorem gX7_saidRows (C : CallFix p m c cc nL s args AL own) (hK : va_K D vwCl (ty3 cI cZ cO) s) (hP : va_P D vwCl (MW cI cZ mk mg st im ke se tx sh fa mt) H) {idx : Nat} (hl : Cond.fieldLink own idx "WindFrontiersModel" "saidRows" "I" ∈ AL) (hdg : decode cc pc = .ok (.getfield idx, 3)) (kk : W p l e R s m args below meth c H locs cells slots Q (F0 m (pc + 3) ls (.int (mg 11) :: rest))) : W p l e R s m args below meth c H locs cells slots Q (F0 m pc ls (.ref (mk 0) :: rest)) :=
  va_get (D := D) (ci := 7) (C := RX7) (T := TX7) (N := 22) C.1 C.2.1 C.2.2.2.2 inA7 C.2.2.2.1 hK hP 0 rfl rfl 17 (by decide) (C.2.2.2.2 _ hl) (fun _ h => h) rfl hdg kk
theorem pX7_saidRows (C : CallFix p m c cc nL s args AL own) (hK : va_K D vwCl (ty3 cI cZ cO) s) (hP : va_P D vwCl (MW cI cZ mk mg st im ke se tx sh fa mt) H) (hD : va_D A (MW cI cZ mk mg st im ke se tx sh fa mt)) (hS : va_S A H0 H locs) {idx : Nat} {x : Int32} (hl : Cond.fieldLink own idx "WindFrontiersModel" "saidRows" "I" ∈ AL) (hdg : decode cc pc = .ok (.putfield idx, 3)) (kk : ∀ (H : Heap) (locs : List Loc), va_P D vwCl (MW cI cZ mk (upd mg 11 x) st im ke se tx sh fa mt) H → va_D A (MW cI cZ mk (upd mg 11 x) st im ke se tx sh fa mt) → va_S A H0 H locs → W p l e R s m args below meth c H locs cells slots Q (F0 m (pc + 3) ls rest)) : W p l e R s m args below meth c H locs cells slots Q (F0 m pc ls (.int x :: .ref (mk 0) :: rest)) := by
  refine va_put (D := D) (ci := 7) (v := .int x) (ty := .int) (C := RX7) (T := TX7) (N := 22) C.1 C.2.1 C.2.2.2.2 inA7 tyX7 tyX7_ok nmX7 C.2.2.2.1 hK hP hD hS 0 rfl rfl 17 (by decide) (C.2.2.2.2 _ hl) (fun _ h => h) rfl (by decide +kernel) rfl rfl (Nat.le_of_ble_eq_true rfl) hdg (fun H1 locs1 h1 h2 h3 => ?_)
  exact kk H1 locs1 h1 h2 h3
theorem gX7_saidHolder (C : CallFix p m c cc nL s args AL own) (hK : va_K D vwCl (ty3 cI cZ cO) s) (hP : va_P D vwCl (MW cI cZ mk mg st im ke se tx sh fa mt) H) {idx : Nat} (hl : Cond.fieldLink own idx "WindFrontiersModel" "saidHolder" "[I" ∈ AL) (hdg : decode cc pc = .ok (.getfield idx, 3)) (kk : W p l e R s m args below meth c H locs cells slots Q (F0 m (pc + 3) ls (.ref (mk 6) :: rest))) : W p l e R s m args below meth c H locs cells slots Q (F0 m pc ls (.ref (mk 0) :: rest)) :=
  va_get (D := D) (ci := 7) (C := RX7) (T := TX7) (N := 22) C.1 C.2.1 C.2.2.2.2 inA7 C.2.2.2.1 hK hP 0 rfl rfl 18 (by decide) (C.2.2.2.2 _ hl) (fun _ h => h) rfl hdg kk
theorem gX7_saidCloth (C : CallFix p m c cc nL s args AL own) (hK : va_K D vwCl (ty3 cI cZ cO) s) (hP : va_P D vwCl (MW cI cZ mk mg st im ke se tx sh fa mt) H) {idx : Nat} (hl : Cond.fieldLink own idx "WindFrontiersModel" "saidCloth" "I" ∈ AL) (hdg : decode cc pc = .ok (.getfield idx, 3)) (kk : W p l e R s m args below meth c H locs cells slots Q (F0 m (pc + 3) ls (.int (mg 12) :: rest))) : W p l e R s m args below meth c H locs cells slots Q (F0 m pc ls (.ref (mk 0) :: rest)) :=
  va_get (D := D) (ci := 7) (C := RX7) (T := TX7) (N := 22) C.1 C.2.1 C.2.2.2.2 inA7 C.2.2.2.1 hK hP 0 rfl rfl 19 (by decide) (C.2.2.2.2 _ hl) (fun _ h => h) rfl hdg kk
theorem pX7_saidCloth (C : CallFix p m c cc nL s args AL own) (hK : va_K D vwCl (ty3 cI cZ cO) s) (hP : va_P D vwCl (MW cI cZ mk mg st im ke se tx sh fa mt) H) (hD : va_D A (MW cI cZ mk mg st im ke se tx sh fa mt)) (hS : va_S A H0 H locs) {idx : Nat} {x : Int32} (hl : Cond.fieldLink own idx "WindFrontiersModel" "saidCloth" "I" ∈ AL) (hdg : decode cc pc = .ok (.putfield idx, 3)) (kk : ∀ (H : Heap) (locs : List Loc), va_P D vwCl (MW cI cZ mk (upd mg 12 x) st im ke se tx sh fa mt) H → va_D A (MW cI cZ mk (upd mg 12 x) st im ke se tx sh fa mt) → va_S A H0 H locs → W p l e R s m args below meth c H locs cells slots Q (F0 m (pc + 3) ls rest)) : W p l e R s m args below meth c H locs cells slots Q (F0 m pc ls (.int x :: .ref (mk 0) :: rest)) := by
  refine va_put (D := D) (ci := 7) (v := .int x) (ty := .int) (C := RX7) (T := TX7) (N := 22) C.1 C.2.1 C.2.2.2.2 inA7 tyX7 tyX7_ok nmX7 C.2.2.2.1 hK hP hD hS 0 rfl rfl 19 (by decide) (C.2.2.2.2 _ hl) (fun _ h => h) rfl (by decide +kernel) rfl rfl (Nat.le_of_ble_eq_true rfl) hdg (fun H1 locs1 h1 h2 h3 => ?_)
  exact kk H1 locs1 h1 h2 h3
theorem gX7_saidWind (C : CallFix p m c cc nL s args AL own) (hK : va_K D vwCl (ty3 cI cZ cO) s) (hP : va_P D vwCl (MW cI cZ mk mg st im ke se tx sh fa mt) H) {idx : Nat} (hl : Cond.fieldLink own idx "WindFrontiersModel" "saidWind" "I" ∈ AL) (hdg : decode cc pc = .ok (.getfield idx, 3)) (kk : W p l e R s m args below meth c H locs cells slots Q (F0 m (pc + 3) ls (.int (mg 13) :: rest))) : W p l e R s m args below meth c H locs cells slots Q (F0 m pc ls (.ref (mk 0) :: rest)) :=
  va_get (D := D) (ci := 7) (C := RX7) (T := TX7) (N := 22) C.1 C.2.1 C.2.2.2.2 inA7 C.2.2.2.1 hK hP 0 rfl rfl 20 (by decide) (C.2.2.2.2 _ hl) (fun _ h => h) rfl hdg kk
theorem pX7_saidWind (C : CallFix p m c cc nL s args AL own) (hK : va_K D vwCl (ty3 cI cZ cO) s) (hP : va_P D vwCl (MW cI cZ mk mg st im ke se tx sh fa mt) H) (hD : va_D A (MW cI cZ mk mg st im ke se tx sh fa mt)) (hS : va_S A H0 H locs) {idx : Nat} {x : Int32} (hl : Cond.fieldLink own idx "WindFrontiersModel" "saidWind" "I" ∈ AL) (hdg : decode cc pc = .ok (.putfield idx, 3)) (kk : ∀ (H : Heap) (locs : List Loc), va_P D vwCl (MW cI cZ mk (upd mg 13 x) st im ke se tx sh fa mt) H → va_D A (MW cI cZ mk (upd mg 13 x) st im ke se tx sh fa mt) → va_S A H0 H locs → W p l e R s m args below meth c H locs cells slots Q (F0 m (pc + 3) ls rest)) : W p l e R s m args below meth c H locs cells slots Q (F0 m pc ls (.int x :: .ref (mk 0) :: rest)) := by
  refine va_put (D := D) (ci := 7) (v := .int x) (ty := .int) (C := RX7) (T := TX7) (N := 22) C.1 C.2.1 C.2.2.2.2 inA7 tyX7 tyX7_ok nmX7 C.2.2.2.1 hK hP hD hS 0 rfl rfl 20 (by decide) (C.2.2.2.2 _ hl) (fun _ h => h) rfl (by decide +kernel) rfl rfl (Nat.le_of_ble_eq_true rfl) hdg (fun H1 locs1 h1 h2 h3 => ?_)
  exact kk H1 locs1 h1 h2 h3
theorem gX7_far (C : CallFix p m c cc nL s args AL own) (hK : va_K D vwCl (ty3 cI cZ cO) s) (hP : va_P D vwCl (MW cI cZ mk mg st im ke se tx sh fa mt) H) {idx : Nat} (hl : Cond.fieldLink own idx "WindFrontiersModel" "far" "[I" ∈ AL) (hdg : decode cc pc = .ok (.getfield idx, 3)) (kk : W p l e R s m args below meth c H locs cells slots Q (F0 m (pc + 3) ls (.ref (mk 7) :: rest))) : W p l e R s m args below meth c H locs cells slots Q (F0 m pc ls (.ref (mk 0) :: rest)) :=
  va_get (D := D) (ci := 7) (C := RX7) (T := TX7) (N := 22) C.1 C.2.1 C.2.2.2.2 inA7 C.2.2.2.1 hK hP 0 rfl rfl 21 (by decide) (C.2.2.2.2 _ hl) (fun _ h => h) rfl hdg kk
theorem aM_st (C : CallFix p m c cc nL s args AL own) (hK : va_K D vwCl (ty3 cI cZ cO) s) (hP : va_P D vwCl (MW cI cZ mk mg st im ke se tx sh fa mt) H) {i : Int32} (hin : vp_in i 254) (hdg : decode cc pc = .ok (.iaload, 1)) (kk : W p l e R s m args below meth c H locs cells slots Q (F0 m (pc + 1) ls (.int (st i.toNatClampNeg) :: rest))) : W p l e R s m args below meth c H locs cells slots Q (F0 m pc ls (.int i :: .ref (mk 1) :: rest)) :=
  va_iald C.1 C.2.1 hK hP 1 0 rfl rfl hin hdg kk
theorem sM_st (C : CallFix p m c cc nL s args AL own) (hK : va_K D vwCl (ty3 cI cZ cO) s) (hP : va_P D vwCl (MW cI cZ mk mg st im ke se tx sh fa mt) H) (hD : va_D A (MW cI cZ mk mg st im ke se tx sh fa mt)) (hS : va_S A H0 H locs) {i x : Int32} (hin : vp_in i 254) (hdg : decode cc pc = .ok (.iastore, 1)) (kk : ∀ (H : Heap) (locs : List Loc), va_P D vwCl (MW cI cZ mk mg (upd st i.toNatClampNeg x) im ke se tx sh fa mt) H → va_D A (MW cI cZ mk mg (upd st i.toNatClampNeg x) im ke se tx sh fa mt) → va_S A H0 H locs → W p l e R s m args below meth c H locs cells slots Q (F0 m (pc + 1) ls rest)) : W p l e R s m args below meth c H locs cells slots Q (F0 m pc ls (.int x :: .int i :: .ref (mk 1) :: rest)) := by
  refine va_iast C.1 C.2.1 hK hP hD hS 1 0 rfl rfl hin hdg (fun H1 locs1 h1 h2 h3 => ?_)
  exact kk H1 locs1 h1 h2 h3
theorem aM_images (C : CallFix p m c cc nL s args AL own) (hK : va_K D vwCl (ty3 cI cZ cO) s) (hP : va_P D vwCl (MW cI cZ mk mg st im ke se tx sh fa mt) H) {i : Int32} (hin : vp_in i 508) (hdg : decode cc pc = .ok (.iaload, 1)) (kk : W p l e R s m args below meth c H locs cells slots Q (F0 m (pc + 1) ls (.int (im i.toNatClampNeg) :: rest))) : W p l e R s m args below meth c H locs cells slots Q (F0 m pc ls (.int i :: .ref (mk 2) :: rest)) :=
  va_iald C.1 C.2.1 hK hP 2 0 rfl rfl hin hdg kk
theorem sM_images (C : CallFix p m c cc nL s args AL own) (hK : va_K D vwCl (ty3 cI cZ cO) s) (hP : va_P D vwCl (MW cI cZ mk mg st im ke se tx sh fa mt) H) (hD : va_D A (MW cI cZ mk mg st im ke se tx sh fa mt)) (hS : va_S A H0 H locs) {i x : Int32} (hin : vp_in i 508) (hdg : decode cc pc = .ok (.iastore, 1)) (kk : ∀ (H : Heap) (locs : List Loc), va_P D vwCl (MW cI cZ mk mg st (upd im i.toNatClampNeg x) ke se tx sh fa mt) H → va_D A (MW cI cZ mk mg st (upd im i.toNatClampNeg x) ke se tx sh fa mt) → va_S A H0 H locs → W p l e R s m args below meth c H locs cells slots Q (F0 m (pc + 1) ls rest)) : W p l e R s m args below meth c H locs cells slots Q (F0 m pc ls (.int x :: .int i :: .ref (mk 2) :: rest)) := by
  refine va_iast C.1 C.2.1 hK hP hD hS 2 0 rfl rfl hin hdg (fun H1 locs1 h1 h2 h3 => ?_)
  exact kk H1 locs1 h1 h2 h3
theorem aM_isKept (C : CallFix p m c cc nL s args AL own) (hK : va_K D vwCl (ty3 cI cZ cO) s) (hP : va_P D vwCl (MW cI cZ mk mg st im ke se tx sh fa mt) H) {i : Int32} (hin : vp_in i 2) (hdg : decode cc pc = .ok (.baload, 1)) (kk : W p l e R s m args below meth c H locs cells slots Q (F0 m (pc + 1) ls (.int (ke i.toNatClampNeg) :: rest))) : W p l e R s m args below meth c H locs cells slots Q (F0 m pc ls (.int i :: .ref (mk 3) :: rest)) :=
  va_zald C.1 C.2.1 hK hP 3 1 rfl rfl hin hdg kk
theorem sM_isKept (C : CallFix p m c cc nL s args AL own) (hK : va_K D vwCl (ty3 cI cZ cO) s) (hP : va_P D vwCl (MW cI cZ mk mg st im ke se tx sh fa mt) H) (hD : va_D A (MW cI cZ mk mg st im ke se tx sh fa mt)) (hS : va_S A H0 H locs) {i x : Int32} (hb : x = 0 ∨ x = 1) (hin : vp_in i 2) (hdg : decode cc pc = .ok (.bastore, 1)) (kk : ∀ (H : Heap) (locs : List Loc), va_P D vwCl (MW cI cZ mk mg st im (upd ke i.toNatClampNeg x) se tx sh fa mt) H → va_D A (MW cI cZ mk mg st im (upd ke i.toNatClampNeg x) se tx sh fa mt) → va_S A H0 H locs → W p l e R s m args below meth c H locs cells slots Q (F0 m (pc + 1) ls rest)) : W p l e R s m args below meth c H locs cells slots Q (F0 m pc ls (.int x :: .int i :: .ref (mk 3) :: rest)) := by
  refine va_zast C.1 C.2.1 hK hP hD hS 3 1 rfl rfl hin hdg (fun H1 locs1 h1 h2 h3 => ?_)
  have e : vp_nar .boolean x = x := by rcases hb with rfl | rfl <;> rfl
  rw [e] at h1 h2
  exact kk H1 locs1 h1 h2 h3
theorem aM_seen (C : CallFix p m c cc nL s args AL own) (hK : va_K D vwCl (ty3 cI cZ cO) s) (hP : va_P D vwCl (MW cI cZ mk mg st im ke se tx sh fa mt) H) {i : Int32} (hin : vp_in i 18) (hdg : decode cc pc = .ok (.iaload, 1)) (kk : W p l e R s m args below meth c H locs cells slots Q (F0 m (pc + 1) ls (.int (se i.toNatClampNeg) :: rest))) : W p l e R s m args below meth c H locs cells slots Q (F0 m pc ls (.int i :: .ref (mk 4) :: rest)) :=
  va_iald C.1 C.2.1 hK hP 4 0 rfl rfl hin hdg kk
theorem sM_seen (C : CallFix p m c cc nL s args AL own) (hK : va_K D vwCl (ty3 cI cZ cO) s) (hP : va_P D vwCl (MW cI cZ mk mg st im ke se tx sh fa mt) H) (hD : va_D A (MW cI cZ mk mg st im ke se tx sh fa mt)) (hS : va_S A H0 H locs) {i x : Int32} (hin : vp_in i 18) (hdg : decode cc pc = .ok (.iastore, 1)) (kk : ∀ (H : Heap) (locs : List Loc), va_P D vwCl (MW cI cZ mk mg st im ke (upd se i.toNatClampNeg x) tx sh fa mt) H → va_D A (MW cI cZ mk mg st im ke (upd se i.toNatClampNeg x) tx sh fa mt) → va_S A H0 H locs → W p l e R s m args below meth c H locs cells slots Q (F0 m (pc + 1) ls rest)) : W p l e R s m args below meth c H locs cells slots Q (F0 m pc ls (.int x :: .int i :: .ref (mk 4) :: rest)) := by
  refine va_iast C.1 C.2.1 hK hP hD hS 4 0 rfl rfl hin hdg (fun H1 locs1 h1 h2 h3 => ?_)
  exact kk H1 locs1 h1 h2 h3
theorem aM_text (C : CallFix p m c cc nL s args AL own) (hK : va_K D vwCl (ty3 cI cZ cO) s) (hP : va_P D vwCl (MW cI cZ mk mg st im ke se tx sh fa mt) H) {i : Int32} (hin : vp_in i 150) (hdg : decode cc pc = .ok (.iaload, 1)) (kk : W p l e R s m args below meth c H locs cells slots Q (F0 m (pc + 1) ls (.int (tx i.toNatClampNeg) :: rest))) : W p l e R s m args below meth c H locs cells slots Q (F0 m pc ls (.int i :: .ref (mk 5) :: rest)) :=
  va_iald C.1 C.2.1 hK hP 5 0 rfl rfl hin hdg kk
theorem sM_text (C : CallFix p m c cc nL s args AL own) (hK : va_K D vwCl (ty3 cI cZ cO) s) (hP : va_P D vwCl (MW cI cZ mk mg st im ke se tx sh fa mt) H) (hD : va_D A (MW cI cZ mk mg st im ke se tx sh fa mt)) (hS : va_S A H0 H locs) {i x : Int32} (hin : vp_in i 150) (hdg : decode cc pc = .ok (.iastore, 1)) (kk : ∀ (H : Heap) (locs : List Loc), va_P D vwCl (MW cI cZ mk mg st im ke se (upd tx i.toNatClampNeg x) sh fa mt) H → va_D A (MW cI cZ mk mg st im ke se (upd tx i.toNatClampNeg x) sh fa mt) → va_S A H0 H locs → W p l e R s m args below meth c H locs cells slots Q (F0 m (pc + 1) ls rest)) : W p l e R s m args below meth c H locs cells slots Q (F0 m pc ls (.int x :: .int i :: .ref (mk 5) :: rest)) := by
  refine va_iast C.1 C.2.1 hK hP hD hS 5 0 rfl rfl hin hdg (fun H1 locs1 h1 h2 h3 => ?_)
  exact kk H1 locs1 h1 h2 h3
theorem aM_saidHolder (C : CallFix p m c cc nL s args AL own) (hK : va_K D vwCl (ty3 cI cZ cO) s) (hP : va_P D vwCl (MW cI cZ mk mg st im ke se tx sh fa mt) H) {i : Int32} (hin : vp_in i 20) (hdg : decode cc pc = .ok (.iaload, 1)) (kk : W p l e R s m args below meth c H locs cells slots Q (F0 m (pc + 1) ls (.int (sh i.toNatClampNeg) :: rest))) : W p l e R s m args below meth c H locs cells slots Q (F0 m pc ls (.int i :: .ref (mk 6) :: rest)) :=
  va_iald C.1 C.2.1 hK hP 6 0 rfl rfl hin hdg kk
theorem sM_saidHolder (C : CallFix p m c cc nL s args AL own) (hK : va_K D vwCl (ty3 cI cZ cO) s) (hP : va_P D vwCl (MW cI cZ mk mg st im ke se tx sh fa mt) H) (hD : va_D A (MW cI cZ mk mg st im ke se tx sh fa mt)) (hS : va_S A H0 H locs) {i x : Int32} (hin : vp_in i 20) (hdg : decode cc pc = .ok (.iastore, 1)) (kk : ∀ (H : Heap) (locs : List Loc), va_P D vwCl (MW cI cZ mk mg st im ke se tx (upd sh i.toNatClampNeg x) fa mt) H → va_D A (MW cI cZ mk mg st im ke se tx (upd sh i.toNatClampNeg x) fa mt) → va_S A H0 H locs → W p l e R s m args below meth c H locs cells slots Q (F0 m (pc + 1) ls rest)) : W p l e R s m args below meth c H locs cells slots Q (F0 m pc ls (.int x :: .int i :: .ref (mk 6) :: rest)) := by
  refine va_iast C.1 C.2.1 hK hP hD hS 6 0 rfl rfl hin hdg (fun H1 locs1 h1 h2 h3 => ?_)
  exact kk H1 locs1 h1 h2 h3
theorem aM_far (C : CallFix p m c cc nL s args AL own) (hK : va_K D vwCl (ty3 cI cZ cO) s) (hP : va_P D vwCl (MW cI cZ mk mg st im ke se tx sh fa mt) H) {i : Int32} (hin : vp_in i 20) (hdg : decode cc pc = .ok (.iaload, 1)) (kk : W p l e R s m args below meth c H locs cells slots Q (F0 m (pc + 1) ls (.int (fa i.toNatClampNeg) :: rest))) : W p l e R s m args below meth c H locs cells slots Q (F0 m pc ls (.int i :: .ref (mk 7) :: rest)) :=
  va_iald C.1 C.2.1 hK hP 7 0 rfl rfl hin hdg kk
theorem sM_far (C : CallFix p m c cc nL s args AL own) (hK : va_K D vwCl (ty3 cI cZ cO) s) (hP : va_P D vwCl (MW cI cZ mk mg st im ke se tx sh fa mt) H) (hD : va_D A (MW cI cZ mk mg st im ke se tx sh fa mt)) (hS : va_S A H0 H locs) {i x : Int32} (hin : vp_in i 20) (hdg : decode cc pc = .ok (.iastore, 1)) (kk : ∀ (H : Heap) (locs : List Loc), va_P D vwCl (MW cI cZ mk mg st im ke se tx sh (upd fa i.toNatClampNeg x) mt) H → va_D A (MW cI cZ mk mg st im ke se tx sh (upd fa i.toNatClampNeg x) mt) → va_S A H0 H locs → W p l e R s m args below meth c H locs cells slots Q (F0 m (pc + 1) ls rest)) : W p l e R s m args below meth c H locs cells slots Q (F0 m pc ls (.int x :: .int i :: .ref (mk 7) :: rest)) := by
  refine va_iast C.1 C.2.1 hK hP hD hS 7 0 rfl rfl hin hdg (fun H1 locs1 h1 h2 h3 => ?_)
  exact kk H1 locs1 h1 h2 h3
end STEP
end
section
/-! what a method starts from, calls -/
def NWl : List Cond := [Cond.methodLinkNest RX6 11 yX1_init "WindFrontiers", Cond.methodLinkNest RX1 11 yX5_init "WindFrontiers", Cond.methodLinkNest RX1 20 yX4_init "WindFrontiers", Cond.methodLinkNest RX3 11 yX4_init "WindFrontiers", Cond.methodLinkNest RX6 43 yX2_init "WindFrontiers", Cond.methodLinkNest RX6 50 yX0_init "WindFrontiers", Cond.methodLinkNest RX1 98 yX6_bitOf "WindFrontiers", Cond.methodLinkNest RX4 39 yX6_isWithin "WindFrontiers", Cond.methodLinkNest RX4 77 yX6_oneIf "WindFrontiers", Cond.methodLinkNest RX0 40 yX6_bitOf "WindFrontiers"]
def NW (U : State) : Prop := (∀ w ∈ NWl, va_Nw w U) ∧ va_AO "WindFrontiers$Strand" U
theorem NW_same {u U : State} (h : u.vm = U.vm) (hN : NW u) : NW U := by
  refine ⟨fun w hw => ?_, hN.2.moved (by rw [h]; exact Vm.Alike.refl _)⟩
  have h0 := hN.1 w hw
  simp only [NWl, List.mem_cons, List.not_mem_nil, or_false] at hw
  rcases hw with rfl | rfl | rfl | rfl | rfl | rfl | rfl | rfl | rfl | rfl <;> exact va_Nw.same rfl h h0
theorem NW_warm {s U : State} (hW : s.WarmedH U.vm) (hN : NW s) : NW U := by
  refine ⟨fun w hw => ?_, hN.2.moved hW.alike⟩
  have h0 := hN.1 w hw
  simp only [NWl, List.mem_cons, List.not_mem_nil, or_false] at hw
  rcases hw with rfl | rfl | rfl | rfl | rfl | rfl | rfl | rfl | rfl | rfl <;> exact va_Nw.warmM hW h0
theorem NW_of {s : State} {args : Array Value} (hts : ∀ w ∈ lw_tbl, w.before args s = true) : NW s := by
  refine ⟨fun w hw => ?_, va_AO.of (hts _ wn_1_109)⟩
  simp only [NWl, List.mem_cons, List.not_mem_nil, or_false] at hw
  rcases hw with rfl | rfl | rfl | rfl | rfl | rfl | rfl | rfl | rfl | rfl
  · exact va_Nw.of rfl (hts _ wn_1_20)
  · exact va_Nw.of rfl (hts _ wn_1_26)
  · exact va_Nw.of rfl (hts _ wn_1_41)
  · exact va_Nw.of rfl (hts _ wn_1_108)
  · exact va_Nw.of rfl (hts _ wn_1_127)
  · exact va_Nw.of rfl (hts _ wn_1_150)
  · exact va_Nw.of rfl (hts _ wn_2_14)
  · exact va_Nw.of rfl (hts _ wn_2_49)
  · exact va_Nw.of rfl (hts _ wn_2_185)
  · exact va_Nw.of rfl (hts _ wn_3_15)
/-- a method with a world -/
def GPre (D : va_G) (tys : List (ClassId × FieldType)) (w : va_W) (av : List Value) (sz : Nat) : Array Value → State → Prop := va_Pc av (fun U => U.heap.size = sz ∧ va_P D vwCl w U.heap ∧ va_K D vwCl tys U ∧ va_D (fun _ => True) w ∧ NW U)
/-- a method without one -/
def SPre (av : List Value) : Array Value → State → Prop := va_Pc av (fun U => NW U)
def GAt (D : va_G) (tys : List (ClassId × FieldType)) (A : Nat → Prop) (w : va_W) (t : State) : Prop := va_P D vwCl w t.heap ∧ va_K D vwCl tys t ∧ va_D A w
theorem GPre_blind {D : va_G} {tys : List (ClassId × FieldType)} {w : va_W} {av : List Value} {sz : Nat} : FrameBlind (GPre D tys w av sz) := fun a U g mk q => by
  obtain ⟨q0, q1, qP, qK, qD, qN⟩ := q
  exact ⟨q0, q1, qP, va_K.moved (u := U) (U := U.calling g mk a) (Vm.Alike.refl U.vm) qK, qD, NW_same (u := U) rfl qN⟩
theorem SPre_blind {av : List Value} : FrameBlind (SPre av) := fun a U g mk q => by
  obtain ⟨q0, qN⟩ := q
  exact ⟨q0, NW_same (u := U) rfl qN⟩
theorem wm_ts {y : MethodName} {cc : ByteArray} {n : Nat} {ret : Option FieldType} {a : Array Value} {s : State} (h : ∀ w ∈ wm y cc n ret, w.before a s = true) : ∀ w ∈ AL, w.before a s = true := fun w hw => h w (List.mem_cons_of_mem _ hw)
section MET
variable {l : Launch} {y : MethodName} {cc : ByteArray} {nL : Nat} {ret : Option FieldType} {rm : Room} {D : va_G} {tys : List (ClassId × FieldType)} {w : va_W} {av : List Value} {sz : Nat}
theorem metP_i {post : Int32 → Prop} (hy : plainName y.cls = true) (hn : (lg_sl av).length ≤ nL)
    (body : ∀ (p : Program) (e : Env) (s : State) (m : MethodId) (args : Array Value) (below : List Frame) (meth : Method) (c : Code) (ls : Array Slot) (Q : State → Prop), CallFix p m c cc nL s args AL y.cls → s.heap.size = sz → va_P D vwCl w s.heap → va_K D vwCl tys s → va_D (fun _ => True) w → NW s → lv_has ls nL (lv_args 0 av) → (∀ (v : Int32) (pc : Nat) (ls : Array Slot), post v → decode cc pc = .ok (.ireturn, 1) → W p l e rm s m args below meth c s.heap [] 0 0 Q (F0 m pc ls [.int v])) → W p l e rm s m args below meth c s.heap [] 0 0 Q (F0 m 0 ls [])) :
    Met l y (wm y cc nL (some .int)) rm (GPre D tys w av sz) (vp_Si post) 0 0 (fun _ => False) := by
  refine Met.ofW (cc := cc) (maxL := nL) (ret := (some .int)) hy rfl ?_
  intro p e s m args below meth c s₁ B hml hv
  obtain ⟨rfl, hsz, hP, hK, hD, hN⟩ := hv
  have hr := B.returns
  have hlocks := B.notSynchronized
  have hl := lv_entry av (n := nL) hn
  rw [lg_entry_eq]
  refine body p e s m _ below meth c _ _ ⟨B.exec, B.bytes, hml, findClass_of_methodNamed B.named, wm_ts (atoms_spec (ws := wm y cc nL (some .int)) B.pre)⟩ hsz hP hK hD hN hl ?_
  intro v pc ls hv hd
  exact W.iret B.exec B.bytes hr (fun t ht hW => ⟨_, rfl, hv, ht⟩) (fun _ h => by cases h) hd
theorem metS_i {post : Int32 → Prop} (hy : plainName y.cls = true) (hn : (lg_sl av).length ≤ nL)
    (body : ∀ (p : Program) (e : Env) (s : State) (m : MethodId) (args : Array Value) (below : List Frame) (meth : Method) (c : Code) (ls : Array Slot) (Q : State → Prop), CallFix p m c cc nL s args AL y.cls → NW s → lv_has ls nL (lv_args 0 av) → (∀ (v : Int32) (pc : Nat) (ls : Array Slot), post v → decode cc pc = .ok (.ireturn, 1) → W p l e rm s m args below meth c s.heap [] 0 0 Q (F0 m pc ls [.int v])) → W p l e rm s m args below meth c s.heap [] 0 0 Q (F0 m 0 ls [])) :
    Met l y (wm y cc nL (some .int)) rm (SPre av) (vp_Si post) 0 0 (fun _ => False) := by
  refine Met.ofW (cc := cc) (maxL := nL) (ret := (some .int)) hy rfl ?_
  intro p e s m args below meth c s₁ B hml hv
  obtain ⟨rfl, hN⟩ := hv
  have hr := B.returns
  have hlocks := B.notSynchronized
  have hl := lv_entry av (n := nL) hn
  rw [lg_entry_eq]
  refine body p e s m _ below meth c _ _ ⟨B.exec, B.bytes, hml, findClass_of_methodNamed B.named, wm_ts (atoms_spec (ws := wm y cc nL (some .int)) B.pre)⟩ hN hl ?_
  intro v pc ls hv hd
  exact W.iret B.exec B.bytes hr (fun t ht hW => ⟨_, rfl, hv, ht⟩) (fun _ h => by cases h) hd
theorem metP_z {post : Int32 → Prop} (hy : plainName y.cls = true) (hn : (lg_sl av).length ≤ nL)
    (body : ∀ (p : Program) (e : Env) (s : State) (m : MethodId) (args : Array Value) (below : List Frame) (meth : Method) (c : Code) (ls : Array Slot) (Q : State → Prop), CallFix p m c cc nL s args AL y.cls → s.heap.size = sz → va_P D vwCl w s.heap → va_K D vwCl tys s → va_D (fun _ => True) w → NW s → lv_has ls nL (lv_args 0 av) → (∀ (v : Int32) (pc : Nat) (ls : Array Slot), post v ∧ (v = 0 ∨ v = 1) → decode cc pc = .ok (.ireturn, 1) → W p l e rm s m args below meth c s.heap [] 0 0 Q (F0 m pc ls [.int v])) → W p l e rm s m args below meth c s.heap [] 0 0 Q (F0 m 0 ls [])) :
    Met l y (wm y cc nL (some .boolean)) rm (GPre D tys w av sz) (vp_Si (fun r => post r ∧ (r = 0 ∨ r = 1))) 0 0 (fun _ => False) := by
  refine Met.ofW (cc := cc) (maxL := nL) (ret := (some .boolean)) hy rfl ?_
  intro p e s m args below meth c s₁ B hml hv
  obtain ⟨rfl, hsz, hP, hK, hD, hN⟩ := hv
  have hr := B.returns
  have hlocks := B.notSynchronized
  have hl := lv_entry av (n := nL) hn
  rw [lg_entry_eq]
  refine body p e s m _ below meth c _ _ ⟨B.exec, B.bytes, hml, findClass_of_methodNamed B.named, wm_ts (atoms_spec (ws := wm y cc nL (some .boolean)) B.pre)⟩ hsz hP hK hD hN hl ?_
  intro v pc ls hv hd
  exact W.zret B.exec B.bytes hr (bo_nar hv.2) (fun t ht hW => ⟨_, rfl, hv, ht⟩) (fun _ h => by cases h) hd
theorem metS_z {post : Int32 → Prop} (hy : plainName y.cls = true) (hn : (lg_sl av).length ≤ nL)
    (body : ∀ (p : Program) (e : Env) (s : State) (m : MethodId) (args : Array Value) (below : List Frame) (meth : Method) (c : Code) (ls : Array Slot) (Q : State → Prop), CallFix p m c cc nL s args AL y.cls → NW s → lv_has ls nL (lv_args 0 av) → (∀ (v : Int32) (pc : Nat) (ls : Array Slot), post v ∧ (v = 0 ∨ v = 1) → decode cc pc = .ok (.ireturn, 1) → W p l e rm s m args below meth c s.heap [] 0 0 Q (F0 m pc ls [.int v])) → W p l e rm s m args below meth c s.heap [] 0 0 Q (F0 m 0 ls [])) :
    Met l y (wm y cc nL (some .boolean)) rm (SPre av) (vp_Si (fun r => post r ∧ (r = 0 ∨ r = 1))) 0 0 (fun _ => False) := by
  refine Met.ofW (cc := cc) (maxL := nL) (ret := (some .boolean)) hy rfl ?_
  intro p e s m args below meth c s₁ B hml hv
  obtain ⟨rfl, hN⟩ := hv
  have hr := B.returns
  have hlocks := B.notSynchronized
  have hl := lv_entry av (n := nL) hn
  rw [lg_entry_eq]
  refine body p e s m _ below meth c _ _ ⟨B.exec, B.bytes, hml, findClass_of_methodNamed B.named, wm_ts (atoms_spec (ws := wm y cc nL (some .boolean)) B.pre)⟩ hN hl ?_
  intro v pc ls hv hd
  exact W.zret B.exec B.bytes hr (bo_nar hv.2) (fun t ht hW => ⟨_, rfl, hv, ht⟩) (fun _ h => by cases h) hd
theorem metP_l {post : Int64 → Prop} (hy : plainName y.cls = true) (hn : (lg_sl av).length ≤ nL)
    (body : ∀ (p : Program) (e : Env) (s : State) (m : MethodId) (args : Array Value) (below : List Frame) (meth : Method) (c : Code) (ls : Array Slot) (Q : State → Prop), CallFix p m c cc nL s args AL y.cls → s.heap.size = sz → va_P D vwCl w s.heap → va_K D vwCl tys s → va_D (fun _ => True) w → NW s → lv_has ls nL (lv_args 0 av) → (∀ (v : Int64) (pc : Nat) (ls : Array Slot), post v → decode cc pc = .ok (.lreturn, 1) → W p l e rm s m args below meth c s.heap [] 0 0 Q (F0 m pc ls [.long v])) → W p l e rm s m args below meth c s.heap [] 0 0 Q (F0 m 0 ls [])) :
    Met l y (wm y cc nL (some .long)) rm (GPre D tys w av sz) (vp_Sl post) 0 0 (fun _ => False) := by
  refine Met.ofW (cc := cc) (maxL := nL) (ret := (some .long)) hy rfl ?_
  intro p e s m args below meth c s₁ B hml hv
  obtain ⟨rfl, hsz, hP, hK, hD, hN⟩ := hv
  have hr := B.returns
  have hlocks := B.notSynchronized
  have hl := lv_entry av (n := nL) hn
  rw [lg_entry_eq]
  refine body p e s m _ below meth c _ _ ⟨B.exec, B.bytes, hml, findClass_of_methodNamed B.named, wm_ts (atoms_spec (ws := wm y cc nL (some .long)) B.pre)⟩ hsz hP hK hD hN hl ?_
  intro v pc ls hv hd
  exact W.lret B.exec B.bytes hr (fun t ht hW => ⟨_, rfl, hv, ht⟩) (fun _ h => by cases h) hd
theorem metS_l {post : Int64 → Prop} (hy : plainName y.cls = true) (hn : (lg_sl av).length ≤ nL)
    (body : ∀ (p : Program) (e : Env) (s : State) (m : MethodId) (args : Array Value) (below : List Frame) (meth : Method) (c : Code) (ls : Array Slot) (Q : State → Prop), CallFix p m c cc nL s args AL y.cls → NW s → lv_has ls nL (lv_args 0 av) → (∀ (v : Int64) (pc : Nat) (ls : Array Slot), post v → decode cc pc = .ok (.lreturn, 1) → W p l e rm s m args below meth c s.heap [] 0 0 Q (F0 m pc ls [.long v])) → W p l e rm s m args below meth c s.heap [] 0 0 Q (F0 m 0 ls [])) :
    Met l y (wm y cc nL (some .long)) rm (SPre av) (vp_Sl post) 0 0 (fun _ => False) := by
  refine Met.ofW (cc := cc) (maxL := nL) (ret := (some .long)) hy rfl ?_
  intro p e s m args below meth c s₁ B hml hv
  obtain ⟨rfl, hN⟩ := hv
  have hr := B.returns
  have hlocks := B.notSynchronized
  have hl := lv_entry av (n := nL) hn
  rw [lg_entry_eq]
  refine body p e s m _ below meth c _ _ ⟨B.exec, B.bytes, hml, findClass_of_methodNamed B.named, wm_ts (atoms_spec (ws := wm y cc nL (some .long)) B.pre)⟩ hN hl ?_
  intro v pc ls hv hd
  exact W.lret B.exec B.bytes hr (fun t ht hW => ⟨_, rfl, hv, ht⟩) (fun _ h => by cases h) hd
theorem metP_r {nm : String} {va : Value} (hy : plainName y.cls = true) (hn : (lg_sl av).length ≤ nL)
    (body : ∀ (p : Program) (e : Env) (s : State) (m : MethodId) (args : Array Value) (below : List Frame) (meth : Method) (c : Code) (ls : Array Slot) (Q : State → Prop), CallFix p m c cc nL s args AL y.cls → s.heap.size = sz → va_P D vwCl w s.heap → va_K D vwCl tys s → va_D (fun _ => True) w → NW s → lv_has ls nL (lv_args 0 av) → (∀ (v : Value) (pc : Nat) (ls : Array Slot), v = va ∧ (v = .null ∨ ∃ a, v = .ref a) → decode cc pc = .ok (.areturn, 1) → W p l e rm s m args below meth c s.heap [] 0 0 Q (F0 m pc ls [v])) → W p l e rm s m args below meth c s.heap [] 0 0 Q (F0 m 0 ls [])) :
    Met l y (wm y cc nL (some (.object nm))) rm (GPre D tys w av sz) (va_Sr (fun _ => True) (fun _ => va)) 0 0 (fun _ => False) := by
  refine Met.ofW (cc := cc) (maxL := nL) (ret := (some (.object nm))) hy rfl ?_
  intro p e s m args below meth c s₁ B hml hv
  obtain ⟨rfl, hsz, hP, hK, hD, hN⟩ := hv
  have hr := B.returns
  have hlocks := B.notSynchronized
  have hl := lv_entry av (n := nL) hn
  rw [lg_entry_eq]
  refine body p e s m _ below meth c _ _ ⟨B.exec, B.bytes, hml, findClass_of_methodNamed B.named, wm_ts (atoms_spec (ws := wm y cc nL (some (.object nm))) B.pre)⟩ hsz hP hK hD hN hl ?_
  intro v pc ls hv hd
  exact W.aret B.exec B.bytes hr (Or.inl ⟨_, rfl⟩) hv.2 (fun t ht hW => ⟨0, by rw [hv.1], trivial, ht⟩) (fun _ h => by cases h) hd
theorem metS_r {nm : String} {va : Value} (hy : plainName y.cls = true) (hn : (lg_sl av).length ≤ nL)
    (body : ∀ (p : Program) (e : Env) (s : State) (m : MethodId) (args : Array Value) (below : List Frame) (meth : Method) (c : Code) (ls : Array Slot) (Q : State → Prop), CallFix p m c cc nL s args AL y.cls → NW s → lv_has ls nL (lv_args 0 av) → (∀ (v : Value) (pc : Nat) (ls : Array Slot), v = va ∧ (v = .null ∨ ∃ a, v = .ref a) → decode cc pc = .ok (.areturn, 1) → W p l e rm s m args below meth c s.heap [] 0 0 Q (F0 m pc ls [v])) → W p l e rm s m args below meth c s.heap [] 0 0 Q (F0 m 0 ls [])) :
    Met l y (wm y cc nL (some (.object nm))) rm (SPre av) (va_Sr (fun _ => True) (fun _ => va)) 0 0 (fun _ => False) := by
  refine Met.ofW (cc := cc) (maxL := nL) (ret := (some (.object nm))) hy rfl ?_
  intro p e s m args below meth c s₁ B hml hv
  obtain ⟨rfl, hN⟩ := hv
  have hr := B.returns
  have hlocks := B.notSynchronized
  have hl := lv_entry av (n := nL) hn
  rw [lg_entry_eq]
  refine body p e s m _ below meth c _ _ ⟨B.exec, B.bytes, hml, findClass_of_methodNamed B.named, wm_ts (atoms_spec (ws := wm y cc nL (some (.object nm))) B.pre)⟩ hN hl ?_
  intro v pc ls hv hd
  exact W.aret B.exec B.bytes hr (Or.inl ⟨_, rfl⟩) hv.2 (fun t ht hW => ⟨0, by rw [hv.1], trivial, ht⟩) (fun _ h => by cases h) hd
theorem metQ_i {T : Type} {W1 : T → va_W} {post : Int32 → T → Prop} (hy : plainName y.cls = true) (hn : (lg_sl av).length ≤ nL)
    (body : ∀ (p : Program) (e : Env) (s : State) (m : MethodId) (args : Array Value) (below : List Frame) (meth : Method) (c : Code) (ls : Array Slot) (A : Nat → Prop) (Q : State → Prop), CallFix p m c cc nL s args AL y.cls → s.heap.size = sz → va_P D vwCl w s.heap → va_K D vwCl tys s → va_D A w → va_S A s.heap s.heap [] → (∀ q, s.heap.size ≤ q → A q) → NW s → lv_has ls nL (lv_args 0 av) → (∀ (v : Int32) (u : T) (pc : Nat) (ls : Array Slot) (H : Heap) (locs : List Loc), post v u → va_P D vwCl (W1 u) H → va_D A (W1 u) → va_S A s.heap H locs → decode cc pc = .ok (.ireturn, 1) → W p l e rm s m args below meth c H locs 0 0 Q (F0 m pc ls [.int v])) → W p l e rm s m args below meth c s.heap [] 0 0 Q (F0 m 0 ls [])) :
    Met l y (wm y cc nL (some .int)) rm (GPre D tys w av sz) (va_Qi post (fun u t => GAt D tys (va_A w sz) (W1 u) t) (va_A w sz)) 0 0 (va_A w sz) := by
  refine Met.ofW (cc := cc) (maxL := nL) (ret := (some .int)) hy rfl ?_
  intro p e s m args below meth c s₁ B hml hv
  obtain ⟨rfl, hsz, hP, hK, hD, hN⟩ := hv
  have hr := B.returns
  have hlocks := B.notSynchronized
  have hl := lv_entry av (n := nL) hn
  rw [lg_entry_eq]
  refine body p e s m _ below meth c _ (va_A w sz) _ ⟨B.exec, B.bytes, hml, findClass_of_methodNamed B.named, wm_ts (atoms_spec (ws := wm y cc nL (some .int)) B.pre)⟩ hsz hP hK hD.self va_S.rf (fun q h => Or.inr (by rw [← hsz]; exact h)) hN hl ?_
  intro v u pc ls H locs hv hP1 hD1 hS1 hd
  exact W.iret B.exec B.bytes hr (fun t ht hW => ⟨⟨_, u, rfl, hv, by rw [ht]; exact hP1, va_K.moved hW.alike hK, hD1⟩, hS1.F ht⟩) hS1.2.2 hd
theorem metQ_z {T : Type} {W1 : T → va_W} {post : Int32 → T → Prop} (hy : plainName y.cls = true) (hn : (lg_sl av).length ≤ nL)
    (body : ∀ (p : Program) (e : Env) (s : State) (m : MethodId) (args : Array Value) (below : List Frame) (meth : Method) (c : Code) (ls : Array Slot) (A : Nat → Prop) (Q : State → Prop), CallFix p m c cc nL s args AL y.cls → s.heap.size = sz → va_P D vwCl w s.heap → va_K D vwCl tys s → va_D A w → va_S A s.heap s.heap [] → (∀ q, s.heap.size ≤ q → A q) → NW s → lv_has ls nL (lv_args 0 av) → (∀ (v : Int32) (u : T) (pc : Nat) (ls : Array Slot) (H : Heap) (locs : List Loc), post v u ∧ (v = 0 ∨ v = 1) → va_P D vwCl (W1 u) H → va_D A (W1 u) → va_S A s.heap H locs → decode cc pc = .ok (.ireturn, 1) → W p l e rm s m args below meth c H locs 0 0 Q (F0 m pc ls [.int v])) → W p l e rm s m args below meth c s.heap [] 0 0 Q (F0 m 0 ls [])) :
    Met l y (wm y cc nL (some .boolean)) rm (GPre D tys w av sz) (va_Qi (fun r u => post r u ∧ (r = 0 ∨ r = 1)) (fun u t => GAt D tys (va_A w sz) (W1 u) t) (va_A w sz)) 0 0 (va_A w sz) := by
  refine Met.ofW (cc := cc) (maxL := nL) (ret := (some .boolean)) hy rfl ?_
  intro p e s m args below meth c s₁ B hml hv
  obtain ⟨rfl, hsz, hP, hK, hD, hN⟩ := hv
  have hr := B.returns
  have hlocks := B.notSynchronized
  have hl := lv_entry av (n := nL) hn
  rw [lg_entry_eq]
  refine body p e s m _ below meth c _ (va_A w sz) _ ⟨B.exec, B.bytes, hml, findClass_of_methodNamed B.named, wm_ts (atoms_spec (ws := wm y cc nL (some .boolean)) B.pre)⟩ hsz hP hK hD.self va_S.rf (fun q h => Or.inr (by rw [← hsz]; exact h)) hN hl ?_
  intro v u pc ls H locs hv hP1 hD1 hS1 hd
  exact W.zret B.exec B.bytes hr (bo_nar hv.2) (fun t ht hW => ⟨⟨_, u, rfl, hv, by rw [ht]; exact hP1, va_K.moved hW.alike hK, hD1⟩, hS1.F ht⟩) hS1.2.2 hd
theorem metQ_v {T : Type} {W1 : T → va_W} {post : T → Prop} (hy : plainName y.cls = true) (hn : (lg_sl av).length ≤ nL)
    (body : ∀ (p : Program) (e : Env) (s : State) (m : MethodId) (args : Array Value) (below : List Frame) (meth : Method) (c : Code) (ls : Array Slot) (A : Nat → Prop) (Q : State → Prop), CallFix p m c cc nL s args AL y.cls → s.heap.size = sz → va_P D vwCl w s.heap → va_K D vwCl tys s → va_D A w → va_S A s.heap s.heap [] → (∀ q, s.heap.size ≤ q → A q) → NW s → lv_has ls nL (lv_args 0 av) → (∀ (u : T) (pc : Nat) (ls : Array Slot) (H : Heap) (locs : List Loc), post u → va_P D vwCl (W1 u) H → va_D A (W1 u) → va_S A s.heap H locs → decode cc pc = .ok (.return_, 1) → W p l e rm s m args below meth c H locs 0 0 Q (F0 m pc ls [])) → W p l e rm s m args below meth c s.heap [] 0 0 Q (F0 m 0 ls [])) :
    Met l y (wm y cc nL none) rm (GPre D tys w av sz) (va_Qv post (fun u t => GAt D tys (va_A w sz) (W1 u) t) (va_A w sz)) 0 0 (va_A w sz) := by
  refine Met.ofW (cc := cc) (maxL := nL) (ret := none) hy rfl ?_
  intro p e s m args below meth c s₁ B hml hv
  obtain ⟨rfl, hsz, hP, hK, hD, hN⟩ := hv
  have hr := B.returns
  have hlocks := B.notSynchronized
  have hl := lv_entry av (n := nL) hn
  rw [lg_entry_eq]
  refine body p e s m _ below meth c _ (va_A w sz) _ ⟨B.exec, B.bytes, hml, findClass_of_methodNamed B.named, wm_ts (atoms_spec (ws := wm y cc nL none) B.pre)⟩ hsz hP hK hD.self va_S.rf (fun q h => Or.inr (by rw [← hsz]; exact h)) hN hl ?_
  intro u pc ls H locs hv hP1 hD1 hS1 hd
  exact W.vret B.exec B.bytes hr (fun t ht hW => ⟨⟨u, rfl, hv, by rw [ht]; exact hP1, va_K.moved hW.alike hK, hD1⟩, hS1.F ht⟩) hS1.2.2 hd
end MET
section CALL
variable {p : Program} {l : Launch} {e : Env} {R : Room} {s : State} {m : MethodId} {args : Array Value} {below : List Frame} {meth : Method} {c : Code} {H : Heap} {locs : List Loc} {cells slots : Nat} {Q : State → Prop}
variable {cc bytes : ByteArray} {pc nL maxL idx n : Nat} {ls : Array Slot} {rest st0 As : List Value} {D : va_G} {A : Nat → Prop} {H0 : Heap} {own C : String} {y : MethodName} {ret : Option FieldType} {rm : Room} {b : Addr} {tys : List (ClassId × FieldType)} {w : va_W}
theorem GPre_U (hK : va_K D vwCl tys s) (hP : va_P D vwCl w H) (hD : va_D A w) (hN : NW s) {av : List Value} : ∀ U : State, U.heap = H → s.WarmedH U.vm → GPre D tys w av H.size av.toArray U := fun U hU hW =>
  ⟨rfl, by rw [hU], by rw [hU]; exact hP, va_K.moved hW.alike hK, hD.weaken (fun _ _ _ _ => trivial), NW_warm hW hN⟩
abbrev CWv (own C : String) (idx : Nat) (y : MethodName) (cc : ByteArray) (n : Nat) (ret : Option FieldType) : Prop := Cond.methodLink own idx y ∈ AL ∧ Cond.instanceMethod y ∈ AL ∧ Cond.selects C y y ∈ AL ∧ Cond.initialized C ∈ AL ∧ Cond.code y cc n ret ∈ AL
abbrev CWs (own : String) (idx : Nat) (y : MethodName) (cc : ByteArray) (n : Nat) (ret : Option FieldType) : Prop := Cond.methodLink own idx y ∈ AL ∧ Cond.static y ∈ AL ∧ Cond.initialized y.cls ∈ AL ∧ Cond.code y cc n ret ∈ AL
/-- own's private static of a nest mate -/
abbrev CWn (own : String) (idx : Nat) (y : MethodName) (cc : ByteArray) (n : Nat) (ret : Option FieldType) : Prop := Cond.methodLinkNest own idx y "WindFrontiers" ∈ NWl ∧ Cond.static y ∈ AL ∧ Cond.initialized y.cls ∈ AL ∧ Cond.code y cc n ret ∈ AL
theorem cw_v (S : CallFix p m c cc nL s args AL own) (cw : CWv own C idx y bytes maxL ret) (hrm : rm.cells = 0 ∧ rm.slots = 0) (hd : y.cls = C ∧ y.cls ≠ "java/lang/invoke/MethodHandle" ∧ y.cls ≠ "java/lang/invoke/VarHandle" ∧ (parseMethodDescriptor y.desc).map (fun d => d.parameters.length) = some n) (hR : rm.frames + 1 ≤ R.frames ∧ 8 + (maxL + 11) + rm.locals ≤ R.locals) : CallW R s args own C idx y bytes maxL ret (wm y bytes maxL ret) rm 0 0 n :=
  cwV n S.2.2.2.2 (gd_V cw.1 cw.2.1 cw.2.2.1 cw.2.2.2.1 cw.2.2.2.2) rfl hrm.1 hrm.2 hd hR
theorem cw_s (S : CallFix p m c cc nL s args AL own) (cw : CWs own idx y bytes maxL ret) (hrm : rm.cells = 0 ∧ rm.slots = 0) (hd : y.cls ≠ "java/lang/invoke/MethodHandle" ∧ y.cls ≠ "java/lang/invoke/VarHandle" ∧ (parseMethodDescriptor y.desc).map (fun d => d.parameters.length) = some n) (hR : rm.frames + 1 ≤ R.frames ∧ 8 + (maxL + 11) + rm.locals ≤ R.locals) : CallB R s args own idx y bytes maxL ret (wm y bytes maxL ret) rm 0 0 n ∧ (Cond.static y).before args s = true :=
  va_cwS n S.2.2.2.2 (gd_S cw.1 cw.2.1 cw.2.2.1 cw.2.2.2) rfl hrm.1 hrm.2 hd hR
/-- a virtual call that reads alone: its run -/
theorem run_vP {Qc : Array Value → State → Outcome → State → Prop} (S : CallFix p m c cc nL s args AL own) (hK : va_K D vwCl tys s) (hP : va_P D vwCl w H) (hD : va_D A w) (hN : NW s)
    (hM : Met l y (wm y bytes maxL ret) rm (GPre D tys w (.ref b :: As) H.size) Qc 0 0 (fun _ => False)) (hr : ∃ cell : Cell, H[b]? = some cell ∧ cell.vm.isStatics = false ∧ s.vm.findClass C = some cell.cls)
    (cw : CWv own C idx y bytes maxL ret) (hrm : rm.cells = 0 ∧ rm.slots = 0) (hd : y.cls = C ∧ y.cls ≠ "java/lang/invoke/MethodHandle" ∧ y.cls ≠ "java/lang/invoke/VarHandle" ∧ (parseMethodDescriptor y.desc).map (fun d => d.parameters.length) = some n) (hR : rm.frames + 1 ≤ R.frames ∧ 8 + (maxL + 11) + rm.locals ≤ R.locals)
    (hn : As.length = n) (hsz : ls.size = nL) (hst : st0 = As.reverse ++ .ref b :: rest) (hcat : (rest.map fun v => v.category).sum ≤ 8) (hdg : decode cc pc = .ok (.invokevirtual idx, 3)) (hf : cells ≤ R.cells ∧ slots ≤ R.slots) :
    CallRun p l e R s m args below meth c H locs cells slots 0 0 (F0 m pc ls st0) rest (Qc (Value.ref b :: As).toArray) (fun _ => False) :=
  W.runV S hM (cw_v S cw hrm hd hR) ⟨GPre_blind, hr, GPre_U hK hP hD hN⟩ rfl hn hsz hst (lv_room hcat) hdg hf
theorem run_sP {Qc : Array Value → State → Outcome → State → Prop} (S : CallFix p m c cc nL s args AL own) (hN : NW s)
    (hM : Met l y (wm y bytes maxL ret) rm (SPre As) Qc 0 0 (fun _ => False))
    (cw : CWs own idx y bytes maxL ret) (hrm : rm.cells = 0 ∧ rm.slots = 0) (hd : y.cls ≠ "java/lang/invoke/MethodHandle" ∧ y.cls ≠ "java/lang/invoke/VarHandle" ∧ (parseMethodDescriptor y.desc).map (fun d => d.parameters.length) = some n) (hR : rm.frames + 1 ≤ R.frames ∧ 8 + (maxL + 11) + rm.locals ≤ R.locals)
    (hn : As.length = n) (hsz : ls.size = nL) (hst : st0 = As.reverse ++ rest) (hcat : (rest.map fun v => v.category).sum ≤ 8) (hdg : decode cc pc = .ok (.invokestatic idx, 3)) (hf : cells ≤ R.cells ∧ slots ≤ R.slots) :
    CallRun p l e R s m args below meth c H locs cells slots 0 0 (F0 m pc ls st0) rest (Qc As.toArray) (fun _ => False) :=
  W.runS S hM (cw_s S cw hrm hd hR) ⟨SPre_blind, fun U _ hW => ⟨rfl, NW_warm hW hN⟩⟩ rfl hn hsz hst (lv_room hcat) hdg hf
theorem run_nP {Qc : Array Value → State → Outcome → State → Prop} (S : CallFix p m c cc nL s args AL own) (hN : NW s)
    (hM : Met l y (wm y bytes maxL ret) rm (SPre As) Qc 0 0 (fun _ => False))
    (cw : CWn own idx y bytes maxL ret) (hrm : rm.cells = 0 ∧ rm.slots = 0) (hd : y.cls ≠ "java/lang/invoke/MethodHandle" ∧ y.cls ≠ "java/lang/invoke/VarHandle" ∧ (parseMethodDescriptor y.desc).map (fun d => d.parameters.length) = some n) (hR : rm.frames + 1 ≤ R.frames ∧ 8 + (maxL + 11) + rm.locals ≤ R.locals)
    (hn : As.length = n) (hsz : ls.size = nL) (hst : st0 = As.reverse ++ rest) (hcat : (rest.map fun v => v.category).sum ≤ 8) (hdg : decode cc pc = .ok (.invokestatic idx, 3)) (hf : cells ≤ R.cells ∧ slots ≤ R.slots) :
    CallRun p l e R s m args below meth c H locs cells slots 0 0 (F0 m pc ls st0) rest (Qc As.toArray) (fun _ => False) :=
  va_Run.run (va_runSN (host := "WindFrontiers") S hM ⟨va_cnB n S.2.2.2.2 (gd_wm (fun _ h => h) cw.2.2.2) rfl hrm.1 hrm.2 (hN.1 _ cw.1) (S.2.2.2.2 _ cw.2.2.1) hd hR, S.2.2.2.2 _ cw.2.1, trivial⟩ ⟨SPre_blind, fun U _ hW => ⟨rfl, NW_warm hW hN⟩⟩ rfl hn hsz hst (lv_room hcat) hdg hf)
theorem fr_A (hD : va_D A w) (hS : va_S A H0 H locs) (hA : ∀ q, H0.size ≤ q → A q) : ∀ q, va_A w H.size q → A q := by
  intro q h
  rcases h with ⟨k, e, h⟩ | h
  · exact hD.2 k (q, e) h
  · exact hA q (Nat.le_trans hS.1 h)
/-- a virtual call that changes the world -/
theorem run_vQ {Qc : Array Value → State → Outcome → State → Prop} (S : CallFix p m c cc nL s args AL own) (hK : va_K D vwCl tys s) (hP : va_P D vwCl w H) (hD : va_D A w) (hN : NW s)
    (hM : Met l y (wm y bytes maxL ret) rm (GPre D tys w (.ref b :: As) H.size) Qc 0 0 (va_A w H.size)) (hr : ∃ cell : Cell, H[b]? = some cell ∧ cell.vm.isStatics = false ∧ s.vm.findClass C = some cell.cls)
    (cw : CWv own C idx y bytes maxL ret) (hrm : rm.cells = 0 ∧ rm.slots = 0) (hd : y.cls = C ∧ y.cls ≠ "java/lang/invoke/MethodHandle" ∧ y.cls ≠ "java/lang/invoke/VarHandle" ∧ (parseMethodDescriptor y.desc).map (fun d => d.parameters.length) = some n) (hR : rm.frames + 1 ≤ R.frames ∧ 8 + (maxL + 11) + rm.locals ≤ R.locals)
    (hn : As.length = n) (hsz : ls.size = nL) (hst : st0 = As.reverse ++ .ref b :: rest) (hcat : (rest.map fun v => v.category).sum ≤ 8) (hdg : decode cc pc = .ok (.invokevirtual idx, 3)) (hf : cells ≤ R.cells ∧ slots ≤ R.slots) :
    va_Run p l e R s m args below meth c H locs cells slots 0 0 (F0 m pc ls st0) rest (Qc (Value.ref b :: As).toArray) (va_A w H.size) :=
  va_runV S hM (cw_v S cw hrm hd hR) ⟨GPre_blind, hr, GPre_U hK hP hD hN⟩ rfl hn hsz hst (lv_room hcat) hdg hf
theorem run_sQ {Qc : Array Value → State → Outcome → State → Prop} (S : CallFix p m c cc nL s args AL own) (hK : va_K D vwCl tys s) (hP : va_P D vwCl w H) (hD : va_D A w) (hN : NW s)
    (hM : Met l y (wm y bytes maxL ret) rm (GPre D tys w As H.size) Qc 0 0 (va_A w H.size))
    (cw : CWs own idx y bytes maxL ret) (hrm : rm.cells = 0 ∧ rm.slots = 0) (hd : y.cls ≠ "java/lang/invoke/MethodHandle" ∧ y.cls ≠ "java/lang/invoke/VarHandle" ∧ (parseMethodDescriptor y.desc).map (fun d => d.parameters.length) = some n) (hR : rm.frames + 1 ≤ R.frames ∧ 8 + (maxL + 11) + rm.locals ≤ R.locals)
    (hn : As.length = n) (hsz : ls.size = nL) (hst : st0 = As.reverse ++ rest) (hcat : (rest.map fun v => v.category).sum ≤ 8) (hdg : decode cc pc = .ok (.invokestatic idx, 3)) (hf : cells ≤ R.cells ∧ slots ≤ R.slots) :
    va_Run p l e R s m args below meth c H locs cells slots 0 0 (F0 m pc ls st0) rest (Qc As.toArray) (va_A w H.size) :=
  va_runS S hM (cw_s S cw hrm hd hR) ⟨GPre_blind, GPre_U hK hP hD hN⟩ rfl hn hsz hst (lv_room hcat) hdg hf
/-- behind a call that changes the world, with a number -/
theorem on_i {T : Type} {post : Int32 → T → Prop} {W1 : T → va_W} {a : Array Value} (hr : va_Run p l e R s m args below meth c H locs cells slots 0 0 (F0 m pc ls st0) rest (va_Qi post (fun u t => GAt D tys (va_A w H.size) (W1 u) t) (va_A w H.size) a) (va_A w H.size)) (hD : va_D A w) (hS : va_S A H0 H locs) (hA : ∀ q, H0.size ≤ q → A q)
    (kk : ∀ (r : Int32) (u : T) (H1 : Heap) (locs1 : List Loc), post r u → va_P D vwCl (W1 u) H1 → va_D A (W1 u) → va_S A H0 H1 locs1 → W p l e R s m args below meth c H1 locs1 cells slots Q (F0 m (pc + 3) ls (.int r :: rest))) : W p l e R s m args below meth c H locs cells slots Q (F0 m pc ls st0) := by
  refine va_calli hr hS (fun q _ h => fr_A hD hS hA q h) (fr_A hD hS hA) (fun r u t H1 locs1 ht hvm hp hB hz hk hS1 => ?_)
  obtain ⟨hP1, hK1, hD1⟩ := hB
  rw [ht] at hP1
  exact kk r u H1 locs1 hp hP1 (hD1.weaken (fun _ _ _ h => fr_A hD hS hA _ h)) hS1
theorem on_v {T : Type} {post : T → Prop} {W1 : T → va_W} {a : Array Value} (hr : va_Run p l e R s m args below meth c H locs cells slots 0 0 (F0 m pc ls st0) rest (va_Qv post (fun u t => GAt D tys (va_A w H.size) (W1 u) t) (va_A w H.size) a) (va_A w H.size)) (hD : va_D A w) (hS : va_S A H0 H locs) (hA : ∀ q, H0.size ≤ q → A q)
    (kk : ∀ (u : T) (H1 : Heap) (locs1 : List Loc), post u → va_P D vwCl (W1 u) H1 → va_D A (W1 u) → va_S A H0 H1 locs1 → W p l e R s m args below meth c H1 locs1 cells slots Q (F0 m (pc + 3) ls rest)) : W p l e R s m args below meth c H locs cells slots Q (F0 m pc ls st0) := by
  refine va_callv hr hS (fun q _ h => fr_A hD hS hA q h) (fr_A hD hS hA) (fun u t H1 locs1 ht hvm hp hB hz hk hS1 => ?_)
  obtain ⟨hP1, hK1, hD1⟩ := hB
  rw [ht] at hP1
  exact kk u H1 locs1 hp hP1 (hD1.weaken (fun _ _ _ h => fr_A hD hS hA _ h)) hS1
end CALL
def ush (x y : Int32) : Int32 := (x.toUInt32 >>> (y.toUInt32 &&& Int32.toUInt32 31)).toInt32
def rem (x y : Int32) : Int32 := x - x / y * y
def nm2 {α β γ : Type} (v : α × β) (k : α → β → γ) : γ := k v.1 v.2
def nm3 {α β γ δ : Type} (v : α × β × γ) (k : α → β → γ → δ) : δ := k v.1 v.2.1 v.2.2
def nm4 {α β γ δ ε : Type} (v : α × β × γ × δ) (k : α → β → γ → δ → ε) : ε := k v.1 v.2.1 v.2.2.1 v.2.2.2
def nm5 {α β γ δ ε ζ : Type} (v : α × β × γ × δ × ε) (k : α → β → γ → δ → ε → ζ) : ζ := k v.1 v.2.1 v.2.2.1 v.2.2.2.1 v.2.2.2.2
theorem nm2_u {α β γ : Type} {v : α × β} {a : α} {b : β} {k : α → β → γ} {T : γ} (e : (a, b) = v) (h : nm2 v k = T) : k a b = T := by subst e; exact h
theorem nm3_u {α β γ δ : Type} {v : α × β × γ} {a : α} {b : β} {c : γ} {k : α → β → γ → δ} {T : δ} (e : (a, b, c) = v) (h : nm3 v k = T) : k a b c = T := by subst e; exact h
theorem nm4_u {α β γ δ ε : Type} {v : α × β × γ × δ} {a : α} {b : β} {c : γ} {d : δ} {k : α → β → γ → δ → ε} {T : ε} (e : (a, b, c, d) = v) (h : nm4 v k = T) : k a b c d = T := by subst e; exact h
theorem nm5_u {α β γ δ ε ζ : Type} {v : α × β × γ × δ × ε} {a : α} {b : β} {c : γ} {d : δ} {f : ε} {k : α → β → γ → δ → ε → ζ} {T : ζ} (e : (a, b, c, d, f) = v) (h : nm5 v k = T) : k a b c d f = T := by subst e; exact h
theorem ix_of {x : Int32} {n : Nat} (h1 : 0 ≤ x.toInt) (h2 : x.toInt < n) : vp_in x n := vp_in_iff.mpr ⟨h1, h2⟩
theorem i0 {x : Int32} : 0 ≤ x ↔ 0 ≤ x.toInt := Int32.le_iff_toInt_le
theorem ms_up {i B : Int32} {n : Nat} (h : ¬ B ≤ i) (hm : (B.toInt - i.toInt).toNat < n + 1) : (B.toInt - (i + 1).toInt).toNat < n := by
  have h1 : i.toInt < B.toInt := by rw [Int32.le_iff_toInt_le] at h; omega
  have h2 : (i + 1).toInt = i.toInt + 1 := by
    rw [Int32.toInt_add]
    have := Int32.toInt_lt B
    have := Int32.le_toInt i
    show (i.toInt + 1).bmod (2 ^ 32) = _
    rw [Int.bmod_eq_of_le (by omega) (by omega)]
  omega
theorem ms_up2 {i B : Int32} {n : Nat} (h : i < B) (hm : (B.toInt - i.toInt).toNat < n + 1) : (B.toInt - (i + 1).toInt).toNat < n := ms_up (fun q => by rw [Int32.lt_iff_toInt_lt] at h; rw [Int32.le_iff_toInt_le] at q; omega) hm
theorem up1 {i B : Int32} (h : i < B) : (i + 1).toInt = i.toInt + 1 := by
  rw [Int32.toInt_add]
  rw [Int32.lt_iff_toInt_lt] at h
  have := Int32.toInt_lt B
  have := Int32.le_toInt i
  show (i.toInt + 1).bmod (2 ^ 32) = _
  rw [Int.bmod_eq_of_le (by omega) (by omega)]
theorem nle_lt {i B : Int32} (h : ¬ B ≤ i) : i < B := by rw [Int32.le_iff_toInt_le] at h; rw [Int32.lt_iff_toInt_lt]; omega
theorem up0 {i B : Int32} (h : ¬ B ≤ i) (h0 : 0 ≤ i.toInt) : 0 ≤ (i + 1).toInt := by rw [up1 (nle_lt h)]; omega
theorem ix_ge_nle {x : Int32} {N : Int32} {n : Nat} (h1 : 0 ≤ x) (h2 : ¬ N ≤ x) (hN : N.toInt = n := by rfl) : vp_in x n := ix_of (i0.mp h1) (by have := nle_lt h2; rw [Int32.lt_iff_toInt_lt] at this; omega)
theorem ix_ng_nle {x : Int32} {N : Int32} {n : Nat} (h1 : ¬ x < 0) (h2 : ¬ N ≤ x) (hN : N.toInt = n := by rfl) : vp_in x n := ix_of (by rw [Int32.lt_iff_toInt_lt] at h1; have : (0 : Int32).toInt = 0 := rfl; omega) (by have := nle_lt h2; rw [Int32.lt_iff_toInt_lt] at this; omega)
theorem ix_inv_nle {x : Int32} {N : Int32} {n : Nat} (h1 : 0 ≤ x.toInt) (h2 : ¬ N ≤ x) (hN : N.toInt = n := by rfl) : vp_in x n := ix_of h1 (by have := nle_lt h2; rw [Int32.lt_iff_toInt_lt] at this; omega)
theorem ix_ng_lt {x : Int32} {N : Int32} {n : Nat} (h1 : ¬ x < 0) (h2 : x < N) (hN : N.toInt = n := by rfl) : vp_in x n := ix_of (by rw [Int32.lt_iff_toInt_lt] at h1; have : (0 : Int32).toInt = 0 := rfl; omega) (by rw [Int32.lt_iff_toInt_lt] at h2; omega)
theorem ix_ge_lt {x : Int32} {N : Int32} {n : Nat} (h1 : 0 ≤ x) (h2 : x < N) (hN : N.toInt = n := by rfl) : vp_in x n := ix_of (i0.mp h1) (by rw [Int32.lt_iff_toInt_lt] at h2; omega)
theorem ix_inv_lt {x : Int32} {N : Int32} {n : Nat} (h1 : 0 ≤ x.toInt) (h2 : x < N) (hN : N.toInt = n := by rfl) : vp_in x n := ix_of h1 (by rw [Int32.lt_iff_toInt_lt] at h2; omega)
end
