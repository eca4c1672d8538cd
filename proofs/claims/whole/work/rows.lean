section
-- ===== PART A: goes FIRST, ahead of the names: the tables' words, and 'selects' of the private methods out of them =====
/-- a private method of a class that the tables say can be made, by its rows of tables_1 -/
def lw_okq (q : MethodName × Nat) : Prop := (q.1.cls ≠ "java/lang/invoke/MethodHandle" ∧ q.1.cls ≠ "java/lang/invoke/VarHandle") ∧ Cond.instantiable q.1.cls q.2 ∈ tables_1 ∧ Cond.privateMethod q.1 ∈ tables_1 ∧ Cond.instanceMethod q.1 ∈ tables_1
set_option maxRecDepth 100000 in
theorem lw_p0 : lw_okq (⟨"WindFrontiers$Reader", "readToken", "()V"⟩, 8) := ⟨⟨by decide +kernel, by decide +kernel⟩, List.mem_of_getElem? (i := 19) rfl, List.mem_of_getElem? (i := 216) rfl, List.mem_of_getElem? (i := 217) rfl⟩
set_option maxRecDepth 100000 in
theorem lw_p1 : lw_okq (⟨"WindFrontiers$Reader", "isItem", "()Z"⟩, 8) := ⟨⟨by decide +kernel, by decide +kernel⟩, List.mem_of_getElem? (i := 19) rfl, List.mem_of_getElem? (i := 227) rfl, List.mem_of_getElem? (i := 228) rfl⟩
set_option maxRecDepth 100000 in
theorem lw_p2 : lw_okq (⟨"WindFrontiers$Reader", "isSize", "()Z"⟩, 8) := ⟨⟨by decide +kernel, by decide +kernel⟩, List.mem_of_getElem? (i := 19) rfl, List.mem_of_getElem? (i := 231) rfl, List.mem_of_getElem? (i := 232) rfl⟩
set_option maxRecDepth 100000 in
theorem lw_p3 : lw_okq (⟨"WindFrontiers$Reader", "isNumber", "(II)Z"⟩, 8) := ⟨⟨by decide +kernel, by decide +kernel⟩, List.mem_of_getElem? (i := 19) rfl, List.mem_of_getElem? (i := 235) rfl, List.mem_of_getElem? (i := 236) rfl⟩
set_option maxRecDepth 100000 in
theorem lw_p4 : lw_okq (⟨"WindFrontiers$Reader", "isStop", "()Z"⟩, 8) := ⟨⟨by decide +kernel, by decide +kernel⟩, List.mem_of_getElem? (i := 19) rfl, List.mem_of_getElem? (i := 239) rfl, List.mem_of_getElem? (i := 240) rfl⟩
set_option maxRecDepth 100000 in
theorem lw_p5 : lw_okq (⟨"WindFrontiers$Reader", "isHolder", "()Z"⟩, 8) := ⟨⟨by decide +kernel, by decide +kernel⟩, List.mem_of_getElem? (i := 19) rfl, List.mem_of_getElem? (i := 243) rfl, List.mem_of_getElem? (i := 244) rfl⟩
set_option maxRecDepth 100000 in
theorem lw_p6 : lw_okq (⟨"WindFrontiers$Reader", "readFreeBit", "(I)I"⟩, 8) := ⟨⟨by decide +kernel, by decide +kernel⟩, List.mem_of_getElem? (i := 19) rfl, List.mem_of_getElem? (i := 251) rfl, List.mem_of_getElem? (i := 252) rfl⟩
set_option maxRecDepth 100000 in
theorem lw_p7 : lw_okq (⟨"WindFrontiers$Reader", "isCloth", "()Z"⟩, 8) := ⟨⟨by decide +kernel, by decide +kernel⟩, List.mem_of_getElem? (i := 19) rfl, List.mem_of_getElem? (i := 262) rfl, List.mem_of_getElem? (i := 263) rfl⟩
set_option maxRecDepth 100000 in
theorem lw_p8 : lw_okq (⟨"WindFrontiers$Reader", "isWind", "()Z"⟩, 8) := ⟨⟨by decide +kernel, by decide +kernel⟩, List.mem_of_getElem? (i := 19) rfl, List.mem_of_getElem? (i := 266) rfl, List.mem_of_getElem? (i := 267) rfl⟩
set_option maxRecDepth 100000 in
theorem lw_p9 : lw_okq (⟨"WindFrontiers$Strand", "cellsFrom", "(I)I"⟩, 6) := ⟨⟨by decide +kernel, by decide +kernel⟩, List.mem_of_getElem? (i := 40) rfl, List.mem_of_getElem? (i := 303) rfl, List.mem_of_getElem? (i := 304) rfl⟩
set_option maxRecDepth 100000 in
theorem lw_p10 : lw_okq (⟨"WindFrontiers$Strand", "rowOf", "(I)I"⟩, 6) := ⟨⟨by decide +kernel, by decide +kernel⟩, List.mem_of_getElem? (i := 40) rfl, List.mem_of_getElem? (i := 307) rfl, List.mem_of_getElem? (i := 308) rfl⟩
set_option maxRecDepth 100000 in
theorem lw_p11 : lw_okq (⟨"WindFrontiers$Story", "dropOldest", "()V"⟩, 4) := ⟨⟨by decide +kernel, by decide +kernel⟩, List.mem_of_getElem? (i := 102) rfl, List.mem_of_getElem? (i := 362) rfl, List.mem_of_getElem? (i := 363) rfl⟩
set_option maxRecDepth 100000 in
theorem lw_p12 : lw_okq (⟨"WindFrontiers$Story", "beforeAt", "(I)LWindFrontiers$Strand;"⟩, 4) := ⟨⟨by decide +kernel, by decide +kernel⟩, List.mem_of_getElem? (i := 102) rfl, List.mem_of_getElem? (i := 366) rfl, List.mem_of_getElem? (i := 367) rfl⟩
set_option maxRecDepth 100000 in
theorem lw_p13 : lw_okq (⟨"WindFrontiers", "mayHaveMoved", "(II)Z"⟩, 8) := ⟨⟨by decide +kernel, by decide +kernel⟩, List.mem_of_getElem? (i := 11) rfl, List.mem_of_getElem? (i := 469) rfl, List.mem_of_getElem? (i := 470) rfl⟩
set_option maxRecDepth 100000 in
theorem lw_p14 : lw_okq (⟨"WindFrontiers$Marks", "asCell", "(I)I"⟩, 1) := ⟨⟨by decide +kernel, by decide +kernel⟩, List.mem_of_getElem? (i := 149) rfl, List.mem_of_getElem? (i := 487) rfl, List.mem_of_getElem? (i := 488) rfl⟩
set_option maxRecDepth 100000 in
theorem lw_p15 : lw_okq (⟨"WindFrontiers$Marks", "asCastle", "(LWindFrontiers$Strand;II)I"⟩, 1) := ⟨⟨by decide +kernel, by decide +kernel⟩, List.mem_of_getElem? (i := 149) rfl, List.mem_of_getElem? (i := 491) rfl, List.mem_of_getElem? (i := 492) rfl⟩
def lw_privs_1 : List (MethodName × Nat) := [(⟨"WindFrontiers$Reader", "readToken", "()V"⟩, 8), (⟨"WindFrontiers$Reader", "isItem", "()Z"⟩, 8), (⟨"WindFrontiers$Reader", "isSize", "()Z"⟩, 8), (⟨"WindFrontiers$Reader", "isNumber", "(II)Z"⟩, 8), (⟨"WindFrontiers$Reader", "isStop", "()Z"⟩, 8), (⟨"WindFrontiers$Reader", "isHolder", "()Z"⟩, 8), (⟨"WindFrontiers$Reader", "readFreeBit", "(I)I"⟩, 8), (⟨"WindFrontiers$Reader", "isCloth", "()Z"⟩, 8), (⟨"WindFrontiers$Reader", "isWind", "()Z"⟩, 8), (⟨"WindFrontiers$Strand", "cellsFrom", "(I)I"⟩, 6), (⟨"WindFrontiers$Strand", "rowOf", "(I)I"⟩, 6), (⟨"WindFrontiers$Story", "dropOldest", "()V"⟩, 4), (⟨"WindFrontiers$Story", "beforeAt", "(I)LWindFrontiers$Strand;"⟩, 4), (⟨"WindFrontiers", "mayHaveMoved", "(II)Z"⟩, 8), (⟨"WindFrontiers$Marks", "asCell", "(I)I"⟩, 1), (⟨"WindFrontiers$Marks", "asCastle", "(LWindFrontiers$Strand;II)I"⟩, 1)]
theorem lw_r1 : ∀ q ∈ lw_privs_1, lw_okq q := List.forall_mem_cons.mpr ⟨lw_p0, List.forall_mem_cons.mpr ⟨lw_p1, List.forall_mem_cons.mpr ⟨lw_p2, List.forall_mem_cons.mpr ⟨lw_p3, List.forall_mem_cons.mpr ⟨lw_p4, List.forall_mem_cons.mpr ⟨lw_p5, List.forall_mem_cons.mpr ⟨lw_p6, List.forall_mem_cons.mpr ⟨lw_p7, List.forall_mem_cons.mpr ⟨lw_p8, List.forall_mem_cons.mpr ⟨lw_p9, List.forall_mem_cons.mpr ⟨lw_p10, List.forall_mem_cons.mpr ⟨lw_p11, List.forall_mem_cons.mpr ⟨lw_p12, List.forall_mem_cons.mpr ⟨lw_p13, List.forall_mem_cons.mpr ⟨lw_p14, List.forall_mem_cons.mpr ⟨lw_p15, fun _ h => absurd h List.not_mem_nil⟩⟩⟩⟩⟩⟩⟩⟩⟩⟩⟩⟩⟩⟩⟩⟩
set_option maxRecDepth 100000 in
theorem lw_p16 : lw_okq (⟨"WindFrontiers$Marks", "asCorridor", "(II)I"⟩, 1) := ⟨⟨by decide +kernel, by decide +kernel⟩, List.mem_of_getElem? (i := 149) rfl, List.mem_of_getElem? (i := 505) rfl, List.mem_of_getElem? (i := 506) rfl⟩
set_option maxRecDepth 100000 in
theorem lw_p17 : lw_okq (⟨"WindFrontiers$Marks", "asEmpire", "(LWindFrontiers$Strand;II)I"⟩, 1) := ⟨⟨by decide +kernel, by decide +kernel⟩, List.mem_of_getElem? (i := 149) rfl, List.mem_of_getElem? (i := 510) rfl, List.mem_of_getElem? (i := 511) rfl⟩
set_option maxRecDepth 100000 in
theorem lw_p18 : lw_okq (⟨"WindFrontiers$Marks", "asPoland", "(LWindFrontiers$Strand;II)I"⟩, 1) := ⟨⟨by decide +kernel, by decide +kernel⟩, List.mem_of_getElem? (i := 149) rfl, List.mem_of_getElem? (i := 515) rfl, List.mem_of_getElem? (i := 516) rfl⟩
set_option maxRecDepth 100000 in
theorem lw_p19 : lw_okq (⟨"WindFrontiers$Marks", "asSalient", "(LWindFrontiers$Strand;I)I"⟩, 1) := ⟨⟨by decide +kernel, by decide +kernel⟩, List.mem_of_getElem? (i := 149) rfl, List.mem_of_getElem? (i := 523) rfl, List.mem_of_getElem? (i := 524) rfl⟩
set_option maxRecDepth 100000 in
theorem lw_p20 : lw_okq (⟨"WindFrontiers", "imageOf", "(I)LWindFrontiers$Story;"⟩, 8) := ⟨⟨by decide +kernel, by decide +kernel⟩, List.mem_of_getElem? (i := 11) rfl, List.mem_of_getElem? (i := 534) rfl, List.mem_of_getElem? (i := 535) rfl⟩
set_option maxRecDepth 100000 in
theorem lw_p21 : lw_okq (⟨"WindFrontiersModel", "next", "()V"⟩, 22) := ⟨⟨by decide +kernel, by decide +kernel⟩, List.mem_of_getElem? (i := 554) rfl, List.mem_of_getElem? (i := 643) rfl, List.mem_of_getElem? (i := 644) rfl⟩
set_option maxRecDepth 100000 in
theorem lw_p22 : lw_okq (⟨"WindFrontiersModel", "letterAt", "(I)I"⟩, 22) := ⟨⟨by decide +kernel, by decide +kernel⟩, List.mem_of_getElem? (i := 554) rfl, List.mem_of_getElem? (i := 647) rfl, List.mem_of_getElem? (i := 648) rfl⟩
set_option maxRecDepth 100000 in
theorem lw_p23 : lw_okq (⟨"WindFrontiersModel", "readItem", "()V"⟩, 22) := ⟨⟨by decide +kernel, by decide +kernel⟩, List.mem_of_getElem? (i := 554) rfl, List.mem_of_getElem? (i := 657) rfl, List.mem_of_getElem? (i := 658) rfl⟩
set_option maxRecDepth 100000 in
theorem lw_p24 : lw_okq (⟨"WindFrontiersModel", "takesNumber", "(II)I"⟩, 22) := ⟨⟨by decide +kernel, by decide +kernel⟩, List.mem_of_getElem? (i := 554) rfl, List.mem_of_getElem? (i := 661) rfl, List.mem_of_getElem? (i := 662) rfl⟩
set_option maxRecDepth 100000 in
theorem lw_p25 : lw_okq (⟨"WindFrontiersModel", "takesCell", "(Z)I"⟩, 22) := ⟨⟨by decide +kernel, by decide +kernel⟩, List.mem_of_getElem? (i := 554) rfl, List.mem_of_getElem? (i := 665) rfl, List.mem_of_getElem? (i := 666) rfl⟩
set_option maxRecDepth 100000 in
theorem lw_p26 : lw_okq (⟨"WindFrontiersModel", "settles", "()V"⟩, 22) := ⟨⟨by decide +kernel, by decide +kernel⟩, List.mem_of_getElem? (i := 554) rfl, List.mem_of_getElem? (i := 672) rfl, List.mem_of_getElem? (i := 673) rfl⟩
set_option maxRecDepth 100000 in
theorem lw_p27 : lw_okq (⟨"WindFrontiersModel", "isCell", "(II)Z"⟩, 22) := ⟨⟨by decide +kernel, by decide +kernel⟩, List.mem_of_getElem? (i := 554) rfl, List.mem_of_getElem? (i := 680) rfl, List.mem_of_getElem? (i := 681) rfl⟩
set_option maxRecDepth 100000 in
theorem lw_p28 : lw_okq (⟨"WindFrontiersModel", "isDry", "(I)Z"⟩, 22) := ⟨⟨by decide +kernel, by decide +kernel⟩, List.mem_of_getElem? (i := 554) rfl, List.mem_of_getElem? (i := 684) rfl, List.mem_of_getElem? (i := 685) rfl⟩
set_option maxRecDepth 100000 in
theorem lw_p29 : lw_okq (⟨"WindFrontiersModel", "isStill", "(IIII)Z"⟩, 22) := ⟨⟨by decide +kernel, by decide +kernel⟩, List.mem_of_getElem? (i := 554) rfl, List.mem_of_getElem? (i := 688) rfl, List.mem_of_getElem? (i := 689) rfl⟩
set_option maxRecDepth 100000 in
theorem lw_p30 : lw_okq (⟨"WindFrontiersModel", "isCloth", "(III)Z"⟩, 22) := ⟨⟨by decide +kernel, by decide +kernel⟩, List.mem_of_getElem? (i := 554) rfl, List.mem_of_getElem? (i := 692) rfl, List.mem_of_getElem? (i := 693) rfl⟩
set_option maxRecDepth 100000 in
theorem lw_p31 : lw_okq (⟨"WindFrontiersModel", "heldBy", "(I)I"⟩, 22) := ⟨⟨by decide +kernel, by decide +kernel⟩, List.mem_of_getElem? (i := 554) rfl, List.mem_of_getElem? (i := 703) rfl, List.mem_of_getElem? (i := 704) rfl⟩
def lw_privs_2 : List (MethodName × Nat) := [(⟨"WindFrontiers$Marks", "asCorridor", "(II)I"⟩, 1), (⟨"WindFrontiers$Marks", "asEmpire", "(LWindFrontiers$Strand;II)I"⟩, 1), (⟨"WindFrontiers$Marks", "asPoland", "(LWindFrontiers$Strand;II)I"⟩, 1), (⟨"WindFrontiers$Marks", "asSalient", "(LWindFrontiers$Strand;I)I"⟩, 1), (⟨"WindFrontiers", "imageOf", "(I)LWindFrontiers$Story;"⟩, 8), (⟨"WindFrontiersModel", "next", "()V"⟩, 22), (⟨"WindFrontiersModel", "letterAt", "(I)I"⟩, 22), (⟨"WindFrontiersModel", "readItem", "()V"⟩, 22), (⟨"WindFrontiersModel", "takesNumber", "(II)I"⟩, 22), (⟨"WindFrontiersModel", "takesCell", "(Z)I"⟩, 22), (⟨"WindFrontiersModel", "settles", "()V"⟩, 22), (⟨"WindFrontiersModel", "isCell", "(II)Z"⟩, 22), (⟨"WindFrontiersModel", "isDry", "(I)Z"⟩, 22), (⟨"WindFrontiersModel", "isStill", "(IIII)Z"⟩, 22), (⟨"WindFrontiersModel", "isCloth", "(III)Z"⟩, 22), (⟨"WindFrontiersModel", "heldBy", "(I)I"⟩, 22)]
theorem lw_r2 : ∀ q ∈ lw_privs_2, lw_okq q := List.forall_mem_cons.mpr ⟨lw_p16, List.forall_mem_cons.mpr ⟨lw_p17, List.forall_mem_cons.mpr ⟨lw_p18, List.forall_mem_cons.mpr ⟨lw_p19, List.forall_mem_cons.mpr ⟨lw_p20, List.forall_mem_cons.mpr ⟨lw_p21, List.forall_mem_cons.mpr ⟨lw_p22, List.forall_mem_cons.mpr ⟨lw_p23, List.forall_mem_cons.mpr ⟨lw_p24, List.forall_mem_cons.mpr ⟨lw_p25, List.forall_mem_cons.mpr ⟨lw_p26, List.forall_mem_cons.mpr ⟨lw_p27, List.forall_mem_cons.mpr ⟨lw_p28, List.forall_mem_cons.mpr ⟨lw_p29, List.forall_mem_cons.mpr ⟨lw_p30, List.forall_mem_cons.mpr ⟨lw_p31, fun _ h => absurd h List.not_mem_nil⟩⟩⟩⟩⟩⟩⟩⟩⟩⟩⟩⟩⟩⟩⟩⟩
set_option maxRecDepth 100000 in
theorem lw_p32 : lw_okq (⟨"WindFrontiersModel", "stillOnes", "(II)I"⟩, 22) := ⟨⟨by decide +kernel, by decide +kernel⟩, List.mem_of_getElem? (i := 554) rfl, List.mem_of_getElem? (i := 707) rfl, List.mem_of_getElem? (i := 708) rfl⟩
set_option maxRecDepth 100000 in
theorem lw_p33 : lw_okq (⟨"WindFrontiersModel", "losesOf", "(I)I"⟩, 22) := ⟨⟨by decide +kernel, by decide +kernel⟩, List.mem_of_getElem? (i := 554) rfl, List.mem_of_getElem? (i := 714) rfl, List.mem_of_getElem? (i := 715) rfl⟩
set_option maxRecDepth 100000 in
theorem lw_p34 : lw_okq (⟨"WindFrontiersModel", "remembers", "()V"⟩, 22) := ⟨⟨by decide +kernel, by decide +kernel⟩, List.mem_of_getElem? (i := 554) rfl, List.mem_of_getElem? (i := 722) rfl, List.mem_of_getElem? (i := 723) rfl⟩
set_option maxRecDepth 100000 in
theorem lw_p35 : lw_okq (⟨"WindFrontiersModel", "border", "()I"⟩, 22) := ⟨⟨by decide +kernel, by decide +kernel⟩, List.mem_of_getElem? (i := 554) rfl, List.mem_of_getElem? (i := 750) rfl, List.mem_of_getElem? (i := 751) rfl⟩
set_option maxRecDepth 100000 in
theorem lw_p36 : lw_okq (⟨"WindFrontiersModel", "isBorder", "(IIII)Z"⟩, 22) := ⟨⟨by decide +kernel, by decide +kernel⟩, List.mem_of_getElem? (i := 554) rfl, List.mem_of_getElem? (i := 754) rfl, List.mem_of_getElem? (i := 755) rfl⟩
set_option maxRecDepth 100000 in
theorem lw_p37 : lw_okq (⟨"WindFrontiersModel", "findFar", "(I)V"⟩, 22) := ⟨⟨by decide +kernel, by decide +kernel⟩, List.mem_of_getElem? (i := 554) rfl, List.mem_of_getElem? (i := 762) rfl, List.mem_of_getElem? (i := 763) rfl⟩
set_option maxRecDepth 100000 in
theorem lw_p38 : lw_okq (⟨"WindFrontiersModel", "costOf", "(II)I"⟩, 22) := ⟨⟨by decide +kernel, by decide +kernel⟩, List.mem_of_getElem? (i := 554) rfl, List.mem_of_getElem? (i := 766) rfl, List.mem_of_getElem? (i := 767) rfl⟩
set_option maxRecDepth 100000 in
theorem lw_p39 : lw_okq (⟨"WindFrontiersModel", "leastBeside", "(II)I"⟩, 22) := ⟨⟨by decide +kernel, by decide +kernel⟩, List.mem_of_getElem? (i := 554) rfl, List.mem_of_getElem? (i := 770) rfl, List.mem_of_getElem? (i := 771) rfl⟩
set_option maxRecDepth 100000 in
theorem lw_p40 : lw_okq (⟨"WindFrontiersModel", "isSo", "(I)Z"⟩, 22) := ⟨⟨by decide +kernel, by decide +kernel⟩, List.mem_of_getElem? (i := 554) rfl, List.mem_of_getElem? (i := 794) rfl, List.mem_of_getElem? (i := 795) rfl⟩
def lw_privs_3 : List (MethodName × Nat) := [(⟨"WindFrontiersModel", "stillOnes", "(II)I"⟩, 22), (⟨"WindFrontiersModel", "losesOf", "(I)I"⟩, 22), (⟨"WindFrontiersModel", "remembers", "()V"⟩, 22), (⟨"WindFrontiersModel", "border", "()I"⟩, 22), (⟨"WindFrontiersModel", "isBorder", "(IIII)Z"⟩, 22), (⟨"WindFrontiersModel", "findFar", "(I)V"⟩, 22), (⟨"WindFrontiersModel", "costOf", "(II)I"⟩, 22), (⟨"WindFrontiersModel", "leastBeside", "(II)I"⟩, 22), (⟨"WindFrontiersModel", "isSo", "(I)Z"⟩, 22)]
theorem lw_r3 : ∀ q ∈ lw_privs_3, lw_okq q := List.forall_mem_cons.mpr ⟨lw_p32, List.forall_mem_cons.mpr ⟨lw_p33, List.forall_mem_cons.mpr ⟨lw_p34, List.forall_mem_cons.mpr ⟨lw_p35, List.forall_mem_cons.mpr ⟨lw_p36, List.forall_mem_cons.mpr ⟨lw_p37, List.forall_mem_cons.mpr ⟨lw_p38, List.forall_mem_cons.mpr ⟨lw_p39, List.forall_mem_cons.mpr ⟨lw_p40, fun _ h => absurd h List.not_mem_nil⟩⟩⟩⟩⟩⟩⟩⟩⟩
def lw_privs : List (MethodName × Nat) := lw_privs_1 ++ (lw_privs_2 ++ (lw_privs_3))
def lw_tbl : List Cond := k2_sels lw_privs ++ tables_1
set_option maxRecDepth 100000 in
theorem lw_privs_ok : ∀ q ∈ lw_privs, lw_okq q := by
  show ∀ q ∈ lw_privs_1 ++ (lw_privs_2 ++ (lw_privs_3)), lw_okq q
  exact List.forall_mem_append.mpr ⟨lw_r1, List.forall_mem_append.mpr ⟨lw_r2, lw_r3⟩⟩
-- ===== end of PART A; then your names; then what follows =====
theorem goodIn_app {big a b : List Cond} (ha : GoodIn big a) (hb : GoodIn big b) : GoodIn big (a ++ b) := fun w h => (List.mem_append.mp h).elim (ha w) (hb w)
def RX0 : String := "WindFrontiers$Marks"
def TX0 : u_T := fun k => match k with
  | _ => ("WindFrontiers$Marks", "sum", "J", false)
def tyX0 : Nat → FieldType := fun k => match k with
  | _ => .long
abbrev wsX00 : List Cond := u_ws RX0 TX0 1
theorem nmX0 : ∀ a, a < 1 → ∀ b, b < 1 → a ≠ b → (TX0 a).2.1 ≠ (TX0 b).2.1 := by decide +kernel
theorem tyX0_ok : ∀ k, k < 1 → parseFieldDescriptor (TX0 k).2.2.1 = some (tyX0 k) := by decide +kernel
abbrev cX0_init : ByteArray := prog_2_method_1_code
def yX0_init : MethodName := ⟨RX0, "<init>", "()V"⟩
abbrev cX0_markAs : ByteArray := prog_2_method_2_code
def yX0_markAs : MethodName := ⟨RX0, "markAs", "(ILWindFrontiers$Strand;II)I"⟩
abbrev cX0_asCell : ByteArray := prog_2_method_3_code
def yX0_asCell : MethodName := ⟨RX0, "asCell", "(I)I"⟩
abbrev cX0_asCastle : ByteArray := prog_2_method_4_code
def yX0_asCastle : MethodName := ⟨RX0, "asCastle", "(LWindFrontiers$Strand;II)I"⟩
abbrev cX0_asCorridor : ByteArray := prog_2_method_5_code
def yX0_asCorridor : MethodName := ⟨RX0, "asCorridor", "(II)I"⟩
abbrev cX0_asEmpire : ByteArray := prog_2_method_6_code
def yX0_asEmpire : MethodName := ⟨RX0, "asEmpire", "(LWindFrontiers$Strand;II)I"⟩
abbrev cX0_asPoland : ByteArray := prog_2_method_7_code
def yX0_asPoland : MethodName := ⟨RX0, "asPoland", "(LWindFrontiers$Strand;II)I"⟩
abbrev cX0_asSalient : ByteArray := prog_2_method_8_code
def yX0_asSalient : MethodName := ⟨RX0, "asSalient", "(LWindFrontiers$Strand;I)I"⟩
def RX1 : String := "WindFrontiers$Reader"
def TX1 : u_T := fun k => match k with
  | 0 => ("WindFrontiers$Reader", "text", "LWindFrontiers$Text;", true)
  | 1 => ("WindFrontiers$Reader", "draft", "LWindFrontiers$Strand;", true)
  | 2 => ("WindFrontiers$Reader", "place", "I", false)
  | 3 => ("WindFrontiers$Reader", "start", "I", false)
  | 4 => ("WindFrontiers$Reader", "token", "I", false)
  | 5 => ("WindFrontiers$Reader", "value", "I", false)
  | 6 => ("WindFrontiers$Reader", "items", "I", false)
  | _ => ("WindFrontiers$Reader", "windTold", "Z", false)
def tyX1 : Nat → FieldType := fun k => match k with
  | 0 => .object "WindFrontiers$Text"
  | 1 => .object "WindFrontiers$Strand"
  | 2 => .int
  | 3 => .int
  | 4 => .int
  | 5 => .int
  | 6 => .int
  | _ => .boolean
abbrev wsX10 : List Cond := u_ws RX1 TX1 8
theorem nmX1 : ∀ a, a < 8 → ∀ b, b < 8 → a ≠ b → (TX1 a).2.1 ≠ (TX1 b).2.1 := by decide +kernel
theorem tyX1_ok : ∀ k, k < 8 → parseFieldDescriptor (TX1 k).2.2.1 = some (tyX1 k) := by decide +kernel
abbrev cX1_init : ByteArray := prog_3_method_1_code
def yX1_init : MethodName := ⟨RX1, "<init>", "()V"⟩
abbrev cX1_readAll : ByteArray := prog_3_method_2_code
def yX1_readAll : MethodName := ⟨RX1, "readAll", "()I"⟩
abbrev cX1_isItem : ByteArray := prog_3_method_3_code
def yX1_isItem : MethodName := ⟨RX1, "isItem", "()Z"⟩
abbrev cX1_isSize : ByteArray := prog_3_method_4_code
def yX1_isSize : MethodName := ⟨RX1, "isSize", "()Z"⟩
abbrev cX1_isHolder : ByteArray := prog_3_method_5_code
def yX1_isHolder : MethodName := ⟨RX1, "isHolder", "()Z"⟩
abbrev cX1_isCloth : ByteArray := prog_3_method_6_code
def yX1_isCloth : MethodName := ⟨RX1, "isCloth", "()Z"⟩
abbrev cX1_isWind : ByteArray := prog_3_method_7_code
def yX1_isWind : MethodName := ⟨RX1, "isWind", "()Z"⟩
abbrev cX1_isStop : ByteArray := prog_3_method_8_code
def yX1_isStop : MethodName := ⟨RX1, "isStop", "()Z"⟩
abbrev cX1_readFreeBit : ByteArray := prog_3_method_9_code
def yX1_readFreeBit : MethodName := ⟨RX1, "readFreeBit", "(I)I"⟩
abbrev cX1_isNumber : ByteArray := prog_3_method_10_code
def yX1_isNumber : MethodName := ⟨RX1, "isNumber", "(II)Z"⟩
abbrev cX1_readToken : ByteArray := prog_3_method_11_code
def yX1_readToken : MethodName := ⟨RX1, "readToken", "()V"⟩
abbrev cX1_tokenOf : ByteArray := prog_3_method_12_code
def yX1_tokenOf : MethodName := ⟨RX1, "tokenOf", "(I)I"⟩
def RX2 : String := "WindFrontiers$Seen"
def TX2 : u_T := fun k => match k with
  | 0 => ("WindFrontiers$Seen", "much", "I", false)
  | 1 => ("WindFrontiers$Seen", "stillByLeft", "I", false)
  | 2 => ("WindFrontiers$Seen", "stillByRight", "I", false)
  | 3 => ("WindFrontiers$Seen", "openByLeft", "I", false)
  | _ => ("WindFrontiers$Seen", "openByRight", "I", false)
def tyX2 : Nat → FieldType := fun k => match k with
  | 0 => .int
  | 1 => .int
  | 2 => .int
  | 3 => .int
  | _ => .int
abbrev wsX20 : List Cond := u_ws RX2 TX2 5
theorem nmX2 : ∀ a, a < 5 → ∀ b, b < 5 → a ≠ b → (TX2 a).2.1 ≠ (TX2 b).2.1 := by decide +kernel
theorem tyX2_ok : ∀ k, k < 5 → parseFieldDescriptor (TX2 k).2.2.1 = some (tyX2 k) := by decide +kernel
abbrev cX2_init : ByteArray := prog_4_method_1_code
def yX2_init : MethodName := ⟨RX2, "<init>", "()V"⟩
abbrev cX2_dropAll : ByteArray := prog_4_method_2_code
def yX2_dropAll : MethodName := ⟨RX2, "dropAll", "()V"⟩
abbrev cX2_add : ByteArray := prog_4_method_3_code
def yX2_add : MethodName := ⟨RX2, "add", "(III)Z"⟩
abbrev cX2_agrees : ByteArray := prog_4_method_4_code
def yX2_agrees : MethodName := ⟨RX2, "agrees", "(II)Z"⟩
def RX3 : String := "WindFrontiers$Story"
def TX3 : u_T := fun k => match k with
  | 0 => ("WindFrontiers$Story", "present", "LWindFrontiers$Strand;", true)
  | 1 => ("WindFrontiers$Story", "before", "[LWindFrontiers$Strand;", true)
  | 2 => ("WindFrontiers$Story", "undoable", "I", false)
  | _ => ("WindFrontiers$Story", "kept", "Z", false)
def tyX3 : Nat → FieldType := fun k => match k with
  | 0 => .object "WindFrontiers$Strand"
  | 1 => .array (.object "WindFrontiers$Strand")
  | 2 => .int
  | _ => .boolean
abbrev wsX30 : List Cond := u_ws RX3 TX3 4
theorem nmX3 : ∀ a, a < 4 → ∀ b, b < 4 → a ≠ b → (TX3 a).2.1 ≠ (TX3 b).2.1 := by decide +kernel
theorem tyX3_ok : ∀ k, k < 4 → parseFieldDescriptor (TX3 k).2.2.1 = some (tyX3 k) := by decide +kernel
abbrev cX3_init : ByteArray := prog_5_method_1_code
def yX3_init : MethodName := ⟨RX3, "<init>", "()V"⟩
abbrev cX3_remember : ByteArray := prog_5_method_2_code
def yX3_remember : MethodName := ⟨RX3, "remember", "()V"⟩
abbrev cX3_dropOldest : ByteArray := prog_5_method_3_code
def yX3_dropOldest : MethodName := ⟨RX3, "dropOldest", "()V"⟩
abbrev cX3_goBack : ByteArray := prog_5_method_4_code
def yX3_goBack : MethodName := ⟨RX3, "goBack", "()Z"⟩
abbrev cX3_becomes : ByteArray := prog_5_method_5_code
def yX3_becomes : MethodName := ⟨RX3, "becomes", "(LWindFrontiers$Story;)V"⟩
abbrev cX3_beforeAt : ByteArray := prog_5_method_6_code
def yX3_beforeAt : MethodName := ⟨RX3, "beforeAt", "(I)LWindFrontiers$Strand;"⟩
abbrev cX3_copy : ByteArray := prog_5_method_7_code
def yX3_copy : MethodName := ⟨RX3, "copy", "(LWindFrontiers$Strand;LWindFrontiers$Strand;)V"⟩
def RX4 : String := "WindFrontiers$Strand"
def TX4 : u_T := fun k => match k with
  | 0 => ("WindFrontiers$Strand", "wide", "I", false)
  | 1 => ("WindFrontiers$Strand", "rows", "I", false)
  | 2 => ("WindFrontiers$Strand", "cloth", "I", false)
  | 3 => ("WindFrontiers$Strand", "wind", "I", false)
  | 4 => ("WindFrontiers$Strand", "tide", "I", false)
  | _ => ("WindFrontiers$Strand", "held", "[I", true)
def tyX4 : Nat → FieldType := fun k => match k with
  | 0 => .int
  | 1 => .int
  | 2 => .int
  | 3 => .int
  | 4 => .int
  | _ => .array .int
abbrev wsX40 : List Cond := u_ws RX4 TX4 6
theorem nmX4 : ∀ a, a < 6 → ∀ b, b < 6 → a ≠ b → (TX4 a).2.1 ≠ (TX4 b).2.1 := by decide +kernel
theorem tyX4_ok : ∀ k, k < 6 → parseFieldDescriptor (TX4 k).2.2.1 = some (tyX4 k) := by decide +kernel
abbrev cX4_init : ByteArray := prog_6_method_1_code
def yX4_init : MethodName := ⟨RX4, "<init>", "()V"⟩
abbrev cX4_startAnew : ByteArray := prog_6_method_2_code
def yX4_startAnew : MethodName := ⟨RX4, "startAnew", "()V"⟩
abbrev cX4_becomes : ByteArray := prog_6_method_3_code
def yX4_becomes : MethodName := ⟨RX4, "becomes", "(LWindFrontiers$Strand;)V"⟩
abbrev cX4_isCell : ByteArray := prog_6_method_4_code
def yX4_isCell : MethodName := ⟨RX4, "isCell", "(II)Z"⟩
abbrev cX4_allCells : ByteArray := prog_6_method_5_code
def yX4_allCells : MethodName := ⟨RX4, "allCells", "()I"⟩
abbrev cX4_dryCells : ByteArray := prog_6_method_6_code
def yX4_dryCells : MethodName := ⟨RX4, "dryCells", "()I"⟩
abbrev cX4_bareCells : ByteArray := prog_6_method_7_code
def yX4_bareCells : MethodName := ⟨RX4, "bareCells", "()I"⟩
abbrev cX4_cellsFrom : ByteArray := prog_6_method_8_code
def yX4_cellsFrom : MethodName := ⟨RX4, "cellsFrom", "(I)I"⟩
abbrev cX4_rowOf : ByteArray := prog_6_method_9_code
def yX4_rowOf : MethodName := ⟨RX4, "rowOf", "(I)I"⟩
abbrev cX4_heldBy : ByteArray := prog_6_method_10_code
def yX4_heldBy : MethodName := ⟨RX4, "heldBy", "(I)I"⟩
abbrev cX4_heldByAny : ByteArray := prog_6_method_11_code
def yX4_heldByAny : MethodName := ⟨RX4, "heldByAny", "()I"⟩
abbrev cX4_holderOf : ByteArray := prog_6_method_12_code
def yX4_holderOf : MethodName := ⟨RX4, "holderOf", "(I)I"⟩
abbrev cX4_give : ByteArray := prog_6_method_13_code
def yX4_give : MethodName := ⟨RX4, "give", "(II)V"⟩
abbrev cX4_freeAllBut : ByteArray := prog_6_method_14_code
def yX4_freeAllBut : MethodName := ⟨RX4, "freeAllBut", "(I)V"⟩
abbrev cX4_tideBecomes : ByteArray := prog_6_method_15_code
def yX4_tideBecomes : MethodName := ⟨RX4, "tideBecomes", "(I)V"⟩
abbrev cX4_stillBy : ByteArray := prog_6_method_16_code
def yX4_stillBy : MethodName := ⟨RX4, "stillBy", "(I)I"⟩
abbrev cX4_stillWith : ByteArray := prog_6_method_17_code
def yX4_stillWith : MethodName := ⟨RX4, "stillWith", "(II)I"⟩
abbrev cX4_shelterOf : ByteArray := prog_6_method_18_code
def yX4_shelterOf : MethodName := ⟨RX4, "shelterOf", "(I)I"⟩
abbrev cX4_shelterWith : ByteArray := prog_6_method_19_code
def yX4_shelterWith : MethodName := ⟨RX4, "shelterWith", "(II)I"⟩
abbrev cX4_borderLength : ByteArray := prog_6_method_20_code
def yX4_borderLength : MethodName := ⟨RX4, "borderLength", "()I"⟩
abbrev cX4_losesAfter : ByteArray := prog_6_method_21_code
def yX4_losesAfter : MethodName := ⟨RX4, "losesAfter", "(I)I"⟩
abbrev cX4_fewestOthers : ByteArray := prog_6_method_22_code
def yX4_fewestOthers : MethodName := ⟨RX4, "fewestOthers", "(II)I"⟩
abbrev cX4_floodedOver : ByteArray := prog_6_method_23_code
def yX4_floodedOver : MethodName := ⟨RX4, "floodedOver", "(II)I"⟩
abbrev cX4_bestCloth : ByteArray := prog_6_method_24_code
def yX4_bestCloth : MethodName := ⟨RX4, "bestCloth", "(I)I"⟩
abbrev cX4_cellsBeside : ByteArray := prog_6_method_25_code
def yX4_cellsBeside : MethodName := ⟨RX4, "cellsBeside", "(I)I"⟩
abbrev cX4_rightOf : ByteArray := prog_6_method_26_code
def yX4_rightOf : MethodName := ⟨RX4, "rightOf", "(I)I"⟩
abbrev cX4_leftOf : ByteArray := prog_6_method_27_code
def yX4_leftOf : MethodName := ⟨RX4, "leftOf", "(I)I"⟩
abbrev cX4_besideAny : ByteArray := prog_6_method_28_code
def yX4_besideAny : MethodName := ⟨RX4, "besideAny", "(I)I"⟩
abbrev cX4_twosIn : ByteArray := prog_6_method_29_code
def yX4_twosIn : MethodName := ⟨RX4, "twosIn", "(I)I"⟩
def RX5 : String := "WindFrontiers$Text"
def TX5 : u_T := fun k => match k with
  | 0 => ("WindFrontiers$Text", "bytes", "[I", true)
  | _ => ("WindFrontiers$Text", "length", "I", false)
def tyX5 : Nat → FieldType := fun k => match k with
  | 0 => .array .int
  | _ => .int
abbrev wsX50 : List Cond := u_ws RX5 TX5 2
theorem nmX5 : ∀ a, a < 2 → ∀ b, b < 2 → a ≠ b → (TX5 a).2.1 ≠ (TX5 b).2.1 := by decide +kernel
theorem tyX5_ok : ∀ k, k < 2 → parseFieldDescriptor (TX5 k).2.2.1 = some (tyX5 k) := by decide +kernel
abbrev cX5_init : ByteArray := prog_7_method_1_code
def yX5_init : MethodName := ⟨RX5, "<init>", "()V"⟩
abbrev cX5_append : ByteArray := prog_7_method_2_code
def yX5_append : MethodName := ⟨RX5, "append", "(I)Z"⟩
abbrev cX5_byteAt : ByteArray := prog_7_method_3_code
def yX5_byteAt : MethodName := ⟨RX5, "byteAt", "(I)I"⟩
def RX6 : String := "WindFrontiers"
def TX6 : u_T := fun k => match k with
  | 0 => ("WindFrontiers", "reader", "LWindFrontiers$Reader;", true)
  | 1 => ("WindFrontiers", "text", "LWindFrontiers$Text;", true)
  | 2 => ("WindFrontiers", "story", "LWindFrontiers$Story;", true)
  | 3 => ("WindFrontiers", "shore", "LWindFrontiers$Strand;", true)
  | 4 => ("WindFrontiers", "firstImage", "LWindFrontiers$Story;", true)
  | 5 => ("WindFrontiers", "secondImage", "LWindFrontiers$Story;", true)
  | 6 => ("WindFrontiers", "seen", "LWindFrontiers$Seen;", true)
  | _ => ("WindFrontiers", "marks", "LWindFrontiers$Marks;", true)
def tyX6 : Nat → FieldType := fun k => match k with
  | 0 => .object "WindFrontiers$Reader"
  | 1 => .object "WindFrontiers$Text"
  | 2 => .object "WindFrontiers$Story"
  | 3 => .object "WindFrontiers$Strand"
  | 4 => .object "WindFrontiers$Story"
  | 5 => .object "WindFrontiers$Story"
  | 6 => .object "WindFrontiers$Seen"
  | _ => .object "WindFrontiers$Marks"
abbrev wsX60 : List Cond := u_ws RX6 TX6 8
theorem nmX6 : ∀ a, a < 8 → ∀ b, b < 8 → a ≠ b → (TX6 a).2.1 ≠ (TX6 b).2.1 := by decide +kernel
theorem tyX6_ok : ∀ k, k < 8 → parseFieldDescriptor (TX6 k).2.2.1 = some (tyX6 k) := by decide +kernel
abbrev cX6_init : ByteArray := prog_1_method_1_code
def yX6_init : MethodName := ⟨RX6, "<init>", "()V"⟩
abbrev cX6_type : ByteArray := prog_1_method_2_code
def yX6_type : MethodName := ⟨RX6, "type", "(I)I"⟩
abbrev cX6_clear : ByteArray := prog_1_method_3_code
def yX6_clear : MethodName := ⟨RX6, "clear", "()I"⟩
abbrev cX6_strand : ByteArray := prog_1_method_4_code
def yX6_strand : MethodName := ⟨RX6, "strand", "()I"⟩
abbrev cX6_cell : ByteArray := prog_1_method_5_code
def yX6_cell : MethodName := ⟨RX6, "cell", "(III)I"⟩
abbrev cX6_family : ByteArray := prog_1_method_6_code
def yX6_family : MethodName := ⟨RX6, "family", "(II)I"⟩
abbrev cX6_takes : ByteArray := prog_1_method_7_code
def yX6_takes : MethodName := ⟨RX6, "takes", "(III)I"⟩
abbrev cX6_leaves : ByteArray := prog_1_method_8_code
def yX6_leaves : MethodName := ⟨RX6, "leaves", "(II)I"⟩
abbrev cX6_puts : ByteArray := prog_1_method_9_code
def yX6_puts : MethodName := ⟨RX6, "puts", "(III)I"⟩
abbrev cX6_veers : ByteArray := prog_1_method_10_code
def yX6_veers : MethodName := ⟨RX6, "veers", "()I"⟩
abbrev cX6_tide : ByteArray := prog_1_method_11_code
def yX6_tide : MethodName := ⟨RX6, "tide", "(I)I"⟩
abbrev cX6_undo : ByteArray := prog_1_method_12_code
def yX6_undo : MethodName := ⟨RX6, "undo", "()I"⟩
abbrev cX6_now : ByteArray := prog_1_method_13_code
def yX6_now : MethodName := ⟨RX6, "now", "(I)I"⟩
abbrev cX6_water : ByteArray := prog_1_method_14_code
def yX6_water : MethodName := ⟨RX6, "water", "(III)I"⟩
abbrev cX6_help : ByteArray := prog_1_method_15_code
def yX6_help : MethodName := ⟨RX6, "help", "(II)I"⟩
abbrev cX6_odds : ByteArray := prog_1_method_16_code
def yX6_odds : MethodName := ⟨RX6, "odds", "(IIIII)I"⟩
abbrev cX6_saw : ByteArray := prog_1_method_17_code
def yX6_saw : MethodName := ⟨RX6, "saw", "(IIII)I"⟩
abbrev cX6_forget : ByteArray := prog_1_method_18_code
def yX6_forget : MethodName := ⟨RX6, "forget", "()I"⟩
abbrev cX6_moved : ByteArray := prog_1_method_19_code
def yX6_moved : MethodName := ⟨RX6, "moved", "(I)I"⟩
abbrev cX6_mark : ByteArray := prog_1_method_20_code
def yX6_mark : MethodName := ⟨RX6, "mark", "(III)I"⟩
abbrev cX6_keep : ByteArray := prog_1_method_21_code
def yX6_keep : MethodName := ⟨RX6, "keep", "(I)I"⟩
abbrev cX6_back : ByteArray := prog_1_method_22_code
def yX6_back : MethodName := ⟨RX6, "back", "(I)I"⟩
abbrev cX6_count : ByteArray := prog_1_method_23_code
def yX6_count : MethodName := ⟨RX6, "count", "(I)I"⟩
abbrev cX6_trace : ByteArray := prog_1_method_24_code
def yX6_trace : MethodName := ⟨RX6, "trace", "()J"⟩
abbrev cX6_mayHaveMoved : ByteArray := prog_1_method_25_code
def yX6_mayHaveMoved : MethodName := ⟨RX6, "mayHaveMoved", "(II)Z"⟩
abbrev cX6_imageOf : ByteArray := prog_1_method_26_code
def yX6_imageOf : MethodName := ⟨RX6, "imageOf", "(I)LWindFrontiers$Story;"⟩
abbrev cX6_isWithin : ByteArray := prog_1_method_27_code
def yX6_isWithin : MethodName := ⟨RX6, "isWithin", "(II)Z"⟩
abbrev cX6_isFamily : ByteArray := prog_1_method_28_code
def yX6_isFamily : MethodName := ⟨RX6, "isFamily", "(I)Z"⟩
abbrev cX6_oneIf : ByteArray := prog_1_method_29_code
def yX6_oneIf : MethodName := ⟨RX6, "oneIf", "(Z)I"⟩
abbrev cX6_bitOf : ByteArray := prog_1_method_30_code
def yX6_bitOf : MethodName := ⟨RX6, "bitOf", "(II)I"⟩
abbrev cX6_inLeastTerms : ByteArray := prog_1_method_31_code
def yX6_inLeastTerms : MethodName := ⟨RX6, "inLeastTerms", "(III)I"⟩
def RX7 : String := "WindFrontiersModel"
def TX7 : u_T := fun k => match k with
  | 0 => ("WindFrontiersModel", "wide", "I", false)
  | 1 => ("WindFrontiersModel", "rows", "I", false)
  | 2 => ("WindFrontiersModel", "st", "[I", true)
  | 3 => ("WindFrontiersModel", "images", "[I", true)
  | 4 => ("WindFrontiersModel", "isKept", "[Z", true)
  | 5 => ("WindFrontiersModel", "seenMany", "I", false)
  | 6 => ("WindFrontiersModel", "seen", "[I", true)
  | 7 => ("WindFrontiersModel", "trace", "J", false)
  | 8 => ("WindFrontiersModel", "text", "[I", true)
  | 9 => ("WindFrontiersModel", "texted", "I", false)
  | 10 => ("WindFrontiersModel", "cursor", "I", false)
  | 11 => ("WindFrontiersModel", "start", "I", false)
  | 12 => ("WindFrontiersModel", "token", "I", false)
  | 13 => ("WindFrontiersModel", "number", "I", false)
  | 14 => ("WindFrontiersModel", "isWrong", "Z", false)
  | 15 => ("WindFrontiersModel", "items", "I", false)
  | 16 => ("WindFrontiersModel", "saidWide", "I", false)
  | 17 => ("WindFrontiersModel", "saidRows", "I", false)
  | 18 => ("WindFrontiersModel", "saidHolder", "[I", true)
  | 19 => ("WindFrontiersModel", "saidCloth", "I", false)
  | 20 => ("WindFrontiersModel", "saidWind", "I", false)
  | _ => ("WindFrontiersModel", "far", "[I", true)
def tyX7 : Nat → FieldType := fun k => match k with
  | 0 => .int
  | 1 => .int
  | 2 => .array .int
  | 3 => .array .int
  | 4 => .array .boolean
  | 5 => .int
  | 6 => .array .int
  | 7 => .long
  | 8 => .array .int
  | 9 => .int
  | 10 => .int
  | 11 => .int
  | 12 => .int
  | 13 => .int
  | 14 => .boolean
  | 15 => .int
  | 16 => .int
  | 17 => .int
  | 18 => .array .int
  | 19 => .int
  | 20 => .int
  | _ => .array .int
abbrev wsX70 : List Cond := u_ws RX7 TX7 22
theorem nmX7 : ∀ a, a < 22 → ∀ b, b < 22 → a ≠ b → (TX7 a).2.1 ≠ (TX7 b).2.1 := by decide +kernel
theorem tyX7_ok : ∀ k, k < 22 → parseFieldDescriptor (TX7 k).2.2.1 = some (tyX7 k) := by decide +kernel
abbrev cX7_init : ByteArray := prog_9_method_1_code
def yX7_init : MethodName := ⟨RX7, "<init>", "()V"⟩
abbrev cX7_in : ByteArray := prog_9_method_3_code
def yX7_in : MethodName := ⟨RX7, "in", "(III)Z"⟩
abbrev cX7_has : ByteArray := prog_9_method_4_code
def yX7_has : MethodName := ⟨RX7, "has", "(II)Z"⟩
abbrev cX7_bits : ByteArray := prog_9_method_5_code
def yX7_bits : MethodName := ⟨RX7, "bits", "(I)I"⟩
abbrev cX7_isCell : ByteArray := prog_9_method_6_code
def yX7_isCell : MethodName := ⟨RX7, "isCell", "(II)Z"⟩
abbrev cX7_isFamily : ByteArray := prog_9_method_7_code
def yX7_isFamily : MethodName := ⟨RX7, "isFamily", "(I)Z"⟩
abbrev cX7_type : ByteArray := prog_9_method_8_code
def yX7_type : MethodName := ⟨RX7, "type", "(I)I"⟩
abbrev cX7_clear : ByteArray := prog_9_method_9_code
def yX7_clear : MethodName := ⟨RX7, "clear", "()I"⟩
abbrev cX7_letterAt : ByteArray := prog_9_method_10_code
def yX7_letterAt : MethodName := ⟨RX7, "letterAt", "(I)I"⟩
abbrev cX7_isFigure : ByteArray := prog_9_method_11_code
def yX7_isFigure : MethodName := ⟨RX7, "isFigure", "(I)Z"⟩
abbrev cX7_isLetter : ByteArray := prog_9_method_12_code
def yX7_isLetter : MethodName := ⟨RX7, "isLetter", "(I)Z"⟩
abbrev cX7_next : ByteArray := prog_9_method_13_code
def yX7_next : MethodName := ⟨RX7, "next", "()V"⟩
abbrev cX7_takesNumber : ByteArray := prog_9_method_14_code
def yX7_takesNumber : MethodName := ⟨RX7, "takesNumber", "(II)I"⟩
abbrev cX7_takesCell : ByteArray := prog_9_method_15_code
def yX7_takesCell : MethodName := ⟨RX7, "takesCell", "(Z)I"⟩
abbrev cX7_readItem : ByteArray := prog_9_method_16_code
def yX7_readItem : MethodName := ⟨RX7, "readItem", "()V"⟩
abbrev cX7_strand : ByteArray := prog_9_method_17_code
def yX7_strand : MethodName := ⟨RX7, "strand", "()I"⟩
abbrev cX7_settles : ByteArray := prog_9_method_18_code
def yX7_settles : MethodName := ⟨RX7, "settles", "()V"⟩
abbrev cX7_isDry : ByteArray := prog_9_method_19_code
def yX7_isDry : MethodName := ⟨RX7, "isDry", "(I)Z"⟩
abbrev cX7_isCloth : ByteArray := prog_9_method_20_code
def yX7_isCloth : MethodName := ⟨RX7, "isCloth", "(III)Z"⟩
abbrev cX7_isStill : ByteArray := prog_9_method_21_code
def yX7_isStill : MethodName := ⟨RX7, "isStill", "(IIII)Z"⟩
abbrev cX7_stillOnes : ByteArray := prog_9_method_22_code
def yX7_stillOnes : MethodName := ⟨RX7, "stillOnes", "(II)I"⟩
abbrev cX7_heldBy : ByteArray := prog_9_method_23_code
def yX7_heldBy : MethodName := ⟨RX7, "heldBy", "(I)I"⟩
abbrev cX7_losesOf : ByteArray := prog_9_method_24_code
def yX7_losesOf : MethodName := ⟨RX7, "losesOf", "(I)I"⟩
abbrev cX7_cell : ByteArray := prog_9_method_25_code
def yX7_cell : MethodName := ⟨RX7, "cell", "(III)I"⟩
abbrev cX7_family : ByteArray := prog_9_method_26_code
def yX7_family : MethodName := ⟨RX7, "family", "(II)I"⟩
abbrev cX7_remembers : ByteArray := prog_9_method_27_code
def yX7_remembers : MethodName := ⟨RX7, "remembers", "()V"⟩
abbrev cX7_takes : ByteArray := prog_9_method_28_code
def yX7_takes : MethodName := ⟨RX7, "takes", "(III)I"⟩
abbrev cX7_leaves : ByteArray := prog_9_method_29_code
def yX7_leaves : MethodName := ⟨RX7, "leaves", "(II)I"⟩
abbrev cX7_puts : ByteArray := prog_9_method_30_code
def yX7_puts : MethodName := ⟨RX7, "puts", "(III)I"⟩
abbrev cX7_veers : ByteArray := prog_9_method_31_code
def yX7_veers : MethodName := ⟨RX7, "veers", "()I"⟩
abbrev cX7_tide : ByteArray := prog_9_method_32_code
def yX7_tide : MethodName := ⟨RX7, "tide", "(I)I"⟩
abbrev cX7_undo : ByteArray := prog_9_method_33_code
def yX7_undo : MethodName := ⟨RX7, "undo", "()I"⟩
abbrev cX7_isBorder : ByteArray := prog_9_method_34_code
def yX7_isBorder : MethodName := ⟨RX7, "isBorder", "(IIII)Z"⟩
abbrev cX7_border : ByteArray := prog_9_method_35_code
def yX7_border : MethodName := ⟨RX7, "border", "()I"⟩
abbrev cX7_now : ByteArray := prog_9_method_36_code
def yX7_now : MethodName := ⟨RX7, "now", "(I)I"⟩
abbrev cX7_costOf : ByteArray := prog_9_method_37_code
def yX7_costOf : MethodName := ⟨RX7, "costOf", "(II)I"⟩
abbrev cX7_leastBeside : ByteArray := prog_9_method_38_code
def yX7_leastBeside : MethodName := ⟨RX7, "leastBeside", "(II)I"⟩
abbrev cX7_findFar : ByteArray := prog_9_method_39_code
def yX7_findFar : MethodName := ⟨RX7, "findFar", "(I)V"⟩
abbrev cX7_water : ByteArray := prog_9_method_40_code
def yX7_water : MethodName := ⟨RX7, "water", "(III)I"⟩
abbrev cX7_help : ByteArray := prog_9_method_41_code
def yX7_help : MethodName := ⟨RX7, "help", "(II)I"⟩
abbrev cX7_odds : ByteArray := prog_9_method_42_code
def yX7_odds : MethodName := ⟨RX7, "odds", "(IIIII)I"⟩
abbrev cX7_saw : ByteArray := prog_9_method_43_code
def yX7_saw : MethodName := ⟨RX7, "saw", "(IIII)I"⟩
abbrev cX7_forget : ByteArray := prog_9_method_44_code
def yX7_forget : MethodName := ⟨RX7, "forget", "()I"⟩
abbrev cX7_isSo : ByteArray := prog_9_method_45_code
def yX7_isSo : MethodName := ⟨RX7, "isSo", "(I)Z"⟩
abbrev cX7_moved : ByteArray := prog_9_method_46_code
def yX7_moved : MethodName := ⟨RX7, "moved", "(I)I"⟩
abbrev cX7_mark : ByteArray := prog_9_method_47_code
def yX7_mark : MethodName := ⟨RX7, "mark", "(III)I"⟩
abbrev cX7_keep : ByteArray := prog_9_method_48_code
def yX7_keep : MethodName := ⟨RX7, "keep", "(I)I"⟩
abbrev cX7_back : ByteArray := prog_9_method_49_code
def yX7_back : MethodName := ⟨RX7, "back", "(I)I"⟩
abbrev cX7_count : ByteArray := prog_9_method_50_code
def yX7_count : MethodName := ⟨RX7, "count", "(I)I"⟩
abbrev cX7_trace : ByteArray := prog_9_method_51_code
def yX7_trace : MethodName := ⟨RX7, "trace", "()J"⟩
def RJ6 : String := "java/lang/Integer"
def TJ6 : u_T := fun k => match k with
  | _ => ("", "", "", false)
def tyJ6 : Nat → FieldType := fun k => match k with
  | _ => .int
abbrev wsJ60 : List Cond := u_ws RJ6 TJ6 0
theorem nmJ6 : ∀ a, a < 0 → ∀ b, b < 0 → a ≠ b → (TJ6 a).2.1 ≠ (TJ6 b).2.1 := by decide +kernel
theorem tyJ6_ok : ∀ k, k < 0 → parseFieldDescriptor (TJ6 k).2.2.1 = some (tyJ6 k) := by decide +kernel
abbrev cJ6_bitCount_0f7a4 : ByteArray := prog_10_method_49_code
def yJ6_bitCount_0f7a4 : MethodName := ⟨RJ6, "bitCount", "(I)I"⟩
def RL : String := "WindFrontiersLaw"
abbrev cL_law : ByteArray := code
def yL_law : MethodName := ⟨RL, "law", "([I)Z"⟩
abbrev vwCl : List vw_C := [(RX0, TX0, 1), (RX1, TX1, 8), (RX2, TX2, 5), (RX3, TX3, 4), (RX4, TX4, 6), (RX5, TX5, 2), (RX6, TX6, 8), (RX7, TX7, 22)]
/-! the words of all methods: the good ones of the tables' -/
def AL : List Cond := lw_tbl.filter goodWord
theorem AL_of {w : Cond} (h : w ∈ lw_tbl) (g : goodWord w = true) : w ∈ AL := List.mem_filter.mpr ⟨h, g⟩
theorem AL_in {w : Cond} (h : w ∈ AL) : w ∈ lw_tbl := (List.mem_filter.mp h).1
theorem AL_good : GoodIn AL AL := fun w h => ⟨h, good_of_word (List.mem_filter.mp h).2⟩
theorem tb_0 {w : Cond} (h : w ∈ k2_sels lw_privs) (g : goodWord w = true) : w ∈ AL := AL_of (List.mem_append_left _ h) g
theorem tb_1 {w : Cond} (h : w ∈ tables_1_1) (g : goodWord w = true) : w ∈ AL := AL_of (List.mem_append_right _ (List.mem_append_left _ h)) g
theorem tb_2 {w : Cond} (h : w ∈ tables_1_2) (g : goodWord w = true) : w ∈ AL := AL_of (List.mem_append_right _ (List.mem_append_right _ (List.mem_append_left _ h))) g
theorem tb_3 {w : Cond} (h : w ∈ tables_1_3) (g : goodWord w = true) : w ∈ AL := AL_of (List.mem_append_right _ (List.mem_append_right _ (List.mem_append_right _ (List.mem_append_left _ h)))) g
theorem tb_4 {w : Cond} (h : w ∈ tables_1_4) (g : goodWord w = true) : w ∈ AL := AL_of (List.mem_append_right _ (List.mem_append_right _ (List.mem_append_right _ (List.mem_append_right _ h)))) g
theorem ws_0 : Cond.selects RX1 yX1_readToken yX1_readToken ∈ AL := tb_0 (List.mem_map.mpr ⟨(yX1_readToken, _), List.mem_of_getElem? (i := 0) rfl, rfl⟩) rfl
theorem ws_1 : Cond.selects RX1 yX1_isItem yX1_isItem ∈ AL := tb_0 (List.mem_map.mpr ⟨(yX1_isItem, _), List.mem_of_getElem? (i := 1) rfl, rfl⟩) rfl
theorem ws_2 : Cond.selects RX1 yX1_isSize yX1_isSize ∈ AL := tb_0 (List.mem_map.mpr ⟨(yX1_isSize, _), List.mem_of_getElem? (i := 2) rfl, rfl⟩) rfl
theorem ws_3 : Cond.selects RX1 yX1_isNumber yX1_isNumber ∈ AL := tb_0 (List.mem_map.mpr ⟨(yX1_isNumber, _), List.mem_of_getElem? (i := 3) rfl, rfl⟩) rfl
theorem ws_4 : Cond.selects RX1 yX1_isStop yX1_isStop ∈ AL := tb_0 (List.mem_map.mpr ⟨(yX1_isStop, _), List.mem_of_getElem? (i := 4) rfl, rfl⟩) rfl
theorem ws_5 : Cond.selects RX1 yX1_isHolder yX1_isHolder ∈ AL := tb_0 (List.mem_map.mpr ⟨(yX1_isHolder, _), List.mem_of_getElem? (i := 5) rfl, rfl⟩) rfl
theorem ws_6 : Cond.selects RX1 yX1_readFreeBit yX1_readFreeBit ∈ AL := tb_0 (List.mem_map.mpr ⟨(yX1_readFreeBit, _), List.mem_of_getElem? (i := 6) rfl, rfl⟩) rfl
theorem ws_7 : Cond.selects RX1 yX1_isCloth yX1_isCloth ∈ AL := tb_0 (List.mem_map.mpr ⟨(yX1_isCloth, _), List.mem_of_getElem? (i := 7) rfl, rfl⟩) rfl
theorem ws_8 : Cond.selects RX1 yX1_isWind yX1_isWind ∈ AL := tb_0 (List.mem_map.mpr ⟨(yX1_isWind, _), List.mem_of_getElem? (i := 8) rfl, rfl⟩) rfl
theorem ws_9 : Cond.selects RX4 yX4_cellsFrom yX4_cellsFrom ∈ AL := tb_0 (List.mem_map.mpr ⟨(yX4_cellsFrom, _), List.mem_of_getElem? (i := 9) rfl, rfl⟩) rfl
theorem ws_10 : Cond.selects RX4 yX4_rowOf yX4_rowOf ∈ AL := tb_0 (List.mem_map.mpr ⟨(yX4_rowOf, _), List.mem_of_getElem? (i := 10) rfl, rfl⟩) rfl
theorem ws_11 : Cond.selects RX3 yX3_dropOldest yX3_dropOldest ∈ AL := tb_0 (List.mem_map.mpr ⟨(yX3_dropOldest, _), List.mem_of_getElem? (i := 11) rfl, rfl⟩) rfl
theorem ws_12 : Cond.selects RX3 yX3_beforeAt yX3_beforeAt ∈ AL := tb_0 (List.mem_map.mpr ⟨(yX3_beforeAt, _), List.mem_of_getElem? (i := 12) rfl, rfl⟩) rfl
theorem ws_13 : Cond.selects RX6 yX6_mayHaveMoved yX6_mayHaveMoved ∈ AL := tb_0 (List.mem_map.mpr ⟨(yX6_mayHaveMoved, _), List.mem_of_getElem? (i := 13) rfl, rfl⟩) rfl
theorem ws_14 : Cond.selects RX0 yX0_asCell yX0_asCell ∈ AL := tb_0 (List.mem_map.mpr ⟨(yX0_asCell, _), List.mem_of_getElem? (i := 14) rfl, rfl⟩) rfl
theorem ws_15 : Cond.selects RX0 yX0_asCastle yX0_asCastle ∈ AL := tb_0 (List.mem_map.mpr ⟨(yX0_asCastle, _), List.mem_of_getElem? (i := 15) rfl, rfl⟩) rfl
theorem ws_16 : Cond.selects RX0 yX0_asCorridor yX0_asCorridor ∈ AL := tb_0 (List.mem_map.mpr ⟨(yX0_asCorridor, _), List.mem_of_getElem? (i := 16) rfl, rfl⟩) rfl
theorem ws_17 : Cond.selects RX0 yX0_asEmpire yX0_asEmpire ∈ AL := tb_0 (List.mem_map.mpr ⟨(yX0_asEmpire, _), List.mem_of_getElem? (i := 17) rfl, rfl⟩) rfl
theorem ws_18 : Cond.selects RX0 yX0_asPoland yX0_asPoland ∈ AL := tb_0 (List.mem_map.mpr ⟨(yX0_asPoland, _), List.mem_of_getElem? (i := 18) rfl, rfl⟩) rfl
theorem ws_19 : Cond.selects RX0 yX0_asSalient yX0_asSalient ∈ AL := tb_0 (List.mem_map.mpr ⟨(yX0_asSalient, _), List.mem_of_getElem? (i := 19) rfl, rfl⟩) rfl
theorem ws_20 : Cond.selects RX6 yX6_imageOf yX6_imageOf ∈ AL := tb_0 (List.mem_map.mpr ⟨(yX6_imageOf, _), List.mem_of_getElem? (i := 20) rfl, rfl⟩) rfl
theorem ws_21 : Cond.selects RX7 yX7_next yX7_next ∈ AL := tb_0 (List.mem_map.mpr ⟨(yX7_next, _), List.mem_of_getElem? (i := 21) rfl, rfl⟩) rfl
theorem ws_22 : Cond.selects RX7 yX7_letterAt yX7_letterAt ∈ AL := tb_0 (List.mem_map.mpr ⟨(yX7_letterAt, _), List.mem_of_getElem? (i := 22) rfl, rfl⟩) rfl
theorem ws_23 : Cond.selects RX7 yX7_readItem yX7_readItem ∈ AL := tb_0 (List.mem_map.mpr ⟨(yX7_readItem, _), List.mem_of_getElem? (i := 23) rfl, rfl⟩) rfl
theorem ws_24 : Cond.selects RX7 yX7_takesNumber yX7_takesNumber ∈ AL := tb_0 (List.mem_map.mpr ⟨(yX7_takesNumber, _), List.mem_of_getElem? (i := 24) rfl, rfl⟩) rfl
theorem ws_25 : Cond.selects RX7 yX7_takesCell yX7_takesCell ∈ AL := tb_0 (List.mem_map.mpr ⟨(yX7_takesCell, _), List.mem_of_getElem? (i := 25) rfl, rfl⟩) rfl
theorem ws_26 : Cond.selects RX7 yX7_settles yX7_settles ∈ AL := tb_0 (List.mem_map.mpr ⟨(yX7_settles, _), List.mem_of_getElem? (i := 26) rfl, rfl⟩) rfl
theorem ws_27 : Cond.selects RX7 yX7_isCell yX7_isCell ∈ AL := tb_0 (List.mem_map.mpr ⟨(yX7_isCell, _), List.mem_of_getElem? (i := 27) rfl, rfl⟩) rfl
theorem ws_28 : Cond.selects RX7 yX7_isDry yX7_isDry ∈ AL := tb_0 (List.mem_map.mpr ⟨(yX7_isDry, _), List.mem_of_getElem? (i := 28) rfl, rfl⟩) rfl
theorem ws_29 : Cond.selects RX7 yX7_isStill yX7_isStill ∈ AL := tb_0 (List.mem_map.mpr ⟨(yX7_isStill, _), List.mem_of_getElem? (i := 29) rfl, rfl⟩) rfl
theorem ws_30 : Cond.selects RX7 yX7_isCloth yX7_isCloth ∈ AL := tb_0 (List.mem_map.mpr ⟨(yX7_isCloth, _), List.mem_of_getElem? (i := 30) rfl, rfl⟩) rfl
theorem ws_31 : Cond.selects RX7 yX7_heldBy yX7_heldBy ∈ AL := tb_0 (List.mem_map.mpr ⟨(yX7_heldBy, _), List.mem_of_getElem? (i := 31) rfl, rfl⟩) rfl
theorem ws_32 : Cond.selects RX7 yX7_stillOnes yX7_stillOnes ∈ AL := tb_0 (List.mem_map.mpr ⟨(yX7_stillOnes, _), List.mem_of_getElem? (i := 32) rfl, rfl⟩) rfl
theorem ws_33 : Cond.selects RX7 yX7_losesOf yX7_losesOf ∈ AL := tb_0 (List.mem_map.mpr ⟨(yX7_losesOf, _), List.mem_of_getElem? (i := 33) rfl, rfl⟩) rfl
theorem ws_34 : Cond.selects RX7 yX7_remembers yX7_remembers ∈ AL := tb_0 (List.mem_map.mpr ⟨(yX7_remembers, _), List.mem_of_getElem? (i := 34) rfl, rfl⟩) rfl
theorem ws_35 : Cond.selects RX7 yX7_border yX7_border ∈ AL := tb_0 (List.mem_map.mpr ⟨(yX7_border, _), List.mem_of_getElem? (i := 35) rfl, rfl⟩) rfl
theorem ws_36 : Cond.selects RX7 yX7_isBorder yX7_isBorder ∈ AL := tb_0 (List.mem_map.mpr ⟨(yX7_isBorder, _), List.mem_of_getElem? (i := 36) rfl, rfl⟩) rfl
theorem ws_37 : Cond.selects RX7 yX7_findFar yX7_findFar ∈ AL := tb_0 (List.mem_map.mpr ⟨(yX7_findFar, _), List.mem_of_getElem? (i := 37) rfl, rfl⟩) rfl
theorem ws_38 : Cond.selects RX7 yX7_costOf yX7_costOf ∈ AL := tb_0 (List.mem_map.mpr ⟨(yX7_costOf, _), List.mem_of_getElem? (i := 38) rfl, rfl⟩) rfl
theorem ws_39 : Cond.selects RX7 yX7_leastBeside yX7_leastBeside ∈ AL := tb_0 (List.mem_map.mpr ⟨(yX7_leastBeside, _), List.mem_of_getElem? (i := 39) rfl, rfl⟩) rfl
theorem ws_40 : Cond.selects RX7 yX7_isSo yX7_isSo ∈ AL := tb_0 (List.mem_map.mpr ⟨(yX7_isSo, _), List.mem_of_getElem? (i := 40) rfl, rfl⟩) rfl
theorem wd_1_0 : Cond.initialized RL ∈ AL := tb_1 (List.mem_of_getElem? (i := 0) rfl) rfl
theorem wd_1_1 : Cond.initialized RX6 ∈ AL := tb_1 (List.mem_of_getElem? (i := 1) rfl) rfl
theorem wd_1_2 : Cond.initialized RX1 ∈ AL := tb_1 (List.mem_of_getElem? (i := 2) rfl) rfl
theorem wd_1_3 : Cond.initialized RX5 ∈ AL := tb_1 (List.mem_of_getElem? (i := 3) rfl) rfl
theorem wd_1_4 : Cond.initialized RX4 ∈ AL := tb_1 (List.mem_of_getElem? (i := 4) rfl) rfl
theorem wd_1_5 : Cond.initialized RX3 ∈ AL := tb_1 (List.mem_of_getElem? (i := 5) rfl) rfl
theorem wd_1_6 : Cond.initialized RX2 ∈ AL := tb_1 (List.mem_of_getElem? (i := 6) rfl) rfl
theorem wd_1_7 : Cond.initialized RX0 ∈ AL := tb_1 (List.mem_of_getElem? (i := 7) rfl) rfl
theorem wd_1_8 : Cond.initialized RX7 ∈ AL := tb_1 (List.mem_of_getElem? (i := 8) rfl) rfl
theorem wd_1_9 : Cond.initialized RJ6 ∈ AL := tb_1 (List.mem_of_getElem? (i := 9) rfl) rfl
theorem wd_1_10 : Cond.classLink RL 7 RX6 ∈ AL := tb_1 (List.mem_of_getElem? (i := 10) rfl) rfl
theorem wd_1_11 : Cond.instantiable RX6 8 ∈ AL := tb_1 (List.mem_of_getElem? (i := 11) rfl) rfl
theorem wd_1_12 : Cond.methodLink RL 9 yX6_init ∈ AL := tb_1 (List.mem_of_getElem? (i := 12) rfl) rfl
theorem wd_1_13 : Cond.instanceMethod yX6_init ∈ AL := tb_1 (List.mem_of_getElem? (i := 13) rfl) rfl
theorem wd_1_14 : Cond.code yX6_init cX6_init 1 none ∈ AL := tb_1 (List.mem_of_getElem? (i := 14) rfl) rfl
theorem wd_1_15 : Cond.methodLink RX6 3 objectInit ∈ AL := tb_1 (List.mem_of_getElem? (i := 15) rfl) rfl
theorem wd_1_16 : Cond.instanceMethod objectInit ∈ AL := tb_1 (List.mem_of_getElem? (i := 16) rfl) rfl
theorem wd_1_17 : Cond.code objectInit ⟨#[0xb1]⟩ 1 none ∈ AL := tb_1 (List.mem_of_getElem? (i := 17) rfl) rfl
theorem wd_1_18 : Cond.classLink RX6 9 RX1 ∈ AL := tb_1 (List.mem_of_getElem? (i := 18) rfl) rfl
theorem wd_1_19 : Cond.instantiable RX1 8 ∈ AL := tb_1 (List.mem_of_getElem? (i := 19) rfl) rfl
theorem wn_1_20 : Cond.methodLinkNest RX6 11 yX1_init "WindFrontiers" ∈ lw_tbl := List.mem_append_right _ (List.mem_append_left _ (List.mem_of_getElem? (i := 20) rfl))
theorem wd_1_21 : Cond.instanceMethod yX1_init ∈ AL := tb_1 (List.mem_of_getElem? (i := 21) rfl) rfl
theorem wd_1_22 : Cond.code yX1_init cX1_init 1 none ∈ AL := tb_1 (List.mem_of_getElem? (i := 22) rfl) rfl
theorem wd_1_23 : Cond.methodLink RX1 3 objectInit ∈ AL := tb_1 (List.mem_of_getElem? (i := 23) rfl) rfl
theorem wd_1_24 : Cond.classLink RX1 9 RX5 ∈ AL := tb_1 (List.mem_of_getElem? (i := 24) rfl) rfl
theorem wd_1_25 : Cond.instantiable RX5 2 ∈ AL := tb_1 (List.mem_of_getElem? (i := 25) rfl) rfl
theorem wn_1_26 : Cond.methodLinkNest RX1 11 yX5_init "WindFrontiers" ∈ lw_tbl := List.mem_append_right _ (List.mem_append_left _ (List.mem_of_getElem? (i := 26) rfl))
theorem wd_1_27 : Cond.instanceMethod yX5_init ∈ AL := tb_1 (List.mem_of_getElem? (i := 27) rfl) rfl
theorem wd_1_28 : Cond.code yX5_init cX5_init 1 none ∈ AL := tb_1 (List.mem_of_getElem? (i := 28) rfl) rfl
theorem wd_1_29 : Cond.methodLink RX5 3 objectInit ∈ AL := tb_1 (List.mem_of_getElem? (i := 29) rfl) rfl
theorem wd_1_30 : Cond.fieldLink RX5 9 "WindFrontiers$Text" "bytes" "[I" ∈ AL := tb_1 (List.mem_of_getElem? (i := 30) rfl) rfl
theorem wd_1_31 : Cond.fieldLink RX5 15 "WindFrontiers$Text" "length" "I" ∈ AL := tb_1 (List.mem_of_getElem? (i := 31) rfl) rfl
theorem wd_1_32 : Cond.fieldLink RX6 65 "WindFrontiers$Text" "length" "I" ∈ AL := tb_1 (List.mem_of_getElem? (i := 32) rfl) rfl
theorem wd_1_33 : Cond.laysFinal RX5 "WindFrontiers$Text" "bytes" "[I" ∈ AL := tb_1 (List.mem_of_getElem? (i := 33) rfl) rfl
theorem wd_1_35 : Cond.lays RX5 "WindFrontiers$Text" "length" "I" ∈ AL := tb_1 (List.mem_of_getElem? (i := 35) rfl) rfl
theorem wd_1_38 : Cond.arrayClass FieldType.int ∈ AL := tb_1 (List.mem_of_getElem? (i := 38) rfl) rfl
theorem wd_1_39 : Cond.classLink RX1 18 RX4 ∈ AL := tb_1 (List.mem_of_getElem? (i := 39) rfl) rfl
theorem wd_1_40 : Cond.instantiable RX4 6 ∈ AL := tb_1 (List.mem_of_getElem? (i := 40) rfl) rfl
theorem wn_1_41 : Cond.methodLinkNest RX1 20 yX4_init "WindFrontiers" ∈ lw_tbl := List.mem_append_right _ (List.mem_append_left _ (List.mem_of_getElem? (i := 41) rfl))
theorem wd_1_42 : Cond.instanceMethod yX4_init ∈ AL := tb_1 (List.mem_of_getElem? (i := 42) rfl) rfl
theorem wd_1_43 : Cond.code yX4_init cX4_init 1 none ∈ AL := tb_1 (List.mem_of_getElem? (i := 43) rfl) rfl
theorem wd_1_44 : Cond.methodLink RX4 3 objectInit ∈ AL := tb_1 (List.mem_of_getElem? (i := 44) rfl) rfl
theorem wd_1_45 : Cond.fieldLink RX4 9 "WindFrontiers$Strand" "wide" "I" ∈ AL := tb_1 (List.mem_of_getElem? (i := 45) rfl) rfl
theorem wd_1_46 : Cond.fieldLink RX1 74 "WindFrontiers$Strand" "wide" "I" ∈ AL := tb_1 (List.mem_of_getElem? (i := 46) rfl) rfl
theorem wd_1_47 : Cond.fieldLink RX6 201 "WindFrontiers$Strand" "wide" "I" ∈ AL := tb_1 (List.mem_of_getElem? (i := 47) rfl) rfl
theorem wd_1_48 : Cond.fieldLink RX4 15 "WindFrontiers$Strand" "rows" "I" ∈ AL := tb_1 (List.mem_of_getElem? (i := 48) rfl) rfl
theorem wd_1_49 : Cond.fieldLink RX1 77 "WindFrontiers$Strand" "rows" "I" ∈ AL := tb_1 (List.mem_of_getElem? (i := 49) rfl) rfl
theorem wd_1_50 : Cond.fieldLink RX6 150 "WindFrontiers$Strand" "rows" "I" ∈ AL := tb_1 (List.mem_of_getElem? (i := 50) rfl) rfl
theorem wd_1_51 : Cond.fieldLink RX4 22 "WindFrontiers$Strand" "cloth" "I" ∈ AL := tb_1 (List.mem_of_getElem? (i := 51) rfl) rfl
theorem wd_1_52 : Cond.fieldLink RX6 103 "WindFrontiers$Strand" "cloth" "I" ∈ AL := tb_1 (List.mem_of_getElem? (i := 52) rfl) rfl
theorem wd_1_53 : Cond.fieldLink RX1 92 "WindFrontiers$Strand" "cloth" "I" ∈ AL := tb_1 (List.mem_of_getElem? (i := 53) rfl) rfl
theorem wd_1_54 : Cond.fieldLink RX4 25 "WindFrontiers$Strand" "wind" "I" ∈ AL := tb_1 (List.mem_of_getElem? (i := 54) rfl) rfl
theorem wd_1_55 : Cond.fieldLink RX1 95 "WindFrontiers$Strand" "wind" "I" ∈ AL := tb_1 (List.mem_of_getElem? (i := 55) rfl) rfl
theorem wd_1_56 : Cond.fieldLink RX6 144 "WindFrontiers$Strand" "wind" "I" ∈ AL := tb_1 (List.mem_of_getElem? (i := 56) rfl) rfl
theorem wd_1_57 : Cond.fieldLink RX4 28 "WindFrontiers$Strand" "tide" "I" ∈ AL := tb_1 (List.mem_of_getElem? (i := 57) rfl) rfl
theorem wd_1_58 : Cond.fieldLink RX0 67 "WindFrontiers$Strand" "tide" "I" ∈ AL := tb_1 (List.mem_of_getElem? (i := 58) rfl) rfl
theorem wd_1_59 : Cond.fieldLink RX6 147 "WindFrontiers$Strand" "tide" "I" ∈ AL := tb_1 (List.mem_of_getElem? (i := 59) rfl) rfl
theorem wd_1_60 : Cond.fieldLink RX4 18 "WindFrontiers$Strand" "held" "[I" ∈ AL := tb_1 (List.mem_of_getElem? (i := 60) rfl) rfl
theorem wd_1_61 : Cond.lays RX4 "WindFrontiers$Strand" "wide" "I" ∈ AL := tb_1 (List.mem_of_getElem? (i := 61) rfl) rfl
theorem wd_1_63 : Cond.lays RX4 "WindFrontiers$Strand" "rows" "I" ∈ AL := tb_1 (List.mem_of_getElem? (i := 63) rfl) rfl
theorem wd_1_65 : Cond.lays RX4 "WindFrontiers$Strand" "cloth" "I" ∈ AL := tb_1 (List.mem_of_getElem? (i := 65) rfl) rfl
theorem wd_1_67 : Cond.lays RX4 "WindFrontiers$Strand" "wind" "I" ∈ AL := tb_1 (List.mem_of_getElem? (i := 67) rfl) rfl
theorem wd_1_69 : Cond.lays RX4 "WindFrontiers$Strand" "tide" "I" ∈ AL := tb_1 (List.mem_of_getElem? (i := 69) rfl) rfl
theorem wd_1_71 : Cond.laysFinal RX4 "WindFrontiers$Strand" "held" "[I" ∈ AL := tb_1 (List.mem_of_getElem? (i := 71) rfl) rfl
theorem wd_1_74 : Cond.fieldLink RX1 12 "WindFrontiers$Reader" "text" "LWindFrontiers$Text;" ∈ AL := tb_1 (List.mem_of_getElem? (i := 74) rfl) rfl
theorem wd_1_75 : Cond.fieldLink RX6 16 "WindFrontiers$Reader" "text" "LWindFrontiers$Text;" ∈ AL := tb_1 (List.mem_of_getElem? (i := 75) rfl) rfl
theorem wd_1_76 : Cond.fieldLink RX1 21 "WindFrontiers$Reader" "draft" "LWindFrontiers$Strand;" ∈ AL := tb_1 (List.mem_of_getElem? (i := 76) rfl) rfl
theorem wd_1_77 : Cond.fieldLink RX6 73 "WindFrontiers$Reader" "draft" "LWindFrontiers$Strand;" ∈ AL := tb_1 (List.mem_of_getElem? (i := 77) rfl) rfl
theorem wd_1_78 : Cond.fieldLink RX1 28 "WindFrontiers$Reader" "place" "I" ∈ AL := tb_1 (List.mem_of_getElem? (i := 78) rfl) rfl
theorem wd_1_79 : Cond.fieldLink RX1 49 "WindFrontiers$Reader" "start" "I" ∈ AL := tb_1 (List.mem_of_getElem? (i := 79) rfl) rfl
theorem wd_1_80 : Cond.fieldLink RX1 42 "WindFrontiers$Reader" "token" "I" ∈ AL := tb_1 (List.mem_of_getElem? (i := 80) rfl) rfl
theorem wd_1_81 : Cond.fieldLink RX1 52 "WindFrontiers$Reader" "value" "I" ∈ AL := tb_1 (List.mem_of_getElem? (i := 81) rfl) rfl
theorem wd_1_82 : Cond.fieldLink RX1 32 "WindFrontiers$Reader" "items" "I" ∈ AL := tb_1 (List.mem_of_getElem? (i := 82) rfl) rfl
theorem wd_1_83 : Cond.fieldLink RX1 35 "WindFrontiers$Reader" "windTold" "Z" ∈ AL := tb_1 (List.mem_of_getElem? (i := 83) rfl) rfl
theorem wd_1_84 : Cond.laysFinal RX1 "WindFrontiers$Reader" "text" "LWindFrontiers$Text;" ∈ AL := tb_1 (List.mem_of_getElem? (i := 84) rfl) rfl
theorem wd_1_86 : Cond.laysFinal RX1 "WindFrontiers$Reader" "draft" "LWindFrontiers$Strand;" ∈ AL := tb_1 (List.mem_of_getElem? (i := 86) rfl) rfl
theorem wd_1_88 : Cond.lays RX1 "WindFrontiers$Reader" "place" "I" ∈ AL := tb_1 (List.mem_of_getElem? (i := 88) rfl) rfl
theorem wd_1_90 : Cond.lays RX1 "WindFrontiers$Reader" "start" "I" ∈ AL := tb_1 (List.mem_of_getElem? (i := 90) rfl) rfl
theorem wd_1_92 : Cond.lays RX1 "WindFrontiers$Reader" "token" "I" ∈ AL := tb_1 (List.mem_of_getElem? (i := 92) rfl) rfl
theorem wd_1_94 : Cond.lays RX1 "WindFrontiers$Reader" "value" "I" ∈ AL := tb_1 (List.mem_of_getElem? (i := 94) rfl) rfl
theorem wd_1_96 : Cond.lays RX1 "WindFrontiers$Reader" "items" "I" ∈ AL := tb_1 (List.mem_of_getElem? (i := 96) rfl) rfl
theorem wd_1_98 : Cond.lays RX1 "WindFrontiers$Reader" "windTold" "Z" ∈ AL := tb_1 (List.mem_of_getElem? (i := 98) rfl) rfl
theorem wd_1_101 : Cond.classLink RX6 21 RX3 ∈ AL := tb_1 (List.mem_of_getElem? (i := 101) rfl) rfl
theorem wd_1_102 : Cond.instantiable RX3 4 ∈ AL := tb_1 (List.mem_of_getElem? (i := 102) rfl) rfl
theorem wd_1_103 : Cond.methodLink RX6 23 yX3_init ∈ AL := tb_1 (List.mem_of_getElem? (i := 103) rfl) rfl
theorem wd_1_104 : Cond.instanceMethod yX3_init ∈ AL := tb_1 (List.mem_of_getElem? (i := 104) rfl) rfl
theorem wd_1_105 : Cond.code yX3_init cX3_init 2 none ∈ AL := tb_1 (List.mem_of_getElem? (i := 105) rfl) rfl
theorem wd_1_106 : Cond.methodLink RX3 3 objectInit ∈ AL := tb_1 (List.mem_of_getElem? (i := 106) rfl) rfl
theorem wd_1_107 : Cond.classLink RX3 9 RX4 ∈ AL := tb_1 (List.mem_of_getElem? (i := 107) rfl) rfl
theorem wn_1_108 : Cond.methodLinkNest RX3 11 yX4_init "WindFrontiers" ∈ lw_tbl := List.mem_append_right _ (List.mem_append_left _ (List.mem_of_getElem? (i := 108) rfl))
theorem wn_1_109 : Cond.arrayOver (FieldType.object "WindFrontiers$Strand") ∈ lw_tbl := List.mem_append_right _ (List.mem_append_left _ (List.mem_of_getElem? (i := 109) rfl))
theorem wd_1_110 : Cond.fieldLink RX3 12 "WindFrontiers$Story" "present" "LWindFrontiers$Strand;" ∈ AL := tb_1 (List.mem_of_getElem? (i := 110) rfl) rfl
theorem wd_1_111 : Cond.fieldLink RX6 28 "WindFrontiers$Story" "present" "LWindFrontiers$Strand;" ∈ AL := tb_1 (List.mem_of_getElem? (i := 111) rfl) rfl
theorem wd_1_112 : Cond.fieldLink RX3 18 "WindFrontiers$Story" "before" "[LWindFrontiers$Strand;" ∈ AL := tb_1 (List.mem_of_getElem? (i := 112) rfl) rfl
theorem wd_1_113 : Cond.fieldLink RX3 22 "WindFrontiers$Story" "undoable" "I" ∈ AL := tb_1 (List.mem_of_getElem? (i := 113) rfl) rfl
theorem wd_1_114 : Cond.fieldLink RX6 82 "WindFrontiers$Story" "undoable" "I" ∈ AL := tb_1 (List.mem_of_getElem? (i := 114) rfl) rfl
theorem wd_1_115 : Cond.fieldLink RX6 85 "WindFrontiers$Story" "kept" "Z" ∈ AL := tb_1 (List.mem_of_getElem? (i := 115) rfl) rfl
theorem wd_1_116 : Cond.laysFinal RX3 "WindFrontiers$Story" "present" "LWindFrontiers$Strand;" ∈ AL := tb_1 (List.mem_of_getElem? (i := 116) rfl) rfl
theorem wd_1_118 : Cond.laysFinal RX3 "WindFrontiers$Story" "before" "[LWindFrontiers$Strand;" ∈ AL := tb_1 (List.mem_of_getElem? (i := 118) rfl) rfl
theorem wd_1_120 : Cond.lays RX3 "WindFrontiers$Story" "undoable" "I" ∈ AL := tb_1 (List.mem_of_getElem? (i := 120) rfl) rfl
theorem wd_1_122 : Cond.lays RX3 "WindFrontiers$Story" "kept" "Z" ∈ AL := tb_1 (List.mem_of_getElem? (i := 122) rfl) rfl
theorem wd_1_125 : Cond.classLink RX6 41 RX2 ∈ AL := tb_1 (List.mem_of_getElem? (i := 125) rfl) rfl
theorem wd_1_126 : Cond.instantiable RX2 5 ∈ AL := tb_1 (List.mem_of_getElem? (i := 126) rfl) rfl
theorem wn_1_127 : Cond.methodLinkNest RX6 43 yX2_init "WindFrontiers" ∈ lw_tbl := List.mem_append_right _ (List.mem_append_left _ (List.mem_of_getElem? (i := 127) rfl))
theorem wd_1_128 : Cond.instanceMethod yX2_init ∈ AL := tb_1 (List.mem_of_getElem? (i := 128) rfl) rfl
theorem wd_1_129 : Cond.code yX2_init cX2_init 1 none ∈ AL := tb_1 (List.mem_of_getElem? (i := 129) rfl) rfl
theorem wd_1_130 : Cond.methodLink RX2 3 objectInit ∈ AL := tb_1 (List.mem_of_getElem? (i := 130) rfl) rfl
theorem wd_1_131 : Cond.fieldLink RX2 9 "WindFrontiers$Seen" "much" "I" ∈ AL := tb_1 (List.mem_of_getElem? (i := 131) rfl) rfl
theorem wd_1_132 : Cond.fieldLink RX6 183 "WindFrontiers$Seen" "much" "I" ∈ AL := tb_1 (List.mem_of_getElem? (i := 132) rfl) rfl
theorem wd_1_133 : Cond.fieldLink RX2 15 "WindFrontiers$Seen" "stillByLeft" "I" ∈ AL := tb_1 (List.mem_of_getElem? (i := 133) rfl) rfl
theorem wd_1_134 : Cond.fieldLink RX2 18 "WindFrontiers$Seen" "stillByRight" "I" ∈ AL := tb_1 (List.mem_of_getElem? (i := 134) rfl) rfl
theorem wd_1_135 : Cond.fieldLink RX2 21 "WindFrontiers$Seen" "openByLeft" "I" ∈ AL := tb_1 (List.mem_of_getElem? (i := 135) rfl) rfl
theorem wd_1_136 : Cond.fieldLink RX2 24 "WindFrontiers$Seen" "openByRight" "I" ∈ AL := tb_1 (List.mem_of_getElem? (i := 136) rfl) rfl
theorem wd_1_137 : Cond.lays RX2 "WindFrontiers$Seen" "much" "I" ∈ AL := tb_1 (List.mem_of_getElem? (i := 137) rfl) rfl
theorem wd_1_139 : Cond.lays RX2 "WindFrontiers$Seen" "stillByLeft" "I" ∈ AL := tb_1 (List.mem_of_getElem? (i := 139) rfl) rfl
theorem wd_1_141 : Cond.lays RX2 "WindFrontiers$Seen" "stillByRight" "I" ∈ AL := tb_1 (List.mem_of_getElem? (i := 141) rfl) rfl
theorem wd_1_143 : Cond.lays RX2 "WindFrontiers$Seen" "openByLeft" "I" ∈ AL := tb_1 (List.mem_of_getElem? (i := 143) rfl) rfl
theorem wd_1_145 : Cond.lays RX2 "WindFrontiers$Seen" "openByRight" "I" ∈ AL := tb_1 (List.mem_of_getElem? (i := 145) rfl) rfl
theorem wd_1_148 : Cond.classLink RX6 48 RX0 ∈ AL := tb_1 (List.mem_of_getElem? (i := 148) rfl) rfl
theorem wd_1_149 : Cond.instantiable RX0 1 ∈ AL := tb_1 (List.mem_of_getElem? (i := 149) rfl) rfl
theorem wn_1_150 : Cond.methodLinkNest RX6 50 yX0_init "WindFrontiers" ∈ lw_tbl := List.mem_append_right _ (List.mem_append_left _ (List.mem_of_getElem? (i := 150) rfl))
theorem wd_1_151 : Cond.instanceMethod yX0_init ∈ AL := tb_1 (List.mem_of_getElem? (i := 151) rfl) rfl
theorem wd_1_152 : Cond.code yX0_init cX0_init 1 none ∈ AL := tb_1 (List.mem_of_getElem? (i := 152) rfl) rfl
theorem wd_1_153 : Cond.methodLink RX0 3 objectInit ∈ AL := tb_1 (List.mem_of_getElem? (i := 153) rfl) rfl
theorem wd_1_154 : Cond.fieldLink RX0 34 "WindFrontiers$Marks" "sum" "J" ∈ AL := tb_1 (List.mem_of_getElem? (i := 154) rfl) rfl
theorem wd_1_155 : Cond.fieldLink RX6 204 "WindFrontiers$Marks" "sum" "J" ∈ AL := tb_1 (List.mem_of_getElem? (i := 155) rfl) rfl
theorem wd_1_156 : Cond.lays RX0 "WindFrontiers$Marks" "sum" "J" ∈ AL := tb_1 (List.mem_of_getElem? (i := 156) rfl) rfl
theorem wd_1_159 : Cond.fieldLink RX6 12 "WindFrontiers" "reader" "LWindFrontiers$Reader;" ∈ AL := tb_1 (List.mem_of_getElem? (i := 159) rfl) rfl
theorem wd_1_160 : Cond.fieldLink RX6 20 "WindFrontiers" "text" "LWindFrontiers$Text;" ∈ AL := tb_1 (List.mem_of_getElem? (i := 160) rfl) rfl
theorem wd_1_161 : Cond.fieldLink RX6 24 "WindFrontiers" "story" "LWindFrontiers$Story;" ∈ AL := tb_1 (List.mem_of_getElem? (i := 161) rfl) rfl
theorem wd_1_162 : Cond.fieldLink RX6 32 "WindFrontiers" "shore" "LWindFrontiers$Strand;" ∈ AL := tb_1 (List.mem_of_getElem? (i := 162) rfl) rfl
theorem wd_1_163 : Cond.fieldLink RX6 35 "WindFrontiers" "firstImage" "LWindFrontiers$Story;" ∈ AL := tb_1 (List.mem_of_getElem? (i := 163) rfl) rfl
theorem wd_1_164 : Cond.fieldLink RX6 38 "WindFrontiers" "secondImage" "LWindFrontiers$Story;" ∈ AL := tb_1 (List.mem_of_getElem? (i := 164) rfl) rfl
theorem wd_1_165 : Cond.fieldLink RX6 44 "WindFrontiers" "seen" "LWindFrontiers$Seen;" ∈ AL := tb_1 (List.mem_of_getElem? (i := 165) rfl) rfl
theorem wd_1_166 : Cond.fieldLink RX6 51 "WindFrontiers" "marks" "LWindFrontiers$Marks;" ∈ AL := tb_1 (List.mem_of_getElem? (i := 166) rfl) rfl
theorem wd_1_167 : Cond.laysFinal RX6 "WindFrontiers" "reader" "LWindFrontiers$Reader;" ∈ AL := tb_1 (List.mem_of_getElem? (i := 167) rfl) rfl
theorem wd_1_169 : Cond.laysFinal RX6 "WindFrontiers" "text" "LWindFrontiers$Text;" ∈ AL := tb_1 (List.mem_of_getElem? (i := 169) rfl) rfl
theorem wd_1_171 : Cond.laysFinal RX6 "WindFrontiers" "story" "LWindFrontiers$Story;" ∈ AL := tb_1 (List.mem_of_getElem? (i := 171) rfl) rfl
theorem wd_1_173 : Cond.laysFinal RX6 "WindFrontiers" "shore" "LWindFrontiers$Strand;" ∈ AL := tb_1 (List.mem_of_getElem? (i := 173) rfl) rfl
theorem wd_1_175 : Cond.laysFinal RX6 "WindFrontiers" "firstImage" "LWindFrontiers$Story;" ∈ AL := tb_1 (List.mem_of_getElem? (i := 175) rfl) rfl
theorem wd_1_177 : Cond.laysFinal RX6 "WindFrontiers" "secondImage" "LWindFrontiers$Story;" ∈ AL := tb_1 (List.mem_of_getElem? (i := 177) rfl) rfl
theorem wd_1_179 : Cond.laysFinal RX6 "WindFrontiers" "seen" "LWindFrontiers$Seen;" ∈ AL := tb_1 (List.mem_of_getElem? (i := 179) rfl) rfl
theorem wd_1_181 : Cond.laysFinal RX6 "WindFrontiers" "marks" "LWindFrontiers$Marks;" ∈ AL := tb_1 (List.mem_of_getElem? (i := 181) rfl) rfl
theorem wd_1_184 : Cond.methodLink RL 13 yX6_type ∈ AL := tb_1 (List.mem_of_getElem? (i := 184) rfl) rfl
theorem wd_1_185 : Cond.instanceMethod yX6_type ∈ AL := tb_1 (List.mem_of_getElem? (i := 185) rfl) rfl
theorem wd_1_186 : Cond.selects RX6 yX6_type yX6_type ∈ AL := tb_1 (List.mem_of_getElem? (i := 186) rfl) rfl
theorem wd_1_187 : Cond.code yX6_type cX6_type 2 (some .int) ∈ AL := tb_1 (List.mem_of_getElem? (i := 187) rfl) rfl
theorem wd_1_188 : Cond.methodLink RX6 55 yX6_isWithin ∈ AL := tb_1 (List.mem_of_getElem? (i := 188) rfl) rfl
theorem wd_1_189 : Cond.static yX6_isWithin ∈ AL := tb_1 (List.mem_of_getElem? (i := 189) rfl) rfl
theorem wd_1_190 : Cond.code yX6_isWithin cX6_isWithin 2 (some .boolean) ∈ AL := tb_1 (List.mem_of_getElem? (i := 190) rfl) rfl
theorem wd_1_191 : Cond.methodLink RX6 59 yX5_append ∈ AL := tb_1 (List.mem_of_getElem? (i := 191) rfl) rfl
theorem wd_1_192 : Cond.instanceMethod yX5_append ∈ AL := tb_1 (List.mem_of_getElem? (i := 192) rfl) rfl
theorem wd_1_193 : Cond.selects RX5 yX5_append yX5_append ∈ AL := tb_1 (List.mem_of_getElem? (i := 193) rfl) rfl
theorem wd_1_194 : Cond.code yX5_append cX5_append 2 (some .boolean) ∈ AL := tb_1 (List.mem_of_getElem? (i := 194) rfl) rfl
theorem wd_1_195 : Cond.methodLink RL 18 yX6_clear ∈ AL := tb_1 (List.mem_of_getElem? (i := 195) rfl) rfl
theorem wd_1_196 : Cond.instanceMethod yX6_clear ∈ AL := tb_1 (List.mem_of_getElem? (i := 196) rfl) rfl
theorem wd_1_197 : Cond.selects RX6 yX6_clear yX6_clear ∈ AL := tb_1 (List.mem_of_getElem? (i := 197) rfl) rfl
theorem wd_1_198 : Cond.code yX6_clear cX6_clear 2 (some .int) ∈ AL := tb_1 (List.mem_of_getElem? (i := 198) rfl) rfl
theorem wd_1_199 : Cond.methodLink RL 23 yX6_strand ∈ AL := tb_1 (List.mem_of_getElem? (i := 199) rfl) rfl
theorem wd_1_200 : Cond.instanceMethod yX6_strand ∈ AL := tb_1 (List.mem_of_getElem? (i := 200) rfl) rfl
theorem wd_1_201 : Cond.selects RX6 yX6_strand yX6_strand ∈ AL := tb_1 (List.mem_of_getElem? (i := 201) rfl) rfl
theorem wd_1_202 : Cond.code yX6_strand cX6_strand 2 (some .int) ∈ AL := tb_1 (List.mem_of_getElem? (i := 202) rfl) rfl
theorem wd_1_203 : Cond.methodLink RX6 69 yX1_readAll ∈ AL := tb_1 (List.mem_of_getElem? (i := 203) rfl) rfl
theorem wd_1_204 : Cond.instanceMethod yX1_readAll ∈ AL := tb_1 (List.mem_of_getElem? (i := 204) rfl) rfl
theorem wd_1_205 : Cond.selects RX1 yX1_readAll yX1_readAll ∈ AL := tb_1 (List.mem_of_getElem? (i := 205) rfl) rfl
theorem wd_1_206 : Cond.code yX1_readAll cX1_readAll 2 (some .int) ∈ AL := tb_1 (List.mem_of_getElem? (i := 206) rfl) rfl
theorem wd_1_207 : Cond.methodLink RX1 25 yX4_startAnew ∈ AL := tb_1 (List.mem_of_getElem? (i := 207) rfl) rfl
theorem wd_1_208 : Cond.instanceMethod yX4_startAnew ∈ AL := tb_1 (List.mem_of_getElem? (i := 208) rfl) rfl
theorem wd_1_209 : Cond.selects RX4 yX4_startAnew yX4_startAnew ∈ AL := tb_1 (List.mem_of_getElem? (i := 209) rfl) rfl
theorem wd_1_210 : Cond.code yX4_startAnew cX4_startAnew 1 none ∈ AL := tb_1 (List.mem_of_getElem? (i := 210) rfl) rfl
theorem wd_1_211 : Cond.methodLink RX4 31 yX4_freeAllBut ∈ AL := tb_1 (List.mem_of_getElem? (i := 211) rfl) rfl
theorem wd_1_212 : Cond.instanceMethod yX4_freeAllBut ∈ AL := tb_1 (List.mem_of_getElem? (i := 212) rfl) rfl
theorem wd_1_213 : Cond.selects RX4 yX4_freeAllBut yX4_freeAllBut ∈ AL := tb_1 (List.mem_of_getElem? (i := 213) rfl) rfl
theorem wd_1_214 : Cond.code yX4_freeAllBut cX4_freeAllBut 3 none ∈ AL := tb_1 (List.mem_of_getElem? (i := 214) rfl) rfl
theorem wd_1_215 : Cond.methodLink RX1 39 yX1_readToken ∈ AL := tb_1 (List.mem_of_getElem? (i := 215) rfl) rfl
theorem wd_1_217 : Cond.instanceMethod yX1_readToken ∈ AL := tb_1 (List.mem_of_getElem? (i := 217) rfl) rfl
theorem wd_1_218 : Cond.code yX1_readToken cX1_readToken 4 none ∈ AL := tb_1 (List.mem_of_getElem? (i := 218) rfl) rfl
theorem wd_1_219 : Cond.methodLink RX1 102 yX5_byteAt ∈ AL := tb_1 (List.mem_of_getElem? (i := 219) rfl) rfl
theorem wd_1_220 : Cond.instanceMethod yX5_byteAt ∈ AL := tb_1 (List.mem_of_getElem? (i := 220) rfl) rfl
theorem wd_1_221 : Cond.selects RX5 yX5_byteAt yX5_byteAt ∈ AL := tb_1 (List.mem_of_getElem? (i := 221) rfl) rfl
theorem wd_1_222 : Cond.code yX5_byteAt cX5_byteAt 2 (some .int) ∈ AL := tb_1 (List.mem_of_getElem? (i := 222) rfl) rfl
theorem wd_1_223 : Cond.methodLink RX1 105 yX1_tokenOf ∈ AL := tb_1 (List.mem_of_getElem? (i := 223) rfl) rfl
theorem wd_1_224 : Cond.static yX1_tokenOf ∈ AL := tb_1 (List.mem_of_getElem? (i := 224) rfl) rfl
theorem wd_1_225 : Cond.code yX1_tokenOf cX1_tokenOf 1 (some .int) ∈ AL := tb_1 (List.mem_of_getElem? (i := 225) rfl) rfl
theorem wd_1_226 : Cond.methodLink RX1 45 yX1_isItem ∈ AL := tb_1 (List.mem_of_getElem? (i := 226) rfl) rfl
theorem wd_1_228 : Cond.instanceMethod yX1_isItem ∈ AL := tb_1 (List.mem_of_getElem? (i := 228) rfl) rfl
theorem wd_1_229 : Cond.code yX1_isItem cX1_isItem 1 (some .boolean) ∈ AL := tb_1 (List.mem_of_getElem? (i := 229) rfl) rfl
theorem wd_1_230 : Cond.methodLink RX1 55 yX1_isSize ∈ AL := tb_1 (List.mem_of_getElem? (i := 230) rfl) rfl
theorem wd_1_232 : Cond.instanceMethod yX1_isSize ∈ AL := tb_1 (List.mem_of_getElem? (i := 232) rfl) rfl
theorem wd_1_233 : Cond.code yX1_isSize cX1_isSize 1 (some .boolean) ∈ AL := tb_1 (List.mem_of_getElem? (i := 233) rfl) rfl
theorem wd_1_234 : Cond.methodLink RX1 70 yX1_isNumber ∈ AL := tb_1 (List.mem_of_getElem? (i := 234) rfl) rfl
theorem wd_1_236 : Cond.instanceMethod yX1_isNumber ∈ AL := tb_1 (List.mem_of_getElem? (i := 236) rfl) rfl
theorem wd_1_237 : Cond.code yX1_isNumber cX1_isNumber 3 (some .boolean) ∈ AL := tb_1 (List.mem_of_getElem? (i := 237) rfl) rfl
theorem wd_1_238 : Cond.methodLink RX1 58 yX1_isStop ∈ AL := tb_1 (List.mem_of_getElem? (i := 238) rfl) rfl
theorem wd_2_0 : Cond.instanceMethod yX1_isStop ∈ AL := tb_2 (List.mem_of_getElem? (i := 0) rfl) rfl
theorem wd_2_1 : Cond.code yX1_isStop cX1_isStop 1 (some .boolean) ∈ AL := tb_2 (List.mem_of_getElem? (i := 1) rfl) rfl
theorem wd_2_2 : Cond.methodLink RX1 61 yX1_isHolder ∈ AL := tb_2 (List.mem_of_getElem? (i := 2) rfl) rfl
theorem wd_2_4 : Cond.instanceMethod yX1_isHolder ∈ AL := tb_2 (List.mem_of_getElem? (i := 4) rfl) rfl
theorem wd_2_5 : Cond.code yX1_isHolder cX1_isHolder 3 (some .boolean) ∈ AL := tb_2 (List.mem_of_getElem? (i := 5) rfl) rfl
theorem wd_2_6 : Cond.methodLink RX1 80 yX4_heldByAny ∈ AL := tb_2 (List.mem_of_getElem? (i := 6) rfl) rfl
theorem wd_2_7 : Cond.instanceMethod yX4_heldByAny ∈ AL := tb_2 (List.mem_of_getElem? (i := 7) rfl) rfl
theorem wd_2_8 : Cond.selects RX4 yX4_heldByAny yX4_heldByAny ∈ AL := tb_2 (List.mem_of_getElem? (i := 8) rfl) rfl
theorem wd_2_9 : Cond.code yX4_heldByAny cX4_heldByAny 3 (some .int) ∈ AL := tb_2 (List.mem_of_getElem? (i := 9) rfl) rfl
theorem wd_2_10 : Cond.methodLink RX1 84 yX1_readFreeBit ∈ AL := tb_2 (List.mem_of_getElem? (i := 10) rfl) rfl
theorem wd_2_12 : Cond.instanceMethod yX1_readFreeBit ∈ AL := tb_2 (List.mem_of_getElem? (i := 12) rfl) rfl
theorem wd_2_13 : Cond.code yX1_readFreeBit cX1_readFreeBit 3 (some .int) ∈ AL := tb_2 (List.mem_of_getElem? (i := 13) rfl) rfl
theorem wn_2_14 : Cond.methodLinkNest RX1 98 yX6_bitOf "WindFrontiers" ∈ lw_tbl := List.mem_append_right _ (List.mem_append_right _ (List.mem_append_left _ (List.mem_of_getElem? (i := 14) rfl)))
theorem wd_2_15 : Cond.static yX6_bitOf ∈ AL := tb_2 (List.mem_of_getElem? (i := 15) rfl) rfl
theorem wd_2_16 : Cond.code yX6_bitOf cX6_bitOf 2 (some .int) ∈ AL := tb_2 (List.mem_of_getElem? (i := 16) rfl) rfl
theorem wd_2_17 : Cond.methodLink RX1 88 yX4_give ∈ AL := tb_2 (List.mem_of_getElem? (i := 17) rfl) rfl
theorem wd_2_18 : Cond.instanceMethod yX4_give ∈ AL := tb_2 (List.mem_of_getElem? (i := 18) rfl) rfl
theorem wd_2_19 : Cond.selects RX4 yX4_give yX4_give ∈ AL := tb_2 (List.mem_of_getElem? (i := 19) rfl) rfl
theorem wd_2_20 : Cond.code yX4_give cX4_give 3 none ∈ AL := tb_2 (List.mem_of_getElem? (i := 20) rfl) rfl
theorem wd_2_21 : Cond.methodLink RX1 64 yX1_isCloth ∈ AL := tb_2 (List.mem_of_getElem? (i := 21) rfl) rfl
theorem wd_2_23 : Cond.instanceMethod yX1_isCloth ∈ AL := tb_2 (List.mem_of_getElem? (i := 23) rfl) rfl
theorem wd_2_24 : Cond.code yX1_isCloth cX1_isCloth 2 (some .boolean) ∈ AL := tb_2 (List.mem_of_getElem? (i := 24) rfl) rfl
theorem wd_2_25 : Cond.methodLink RX1 67 yX1_isWind ∈ AL := tb_2 (List.mem_of_getElem? (i := 25) rfl) rfl
theorem wd_2_27 : Cond.instanceMethod yX1_isWind ∈ AL := tb_2 (List.mem_of_getElem? (i := 27) rfl) rfl
theorem wd_2_28 : Cond.code yX1_isWind cX1_isWind 1 (some .boolean) ∈ AL := tb_2 (List.mem_of_getElem? (i := 28) rfl) rfl
theorem wd_2_29 : Cond.methodLink RX6 76 yX4_becomes ∈ AL := tb_2 (List.mem_of_getElem? (i := 29) rfl) rfl
theorem wd_2_30 : Cond.instanceMethod yX4_becomes ∈ AL := tb_2 (List.mem_of_getElem? (i := 30) rfl) rfl
theorem wd_2_31 : Cond.selects RX4 yX4_becomes yX4_becomes ∈ AL := tb_2 (List.mem_of_getElem? (i := 31) rfl) rfl
theorem wd_2_32 : Cond.code yX4_becomes cX4_becomes 3 none ∈ AL := tb_2 (List.mem_of_getElem? (i := 32) rfl) rfl
theorem wd_2_33 : Cond.methodLink RX4 35 yX4_heldBy ∈ AL := tb_2 (List.mem_of_getElem? (i := 33) rfl) rfl
theorem wd_2_34 : Cond.instanceMethod yX4_heldBy ∈ AL := tb_2 (List.mem_of_getElem? (i := 34) rfl) rfl
theorem wd_2_35 : Cond.selects RX4 yX4_heldBy yX4_heldBy ∈ AL := tb_2 (List.mem_of_getElem? (i := 35) rfl) rfl
theorem wd_2_36 : Cond.code yX4_heldBy cX4_heldBy 2 (some .int) ∈ AL := tb_2 (List.mem_of_getElem? (i := 36) rfl) rfl
theorem wd_2_37 : Cond.methodLink RX6 89 yX2_dropAll ∈ AL := tb_2 (List.mem_of_getElem? (i := 37) rfl) rfl
theorem wd_2_38 : Cond.instanceMethod yX2_dropAll ∈ AL := tb_2 (List.mem_of_getElem? (i := 38) rfl) rfl
theorem wd_2_39 : Cond.selects RX2 yX2_dropAll yX2_dropAll ∈ AL := tb_2 (List.mem_of_getElem? (i := 39) rfl) rfl
theorem wd_2_40 : Cond.code yX2_dropAll cX2_dropAll 1 none ∈ AL := tb_2 (List.mem_of_getElem? (i := 40) rfl) rfl
theorem wd_2_41 : Cond.methodLink RL 27 yX6_cell ∈ AL := tb_2 (List.mem_of_getElem? (i := 41) rfl) rfl
theorem wd_2_42 : Cond.instanceMethod yX6_cell ∈ AL := tb_2 (List.mem_of_getElem? (i := 42) rfl) rfl
theorem wd_2_43 : Cond.selects RX6 yX6_cell yX6_cell ∈ AL := tb_2 (List.mem_of_getElem? (i := 43) rfl) rfl
theorem wd_2_44 : Cond.code yX6_cell cX6_cell 5 (some .int) ∈ AL := tb_2 (List.mem_of_getElem? (i := 44) rfl) rfl
theorem wd_2_45 : Cond.methodLink RX6 92 yX4_isCell ∈ AL := tb_2 (List.mem_of_getElem? (i := 45) rfl) rfl
theorem wd_2_46 : Cond.instanceMethod yX4_isCell ∈ AL := tb_2 (List.mem_of_getElem? (i := 46) rfl) rfl
theorem wd_2_47 : Cond.selects RX4 yX4_isCell yX4_isCell ∈ AL := tb_2 (List.mem_of_getElem? (i := 47) rfl) rfl
theorem wd_2_48 : Cond.code yX4_isCell cX4_isCell 3 (some .boolean) ∈ AL := tb_2 (List.mem_of_getElem? (i := 48) rfl) rfl
theorem wn_2_49 : Cond.methodLinkNest RX4 39 yX6_isWithin "WindFrontiers" ∈ lw_tbl := List.mem_append_right _ (List.mem_append_right _ (List.mem_append_left _ (List.mem_of_getElem? (i := 49) rfl)))
theorem wd_2_50 : Cond.methodLink RX6 95 yX6_bitOf ∈ AL := tb_2 (List.mem_of_getElem? (i := 50) rfl) rfl
theorem wd_2_51 : Cond.methodLink RX6 99 yX4_holderOf ∈ AL := tb_2 (List.mem_of_getElem? (i := 51) rfl) rfl
theorem wd_2_52 : Cond.instanceMethod yX4_holderOf ∈ AL := tb_2 (List.mem_of_getElem? (i := 52) rfl) rfl
theorem wd_2_53 : Cond.selects RX4 yX4_holderOf yX4_holderOf ∈ AL := tb_2 (List.mem_of_getElem? (i := 53) rfl) rfl
theorem wd_2_54 : Cond.code yX4_holderOf cX4_holderOf 3 (some .int) ∈ AL := tb_2 (List.mem_of_getElem? (i := 54) rfl) rfl
theorem wd_2_55 : Cond.methodLink RX6 106 yX6_oneIf ∈ AL := tb_2 (List.mem_of_getElem? (i := 55) rfl) rfl
theorem wd_2_56 : Cond.static yX6_oneIf ∈ AL := tb_2 (List.mem_of_getElem? (i := 56) rfl) rfl
theorem wd_2_57 : Cond.code yX6_oneIf cX6_oneIf 1 (some .int) ∈ AL := tb_2 (List.mem_of_getElem? (i := 57) rfl) rfl
theorem wd_2_58 : Cond.methodLink RX6 110 yX4_dryCells ∈ AL := tb_2 (List.mem_of_getElem? (i := 58) rfl) rfl
theorem wd_2_59 : Cond.instanceMethod yX4_dryCells ∈ AL := tb_2 (List.mem_of_getElem? (i := 59) rfl) rfl
theorem wd_2_60 : Cond.selects RX4 yX4_dryCells yX4_dryCells ∈ AL := tb_2 (List.mem_of_getElem? (i := 60) rfl) rfl
theorem wd_2_61 : Cond.code yX4_dryCells cX4_dryCells 1 (some .int) ∈ AL := tb_2 (List.mem_of_getElem? (i := 61) rfl) rfl
theorem wd_2_62 : Cond.methodLink RX4 43 yX4_cellsFrom ∈ AL := tb_2 (List.mem_of_getElem? (i := 62) rfl) rfl
theorem wd_2_64 : Cond.instanceMethod yX4_cellsFrom ∈ AL := tb_2 (List.mem_of_getElem? (i := 64) rfl) rfl
theorem wd_2_65 : Cond.code yX4_cellsFrom cX4_cellsFrom 4 (some .int) ∈ AL := tb_2 (List.mem_of_getElem? (i := 65) rfl) rfl
theorem wd_2_66 : Cond.methodLink RX4 50 yX4_rowOf ∈ AL := tb_2 (List.mem_of_getElem? (i := 66) rfl) rfl
theorem wd_2_68 : Cond.instanceMethod yX4_rowOf ∈ AL := tb_2 (List.mem_of_getElem? (i := 68) rfl) rfl
theorem wd_2_69 : Cond.code yX4_rowOf cX4_rowOf 2 (some .int) ∈ AL := tb_2 (List.mem_of_getElem? (i := 69) rfl) rfl
theorem wd_2_70 : Cond.methodLink RX6 113 yX4_stillBy ∈ AL := tb_2 (List.mem_of_getElem? (i := 70) rfl) rfl
theorem wd_2_71 : Cond.instanceMethod yX4_stillBy ∈ AL := tb_2 (List.mem_of_getElem? (i := 71) rfl) rfl
theorem wd_2_72 : Cond.selects RX4 yX4_stillBy yX4_stillBy ∈ AL := tb_2 (List.mem_of_getElem? (i := 72) rfl) rfl
theorem wd_2_73 : Cond.code yX4_stillBy cX4_stillBy 2 (some .int) ∈ AL := tb_2 (List.mem_of_getElem? (i := 73) rfl) rfl
theorem wd_2_74 : Cond.methodLink RX4 53 yX4_stillWith ∈ AL := tb_2 (List.mem_of_getElem? (i := 74) rfl) rfl
theorem wd_2_75 : Cond.instanceMethod yX4_stillWith ∈ AL := tb_2 (List.mem_of_getElem? (i := 75) rfl) rfl
theorem wd_2_76 : Cond.selects RX4 yX4_stillWith yX4_stillWith ∈ AL := tb_2 (List.mem_of_getElem? (i := 76) rfl) rfl
theorem wd_2_77 : Cond.code yX4_stillWith cX4_stillWith 4 (some .int) ∈ AL := tb_2 (List.mem_of_getElem? (i := 77) rfl) rfl
theorem wd_2_78 : Cond.methodLink RX4 57 yX4_rightOf ∈ AL := tb_2 (List.mem_of_getElem? (i := 78) rfl) rfl
theorem wd_2_79 : Cond.static yX4_rightOf ∈ AL := tb_2 (List.mem_of_getElem? (i := 79) rfl) rfl
theorem wd_2_80 : Cond.code yX4_rightOf cX4_rightOf 1 (some .int) ∈ AL := tb_2 (List.mem_of_getElem? (i := 80) rfl) rfl
theorem wd_2_81 : Cond.constant RX4 93 (-541201) ∈ AL := tb_2 (List.mem_of_getElem? (i := 81) rfl) rfl
theorem wd_2_82 : Cond.methodLink RX4 60 yX4_leftOf ∈ AL := tb_2 (List.mem_of_getElem? (i := 82) rfl) rfl
theorem wd_2_83 : Cond.static yX4_leftOf ∈ AL := tb_2 (List.mem_of_getElem? (i := 83) rfl) rfl
theorem wd_2_84 : Cond.code yX4_leftOf cX4_leftOf 1 (some .int) ∈ AL := tb_2 (List.mem_of_getElem? (i := 84) rfl) rfl
theorem wd_2_85 : Cond.constant RX4 94 (-33826) ∈ AL := tb_2 (List.mem_of_getElem? (i := 85) rfl) rfl
theorem wd_2_86 : Cond.methodLink RX4 46 yX4_dryCells ∈ AL := tb_2 (List.mem_of_getElem? (i := 86) rfl) rfl
theorem wd_2_87 : Cond.methodLink RL 32 yX6_family ∈ AL := tb_2 (List.mem_of_getElem? (i := 87) rfl) rfl
theorem wd_2_88 : Cond.instanceMethod yX6_family ∈ AL := tb_2 (List.mem_of_getElem? (i := 88) rfl) rfl
theorem wd_2_89 : Cond.selects RX6 yX6_family yX6_family ∈ AL := tb_2 (List.mem_of_getElem? (i := 89) rfl) rfl
theorem wd_2_90 : Cond.code yX6_family cX6_family 3 (some .int) ∈ AL := tb_2 (List.mem_of_getElem? (i := 90) rfl) rfl
theorem wd_2_91 : Cond.methodLink RX6 116 yX6_isFamily ∈ AL := tb_2 (List.mem_of_getElem? (i := 91) rfl) rfl
theorem wd_2_92 : Cond.static yX6_isFamily ∈ AL := tb_2 (List.mem_of_getElem? (i := 92) rfl) rfl
theorem wd_2_93 : Cond.code yX6_isFamily cX6_isFamily 1 (some .boolean) ∈ AL := tb_2 (List.mem_of_getElem? (i := 93) rfl) rfl
theorem wd_2_94 : Cond.methodLink RX6 119 yX4_heldBy ∈ AL := tb_2 (List.mem_of_getElem? (i := 94) rfl) rfl
theorem wd_2_95 : Cond.methodLink RX6 122 yX4_shelterOf ∈ AL := tb_2 (List.mem_of_getElem? (i := 95) rfl) rfl
theorem wd_2_96 : Cond.instanceMethod yX4_shelterOf ∈ AL := tb_2 (List.mem_of_getElem? (i := 96) rfl) rfl
theorem wd_2_97 : Cond.selects RX4 yX4_shelterOf yX4_shelterOf ∈ AL := tb_2 (List.mem_of_getElem? (i := 97) rfl) rfl
theorem wd_2_98 : Cond.code yX4_shelterOf cX4_shelterOf 2 (some .int) ∈ AL := tb_2 (List.mem_of_getElem? (i := 98) rfl) rfl
theorem wd_2_99 : Cond.methodLink RX4 63 yX4_shelterWith ∈ AL := tb_2 (List.mem_of_getElem? (i := 99) rfl) rfl
theorem wd_2_100 : Cond.instanceMethod yX4_shelterWith ∈ AL := tb_2 (List.mem_of_getElem? (i := 100) rfl) rfl
theorem wd_2_101 : Cond.selects RX4 yX4_shelterWith yX4_shelterWith ∈ AL := tb_2 (List.mem_of_getElem? (i := 101) rfl) rfl
theorem wd_2_102 : Cond.code yX4_shelterWith cX4_shelterWith 3 (some .int) ∈ AL := tb_2 (List.mem_of_getElem? (i := 102) rfl) rfl
theorem wd_2_103 : Cond.methodLink RX4 66 yJ6_bitCount_0f7a4 ∈ AL := tb_2 (List.mem_of_getElem? (i := 103) rfl) rfl
theorem wd_2_104 : Cond.static yJ6_bitCount_0f7a4 ∈ AL := tb_2 (List.mem_of_getElem? (i := 104) rfl) rfl
theorem wd_2_105 : Cond.code yJ6_bitCount_0f7a4 cJ6_bitCount_0f7a4 1 (some .int) ∈ AL := tb_2 (List.mem_of_getElem? (i := 105) rfl) rfl
theorem wd_2_106 : Cond.constant RJ6 265 (1431655765) ∈ AL := tb_2 (List.mem_of_getElem? (i := 106) rfl) rfl
theorem wd_2_107 : Cond.constant RJ6 266 (858993459) ∈ AL := tb_2 (List.mem_of_getElem? (i := 107) rfl) rfl
theorem wd_2_108 : Cond.constant RJ6 267 (252645135) ∈ AL := tb_2 (List.mem_of_getElem? (i := 108) rfl) rfl
theorem wd_2_109 : Cond.methodLink RX6 125 yX4_losesAfter ∈ AL := tb_2 (List.mem_of_getElem? (i := 109) rfl) rfl
theorem wd_2_110 : Cond.instanceMethod yX4_losesAfter ∈ AL := tb_2 (List.mem_of_getElem? (i := 110) rfl) rfl
theorem wd_2_111 : Cond.selects RX4 yX4_losesAfter yX4_losesAfter ∈ AL := tb_2 (List.mem_of_getElem? (i := 111) rfl) rfl
theorem wd_2_112 : Cond.code yX4_losesAfter cX4_losesAfter 3 (some .int) ∈ AL := tb_2 (List.mem_of_getElem? (i := 112) rfl) rfl
theorem wd_2_113 : Cond.methodLink RL 37 yX6_takes ∈ AL := tb_2 (List.mem_of_getElem? (i := 113) rfl) rfl
theorem wd_2_114 : Cond.instanceMethod yX6_takes ∈ AL := tb_2 (List.mem_of_getElem? (i := 114) rfl) rfl
theorem wd_2_115 : Cond.selects RX6 yX6_takes yX6_takes ∈ AL := tb_2 (List.mem_of_getElem? (i := 115) rfl) rfl
theorem wd_2_116 : Cond.code yX6_takes cX6_takes 5 (some .int) ∈ AL := tb_2 (List.mem_of_getElem? (i := 116) rfl) rfl
theorem wd_2_117 : Cond.methodLink RX6 128 yX3_remember ∈ AL := tb_2 (List.mem_of_getElem? (i := 117) rfl) rfl
theorem wd_2_118 : Cond.instanceMethod yX3_remember ∈ AL := tb_2 (List.mem_of_getElem? (i := 118) rfl) rfl
theorem wd_2_119 : Cond.selects RX3 yX3_remember yX3_remember ∈ AL := tb_2 (List.mem_of_getElem? (i := 119) rfl) rfl
theorem wd_2_120 : Cond.code yX3_remember cX3_remember 1 none ∈ AL := tb_2 (List.mem_of_getElem? (i := 120) rfl) rfl
theorem wd_2_121 : Cond.methodLink RX3 26 yX3_dropOldest ∈ AL := tb_2 (List.mem_of_getElem? (i := 121) rfl) rfl
theorem wd_2_123 : Cond.instanceMethod yX3_dropOldest ∈ AL := tb_2 (List.mem_of_getElem? (i := 123) rfl) rfl
theorem wd_2_124 : Cond.code yX3_dropOldest cX3_dropOldest 2 none ∈ AL := tb_2 (List.mem_of_getElem? (i := 124) rfl) rfl
theorem wd_2_125 : Cond.methodLink RX3 29 yX3_beforeAt ∈ AL := tb_2 (List.mem_of_getElem? (i := 125) rfl) rfl
theorem wd_2_127 : Cond.instanceMethod yX3_beforeAt ∈ AL := tb_2 (List.mem_of_getElem? (i := 127) rfl) rfl
theorem wd_2_128 : Cond.code yX3_beforeAt cX3_beforeAt 2 (some (FieldType.object "WindFrontiers$Strand")) ∈ AL := tb_2 (List.mem_of_getElem? (i := 128) rfl) rfl
theorem wd_2_129 : Cond.methodLink RX3 33 yX3_copy ∈ AL := tb_2 (List.mem_of_getElem? (i := 129) rfl) rfl
theorem wd_2_130 : Cond.static yX3_copy ∈ AL := tb_2 (List.mem_of_getElem? (i := 130) rfl) rfl
theorem wd_2_131 : Cond.code yX3_copy cX3_copy 2 none ∈ AL := tb_2 (List.mem_of_getElem? (i := 131) rfl) rfl
theorem wd_2_132 : Cond.methodLink RX3 37 yX4_becomes ∈ AL := tb_2 (List.mem_of_getElem? (i := 132) rfl) rfl
theorem wd_2_133 : Cond.methodLink RX6 131 yX4_give ∈ AL := tb_2 (List.mem_of_getElem? (i := 133) rfl) rfl
theorem wd_2_134 : Cond.methodLink RX6 135 yJ6_bitCount_0f7a4 ∈ AL := tb_2 (List.mem_of_getElem? (i := 134) rfl) rfl
theorem wd_2_135 : Cond.methodLink RL 41 yX6_leaves ∈ AL := tb_2 (List.mem_of_getElem? (i := 135) rfl) rfl
theorem wd_2_136 : Cond.instanceMethod yX6_leaves ∈ AL := tb_2 (List.mem_of_getElem? (i := 136) rfl) rfl
theorem wd_2_137 : Cond.selects RX6 yX6_leaves yX6_leaves ∈ AL := tb_2 (List.mem_of_getElem? (i := 137) rfl) rfl
theorem wd_2_138 : Cond.code yX6_leaves cX6_leaves 5 (some .int) ∈ AL := tb_2 (List.mem_of_getElem? (i := 138) rfl) rfl
theorem wd_2_139 : Cond.methodLink RX6 140 yX4_freeAllBut ∈ AL := tb_2 (List.mem_of_getElem? (i := 139) rfl) rfl
theorem wd_2_140 : Cond.methodLink RL 45 yX6_puts ∈ AL := tb_2 (List.mem_of_getElem? (i := 140) rfl) rfl
theorem wd_2_141 : Cond.instanceMethod yX6_puts ∈ AL := tb_2 (List.mem_of_getElem? (i := 141) rfl) rfl
theorem wd_2_142 : Cond.selects RX6 yX6_puts yX6_puts ∈ AL := tb_2 (List.mem_of_getElem? (i := 142) rfl) rfl
theorem wd_2_143 : Cond.code yX6_puts cX6_puts 5 (some .int) ∈ AL := tb_2 (List.mem_of_getElem? (i := 143) rfl) rfl
theorem wd_2_144 : Cond.methodLink RL 49 yX6_veers ∈ AL := tb_2 (List.mem_of_getElem? (i := 144) rfl) rfl
theorem wd_2_145 : Cond.instanceMethod yX6_veers ∈ AL := tb_2 (List.mem_of_getElem? (i := 145) rfl) rfl
theorem wd_2_146 : Cond.selects RX6 yX6_veers yX6_veers ∈ AL := tb_2 (List.mem_of_getElem? (i := 146) rfl) rfl
theorem wd_2_147 : Cond.code yX6_veers cX6_veers 1 (some .int) ∈ AL := tb_2 (List.mem_of_getElem? (i := 147) rfl) rfl
theorem wd_2_148 : Cond.methodLink RL 53 yX6_tide ∈ AL := tb_2 (List.mem_of_getElem? (i := 148) rfl) rfl
theorem wd_2_149 : Cond.instanceMethod yX6_tide ∈ AL := tb_2 (List.mem_of_getElem? (i := 149) rfl) rfl
theorem wd_2_150 : Cond.selects RX6 yX6_tide yX6_tide ∈ AL := tb_2 (List.mem_of_getElem? (i := 150) rfl) rfl
theorem wd_2_151 : Cond.code yX6_tide cX6_tide 3 (some .int) ∈ AL := tb_2 (List.mem_of_getElem? (i := 151) rfl) rfl
theorem wd_2_152 : Cond.methodLink RX6 153 yX4_tideBecomes ∈ AL := tb_2 (List.mem_of_getElem? (i := 152) rfl) rfl
theorem wd_2_153 : Cond.instanceMethod yX4_tideBecomes ∈ AL := tb_2 (List.mem_of_getElem? (i := 153) rfl) rfl
theorem wd_2_154 : Cond.selects RX4 yX4_tideBecomes yX4_tideBecomes ∈ AL := tb_2 (List.mem_of_getElem? (i := 154) rfl) rfl
theorem wd_2_155 : Cond.code yX4_tideBecomes cX4_tideBecomes 2 none ∈ AL := tb_2 (List.mem_of_getElem? (i := 155) rfl) rfl
theorem wd_2_156 : Cond.methodLink RL 57 yX6_undo ∈ AL := tb_2 (List.mem_of_getElem? (i := 156) rfl) rfl
theorem wd_2_157 : Cond.instanceMethod yX6_undo ∈ AL := tb_2 (List.mem_of_getElem? (i := 157) rfl) rfl
theorem wd_2_158 : Cond.selects RX6 yX6_undo yX6_undo ∈ AL := tb_2 (List.mem_of_getElem? (i := 158) rfl) rfl
theorem wd_2_159 : Cond.code yX6_undo cX6_undo 1 (some .int) ∈ AL := tb_2 (List.mem_of_getElem? (i := 159) rfl) rfl
theorem wd_2_160 : Cond.methodLink RX6 156 yX3_goBack ∈ AL := tb_2 (List.mem_of_getElem? (i := 160) rfl) rfl
theorem wd_2_161 : Cond.instanceMethod yX3_goBack ∈ AL := tb_2 (List.mem_of_getElem? (i := 161) rfl) rfl
theorem wd_2_162 : Cond.selects RX3 yX3_goBack yX3_goBack ∈ AL := tb_2 (List.mem_of_getElem? (i := 162) rfl) rfl
theorem wd_2_163 : Cond.code yX3_goBack cX3_goBack 1 (some .boolean) ∈ AL := tb_2 (List.mem_of_getElem? (i := 163) rfl) rfl
theorem wd_2_164 : Cond.methodLink RL 61 yX6_now ∈ AL := tb_2 (List.mem_of_getElem? (i := 164) rfl) rfl
theorem wd_2_165 : Cond.instanceMethod yX6_now ∈ AL := tb_2 (List.mem_of_getElem? (i := 165) rfl) rfl
theorem wd_2_166 : Cond.selects RX6 yX6_now yX6_now ∈ AL := tb_2 (List.mem_of_getElem? (i := 166) rfl) rfl
theorem wd_2_167 : Cond.code yX6_now cX6_now 2 (some .int) ∈ AL := tb_2 (List.mem_of_getElem? (i := 167) rfl) rfl
theorem wd_2_168 : Cond.methodLink RX6 160 yX4_heldByAny ∈ AL := tb_2 (List.mem_of_getElem? (i := 168) rfl) rfl
theorem wd_2_169 : Cond.methodLink RX6 163 yX4_borderLength ∈ AL := tb_2 (List.mem_of_getElem? (i := 169) rfl) rfl
theorem wd_2_170 : Cond.instanceMethod yX4_borderLength ∈ AL := tb_2 (List.mem_of_getElem? (i := 170) rfl) rfl
theorem wd_2_171 : Cond.selects RX4 yX4_borderLength yX4_borderLength ∈ AL := tb_2 (List.mem_of_getElem? (i := 171) rfl) rfl
theorem wd_2_172 : Cond.code yX4_borderLength cX4_borderLength 3 (some .int) ∈ AL := tb_2 (List.mem_of_getElem? (i := 172) rfl) rfl
theorem wd_2_173 : Cond.methodLink RX4 71 yX4_heldByAny ∈ AL := tb_2 (List.mem_of_getElem? (i := 173) rfl) rfl
theorem wd_2_174 : Cond.methodLink RX4 74 yX4_twosIn ∈ AL := tb_2 (List.mem_of_getElem? (i := 174) rfl) rfl
theorem wd_2_175 : Cond.static yX4_twosIn ∈ AL := tb_2 (List.mem_of_getElem? (i := 175) rfl) rfl
theorem wd_2_176 : Cond.code yX4_twosIn cX4_twosIn 1 (some .int) ∈ AL := tb_2 (List.mem_of_getElem? (i := 176) rfl) rfl
theorem wd_2_177 : Cond.methodLink RL 65 yX6_water ∈ AL := tb_2 (List.mem_of_getElem? (i := 177) rfl) rfl
theorem wd_2_178 : Cond.instanceMethod yX6_water ∈ AL := tb_2 (List.mem_of_getElem? (i := 178) rfl) rfl
theorem wd_2_179 : Cond.selects RX6 yX6_water yX6_water ∈ AL := tb_2 (List.mem_of_getElem? (i := 179) rfl) rfl
theorem wd_2_180 : Cond.code yX6_water cX6_water 5 (some .int) ∈ AL := tb_2 (List.mem_of_getElem? (i := 180) rfl) rfl
theorem wd_2_181 : Cond.methodLink RX6 166 yX4_fewestOthers ∈ AL := tb_2 (List.mem_of_getElem? (i := 181) rfl) rfl
theorem wd_2_182 : Cond.instanceMethod yX4_fewestOthers ∈ AL := tb_2 (List.mem_of_getElem? (i := 182) rfl) rfl
theorem wd_2_183 : Cond.selects RX4 yX4_fewestOthers yX4_fewestOthers ∈ AL := tb_2 (List.mem_of_getElem? (i := 183) rfl) rfl
theorem wd_2_184 : Cond.code yX4_fewestOthers cX4_fewestOthers 8 (some .int) ∈ AL := tb_2 (List.mem_of_getElem? (i := 184) rfl) rfl
theorem wn_2_185 : Cond.methodLinkNest RX4 77 yX6_oneIf "WindFrontiers" ∈ lw_tbl := List.mem_append_right _ (List.mem_append_right _ (List.mem_append_left _ (List.mem_of_getElem? (i := 185) rfl)))
theorem wd_2_186 : Cond.methodLink RX4 81 yX4_floodedOver ∈ AL := tb_2 (List.mem_of_getElem? (i := 186) rfl) rfl
theorem wd_2_187 : Cond.static yX4_floodedOver ∈ AL := tb_2 (List.mem_of_getElem? (i := 187) rfl) rfl
theorem wd_2_188 : Cond.code yX4_floodedOver cX4_floodedOver 4 (some .int) ∈ AL := tb_2 (List.mem_of_getElem? (i := 188) rfl) rfl
theorem wd_2_189 : Cond.methodLink RX4 84 yX4_besideAny ∈ AL := tb_2 (List.mem_of_getElem? (i := 189) rfl) rfl
theorem wd_2_190 : Cond.static yX4_besideAny ∈ AL := tb_2 (List.mem_of_getElem? (i := 190) rfl) rfl
theorem wd_2_191 : Cond.code yX4_besideAny cX4_besideAny 1 (some .int) ∈ AL := tb_2 (List.mem_of_getElem? (i := 191) rfl) rfl
theorem wd_2_192 : Cond.methodLink RL 69 yX6_help ∈ AL := tb_2 (List.mem_of_getElem? (i := 192) rfl) rfl
theorem wd_2_193 : Cond.instanceMethod yX6_help ∈ AL := tb_2 (List.mem_of_getElem? (i := 193) rfl) rfl
theorem wd_2_194 : Cond.selects RX6 yX6_help yX6_help ∈ AL := tb_2 (List.mem_of_getElem? (i := 194) rfl) rfl
theorem wd_2_195 : Cond.code yX6_help cX6_help 4 (some .int) ∈ AL := tb_2 (List.mem_of_getElem? (i := 195) rfl) rfl
theorem wd_2_196 : Cond.methodLink RX6 169 yX4_bestCloth ∈ AL := tb_2 (List.mem_of_getElem? (i := 196) rfl) rfl
theorem wd_2_197 : Cond.instanceMethod yX4_bestCloth ∈ AL := tb_2 (List.mem_of_getElem? (i := 197) rfl) rfl
theorem wd_2_198 : Cond.selects RX4 yX4_bestCloth yX4_bestCloth ∈ AL := tb_2 (List.mem_of_getElem? (i := 198) rfl) rfl
theorem wd_2_199 : Cond.code yX4_bestCloth cX4_bestCloth 7 (some .int) ∈ AL := tb_2 (List.mem_of_getElem? (i := 199) rfl) rfl
theorem wd_2_200 : Cond.methodLink RX4 87 yX4_bareCells ∈ AL := tb_2 (List.mem_of_getElem? (i := 200) rfl) rfl
theorem wd_2_201 : Cond.instanceMethod yX4_bareCells ∈ AL := tb_2 (List.mem_of_getElem? (i := 201) rfl) rfl
theorem wd_2_202 : Cond.selects RX4 yX4_bareCells yX4_bareCells ∈ AL := tb_2 (List.mem_of_getElem? (i := 202) rfl) rfl
theorem wd_2_203 : Cond.code yX4_bareCells cX4_bareCells 1 (some .int) ∈ AL := tb_2 (List.mem_of_getElem? (i := 203) rfl) rfl
theorem wd_2_204 : Cond.methodLink RX6 172 yX4_shelterWith ∈ AL := tb_2 (List.mem_of_getElem? (i := 204) rfl) rfl
theorem wd_2_205 : Cond.methodLink RL 73 yX6_odds ∈ AL := tb_2 (List.mem_of_getElem? (i := 205) rfl) rfl
theorem wd_2_206 : Cond.instanceMethod yX6_odds ∈ AL := tb_2 (List.mem_of_getElem? (i := 206) rfl) rfl
theorem wd_2_207 : Cond.selects RX6 yX6_odds yX6_odds ∈ AL := tb_2 (List.mem_of_getElem? (i := 207) rfl) rfl
theorem wd_2_208 : Cond.code yX6_odds cX6_odds 11 (some .int) ∈ AL := tb_2 (List.mem_of_getElem? (i := 208) rfl) rfl
theorem wd_2_209 : Cond.methodLink RX6 175 yX6_inLeastTerms ∈ AL := tb_2 (List.mem_of_getElem? (i := 209) rfl) rfl
theorem wd_2_210 : Cond.static yX6_inLeastTerms ∈ AL := tb_2 (List.mem_of_getElem? (i := 210) rfl) rfl
theorem wd_2_211 : Cond.code yX6_inLeastTerms cX6_inLeastTerms 6 (some .int) ∈ AL := tb_2 (List.mem_of_getElem? (i := 211) rfl) rfl
theorem wd_2_212 : Cond.methodLink RL 78 yX6_saw ∈ AL := tb_2 (List.mem_of_getElem? (i := 212) rfl) rfl
theorem wd_2_213 : Cond.instanceMethod yX6_saw ∈ AL := tb_2 (List.mem_of_getElem? (i := 213) rfl) rfl
theorem wd_2_214 : Cond.selects RX6 yX6_saw yX6_saw ∈ AL := tb_2 (List.mem_of_getElem? (i := 214) rfl) rfl
theorem wd_2_215 : Cond.code yX6_saw cX6_saw 5 (some .int) ∈ AL := tb_2 (List.mem_of_getElem? (i := 215) rfl) rfl
theorem wd_2_216 : Cond.methodLink RX6 179 yX2_add ∈ AL := tb_2 (List.mem_of_getElem? (i := 216) rfl) rfl
theorem wd_2_217 : Cond.instanceMethod yX2_add ∈ AL := tb_2 (List.mem_of_getElem? (i := 217) rfl) rfl
theorem wd_2_218 : Cond.selects RX2 yX2_add yX2_add ∈ AL := tb_2 (List.mem_of_getElem? (i := 218) rfl) rfl
theorem wd_2_219 : Cond.code yX2_add cX2_add 4 (some .boolean) ∈ AL := tb_2 (List.mem_of_getElem? (i := 219) rfl) rfl
theorem wd_2_220 : Cond.methodLink RL 83 yX6_forget ∈ AL := tb_2 (List.mem_of_getElem? (i := 220) rfl) rfl
theorem wd_2_221 : Cond.instanceMethod yX6_forget ∈ AL := tb_2 (List.mem_of_getElem? (i := 221) rfl) rfl
theorem wd_2_222 : Cond.selects RX6 yX6_forget yX6_forget ∈ AL := tb_2 (List.mem_of_getElem? (i := 222) rfl) rfl
theorem wd_2_223 : Cond.code yX6_forget cX6_forget 2 (some .int) ∈ AL := tb_2 (List.mem_of_getElem? (i := 223) rfl) rfl
theorem wd_2_224 : Cond.methodLink RL 87 yX6_moved ∈ AL := tb_2 (List.mem_of_getElem? (i := 224) rfl) rfl
theorem wd_2_225 : Cond.instanceMethod yX6_moved ∈ AL := tb_2 (List.mem_of_getElem? (i := 225) rfl) rfl
theorem wd_2_226 : Cond.selects RX6 yX6_moved yX6_moved ∈ AL := tb_2 (List.mem_of_getElem? (i := 226) rfl) rfl
theorem wd_2_227 : Cond.code yX6_moved cX6_moved 6 (some .int) ∈ AL := tb_2 (List.mem_of_getElem? (i := 227) rfl) rfl
theorem wd_2_228 : Cond.methodLink RX6 186 yX6_mayHaveMoved ∈ AL := tb_2 (List.mem_of_getElem? (i := 228) rfl) rfl
theorem wd_2_230 : Cond.instanceMethod yX6_mayHaveMoved ∈ AL := tb_2 (List.mem_of_getElem? (i := 230) rfl) rfl
theorem wd_2_231 : Cond.code yX6_mayHaveMoved cX6_mayHaveMoved 6 (some .boolean) ∈ AL := tb_2 (List.mem_of_getElem? (i := 231) rfl) rfl
theorem wd_2_232 : Cond.methodLink RX6 208 yX4_bareCells ∈ AL := tb_2 (List.mem_of_getElem? (i := 232) rfl) rfl
theorem wd_2_233 : Cond.methodLink RX6 211 yX4_stillWith ∈ AL := tb_2 (List.mem_of_getElem? (i := 233) rfl) rfl
theorem wd_2_234 : Cond.methodLink RX6 214 yX2_agrees ∈ AL := tb_2 (List.mem_of_getElem? (i := 234) rfl) rfl
theorem wd_2_235 : Cond.instanceMethod yX2_agrees ∈ AL := tb_2 (List.mem_of_getElem? (i := 235) rfl) rfl
theorem wd_2_236 : Cond.selects RX2 yX2_agrees yX2_agrees ∈ AL := tb_2 (List.mem_of_getElem? (i := 236) rfl) rfl
theorem wd_2_237 : Cond.code yX2_agrees cX2_agrees 3 (some .boolean) ∈ AL := tb_2 (List.mem_of_getElem? (i := 237) rfl) rfl
theorem wd_2_238 : Cond.methodLink RL 91 yX6_mark ∈ AL := tb_2 (List.mem_of_getElem? (i := 238) rfl) rfl
theorem wd_2_239 : Cond.instanceMethod yX6_mark ∈ AL := tb_2 (List.mem_of_getElem? (i := 239) rfl) rfl
theorem wd_3_0 : Cond.selects RX6 yX6_mark yX6_mark ∈ AL := tb_3 (List.mem_of_getElem? (i := 0) rfl) rfl
theorem wd_3_1 : Cond.code yX6_mark cX6_mark 4 (some .int) ∈ AL := tb_3 (List.mem_of_getElem? (i := 1) rfl) rfl
theorem wd_3_2 : Cond.methodLink RX6 189 yX0_markAs ∈ AL := tb_3 (List.mem_of_getElem? (i := 2) rfl) rfl
theorem wd_3_3 : Cond.instanceMethod yX0_markAs ∈ AL := tb_3 (List.mem_of_getElem? (i := 3) rfl) rfl
theorem wd_3_4 : Cond.selects RX0 yX0_markAs yX0_markAs ∈ AL := tb_3 (List.mem_of_getElem? (i := 4) rfl) rfl
theorem wd_3_5 : Cond.code yX0_markAs cX0_markAs 5 (some .int) ∈ AL := tb_3 (List.mem_of_getElem? (i := 5) rfl) rfl
theorem wd_3_6 : Cond.methodLink RX0 9 yX0_asCell ∈ AL := tb_3 (List.mem_of_getElem? (i := 6) rfl) rfl
theorem wd_3_8 : Cond.instanceMethod yX0_asCell ∈ AL := tb_3 (List.mem_of_getElem? (i := 8) rfl) rfl
theorem wd_3_9 : Cond.code yX0_asCell cX0_asCell 2 (some .int) ∈ AL := tb_3 (List.mem_of_getElem? (i := 9) rfl) rfl
theorem wd_3_10 : Cond.methodLink RX0 15 yX0_asCastle ∈ AL := tb_3 (List.mem_of_getElem? (i := 10) rfl) rfl
theorem wd_3_12 : Cond.instanceMethod yX0_asCastle ∈ AL := tb_3 (List.mem_of_getElem? (i := 12) rfl) rfl
theorem wd_3_13 : Cond.code yX0_asCastle cX0_asCastle 4 (some .int) ∈ AL := tb_3 (List.mem_of_getElem? (i := 13) rfl) rfl
theorem wd_3_14 : Cond.constantLong RX0 38 (10) ∈ AL := tb_3 (List.mem_of_getElem? (i := 14) rfl) rfl
theorem wn_3_15 : Cond.methodLinkNest RX0 40 yX6_bitOf "WindFrontiers" ∈ lw_tbl := List.mem_append_right _ (List.mem_append_right _ (List.mem_append_right _ (List.mem_append_left _ (List.mem_of_getElem? (i := 15) rfl))))
theorem wd_3_16 : Cond.methodLink RX0 43 yX4_cellsBeside ∈ AL := tb_3 (List.mem_of_getElem? (i := 16) rfl) rfl
theorem wd_3_17 : Cond.instanceMethod yX4_cellsBeside ∈ AL := tb_3 (List.mem_of_getElem? (i := 17) rfl) rfl
theorem wd_3_18 : Cond.selects RX4 yX4_cellsBeside yX4_cellsBeside ∈ AL := tb_3 (List.mem_of_getElem? (i := 18) rfl) rfl
theorem wd_3_19 : Cond.code yX4_cellsBeside cX4_cellsBeside 2 (some .int) ∈ AL := tb_3 (List.mem_of_getElem? (i := 19) rfl) rfl
theorem wd_3_20 : Cond.methodLink RX4 90 yX4_allCells ∈ AL := tb_3 (List.mem_of_getElem? (i := 20) rfl) rfl
theorem wd_3_21 : Cond.instanceMethod yX4_allCells ∈ AL := tb_3 (List.mem_of_getElem? (i := 21) rfl) rfl
theorem wd_3_22 : Cond.selects RX4 yX4_allCells yX4_allCells ∈ AL := tb_3 (List.mem_of_getElem? (i := 22) rfl) rfl
theorem wd_3_23 : Cond.code yX4_allCells cX4_allCells 1 (some .int) ∈ AL := tb_3 (List.mem_of_getElem? (i := 23) rfl) rfl
theorem wd_3_24 : Cond.methodLink RX0 19 yX0_asCorridor ∈ AL := tb_3 (List.mem_of_getElem? (i := 24) rfl) rfl
theorem wd_3_26 : Cond.instanceMethod yX0_asCorridor ∈ AL := tb_3 (List.mem_of_getElem? (i := 26) rfl) rfl
theorem wd_3_27 : Cond.code yX0_asCorridor cX0_asCorridor 3 (some .int) ∈ AL := tb_3 (List.mem_of_getElem? (i := 27) rfl) rfl
theorem wd_3_28 : Cond.constantLong RX0 48 (100) ∈ AL := tb_3 (List.mem_of_getElem? (i := 28) rfl) rfl
theorem wd_3_29 : Cond.methodLink RX0 23 yX0_asEmpire ∈ AL := tb_3 (List.mem_of_getElem? (i := 29) rfl) rfl
theorem wd_3_31 : Cond.instanceMethod yX0_asEmpire ∈ AL := tb_3 (List.mem_of_getElem? (i := 31) rfl) rfl
theorem wd_3_32 : Cond.code yX0_asEmpire cX0_asEmpire 4 (some .int) ∈ AL := tb_3 (List.mem_of_getElem? (i := 32) rfl) rfl
theorem wd_3_33 : Cond.constantLong RX0 50 (1000) ∈ AL := tb_3 (List.mem_of_getElem? (i := 33) rfl) rfl
theorem wd_3_34 : Cond.methodLink RX0 26 yX0_asPoland ∈ AL := tb_3 (List.mem_of_getElem? (i := 34) rfl) rfl
theorem wd_3_36 : Cond.instanceMethod yX0_asPoland ∈ AL := tb_3 (List.mem_of_getElem? (i := 36) rfl) rfl
theorem wd_3_37 : Cond.code yX0_asPoland cX0_asPoland 5 (some .int) ∈ AL := tb_3 (List.mem_of_getElem? (i := 37) rfl) rfl
theorem wd_3_38 : Cond.constantLong RX0 52 (10000) ∈ AL := tb_3 (List.mem_of_getElem? (i := 38) rfl) rfl
theorem wd_3_39 : Cond.methodLink RX0 54 yX4_holderOf ∈ AL := tb_3 (List.mem_of_getElem? (i := 39) rfl) rfl
theorem wd_3_40 : Cond.methodLink RX0 57 yX4_heldBy ∈ AL := tb_3 (List.mem_of_getElem? (i := 40) rfl) rfl
theorem wd_3_41 : Cond.methodLink RX0 60 yJ6_bitCount_0f7a4 ∈ AL := tb_3 (List.mem_of_getElem? (i := 41) rfl) rfl
theorem wd_3_42 : Cond.methodLink RX0 29 yX0_asSalient ∈ AL := tb_3 (List.mem_of_getElem? (i := 42) rfl) rfl
theorem wd_3_44 : Cond.instanceMethod yX0_asSalient ∈ AL := tb_3 (List.mem_of_getElem? (i := 44) rfl) rfl
theorem wd_3_45 : Cond.code yX0_asSalient cX0_asSalient 3 (some .int) ∈ AL := tb_3 (List.mem_of_getElem? (i := 45) rfl) rfl
theorem wd_3_46 : Cond.constantLong RX0 65 (100000) ∈ AL := tb_3 (List.mem_of_getElem? (i := 46) rfl) rfl
theorem wd_3_47 : Cond.constant RX0 33 (-1000000) ∈ AL := tb_3 (List.mem_of_getElem? (i := 47) rfl) rfl
theorem wd_3_48 : Cond.constant RX6 193 (-1000000) ∈ AL := tb_3 (List.mem_of_getElem? (i := 48) rfl) rfl
theorem wd_3_49 : Cond.methodLink RL 95 yX6_keep ∈ AL := tb_3 (List.mem_of_getElem? (i := 49) rfl) rfl
theorem wd_3_50 : Cond.instanceMethod yX6_keep ∈ AL := tb_3 (List.mem_of_getElem? (i := 50) rfl) rfl
theorem wd_3_51 : Cond.selects RX6 yX6_keep yX6_keep ∈ AL := tb_3 (List.mem_of_getElem? (i := 51) rfl) rfl
theorem wd_3_52 : Cond.code yX6_keep cX6_keep 3 (some .int) ∈ AL := tb_3 (List.mem_of_getElem? (i := 52) rfl) rfl
theorem wd_3_53 : Cond.methodLink RX6 194 yX6_imageOf ∈ AL := tb_3 (List.mem_of_getElem? (i := 53) rfl) rfl
theorem wd_3_55 : Cond.instanceMethod yX6_imageOf ∈ AL := tb_3 (List.mem_of_getElem? (i := 55) rfl) rfl
theorem wd_3_56 : Cond.code yX6_imageOf cX6_imageOf 2 (some (FieldType.object "WindFrontiers$Story")) ∈ AL := tb_3 (List.mem_of_getElem? (i := 56) rfl) rfl
theorem wd_3_57 : Cond.methodLink RX6 198 yX3_becomes ∈ AL := tb_3 (List.mem_of_getElem? (i := 57) rfl) rfl
theorem wd_3_58 : Cond.instanceMethod yX3_becomes ∈ AL := tb_3 (List.mem_of_getElem? (i := 58) rfl) rfl
theorem wd_3_59 : Cond.selects RX3 yX3_becomes yX3_becomes ∈ AL := tb_3 (List.mem_of_getElem? (i := 59) rfl) rfl
theorem wd_3_60 : Cond.code yX3_becomes cX3_becomes 3 none ∈ AL := tb_3 (List.mem_of_getElem? (i := 60) rfl) rfl
theorem wd_3_61 : Cond.methodLink RL 99 yX6_back ∈ AL := tb_3 (List.mem_of_getElem? (i := 61) rfl) rfl
theorem wd_3_62 : Cond.instanceMethod yX6_back ∈ AL := tb_3 (List.mem_of_getElem? (i := 62) rfl) rfl
theorem wd_3_63 : Cond.selects RX6 yX6_back yX6_back ∈ AL := tb_3 (List.mem_of_getElem? (i := 63) rfl) rfl
theorem wd_3_64 : Cond.code yX6_back cX6_back 3 (some .int) ∈ AL := tb_3 (List.mem_of_getElem? (i := 64) rfl) rfl
theorem wd_3_65 : Cond.methodLink RL 103 yX6_count ∈ AL := tb_3 (List.mem_of_getElem? (i := 65) rfl) rfl
theorem wd_3_66 : Cond.instanceMethod yX6_count ∈ AL := tb_3 (List.mem_of_getElem? (i := 66) rfl) rfl
theorem wd_3_67 : Cond.selects RX6 yX6_count yX6_count ∈ AL := tb_3 (List.mem_of_getElem? (i := 67) rfl) rfl
theorem wd_3_68 : Cond.code yX6_count cX6_count 2 (some .int) ∈ AL := tb_3 (List.mem_of_getElem? (i := 68) rfl) rfl
theorem wd_3_69 : Cond.methodLink RL 107 yX6_trace ∈ AL := tb_3 (List.mem_of_getElem? (i := 69) rfl) rfl
theorem wd_3_70 : Cond.instanceMethod yX6_trace ∈ AL := tb_3 (List.mem_of_getElem? (i := 70) rfl) rfl
theorem wd_3_71 : Cond.selects RX6 yX6_trace yX6_trace ∈ AL := tb_3 (List.mem_of_getElem? (i := 71) rfl) rfl
theorem wd_3_72 : Cond.code yX6_trace cX6_trace 1 (some .long) ∈ AL := tb_3 (List.mem_of_getElem? (i := 72) rfl) rfl
theorem wd_3_73 : Cond.classLink RL 10 RX7 ∈ AL := tb_3 (List.mem_of_getElem? (i := 73) rfl) rfl
theorem wd_3_74 : Cond.instantiable RX7 22 ∈ AL := tb_3 (List.mem_of_getElem? (i := 74) rfl) rfl
theorem wd_3_75 : Cond.methodLink RL 12 yX7_init ∈ AL := tb_3 (List.mem_of_getElem? (i := 75) rfl) rfl
theorem wd_3_76 : Cond.instanceMethod yX7_init ∈ AL := tb_3 (List.mem_of_getElem? (i := 76) rfl) rfl
theorem wd_3_77 : Cond.code yX7_init cX7_init 1 none ∈ AL := tb_3 (List.mem_of_getElem? (i := 77) rfl) rfl
theorem wd_3_78 : Cond.methodLink RX7 1 objectInit ∈ AL := tb_3 (List.mem_of_getElem? (i := 78) rfl) rfl
theorem wd_3_79 : Cond.fieldLink RX7 7 "WindFrontiersModel" "wide" "I" ∈ AL := tb_3 (List.mem_of_getElem? (i := 79) rfl) rfl
theorem wd_3_80 : Cond.fieldLink RX7 13 "WindFrontiersModel" "rows" "I" ∈ AL := tb_3 (List.mem_of_getElem? (i := 80) rfl) rfl
theorem wd_3_81 : Cond.fieldLink RX7 16 "WindFrontiersModel" "st" "[I" ∈ AL := tb_3 (List.mem_of_getElem? (i := 81) rfl) rfl
theorem wd_3_82 : Cond.fieldLink RX7 20 "WindFrontiersModel" "images" "[I" ∈ AL := tb_3 (List.mem_of_getElem? (i := 82) rfl) rfl
theorem wd_3_83 : Cond.fieldLink RX7 23 "WindFrontiersModel" "isKept" "[Z" ∈ AL := tb_3 (List.mem_of_getElem? (i := 83) rfl) rfl
theorem wd_3_84 : Cond.fieldLink RX7 109 "WindFrontiersModel" "seenMany" "I" ∈ AL := tb_3 (List.mem_of_getElem? (i := 84) rfl) rfl
theorem wd_3_85 : Cond.fieldLink RX7 27 "WindFrontiersModel" "seen" "[I" ∈ AL := tb_3 (List.mem_of_getElem? (i := 85) rfl) rfl
theorem wd_3_86 : Cond.fieldLink RX7 164 "WindFrontiersModel" "trace" "J" ∈ AL := tb_3 (List.mem_of_getElem? (i := 86) rfl) rfl
theorem wd_3_87 : Cond.fieldLink RX7 30 "WindFrontiersModel" "text" "[I" ∈ AL := tb_3 (List.mem_of_getElem? (i := 87) rfl) rfl
theorem wd_3_88 : Cond.fieldLink RX7 43 "WindFrontiersModel" "texted" "I" ∈ AL := tb_3 (List.mem_of_getElem? (i := 88) rfl) rfl
theorem wd_3_89 : Cond.fieldLink RX7 46 "WindFrontiersModel" "cursor" "I" ∈ AL := tb_3 (List.mem_of_getElem? (i := 89) rfl) rfl
theorem wd_3_90 : Cond.fieldLink RX7 53 "WindFrontiersModel" "start" "I" ∈ AL := tb_3 (List.mem_of_getElem? (i := 90) rfl) rfl
theorem wd_3_91 : Cond.fieldLink RX7 59 "WindFrontiersModel" "token" "I" ∈ AL := tb_3 (List.mem_of_getElem? (i := 91) rfl) rfl
theorem wd_3_92 : Cond.fieldLink RX7 56 "WindFrontiersModel" "number" "I" ∈ AL := tb_3 (List.mem_of_getElem? (i := 92) rfl) rfl
theorem wd_3_93 : Cond.fieldLink RX7 69 "WindFrontiersModel" "isWrong" "Z" ∈ AL := tb_3 (List.mem_of_getElem? (i := 93) rfl) rfl
theorem wd_3_94 : Cond.fieldLink RX7 93 "WindFrontiersModel" "items" "I" ∈ AL := tb_3 (List.mem_of_getElem? (i := 94) rfl) rfl
theorem wd_3_95 : Cond.fieldLink RX7 76 "WindFrontiersModel" "saidWide" "I" ∈ AL := tb_3 (List.mem_of_getElem? (i := 95) rfl) rfl
theorem wd_3_96 : Cond.fieldLink RX7 83 "WindFrontiersModel" "saidRows" "I" ∈ AL := tb_3 (List.mem_of_getElem? (i := 96) rfl) rfl
theorem wd_3_97 : Cond.fieldLink RX7 33 "WindFrontiersModel" "saidHolder" "[I" ∈ AL := tb_3 (List.mem_of_getElem? (i := 97) rfl) rfl
theorem wd_3_98 : Cond.fieldLink RX7 86 "WindFrontiersModel" "saidCloth" "I" ∈ AL := tb_3 (List.mem_of_getElem? (i := 98) rfl) rfl
theorem wd_3_99 : Cond.fieldLink RX7 96 "WindFrontiersModel" "saidWind" "I" ∈ AL := tb_3 (List.mem_of_getElem? (i := 99) rfl) rfl
theorem wd_3_100 : Cond.fieldLink RX7 36 "WindFrontiersModel" "far" "[I" ∈ AL := tb_3 (List.mem_of_getElem? (i := 100) rfl) rfl
theorem wd_3_101 : Cond.lays RX7 "WindFrontiersModel" "wide" "I" ∈ AL := tb_3 (List.mem_of_getElem? (i := 101) rfl) rfl
theorem wd_3_103 : Cond.lays RX7 "WindFrontiersModel" "rows" "I" ∈ AL := tb_3 (List.mem_of_getElem? (i := 103) rfl) rfl
theorem wd_3_105 : Cond.laysFinal RX7 "WindFrontiersModel" "st" "[I" ∈ AL := tb_3 (List.mem_of_getElem? (i := 105) rfl) rfl
theorem wd_3_107 : Cond.laysFinal RX7 "WindFrontiersModel" "images" "[I" ∈ AL := tb_3 (List.mem_of_getElem? (i := 107) rfl) rfl
theorem wd_3_109 : Cond.laysFinal RX7 "WindFrontiersModel" "isKept" "[Z" ∈ AL := tb_3 (List.mem_of_getElem? (i := 109) rfl) rfl
theorem wd_3_111 : Cond.lays RX7 "WindFrontiersModel" "seenMany" "I" ∈ AL := tb_3 (List.mem_of_getElem? (i := 111) rfl) rfl
theorem wd_3_113 : Cond.laysFinal RX7 "WindFrontiersModel" "seen" "[I" ∈ AL := tb_3 (List.mem_of_getElem? (i := 113) rfl) rfl
theorem wd_3_115 : Cond.lays RX7 "WindFrontiersModel" "trace" "J" ∈ AL := tb_3 (List.mem_of_getElem? (i := 115) rfl) rfl
theorem wd_3_117 : Cond.laysFinal RX7 "WindFrontiersModel" "text" "[I" ∈ AL := tb_3 (List.mem_of_getElem? (i := 117) rfl) rfl
theorem wd_3_119 : Cond.lays RX7 "WindFrontiersModel" "texted" "I" ∈ AL := tb_3 (List.mem_of_getElem? (i := 119) rfl) rfl
theorem wd_3_121 : Cond.lays RX7 "WindFrontiersModel" "cursor" "I" ∈ AL := tb_3 (List.mem_of_getElem? (i := 121) rfl) rfl
theorem wd_3_123 : Cond.lays RX7 "WindFrontiersModel" "start" "I" ∈ AL := tb_3 (List.mem_of_getElem? (i := 123) rfl) rfl
theorem wd_3_125 : Cond.lays RX7 "WindFrontiersModel" "token" "I" ∈ AL := tb_3 (List.mem_of_getElem? (i := 125) rfl) rfl
theorem wd_3_127 : Cond.lays RX7 "WindFrontiersModel" "number" "I" ∈ AL := tb_3 (List.mem_of_getElem? (i := 127) rfl) rfl
theorem wd_3_129 : Cond.lays RX7 "WindFrontiersModel" "isWrong" "Z" ∈ AL := tb_3 (List.mem_of_getElem? (i := 129) rfl) rfl
theorem wd_3_131 : Cond.lays RX7 "WindFrontiersModel" "items" "I" ∈ AL := tb_3 (List.mem_of_getElem? (i := 131) rfl) rfl
theorem wd_3_133 : Cond.lays RX7 "WindFrontiersModel" "saidWide" "I" ∈ AL := tb_3 (List.mem_of_getElem? (i := 133) rfl) rfl
theorem wd_3_135 : Cond.lays RX7 "WindFrontiersModel" "saidRows" "I" ∈ AL := tb_3 (List.mem_of_getElem? (i := 135) rfl) rfl
theorem wd_3_137 : Cond.laysFinal RX7 "WindFrontiersModel" "saidHolder" "[I" ∈ AL := tb_3 (List.mem_of_getElem? (i := 137) rfl) rfl
theorem wd_3_139 : Cond.lays RX7 "WindFrontiersModel" "saidCloth" "I" ∈ AL := tb_3 (List.mem_of_getElem? (i := 139) rfl) rfl
theorem wd_3_141 : Cond.lays RX7 "WindFrontiersModel" "saidWind" "I" ∈ AL := tb_3 (List.mem_of_getElem? (i := 141) rfl) rfl
theorem wd_3_143 : Cond.laysFinal RX7 "WindFrontiersModel" "far" "[I" ∈ AL := tb_3 (List.mem_of_getElem? (i := 143) rfl) rfl
theorem wd_3_146 : Cond.arrayClass FieldType.boolean ∈ AL := tb_3 (List.mem_of_getElem? (i := 146) rfl) rfl
theorem wd_3_147 : Cond.methodLink RL 17 yX7_type ∈ AL := tb_3 (List.mem_of_getElem? (i := 147) rfl) rfl
theorem wd_3_148 : Cond.instanceMethod yX7_type ∈ AL := tb_3 (List.mem_of_getElem? (i := 148) rfl) rfl
theorem wd_3_149 : Cond.selects RX7 yX7_type yX7_type ∈ AL := tb_3 (List.mem_of_getElem? (i := 149) rfl) rfl
theorem wd_3_150 : Cond.code yX7_type cX7_type 2 (some .int) ∈ AL := tb_3 (List.mem_of_getElem? (i := 150) rfl) rfl
theorem wd_3_151 : Cond.methodLink RX7 39 yX7_in ∈ AL := tb_3 (List.mem_of_getElem? (i := 151) rfl) rfl
theorem wd_3_152 : Cond.static yX7_in ∈ AL := tb_3 (List.mem_of_getElem? (i := 152) rfl) rfl
theorem wd_3_153 : Cond.code yX7_in cX7_in 3 (some .boolean) ∈ AL := tb_3 (List.mem_of_getElem? (i := 153) rfl) rfl
theorem wd_3_154 : Cond.methodLink RL 22 yX7_clear ∈ AL := tb_3 (List.mem_of_getElem? (i := 154) rfl) rfl
theorem wd_3_155 : Cond.instanceMethod yX7_clear ∈ AL := tb_3 (List.mem_of_getElem? (i := 155) rfl) rfl
theorem wd_3_156 : Cond.selects RX7 yX7_clear yX7_clear ∈ AL := tb_3 (List.mem_of_getElem? (i := 156) rfl) rfl
theorem wd_3_157 : Cond.code yX7_clear cX7_clear 2 (some .int) ∈ AL := tb_3 (List.mem_of_getElem? (i := 157) rfl) rfl
theorem wd_3_158 : Cond.methodLink RL 26 yX7_strand ∈ AL := tb_3 (List.mem_of_getElem? (i := 158) rfl) rfl
theorem wd_3_159 : Cond.instanceMethod yX7_strand ∈ AL := tb_3 (List.mem_of_getElem? (i := 159) rfl) rfl
theorem wd_3_160 : Cond.selects RX7 yX7_strand yX7_strand ∈ AL := tb_3 (List.mem_of_getElem? (i := 160) rfl) rfl
theorem wd_3_161 : Cond.code yX7_strand cX7_strand 2 (some .int) ∈ AL := tb_3 (List.mem_of_getElem? (i := 161) rfl) rfl
theorem wd_3_162 : Cond.methodLink RX7 73 yX7_next ∈ AL := tb_3 (List.mem_of_getElem? (i := 162) rfl) rfl
theorem wd_3_164 : Cond.instanceMethod yX7_next ∈ AL := tb_3 (List.mem_of_getElem? (i := 164) rfl) rfl
theorem wd_3_165 : Cond.code yX7_next cX7_next 2 none ∈ AL := tb_3 (List.mem_of_getElem? (i := 165) rfl) rfl
theorem wd_3_166 : Cond.methodLink RX7 49 yX7_letterAt ∈ AL := tb_3 (List.mem_of_getElem? (i := 166) rfl) rfl
theorem wd_3_168 : Cond.instanceMethod yX7_letterAt ∈ AL := tb_3 (List.mem_of_getElem? (i := 168) rfl) rfl
theorem wd_3_169 : Cond.code yX7_letterAt cX7_letterAt 2 (some .int) ∈ AL := tb_3 (List.mem_of_getElem? (i := 169) rfl) rfl
theorem wd_3_170 : Cond.methodLink RX7 62 yX7_isFigure ∈ AL := tb_3 (List.mem_of_getElem? (i := 170) rfl) rfl
theorem wd_3_171 : Cond.static yX7_isFigure ∈ AL := tb_3 (List.mem_of_getElem? (i := 171) rfl) rfl
theorem wd_3_172 : Cond.code yX7_isFigure cX7_isFigure 1 (some .boolean) ∈ AL := tb_3 (List.mem_of_getElem? (i := 172) rfl) rfl
theorem wd_3_173 : Cond.methodLink RX7 66 yX7_isLetter ∈ AL := tb_3 (List.mem_of_getElem? (i := 173) rfl) rfl
theorem wd_3_174 : Cond.static yX7_isLetter ∈ AL := tb_3 (List.mem_of_getElem? (i := 174) rfl) rfl
theorem wd_3_175 : Cond.code yX7_isLetter cX7_isLetter 1 (some .boolean) ∈ AL := tb_3 (List.mem_of_getElem? (i := 175) rfl) rfl
theorem wd_3_176 : Cond.methodLink RX7 103 yX7_readItem ∈ AL := tb_3 (List.mem_of_getElem? (i := 176) rfl) rfl
theorem wd_3_178 : Cond.instanceMethod yX7_readItem ∈ AL := tb_3 (List.mem_of_getElem? (i := 178) rfl) rfl
theorem wd_3_179 : Cond.code yX7_readItem cX7_readItem 5 none ∈ AL := tb_3 (List.mem_of_getElem? (i := 179) rfl) rfl
theorem wd_3_180 : Cond.methodLink RX7 79 yX7_takesNumber ∈ AL := tb_3 (List.mem_of_getElem? (i := 180) rfl) rfl
theorem wd_3_182 : Cond.instanceMethod yX7_takesNumber ∈ AL := tb_3 (List.mem_of_getElem? (i := 182) rfl) rfl
theorem wd_3_183 : Cond.code yX7_takesNumber cX7_takesNumber 5 (some .int) ∈ AL := tb_3 (List.mem_of_getElem? (i := 183) rfl) rfl
theorem wd_3_184 : Cond.methodLink RX7 99 yX7_takesCell ∈ AL := tb_3 (List.mem_of_getElem? (i := 184) rfl) rfl
theorem wd_3_186 : Cond.instanceMethod yX7_takesCell ∈ AL := tb_3 (List.mem_of_getElem? (i := 186) rfl) rfl
theorem wd_3_187 : Cond.code yX7_takesCell cX7_takesCell 5 (some .int) ∈ AL := tb_3 (List.mem_of_getElem? (i := 187) rfl) rfl
theorem wd_3_188 : Cond.methodLink RX7 89 yX7_has ∈ AL := tb_3 (List.mem_of_getElem? (i := 188) rfl) rfl
theorem wd_3_189 : Cond.static yX7_has ∈ AL := tb_3 (List.mem_of_getElem? (i := 189) rfl) rfl
theorem wd_3_190 : Cond.code yX7_has cX7_has 2 (some .boolean) ∈ AL := tb_3 (List.mem_of_getElem? (i := 190) rfl) rfl
theorem wd_3_191 : Cond.methodLink RX7 106 yX7_settles ∈ AL := tb_3 (List.mem_of_getElem? (i := 191) rfl) rfl
theorem wd_3_193 : Cond.instanceMethod yX7_settles ∈ AL := tb_3 (List.mem_of_getElem? (i := 193) rfl) rfl
theorem wd_3_194 : Cond.code yX7_settles cX7_settles 2 none ∈ AL := tb_3 (List.mem_of_getElem? (i := 194) rfl) rfl
theorem wd_3_195 : Cond.methodLink RL 31 yX7_cell ∈ AL := tb_3 (List.mem_of_getElem? (i := 195) rfl) rfl
theorem wd_3_196 : Cond.instanceMethod yX7_cell ∈ AL := tb_3 (List.mem_of_getElem? (i := 196) rfl) rfl
theorem wd_3_197 : Cond.selects RX7 yX7_cell yX7_cell ∈ AL := tb_3 (List.mem_of_getElem? (i := 197) rfl) rfl
theorem wd_3_198 : Cond.code yX7_cell cX7_cell 5 (some .int) ∈ AL := tb_3 (List.mem_of_getElem? (i := 198) rfl) rfl
theorem wd_3_199 : Cond.methodLink RX7 112 yX7_isCell ∈ AL := tb_3 (List.mem_of_getElem? (i := 199) rfl) rfl
theorem wd_3_201 : Cond.instanceMethod yX7_isCell ∈ AL := tb_3 (List.mem_of_getElem? (i := 201) rfl) rfl
theorem wd_3_202 : Cond.code yX7_isCell cX7_isCell 3 (some .boolean) ∈ AL := tb_3 (List.mem_of_getElem? (i := 202) rfl) rfl
theorem wd_3_203 : Cond.methodLink RX7 125 yX7_isDry ∈ AL := tb_3 (List.mem_of_getElem? (i := 203) rfl) rfl
theorem wd_3_205 : Cond.instanceMethod yX7_isDry ∈ AL := tb_3 (List.mem_of_getElem? (i := 205) rfl) rfl
theorem wd_3_206 : Cond.code yX7_isDry cX7_isDry 2 (some .boolean) ∈ AL := tb_3 (List.mem_of_getElem? (i := 206) rfl) rfl
theorem wd_3_207 : Cond.methodLink RX7 118 yX7_isStill ∈ AL := tb_3 (List.mem_of_getElem? (i := 207) rfl) rfl
theorem wd_3_209 : Cond.instanceMethod yX7_isStill ∈ AL := tb_3 (List.mem_of_getElem? (i := 209) rfl) rfl
theorem wd_3_210 : Cond.code yX7_isStill cX7_isStill 6 (some .boolean) ∈ AL := tb_3 (List.mem_of_getElem? (i := 210) rfl) rfl
theorem wd_3_211 : Cond.methodLink RX7 115 yX7_isCloth ∈ AL := tb_3 (List.mem_of_getElem? (i := 211) rfl) rfl
theorem wd_3_213 : Cond.instanceMethod yX7_isCloth ∈ AL := tb_3 (List.mem_of_getElem? (i := 213) rfl) rfl
theorem wd_3_214 : Cond.code yX7_isCloth cX7_isCloth 4 (some .boolean) ∈ AL := tb_3 (List.mem_of_getElem? (i := 214) rfl) rfl
theorem wd_3_215 : Cond.methodLink RL 36 yX7_family ∈ AL := tb_3 (List.mem_of_getElem? (i := 215) rfl) rfl
theorem wd_3_216 : Cond.instanceMethod yX7_family ∈ AL := tb_3 (List.mem_of_getElem? (i := 216) rfl) rfl
theorem wd_3_217 : Cond.selects RX7 yX7_family yX7_family ∈ AL := tb_3 (List.mem_of_getElem? (i := 217) rfl) rfl
theorem wd_3_218 : Cond.code yX7_family cX7_family 3 (some .int) ∈ AL := tb_3 (List.mem_of_getElem? (i := 218) rfl) rfl
theorem wd_3_219 : Cond.methodLink RX7 128 yX7_isFamily ∈ AL := tb_3 (List.mem_of_getElem? (i := 219) rfl) rfl
theorem wd_3_220 : Cond.static yX7_isFamily ∈ AL := tb_3 (List.mem_of_getElem? (i := 220) rfl) rfl
theorem wd_3_221 : Cond.code yX7_isFamily cX7_isFamily 1 (some .boolean) ∈ AL := tb_3 (List.mem_of_getElem? (i := 221) rfl) rfl
theorem wd_3_222 : Cond.methodLink RX7 122 yX7_heldBy ∈ AL := tb_3 (List.mem_of_getElem? (i := 222) rfl) rfl
theorem wd_3_224 : Cond.instanceMethod yX7_heldBy ∈ AL := tb_3 (List.mem_of_getElem? (i := 224) rfl) rfl
theorem wd_3_225 : Cond.code yX7_heldBy cX7_heldBy 4 (some .int) ∈ AL := tb_3 (List.mem_of_getElem? (i := 225) rfl) rfl
theorem wd_3_226 : Cond.methodLink RX7 131 yX7_stillOnes ∈ AL := tb_3 (List.mem_of_getElem? (i := 226) rfl) rfl
theorem wd_3_228 : Cond.instanceMethod yX7_stillOnes ∈ AL := tb_3 (List.mem_of_getElem? (i := 228) rfl) rfl
theorem wd_3_229 : Cond.code yX7_stillOnes cX7_stillOnes 6 (some .int) ∈ AL := tb_3 (List.mem_of_getElem? (i := 229) rfl) rfl
theorem wd_3_230 : Cond.methodLink RX7 134 yX7_bits ∈ AL := tb_3 (List.mem_of_getElem? (i := 230) rfl) rfl
theorem wd_3_231 : Cond.static yX7_bits ∈ AL := tb_3 (List.mem_of_getElem? (i := 231) rfl) rfl
theorem wd_3_232 : Cond.code yX7_bits cX7_bits 3 (some .int) ∈ AL := tb_3 (List.mem_of_getElem? (i := 232) rfl) rfl
theorem wd_3_233 : Cond.methodLink RX7 137 yX7_losesOf ∈ AL := tb_3 (List.mem_of_getElem? (i := 233) rfl) rfl
theorem wd_3_235 : Cond.instanceMethod yX7_losesOf ∈ AL := tb_3 (List.mem_of_getElem? (i := 235) rfl) rfl
theorem wd_3_236 : Cond.code yX7_losesOf cX7_losesOf 4 (some .int) ∈ AL := tb_3 (List.mem_of_getElem? (i := 236) rfl) rfl
theorem wd_3_237 : Cond.methodLink RL 40 yX7_takes ∈ AL := tb_3 (List.mem_of_getElem? (i := 237) rfl) rfl
theorem wd_3_238 : Cond.instanceMethod yX7_takes ∈ AL := tb_3 (List.mem_of_getElem? (i := 238) rfl) rfl
theorem wd_3_239 : Cond.selects RX7 yX7_takes yX7_takes ∈ AL := tb_3 (List.mem_of_getElem? (i := 239) rfl) rfl
theorem wd_4_0 : Cond.code yX7_takes cX7_takes 5 (some .int) ∈ AL := tb_4 (List.mem_of_getElem? (i := 0) rfl) rfl
theorem wd_4_1 : Cond.methodLink RX7 140 yX7_remembers ∈ AL := tb_4 (List.mem_of_getElem? (i := 1) rfl) rfl
theorem wd_4_3 : Cond.instanceMethod yX7_remembers ∈ AL := tb_4 (List.mem_of_getElem? (i := 3) rfl) rfl
theorem wd_4_4 : Cond.code yX7_remembers cX7_remembers 3 none ∈ AL := tb_4 (List.mem_of_getElem? (i := 4) rfl) rfl
theorem wd_4_5 : Cond.methodLink RL 44 yX7_leaves ∈ AL := tb_4 (List.mem_of_getElem? (i := 5) rfl) rfl
theorem wd_4_6 : Cond.instanceMethod yX7_leaves ∈ AL := tb_4 (List.mem_of_getElem? (i := 6) rfl) rfl
theorem wd_4_7 : Cond.selects RX7 yX7_leaves yX7_leaves ∈ AL := tb_4 (List.mem_of_getElem? (i := 7) rfl) rfl
theorem wd_4_8 : Cond.code yX7_leaves cX7_leaves 5 (some .int) ∈ AL := tb_4 (List.mem_of_getElem? (i := 8) rfl) rfl
theorem wd_4_9 : Cond.methodLink RL 48 yX7_puts ∈ AL := tb_4 (List.mem_of_getElem? (i := 9) rfl) rfl
theorem wd_4_10 : Cond.instanceMethod yX7_puts ∈ AL := tb_4 (List.mem_of_getElem? (i := 10) rfl) rfl
theorem wd_4_11 : Cond.selects RX7 yX7_puts yX7_puts ∈ AL := tb_4 (List.mem_of_getElem? (i := 11) rfl) rfl
theorem wd_4_12 : Cond.code yX7_puts cX7_puts 5 (some .int) ∈ AL := tb_4 (List.mem_of_getElem? (i := 12) rfl) rfl
theorem wd_4_13 : Cond.methodLink RL 52 yX7_veers ∈ AL := tb_4 (List.mem_of_getElem? (i := 13) rfl) rfl
theorem wd_4_14 : Cond.instanceMethod yX7_veers ∈ AL := tb_4 (List.mem_of_getElem? (i := 14) rfl) rfl
theorem wd_4_15 : Cond.selects RX7 yX7_veers yX7_veers ∈ AL := tb_4 (List.mem_of_getElem? (i := 15) rfl) rfl
theorem wd_4_16 : Cond.code yX7_veers cX7_veers 1 (some .int) ∈ AL := tb_4 (List.mem_of_getElem? (i := 16) rfl) rfl
theorem wd_4_17 : Cond.methodLink RL 56 yX7_tide ∈ AL := tb_4 (List.mem_of_getElem? (i := 17) rfl) rfl
theorem wd_4_18 : Cond.instanceMethod yX7_tide ∈ AL := tb_4 (List.mem_of_getElem? (i := 18) rfl) rfl
theorem wd_4_19 : Cond.selects RX7 yX7_tide yX7_tide ∈ AL := tb_4 (List.mem_of_getElem? (i := 19) rfl) rfl
theorem wd_4_20 : Cond.code yX7_tide cX7_tide 3 (some .int) ∈ AL := tb_4 (List.mem_of_getElem? (i := 20) rfl) rfl
theorem wd_4_21 : Cond.methodLink RL 60 yX7_undo ∈ AL := tb_4 (List.mem_of_getElem? (i := 21) rfl) rfl
theorem wd_4_22 : Cond.instanceMethod yX7_undo ∈ AL := tb_4 (List.mem_of_getElem? (i := 22) rfl) rfl
theorem wd_4_23 : Cond.selects RX7 yX7_undo yX7_undo ∈ AL := tb_4 (List.mem_of_getElem? (i := 23) rfl) rfl
theorem wd_4_24 : Cond.code yX7_undo cX7_undo 3 (some .int) ∈ AL := tb_4 (List.mem_of_getElem? (i := 24) rfl) rfl
theorem wd_4_25 : Cond.methodLink RL 64 yX7_now ∈ AL := tb_4 (List.mem_of_getElem? (i := 25) rfl) rfl
theorem wd_4_26 : Cond.instanceMethod yX7_now ∈ AL := tb_4 (List.mem_of_getElem? (i := 26) rfl) rfl
theorem wd_4_27 : Cond.selects RX7 yX7_now yX7_now ∈ AL := tb_4 (List.mem_of_getElem? (i := 27) rfl) rfl
theorem wd_4_28 : Cond.code yX7_now cX7_now 4 (some .int) ∈ AL := tb_4 (List.mem_of_getElem? (i := 28) rfl) rfl
theorem wd_4_29 : Cond.methodLink RX7 146 yX7_border ∈ AL := tb_4 (List.mem_of_getElem? (i := 29) rfl) rfl
theorem wd_4_31 : Cond.instanceMethod yX7_border ∈ AL := tb_4 (List.mem_of_getElem? (i := 31) rfl) rfl
theorem wd_4_32 : Cond.code yX7_border cX7_border 4 (some .int) ∈ AL := tb_4 (List.mem_of_getElem? (i := 32) rfl) rfl
theorem wd_4_33 : Cond.methodLink RX7 143 yX7_isBorder ∈ AL := tb_4 (List.mem_of_getElem? (i := 33) rfl) rfl
theorem wd_4_35 : Cond.instanceMethod yX7_isBorder ∈ AL := tb_4 (List.mem_of_getElem? (i := 35) rfl) rfl
theorem wd_4_36 : Cond.code yX7_isBorder cX7_isBorder 5 (some .boolean) ∈ AL := tb_4 (List.mem_of_getElem? (i := 36) rfl) rfl
theorem wd_4_37 : Cond.methodLink RL 68 yX7_water ∈ AL := tb_4 (List.mem_of_getElem? (i := 37) rfl) rfl
theorem wd_4_38 : Cond.instanceMethod yX7_water ∈ AL := tb_4 (List.mem_of_getElem? (i := 38) rfl) rfl
theorem wd_4_39 : Cond.selects RX7 yX7_water yX7_water ∈ AL := tb_4 (List.mem_of_getElem? (i := 39) rfl) rfl
theorem wd_4_40 : Cond.code yX7_water cX7_water 4 (some .int) ∈ AL := tb_4 (List.mem_of_getElem? (i := 40) rfl) rfl
theorem wd_4_41 : Cond.methodLink RX7 156 yX7_findFar ∈ AL := tb_4 (List.mem_of_getElem? (i := 41) rfl) rfl
theorem wd_4_43 : Cond.instanceMethod yX7_findFar ∈ AL := tb_4 (List.mem_of_getElem? (i := 43) rfl) rfl
theorem wd_4_44 : Cond.code yX7_findFar cX7_findFar 5 none ∈ AL := tb_4 (List.mem_of_getElem? (i := 44) rfl) rfl
theorem wd_4_45 : Cond.methodLink RX7 150 yX7_costOf ∈ AL := tb_4 (List.mem_of_getElem? (i := 45) rfl) rfl
theorem wd_4_47 : Cond.instanceMethod yX7_costOf ∈ AL := tb_4 (List.mem_of_getElem? (i := 47) rfl) rfl
theorem wd_4_48 : Cond.code yX7_costOf cX7_costOf 3 (some .int) ∈ AL := tb_4 (List.mem_of_getElem? (i := 48) rfl) rfl
theorem wd_4_49 : Cond.methodLink RX7 153 yX7_leastBeside ∈ AL := tb_4 (List.mem_of_getElem? (i := 49) rfl) rfl
theorem wd_4_51 : Cond.instanceMethod yX7_leastBeside ∈ AL := tb_4 (List.mem_of_getElem? (i := 51) rfl) rfl
theorem wd_4_52 : Cond.code yX7_leastBeside cX7_leastBeside 8 (some .int) ∈ AL := tb_4 (List.mem_of_getElem? (i := 52) rfl) rfl
theorem wd_4_53 : Cond.methodLink RL 72 yX7_help ∈ AL := tb_4 (List.mem_of_getElem? (i := 53) rfl) rfl
theorem wd_4_54 : Cond.instanceMethod yX7_help ∈ AL := tb_4 (List.mem_of_getElem? (i := 54) rfl) rfl
theorem wd_4_55 : Cond.selects RX7 yX7_help yX7_help ∈ AL := tb_4 (List.mem_of_getElem? (i := 55) rfl) rfl
theorem wd_4_56 : Cond.code yX7_help cX7_help 9 (some .int) ∈ AL := tb_4 (List.mem_of_getElem? (i := 56) rfl) rfl
theorem wd_4_57 : Cond.methodLink RL 77 yX7_odds ∈ AL := tb_4 (List.mem_of_getElem? (i := 57) rfl) rfl
theorem wd_4_58 : Cond.instanceMethod yX7_odds ∈ AL := tb_4 (List.mem_of_getElem? (i := 58) rfl) rfl
theorem wd_4_59 : Cond.selects RX7 yX7_odds yX7_odds ∈ AL := tb_4 (List.mem_of_getElem? (i := 59) rfl) rfl
theorem wd_4_60 : Cond.code yX7_odds cX7_odds 12 (some .int) ∈ AL := tb_4 (List.mem_of_getElem? (i := 60) rfl) rfl
theorem wd_4_61 : Cond.methodLink RL 82 yX7_saw ∈ AL := tb_4 (List.mem_of_getElem? (i := 61) rfl) rfl
theorem wd_4_62 : Cond.instanceMethod yX7_saw ∈ AL := tb_4 (List.mem_of_getElem? (i := 62) rfl) rfl
theorem wd_4_63 : Cond.selects RX7 yX7_saw yX7_saw ∈ AL := tb_4 (List.mem_of_getElem? (i := 63) rfl) rfl
theorem wd_4_64 : Cond.code yX7_saw cX7_saw 5 (some .int) ∈ AL := tb_4 (List.mem_of_getElem? (i := 64) rfl) rfl
theorem wd_4_65 : Cond.methodLink RL 86 yX7_forget ∈ AL := tb_4 (List.mem_of_getElem? (i := 65) rfl) rfl
theorem wd_4_66 : Cond.instanceMethod yX7_forget ∈ AL := tb_4 (List.mem_of_getElem? (i := 66) rfl) rfl
theorem wd_4_67 : Cond.selects RX7 yX7_forget yX7_forget ∈ AL := tb_4 (List.mem_of_getElem? (i := 67) rfl) rfl
theorem wd_4_68 : Cond.code yX7_forget cX7_forget 2 (some .int) ∈ AL := tb_4 (List.mem_of_getElem? (i := 68) rfl) rfl
theorem wd_4_69 : Cond.methodLink RL 90 yX7_moved ∈ AL := tb_4 (List.mem_of_getElem? (i := 69) rfl) rfl
theorem wd_4_70 : Cond.instanceMethod yX7_moved ∈ AL := tb_4 (List.mem_of_getElem? (i := 70) rfl) rfl
theorem wd_4_71 : Cond.selects RX7 yX7_moved yX7_moved ∈ AL := tb_4 (List.mem_of_getElem? (i := 71) rfl) rfl
theorem wd_4_72 : Cond.code yX7_moved cX7_moved 7 (some .int) ∈ AL := tb_4 (List.mem_of_getElem? (i := 72) rfl) rfl
theorem wd_4_73 : Cond.methodLink RX7 160 yX7_isSo ∈ AL := tb_4 (List.mem_of_getElem? (i := 73) rfl) rfl
theorem wd_4_75 : Cond.instanceMethod yX7_isSo ∈ AL := tb_4 (List.mem_of_getElem? (i := 75) rfl) rfl
theorem wd_4_76 : Cond.code yX7_isSo cX7_isSo 5 (some .boolean) ∈ AL := tb_4 (List.mem_of_getElem? (i := 76) rfl) rfl
theorem wd_4_77 : Cond.methodLink RL 94 yX7_mark ∈ AL := tb_4 (List.mem_of_getElem? (i := 77) rfl) rfl
theorem wd_4_78 : Cond.instanceMethod yX7_mark ∈ AL := tb_4 (List.mem_of_getElem? (i := 78) rfl) rfl
theorem wd_4_79 : Cond.selects RX7 yX7_mark yX7_mark ∈ AL := tb_4 (List.mem_of_getElem? (i := 79) rfl) rfl
theorem wd_4_80 : Cond.code yX7_mark cX7_mark 6 (some .int) ∈ AL := tb_4 (List.mem_of_getElem? (i := 80) rfl) rfl
theorem wd_4_81 : Cond.constant RX7 163 (-1000000) ∈ AL := tb_4 (List.mem_of_getElem? (i := 81) rfl) rfl
theorem wd_4_82 : Cond.constantLong RX7 168 (11) ∈ AL := tb_4 (List.mem_of_getElem? (i := 82) rfl) rfl
theorem wd_4_83 : Cond.constantLong RX7 170 (101) ∈ AL := tb_4 (List.mem_of_getElem? (i := 83) rfl) rfl
theorem wd_4_84 : Cond.constantLong RX7 172 (1011) ∈ AL := tb_4 (List.mem_of_getElem? (i := 84) rfl) rfl
theorem wd_4_85 : Cond.constantLong RX7 174 (10101) ∈ AL := tb_4 (List.mem_of_getElem? (i := 85) rfl) rfl
theorem wd_4_86 : Cond.constantLong RX7 176 (100001) ∈ AL := tb_4 (List.mem_of_getElem? (i := 86) rfl) rfl
theorem wd_4_87 : Cond.methodLink RL 98 yX7_keep ∈ AL := tb_4 (List.mem_of_getElem? (i := 87) rfl) rfl
theorem wd_4_88 : Cond.instanceMethod yX7_keep ∈ AL := tb_4 (List.mem_of_getElem? (i := 88) rfl) rfl
theorem wd_4_89 : Cond.selects RX7 yX7_keep yX7_keep ∈ AL := tb_4 (List.mem_of_getElem? (i := 89) rfl) rfl
theorem wd_4_90 : Cond.code yX7_keep cX7_keep 3 (some .int) ∈ AL := tb_4 (List.mem_of_getElem? (i := 90) rfl) rfl
theorem wd_4_91 : Cond.methodLink RL 102 yX7_back ∈ AL := tb_4 (List.mem_of_getElem? (i := 91) rfl) rfl
theorem wd_4_92 : Cond.instanceMethod yX7_back ∈ AL := tb_4 (List.mem_of_getElem? (i := 92) rfl) rfl
theorem wd_4_93 : Cond.selects RX7 yX7_back yX7_back ∈ AL := tb_4 (List.mem_of_getElem? (i := 93) rfl) rfl
theorem wd_4_94 : Cond.code yX7_back cX7_back 3 (some .int) ∈ AL := tb_4 (List.mem_of_getElem? (i := 94) rfl) rfl
theorem wd_4_95 : Cond.methodLink RL 106 yX7_count ∈ AL := tb_4 (List.mem_of_getElem? (i := 95) rfl) rfl
theorem wd_4_96 : Cond.instanceMethod yX7_count ∈ AL := tb_4 (List.mem_of_getElem? (i := 96) rfl) rfl
theorem wd_4_97 : Cond.selects RX7 yX7_count yX7_count ∈ AL := tb_4 (List.mem_of_getElem? (i := 97) rfl) rfl
theorem wd_4_98 : Cond.code yX7_count cX7_count 2 (some .int) ∈ AL := tb_4 (List.mem_of_getElem? (i := 98) rfl) rfl
theorem wd_4_99 : Cond.methodLink RL 111 yX7_trace ∈ AL := tb_4 (List.mem_of_getElem? (i := 99) rfl) rfl
theorem wd_4_100 : Cond.instanceMethod yX7_trace ∈ AL := tb_4 (List.mem_of_getElem? (i := 100) rfl) rfl
theorem wd_4_101 : Cond.selects RX7 yX7_trace yX7_trace ∈ AL := tb_4 (List.mem_of_getElem? (i := 101) rfl) rfl
theorem wd_4_102 : Cond.code yX7_trace cX7_trace 1 (some .long) ∈ AL := tb_4 (List.mem_of_getElem? (i := 102) rfl) rfl
theorem inA0 : ∀ w ∈ u_ws RX0 TX0 1, w ∈ AL := by
  intro w hw
  obtain ⟨k, hk, rfl⟩ := List.mem_map.mp hw
  have hk := List.mem_range.mp hk
  obtain rfl : k = 0 := by omega
  exact wd_1_156
theorem inA1 : ∀ w ∈ u_ws RX1 TX1 8, w ∈ AL := by
  intro w hw
  obtain ⟨k, hk, rfl⟩ := List.mem_map.mp hw
  have hk := List.mem_range.mp hk
  rcases (show k = 0 ∨ k = 1 ∨ k = 2 ∨ k = 3 ∨ k = 4 ∨ k = 5 ∨ k = 6 ∨ k = 7 by omega) with rfl | rfl | rfl | rfl | rfl | rfl | rfl | rfl
  · exact wd_1_84
  · exact wd_1_86
  · exact wd_1_88
  · exact wd_1_90
  · exact wd_1_92
  · exact wd_1_94
  · exact wd_1_96
  · exact wd_1_98
theorem inA2 : ∀ w ∈ u_ws RX2 TX2 5, w ∈ AL := by
  intro w hw
  obtain ⟨k, hk, rfl⟩ := List.mem_map.mp hw
  have hk := List.mem_range.mp hk
  rcases (show k = 0 ∨ k = 1 ∨ k = 2 ∨ k = 3 ∨ k = 4 by omega) with rfl | rfl | rfl | rfl | rfl
  · exact wd_1_137
  · exact wd_1_139
  · exact wd_1_141
  · exact wd_1_143
  · exact wd_1_145
theorem inA3 : ∀ w ∈ u_ws RX3 TX3 4, w ∈ AL := by
  intro w hw
  obtain ⟨k, hk, rfl⟩ := List.mem_map.mp hw
  have hk := List.mem_range.mp hk
  rcases (show k = 0 ∨ k = 1 ∨ k = 2 ∨ k = 3 by omega) with rfl | rfl | rfl | rfl
  · exact wd_1_116
  · exact wd_1_118
  · exact wd_1_120
  · exact wd_1_122
theorem inA4 : ∀ w ∈ u_ws RX4 TX4 6, w ∈ AL := by
  intro w hw
  obtain ⟨k, hk, rfl⟩ := List.mem_map.mp hw
  have hk := List.mem_range.mp hk
  rcases (show k = 0 ∨ k = 1 ∨ k = 2 ∨ k = 3 ∨ k = 4 ∨ k = 5 by omega) with rfl | rfl | rfl | rfl | rfl | rfl
  · exact wd_1_61
  · exact wd_1_63
  · exact wd_1_65
  · exact wd_1_67
  · exact wd_1_69
  · exact wd_1_71
theorem inA5 : ∀ w ∈ u_ws RX5 TX5 2, w ∈ AL := by
  intro w hw
  obtain ⟨k, hk, rfl⟩ := List.mem_map.mp hw
  have hk := List.mem_range.mp hk
  rcases (show k = 0 ∨ k = 1 by omega) with rfl | rfl
  · exact wd_1_33
  · exact wd_1_35
theorem inA6 : ∀ w ∈ u_ws RX6 TX6 8, w ∈ AL := by
  intro w hw
  obtain ⟨k, hk, rfl⟩ := List.mem_map.mp hw
  have hk := List.mem_range.mp hk
  rcases (show k = 0 ∨ k = 1 ∨ k = 2 ∨ k = 3 ∨ k = 4 ∨ k = 5 ∨ k = 6 ∨ k = 7 by omega) with rfl | rfl | rfl | rfl | rfl | rfl | rfl | rfl
  · exact wd_1_167
  · exact wd_1_169
  · exact wd_1_171
  · exact wd_1_173
  · exact wd_1_175
  · exact wd_1_177
  · exact wd_1_179
  · exact wd_1_181
theorem inA7 : ∀ w ∈ u_ws RX7 TX7 22, w ∈ AL := by
  intro w hw
  obtain ⟨k, hk, rfl⟩ := List.mem_map.mp hw
  have hk := List.mem_range.mp hk
  rcases (show k = 0 ∨ k = 1 ∨ k = 2 ∨ k = 3 ∨ k = 4 ∨ k = 5 ∨ k = 6 ∨ k = 7 ∨ k = 8 ∨ k = 9 ∨ k = 10 ∨ k = 11 ∨ k = 12 ∨ k = 13 ∨ k = 14 ∨ k = 15 ∨ k = 16 ∨ k = 17 ∨ k = 18 ∨ k = 19 ∨ k = 20 ∨ k = 21 by omega) with rfl | rfl | rfl | rfl | rfl | rfl | rfl | rfl | rfl | rfl | rfl | rfl | rfl | rfl | rfl | rfl | rfl | rfl | rfl | rfl | rfl | rfl
  · exact wd_3_101
  · exact wd_3_103
  · exact wd_3_105
  · exact wd_3_107
  · exact wd_3_109
  · exact wd_3_111
  · exact wd_3_113
  · exact wd_3_115
  · exact wd_3_117
  · exact wd_3_119
  · exact wd_3_121
  · exact wd_3_123
  · exact wd_3_125
  · exact wd_3_127
  · exact wd_3_129
  · exact wd_3_131
  · exact wd_3_133
  · exact wd_3_135
  · exact wd_3_137
  · exact wd_3_139
  · exact wd_3_141
  · exact wd_3_143
end
section
theorem dX0_init_0 : decode cX0_init 0 = .ok (.aload_n 0, 1) := by decide +kernel
theorem dX0_init_1 : decode cX0_init 1 = .ok (.invokespecial 3, 3) := by decide +kernel
theorem dX0_init_4 : decode cX0_init 4 = .ok (.return_, 1) := by decide +kernel
theorem dX0_markAs_0 : decode cX0_markAs 0 = .ok (.iload_n 1, 1) := by decide +kernel
theorem dX0_markAs_1 : decode cX0_markAs 1 = .ok (.tableswitch 89 0 5 #[39, 46, 55, 63, 72, 81], 39) := by decide +kernel
theorem dX0_markAs_40 : decode cX0_markAs 40 = .ok (.aload_n 0, 1) := by decide +kernel
theorem dX0_markAs_41 : decode cX0_markAs 41 = .ok (.iload 4, 2) := by decide +kernel
theorem dX0_markAs_43 : decode cX0_markAs 43 = .ok (.invokevirtual 9, 3) := by decide +kernel
theorem dX0_markAs_46 : decode cX0_markAs 46 = .ok (.ireturn, 1) := by decide +kernel
theorem dX0_markAs_47 : decode cX0_markAs 47 = .ok (.aload_n 0, 1) := by decide +kernel
theorem dX0_markAs_48 : decode cX0_markAs 48 = .ok (.aload_n 2, 1) := by decide +kernel
theorem dX0_markAs_49 : decode cX0_markAs 49 = .ok (.iload_n 3, 1) := by decide +kernel
theorem dX0_markAs_50 : decode cX0_markAs 50 = .ok (.iload 4, 2) := by decide +kernel
theorem dX0_markAs_52 : decode cX0_markAs 52 = .ok (.invokevirtual 15, 3) := by decide +kernel
theorem dX0_markAs_55 : decode cX0_markAs 55 = .ok (.ireturn, 1) := by decide +kernel
theorem dX0_markAs_56 : decode cX0_markAs 56 = .ok (.aload_n 0, 1) := by decide +kernel
theorem dX0_markAs_57 : decode cX0_markAs 57 = .ok (.iload_n 3, 1) := by decide +kernel
theorem dX0_markAs_58 : decode cX0_markAs 58 = .ok (.iload 4, 2) := by decide +kernel
theorem dX0_markAs_60 : decode cX0_markAs 60 = .ok (.invokevirtual 19, 3) := by decide +kernel
theorem dX0_markAs_63 : decode cX0_markAs 63 = .ok (.ireturn, 1) := by decide +kernel
theorem dX0_markAs_64 : decode cX0_markAs 64 = .ok (.aload_n 0, 1) := by decide +kernel
theorem dX0_markAs_65 : decode cX0_markAs 65 = .ok (.aload_n 2, 1) := by decide +kernel
theorem dX0_markAs_66 : decode cX0_markAs 66 = .ok (.iload_n 3, 1) := by decide +kernel
theorem dX0_markAs_67 : decode cX0_markAs 67 = .ok (.iload 4, 2) := by decide +kernel
theorem dX0_markAs_69 : decode cX0_markAs 69 = .ok (.invokevirtual 23, 3) := by decide +kernel
theorem dX0_markAs_72 : decode cX0_markAs 72 = .ok (.ireturn, 1) := by decide +kernel
theorem dX0_markAs_73 : decode cX0_markAs 73 = .ok (.aload_n 0, 1) := by decide +kernel
theorem dX0_markAs_74 : decode cX0_markAs 74 = .ok (.aload_n 2, 1) := by decide +kernel
theorem dX0_markAs_75 : decode cX0_markAs 75 = .ok (.iload_n 3, 1) := by decide +kernel
theorem dX0_markAs_76 : decode cX0_markAs 76 = .ok (.iload 4, 2) := by decide +kernel
theorem dX0_markAs_78 : decode cX0_markAs 78 = .ok (.invokevirtual 26, 3) := by decide +kernel
theorem dX0_markAs_81 : decode cX0_markAs 81 = .ok (.ireturn, 1) := by decide +kernel
theorem dX0_markAs_82 : decode cX0_markAs 82 = .ok (.aload_n 0, 1) := by decide +kernel
theorem dX0_markAs_83 : decode cX0_markAs 83 = .ok (.aload_n 2, 1) := by decide +kernel
theorem dX0_markAs_84 : decode cX0_markAs 84 = .ok (.iload 4, 2) := by decide +kernel
theorem dX0_markAs_86 : decode cX0_markAs 86 = .ok (.invokevirtual 29, 3) := by decide +kernel
theorem dX0_markAs_89 : decode cX0_markAs 89 = .ok (.ireturn, 1) := by decide +kernel
theorem dX0_markAs_90 : decode cX0_markAs 90 = .ok (.ldc 33, 2) := by decide +kernel
theorem dX0_markAs_92 : decode cX0_markAs 92 = .ok (.ireturn, 1) := by decide +kernel
theorem dX0_asCell_0 : decode cX0_asCell 0 = .ok (.aload_n 0, 1) := by decide +kernel
theorem dX0_asCell_1 : decode cX0_asCell 1 = .ok (.dup, 1) := by decide +kernel
theorem dX0_asCell_2 : decode cX0_asCell 2 = .ok (.getfield 34, 3) := by decide +kernel
theorem dX0_asCell_5 : decode cX0_asCell 5 = .ok (.lconst 1, 1) := by decide +kernel
theorem dX0_asCell_6 : decode cX0_asCell 6 = .ok (.ladd, 1) := by decide +kernel
theorem dX0_asCell_7 : decode cX0_asCell 7 = .ok (.putfield 34, 3) := by decide +kernel
theorem dX0_asCell_10 : decode cX0_asCell 10 = .ok (.iload_n 1, 1) := by decide +kernel
theorem dX0_asCell_11 : decode cX0_asCell 11 = .ok (.ireturn, 1) := by decide +kernel
theorem dX0_asCastle_0 : decode cX0_asCastle 0 = .ok (.aload_n 0, 1) := by decide +kernel
theorem dX0_asCastle_1 : decode cX0_asCastle 1 = .ok (.dup, 1) := by decide +kernel
theorem dX0_asCastle_2 : decode cX0_asCastle 2 = .ok (.getfield 34, 3) := by decide +kernel
theorem dX0_asCastle_5 : decode cX0_asCastle 5 = .ok (.ldc2_w 38, 3) := by decide +kernel
theorem dX0_asCastle_8 : decode cX0_asCastle 8 = .ok (.ladd, 1) := by decide +kernel
theorem dX0_asCastle_9 : decode cX0_asCastle 9 = .ok (.putfield 34, 3) := by decide +kernel
theorem dX0_asCastle_12 : decode cX0_asCastle 12 = .ok (.aload_n 0, 1) := by decide +kernel
theorem dX0_asCastle_13 : decode cX0_asCastle 13 = .ok (.iload_n 3, 1) := by decide +kernel
theorem dX0_asCastle_14 : decode cX0_asCastle 14 = .ok (.invokevirtual 9, 3) := by decide +kernel
theorem dX0_asCastle_17 : decode cX0_asCastle 17 = .ok (.aload_n 1, 1) := by decide +kernel
theorem dX0_asCastle_18 : decode cX0_asCastle 18 = .ok (.iload_n 2, 1) := by decide +kernel
theorem dX0_asCastle_19 : decode cX0_asCastle 19 = .ok (.iload_n 3, 1) := by decide +kernel
theorem dX0_asCastle_20 : decode cX0_asCastle 20 = .ok (.invokestatic 40, 3) := by decide +kernel
theorem dX0_asCastle_23 : decode cX0_asCastle 23 = .ok (.invokevirtual 43, 3) := by decide +kernel
theorem dX0_asCastle_26 : decode cX0_asCastle 26 = .ok (.iadd, 1) := by decide +kernel
theorem dX0_asCastle_27 : decode cX0_asCastle 27 = .ok (.ireturn, 1) := by decide +kernel
theorem dX0_asCorridor_0 : decode cX0_asCorridor 0 = .ok (.aload_n 0, 1) := by decide +kernel
theorem dX0_asCorridor_1 : decode cX0_asCorridor 1 = .ok (.dup, 1) := by decide +kernel
theorem dX0_asCorridor_2 : decode cX0_asCorridor 2 = .ok (.getfield 34, 3) := by decide +kernel
theorem dX0_asCorridor_5 : decode cX0_asCorridor 5 = .ok (.ldc2_w 48, 3) := by decide +kernel
theorem dX0_asCorridor_8 : decode cX0_asCorridor 8 = .ok (.ladd, 1) := by decide +kernel
theorem dX0_asCorridor_9 : decode cX0_asCorridor 9 = .ok (.putfield 34, 3) := by decide +kernel
theorem dX0_asCorridor_12 : decode cX0_asCorridor 12 = .ok (.aload_n 0, 1) := by decide +kernel
theorem dX0_asCorridor_13 : decode cX0_asCorridor 13 = .ok (.iload_n 2, 1) := by decide +kernel
theorem dX0_asCorridor_14 : decode cX0_asCorridor 14 = .ok (.invokevirtual 9, 3) := by decide +kernel
theorem dX0_asCorridor_17 : decode cX0_asCorridor 17 = .ok (.iload_n 1, 1) := by decide +kernel
theorem dX0_asCorridor_18 : decode cX0_asCorridor 18 = .ok (.isub, 1) := by decide +kernel
theorem dX0_asCorridor_19 : decode cX0_asCorridor 19 = .ok (.ireturn, 1) := by decide +kernel
theorem dX0_asEmpire_0 : decode cX0_asEmpire 0 = .ok (.aload_n 0, 1) := by decide +kernel
theorem dX0_asEmpire_1 : decode cX0_asEmpire 1 = .ok (.dup, 1) := by decide +kernel
theorem dX0_asEmpire_2 : decode cX0_asEmpire 2 = .ok (.getfield 34, 3) := by decide +kernel
theorem dX0_asEmpire_5 : decode cX0_asEmpire 5 = .ok (.ldc2_w 50, 3) := by decide +kernel
theorem dX0_asEmpire_8 : decode cX0_asEmpire 8 = .ok (.ladd, 1) := by decide +kernel
theorem dX0_asEmpire_9 : decode cX0_asEmpire 9 = .ok (.putfield 34, 3) := by decide +kernel
theorem dX0_asEmpire_12 : decode cX0_asEmpire 12 = .ok (.aload_n 0, 1) := by decide +kernel
theorem dX0_asEmpire_13 : decode cX0_asEmpire 13 = .ok (.aload_n 1, 1) := by decide +kernel
theorem dX0_asEmpire_14 : decode cX0_asEmpire 14 = .ok (.iload_n 2, 1) := by decide +kernel
theorem dX0_asEmpire_15 : decode cX0_asEmpire 15 = .ok (.iload_n 3, 1) := by decide +kernel
theorem dX0_asEmpire_16 : decode cX0_asEmpire 16 = .ok (.invokevirtual 15, 3) := by decide +kernel
theorem dX0_asEmpire_19 : decode cX0_asEmpire 19 = .ok (.iconst 2, 1) := by decide +kernel
theorem dX0_asEmpire_20 : decode cX0_asEmpire 20 = .ok (.imul, 1) := by decide +kernel
theorem dX0_asEmpire_21 : decode cX0_asEmpire 21 = .ok (.ireturn, 1) := by decide +kernel
theorem dX0_asPoland_0 : decode cX0_asPoland 0 = .ok (.aload_n 0, 1) := by decide +kernel
theorem dX0_asPoland_1 : decode cX0_asPoland 1 = .ok (.dup, 1) := by decide +kernel
theorem dX0_asPoland_2 : decode cX0_asPoland 2 = .ok (.getfield 34, 3) := by decide +kernel
theorem dX0_asPoland_5 : decode cX0_asPoland 5 = .ok (.ldc2_w 52, 3) := by decide +kernel
theorem dX0_asPoland_8 : decode cX0_asPoland 8 = .ok (.ladd, 1) := by decide +kernel
theorem dX0_asPoland_9 : decode cX0_asPoland 9 = .ok (.putfield 34, 3) := by decide +kernel
theorem dX0_asPoland_12 : decode cX0_asPoland 12 = .ok (.aload_n 1, 1) := by decide +kernel
theorem dX0_asPoland_13 : decode cX0_asPoland 13 = .ok (.iload_n 2, 1) := by decide +kernel
theorem dX0_asPoland_14 : decode cX0_asPoland 14 = .ok (.iload_n 3, 1) := by decide +kernel
theorem dX0_asPoland_15 : decode cX0_asPoland 15 = .ok (.invokestatic 40, 3) := by decide +kernel
theorem dX0_asPoland_18 : decode cX0_asPoland 18 = .ok (.invokevirtual 54, 3) := by decide +kernel
theorem dX0_asPoland_21 : decode cX0_asPoland 21 = .ok (.istore 4, 2) := by decide +kernel
theorem dX0_asPoland_23 : decode cX0_asPoland 23 = .ok (.aload_n 0, 1) := by decide +kernel
theorem dX0_asPoland_24 : decode cX0_asPoland 24 = .ok (.iload_n 2, 1) := by decide +kernel
theorem dX0_asPoland_25 : decode cX0_asPoland 25 = .ok (.iload_n 3, 1) := by decide +kernel
theorem dX0_asPoland_26 : decode cX0_asPoland 26 = .ok (.invokevirtual 19, 3) := by decide +kernel
theorem dX0_asPoland_29 : decode cX0_asPoland 29 = .ok (.aload_n 1, 1) := by decide +kernel
theorem dX0_asPoland_30 : decode cX0_asPoland 30 = .ok (.iload 4, 2) := by decide +kernel
theorem dX0_asPoland_32 : decode cX0_asPoland 32 = .ok (.invokevirtual 57, 3) := by decide +kernel
theorem dX0_asPoland_35 : decode cX0_asPoland 35 = .ok (.invokestatic 60, 3) := by decide +kernel
theorem dX0_asPoland_38 : decode cX0_asPoland 38 = .ok (.iadd, 1) := by decide +kernel
theorem dX0_asPoland_39 : decode cX0_asPoland 39 = .ok (.ireturn, 1) := by decide +kernel
theorem dX0_asSalient_0 : decode cX0_asSalient 0 = .ok (.aload_n 0, 1) := by decide +kernel
theorem dX0_asSalient_1 : decode cX0_asSalient 1 = .ok (.dup, 1) := by decide +kernel
theorem dX0_asSalient_2 : decode cX0_asSalient 2 = .ok (.getfield 34, 3) := by decide +kernel
theorem dX0_asSalient_5 : decode cX0_asSalient 5 = .ok (.ldc2_w 65, 3) := by decide +kernel
theorem dX0_asSalient_8 : decode cX0_asSalient 8 = .ok (.ladd, 1) := by decide +kernel
theorem dX0_asSalient_9 : decode cX0_asSalient 9 = .ok (.putfield 34, 3) := by decide +kernel
theorem dX0_asSalient_12 : decode cX0_asSalient 12 = .ok (.aload_n 0, 1) := by decide +kernel
theorem dX0_asSalient_13 : decode cX0_asSalient 13 = .ok (.iload_n 2, 1) := by decide +kernel
theorem dX0_asSalient_14 : decode cX0_asSalient 14 = .ok (.invokevirtual 9, 3) := by decide +kernel
theorem dX0_asSalient_17 : decode cX0_asSalient 17 = .ok (.aload_n 1, 1) := by decide +kernel
theorem dX0_asSalient_18 : decode cX0_asSalient 18 = .ok (.getfield 67, 3) := by decide +kernel
theorem dX0_asSalient_21 : decode cX0_asSalient 21 = .ok (.iadd, 1) := by decide +kernel
theorem dX0_asSalient_22 : decode cX0_asSalient 22 = .ok (.ireturn, 1) := by decide +kernel
theorem dX1_init_0 : decode cX1_init 0 = .ok (.aload_n 0, 1) := by decide +kernel
theorem dX1_init_1 : decode cX1_init 1 = .ok (.invokespecial 3, 3) := by decide +kernel
theorem dX1_init_4 : decode cX1_init 4 = .ok (.aload_n 0, 1) := by decide +kernel
theorem dX1_init_5 : decode cX1_init 5 = .ok (.new 9, 3) := by decide +kernel
theorem dX1_init_8 : decode cX1_init 8 = .ok (.dup, 1) := by decide +kernel
theorem dX1_init_9 : decode cX1_init 9 = .ok (.invokespecial 11, 3) := by decide +kernel
theorem dX1_init_12 : decode cX1_init 12 = .ok (.putfield 12, 3) := by decide +kernel
theorem dX1_init_15 : decode cX1_init 15 = .ok (.aload_n 0, 1) := by decide +kernel
theorem dX1_init_16 : decode cX1_init 16 = .ok (.new 18, 3) := by decide +kernel
theorem dX1_init_19 : decode cX1_init 19 = .ok (.dup, 1) := by decide +kernel
theorem dX1_init_20 : decode cX1_init 20 = .ok (.invokespecial 20, 3) := by decide +kernel
theorem dX1_init_23 : decode cX1_init 23 = .ok (.putfield 21, 3) := by decide +kernel
theorem dX1_init_26 : decode cX1_init 26 = .ok (.return_, 1) := by decide +kernel
theorem dX1_readAll_0 : decode cX1_readAll 0 = .ok (.aload_n 0, 1) := by decide +kernel
theorem dX1_readAll_1 : decode cX1_readAll 1 = .ok (.getfield 21, 3) := by decide +kernel
theorem dX1_readAll_4 : decode cX1_readAll 4 = .ok (.invokevirtual 25, 3) := by decide +kernel
theorem dX1_readAll_7 : decode cX1_readAll 7 = .ok (.aload_n 0, 1) := by decide +kernel
theorem dX1_readAll_8 : decode cX1_readAll 8 = .ok (.iconst 0, 1) := by decide +kernel
theorem dX1_readAll_9 : decode cX1_readAll 9 = .ok (.putfield 28, 3) := by decide +kernel
theorem dX1_readAll_12 : decode cX1_readAll 12 = .ok (.aload_n 0, 1) := by decide +kernel
theorem dX1_readAll_13 : decode cX1_readAll 13 = .ok (.iconst 0, 1) := by decide +kernel
theorem dX1_readAll_14 : decode cX1_readAll 14 = .ok (.putfield 32, 3) := by decide +kernel
theorem dX1_readAll_17 : decode cX1_readAll 17 = .ok (.aload_n 0, 1) := by decide +kernel
theorem dX1_readAll_18 : decode cX1_readAll 18 = .ok (.iconst 0, 1) := by decide +kernel
theorem dX1_readAll_19 : decode cX1_readAll 19 = .ok (.putfield 35, 3) := by decide +kernel
theorem dX1_readAll_22 : decode cX1_readAll 22 = .ok (.iconst 0, 1) := by decide +kernel
theorem dX1_readAll_23 : decode cX1_readAll 23 = .ok (.istore_n 1, 1) := by decide +kernel
theorem dX1_readAll_24 : decode cX1_readAll 24 = .ok (.iload_n 1, 1) := by decide +kernel
theorem dX1_readAll_25 : decode cX1_readAll 25 = .ok (.sipush 150, 3) := by decide +kernel
theorem dX1_readAll_28 : decode cX1_readAll 28 = .ok (.if_icmp .gt 50, 3) := by decide +kernel
theorem dX1_readAll_31 : decode cX1_readAll 31 = .ok (.aload_n 0, 1) := by decide +kernel
theorem dX1_readAll_32 : decode cX1_readAll 32 = .ok (.invokevirtual 39, 3) := by decide +kernel
theorem dX1_readAll_35 : decode cX1_readAll 35 = .ok (.aload_n 0, 1) := by decide +kernel
theorem dX1_readAll_36 : decode cX1_readAll 36 = .ok (.getfield 42, 3) := by decide +kernel
theorem dX1_readAll_39 : decode cX1_readAll 39 = .ok (.ifCond .ne 8, 3) := by decide +kernel
theorem dX1_readAll_42 : decode cX1_readAll 42 = .ok (.aload_n 0, 1) := by decide +kernel
theorem dX1_readAll_43 : decode cX1_readAll 43 = .ok (.getfield 32, 3) := by decide +kernel
theorem dX1_readAll_46 : decode cX1_readAll 46 = .ok (.ireturn, 1) := by decide +kernel
theorem dX1_readAll_47 : decode cX1_readAll 47 = .ok (.aload_n 0, 1) := by decide +kernel
theorem dX1_readAll_48 : decode cX1_readAll 48 = .ok (.invokevirtual 45, 3) := by decide +kernel
theorem dX1_readAll_51 : decode cX1_readAll 51 = .ok (.ifCond .ne 11, 3) := by decide +kernel
theorem dX1_readAll_54 : decode cX1_readAll 54 = .ok (.bipush (-10), 2) := by decide +kernel
theorem dX1_readAll_56 : decode cX1_readAll 56 = .ok (.aload_n 0, 1) := by decide +kernel
theorem dX1_readAll_57 : decode cX1_readAll 57 = .ok (.getfield 49, 3) := by decide +kernel
theorem dX1_readAll_60 : decode cX1_readAll 60 = .ok (.isub, 1) := by decide +kernel
theorem dX1_readAll_61 : decode cX1_readAll 61 = .ok (.ireturn, 1) := by decide +kernel
theorem dX1_readAll_62 : decode cX1_readAll 62 = .ok (.aload_n 0, 1) := by decide +kernel
theorem dX1_readAll_63 : decode cX1_readAll 63 = .ok (.dup, 1) := by decide +kernel
theorem dX1_readAll_64 : decode cX1_readAll 64 = .ok (.getfield 32, 3) := by decide +kernel
theorem dX1_readAll_67 : decode cX1_readAll 67 = .ok (.iconst 1, 1) := by decide +kernel
theorem dX1_readAll_68 : decode cX1_readAll 68 = .ok (.iadd, 1) := by decide +kernel
theorem dX1_readAll_69 : decode cX1_readAll 69 = .ok (.putfield 32, 3) := by decide +kernel
theorem dX1_readAll_72 : decode cX1_readAll 72 = .ok (.iinc 1 1, 3) := by decide +kernel
theorem dX1_readAll_75 : decode cX1_readAll 75 = .ok (.goto (-51), 3) := by decide +kernel
theorem dX1_readAll_78 : decode cX1_readAll 78 = .ok (.aload_n 0, 1) := by decide +kernel
theorem dX1_readAll_79 : decode cX1_readAll 79 = .ok (.getfield 32, 3) := by decide +kernel
theorem dX1_readAll_82 : decode cX1_readAll 82 = .ok (.ireturn, 1) := by decide +kernel
theorem dX1_isItem_0 : decode cX1_isItem 0 = .ok (.aload_n 0, 1) := by decide +kernel
theorem dX1_isItem_1 : decode cX1_isItem 1 = .ok (.getfield 42, 3) := by decide +kernel
theorem dX1_isItem_4 : decode cX1_isItem 4 = .ok (.iconst 1, 1) := by decide +kernel
theorem dX1_isItem_5 : decode cX1_isItem 5 = .ok (.if_icmp .eq 5, 3) := by decide +kernel
theorem dX1_isItem_8 : decode cX1_isItem 8 = .ok (.iconst 0, 1) := by decide +kernel
theorem dX1_isItem_9 : decode cX1_isItem 9 = .ok (.ireturn, 1) := by decide +kernel
theorem dX1_isItem_10 : decode cX1_isItem 10 = .ok (.aload_n 0, 1) := by decide +kernel
theorem dX1_isItem_11 : decode cX1_isItem 11 = .ok (.getfield 52, 3) := by decide +kernel
theorem dX1_isItem_14 : decode cX1_isItem 14 = .ok (.lookupswitch 136 #[(99, 89), (103, 42), (111, 69), (119, 109)], 42) := by decide +kernel
theorem dX1_isItem_56 : decode cX1_isItem 56 = .ok (.aload_n 0, 1) := by decide +kernel
theorem dX1_isItem_57 : decode cX1_isItem 57 = .ok (.getfield 32, 3) := by decide +kernel
theorem dX1_isItem_60 : decode cX1_isItem 60 = .ok (.ifCond .ne 21, 3) := by decide +kernel
theorem dX1_isItem_63 : decode cX1_isItem 63 = .ok (.aload_n 0, 1) := by decide +kernel
theorem dX1_isItem_64 : decode cX1_isItem 64 = .ok (.invokevirtual 55, 3) := by decide +kernel
theorem dX1_isItem_67 : decode cX1_isItem 67 = .ok (.ifCond .eq 14, 3) := by decide +kernel
theorem dX1_isItem_70 : decode cX1_isItem 70 = .ok (.aload_n 0, 1) := by decide +kernel
theorem dX1_isItem_71 : decode cX1_isItem 71 = .ok (.invokevirtual 58, 3) := by decide +kernel
theorem dX1_isItem_74 : decode cX1_isItem 74 = .ok (.ifCond .eq 7, 3) := by decide +kernel
theorem dX1_isItem_77 : decode cX1_isItem 77 = .ok (.iconst 1, 1) := by decide +kernel
theorem dX1_isItem_78 : decode cX1_isItem 78 = .ok (.goto 4, 3) := by decide +kernel
theorem dX1_isItem_81 : decode cX1_isItem 81 = .ok (.iconst 0, 1) := by decide +kernel
theorem dX1_isItem_82 : decode cX1_isItem 82 = .ok (.ireturn, 1) := by decide +kernel
theorem dX1_isItem_83 : decode cX1_isItem 83 = .ok (.aload_n 0, 1) := by decide +kernel
theorem dX1_isItem_84 : decode cX1_isItem 84 = .ok (.invokevirtual 61, 3) := by decide +kernel
theorem dX1_isItem_87 : decode cX1_isItem 87 = .ok (.ifCond .eq 14, 3) := by decide +kernel
theorem dX1_isItem_90 : decode cX1_isItem 90 = .ok (.aload_n 0, 1) := by decide +kernel
theorem dX1_isItem_91 : decode cX1_isItem 91 = .ok (.invokevirtual 58, 3) := by decide +kernel
theorem dX1_isItem_94 : decode cX1_isItem 94 = .ok (.ifCond .eq 7, 3) := by decide +kernel
theorem dX1_isItem_97 : decode cX1_isItem 97 = .ok (.iconst 1, 1) := by decide +kernel
theorem dX1_isItem_98 : decode cX1_isItem 98 = .ok (.goto 4, 3) := by decide +kernel
theorem dX1_isItem_101 : decode cX1_isItem 101 = .ok (.iconst 0, 1) := by decide +kernel
theorem dX1_isItem_102 : decode cX1_isItem 102 = .ok (.ireturn, 1) := by decide +kernel
theorem dX1_isItem_103 : decode cX1_isItem 103 = .ok (.aload_n 0, 1) := by decide +kernel
theorem dX1_isItem_104 : decode cX1_isItem 104 = .ok (.invokevirtual 64, 3) := by decide +kernel
theorem dX1_isItem_107 : decode cX1_isItem 107 = .ok (.ifCond .eq 14, 3) := by decide +kernel
theorem dX1_isItem_110 : decode cX1_isItem 110 = .ok (.aload_n 0, 1) := by decide +kernel
theorem dX1_isItem_111 : decode cX1_isItem 111 = .ok (.invokevirtual 58, 3) := by decide +kernel
theorem dX1_isItem_114 : decode cX1_isItem 114 = .ok (.ifCond .eq 7, 3) := by decide +kernel
theorem dX1_isItem_117 : decode cX1_isItem 117 = .ok (.iconst 1, 1) := by decide +kernel
theorem dX1_isItem_118 : decode cX1_isItem 118 = .ok (.goto 4, 3) := by decide +kernel
theorem dX1_isItem_121 : decode cX1_isItem 121 = .ok (.iconst 0, 1) := by decide +kernel
theorem dX1_isItem_122 : decode cX1_isItem 122 = .ok (.ireturn, 1) := by decide +kernel
theorem dX1_isItem_123 : decode cX1_isItem 123 = .ok (.aload_n 0, 1) := by decide +kernel
theorem dX1_isItem_124 : decode cX1_isItem 124 = .ok (.getfield 35, 3) := by decide +kernel
theorem dX1_isItem_127 : decode cX1_isItem 127 = .ok (.ifCond .ne 21, 3) := by decide +kernel
theorem dX1_isItem_130 : decode cX1_isItem 130 = .ok (.aload_n 0, 1) := by decide +kernel
theorem dX1_isItem_131 : decode cX1_isItem 131 = .ok (.invokevirtual 67, 3) := by decide +kernel
theorem dX1_isItem_134 : decode cX1_isItem 134 = .ok (.ifCond .eq 14, 3) := by decide +kernel
theorem dX1_isItem_137 : decode cX1_isItem 137 = .ok (.aload_n 0, 1) := by decide +kernel
theorem dX1_isItem_138 : decode cX1_isItem 138 = .ok (.invokevirtual 58, 3) := by decide +kernel
theorem dX1_isItem_141 : decode cX1_isItem 141 = .ok (.ifCond .eq 7, 3) := by decide +kernel
theorem dX1_isItem_144 : decode cX1_isItem 144 = .ok (.iconst 1, 1) := by decide +kernel
theorem dX1_isItem_145 : decode cX1_isItem 145 = .ok (.goto 4, 3) := by decide +kernel
theorem dX1_isItem_148 : decode cX1_isItem 148 = .ok (.iconst 0, 1) := by decide +kernel
theorem dX1_isItem_149 : decode cX1_isItem 149 = .ok (.ireturn, 1) := by decide +kernel
theorem dX1_isItem_150 : decode cX1_isItem 150 = .ok (.iconst 0, 1) := by decide +kernel
theorem dX1_isItem_151 : decode cX1_isItem 151 = .ok (.ireturn, 1) := by decide +kernel
theorem dX1_isSize_0 : decode cX1_isSize 0 = .ok (.aload_n 0, 1) := by decide +kernel
theorem dX1_isSize_1 : decode cX1_isSize 1 = .ok (.invokevirtual 39, 3) := by decide +kernel
theorem dX1_isSize_4 : decode cX1_isSize 4 = .ok (.aload_n 0, 1) := by decide +kernel
theorem dX1_isSize_5 : decode cX1_isSize 5 = .ok (.iconst 1, 1) := by decide +kernel
theorem dX1_isSize_6 : decode cX1_isSize 6 = .ok (.iconst 5, 1) := by decide +kernel
theorem dX1_isSize_7 : decode cX1_isSize 7 = .ok (.invokevirtual 70, 3) := by decide +kernel
theorem dX1_isSize_10 : decode cX1_isSize 10 = .ok (.ifCond .ne 5, 3) := by decide +kernel
theorem dX1_isSize_13 : decode cX1_isSize 13 = .ok (.iconst 0, 1) := by decide +kernel
theorem dX1_isSize_14 : decode cX1_isSize 14 = .ok (.ireturn, 1) := by decide +kernel
theorem dX1_isSize_15 : decode cX1_isSize 15 = .ok (.aload_n 0, 1) := by decide +kernel
theorem dX1_isSize_16 : decode cX1_isSize 16 = .ok (.getfield 21, 3) := by decide +kernel
theorem dX1_isSize_19 : decode cX1_isSize 19 = .ok (.aload_n 0, 1) := by decide +kernel
theorem dX1_isSize_20 : decode cX1_isSize 20 = .ok (.getfield 52, 3) := by decide +kernel
theorem dX1_isSize_23 : decode cX1_isSize 23 = .ok (.putfield 74, 3) := by decide +kernel
theorem dX1_isSize_26 : decode cX1_isSize 26 = .ok (.aload_n 0, 1) := by decide +kernel
theorem dX1_isSize_27 : decode cX1_isSize 27 = .ok (.invokevirtual 39, 3) := by decide +kernel
theorem dX1_isSize_30 : decode cX1_isSize 30 = .ok (.aload_n 0, 1) := by decide +kernel
theorem dX1_isSize_31 : decode cX1_isSize 31 = .ok (.iconst 1, 1) := by decide +kernel
theorem dX1_isSize_32 : decode cX1_isSize 32 = .ok (.iconst 4, 1) := by decide +kernel
theorem dX1_isSize_33 : decode cX1_isSize 33 = .ok (.invokevirtual 70, 3) := by decide +kernel
theorem dX1_isSize_36 : decode cX1_isSize 36 = .ok (.ifCond .ne 5, 3) := by decide +kernel
theorem dX1_isSize_39 : decode cX1_isSize 39 = .ok (.iconst 0, 1) := by decide +kernel
theorem dX1_isSize_40 : decode cX1_isSize 40 = .ok (.ireturn, 1) := by decide +kernel
theorem dX1_isSize_41 : decode cX1_isSize 41 = .ok (.aload_n 0, 1) := by decide +kernel
theorem dX1_isSize_42 : decode cX1_isSize 42 = .ok (.getfield 21, 3) := by decide +kernel
theorem dX1_isSize_45 : decode cX1_isSize 45 = .ok (.aload_n 0, 1) := by decide +kernel
theorem dX1_isSize_46 : decode cX1_isSize 46 = .ok (.getfield 52, 3) := by decide +kernel
theorem dX1_isSize_49 : decode cX1_isSize 49 = .ok (.putfield 77, 3) := by decide +kernel
theorem dX1_isSize_52 : decode cX1_isSize 52 = .ok (.iconst 1, 1) := by decide +kernel
theorem dX1_isSize_53 : decode cX1_isSize 53 = .ok (.ireturn, 1) := by decide +kernel
theorem dX1_isHolder_0 : decode cX1_isHolder 0 = .ok (.aload_n 0, 1) := by decide +kernel
theorem dX1_isHolder_1 : decode cX1_isHolder 1 = .ok (.invokevirtual 39, 3) := by decide +kernel
theorem dX1_isHolder_4 : decode cX1_isHolder 4 = .ok (.aload_n 0, 1) := by decide +kernel
theorem dX1_isHolder_5 : decode cX1_isHolder 5 = .ok (.iconst 0, 1) := by decide +kernel
theorem dX1_isHolder_6 : decode cX1_isHolder 6 = .ok (.iconst 4, 1) := by decide +kernel
theorem dX1_isHolder_7 : decode cX1_isHolder 7 = .ok (.invokevirtual 70, 3) := by decide +kernel
theorem dX1_isHolder_10 : decode cX1_isHolder 10 = .ok (.ifCond .ne 5, 3) := by decide +kernel
theorem dX1_isHolder_13 : decode cX1_isHolder 13 = .ok (.iconst 0, 1) := by decide +kernel
theorem dX1_isHolder_14 : decode cX1_isHolder 14 = .ok (.ireturn, 1) := by decide +kernel
theorem dX1_isHolder_15 : decode cX1_isHolder 15 = .ok (.aload_n 0, 1) := by decide +kernel
theorem dX1_isHolder_16 : decode cX1_isHolder 16 = .ok (.getfield 52, 3) := by decide +kernel
theorem dX1_isHolder_19 : decode cX1_isHolder 19 = .ok (.istore_n 1, 1) := by decide +kernel
theorem dX1_isHolder_20 : decode cX1_isHolder 20 = .ok (.aload_n 0, 1) := by decide +kernel
theorem dX1_isHolder_21 : decode cX1_isHolder 21 = .ok (.aload_n 0, 1) := by decide +kernel
theorem dX1_isHolder_22 : decode cX1_isHolder 22 = .ok (.getfield 21, 3) := by decide +kernel
theorem dX1_isHolder_25 : decode cX1_isHolder 25 = .ok (.invokevirtual 80, 3) := by decide +kernel
theorem dX1_isHolder_28 : decode cX1_isHolder 28 = .ok (.invokevirtual 84, 3) := by decide +kernel
theorem dX1_isHolder_31 : decode cX1_isHolder 31 = .ok (.istore_n 2, 1) := by decide +kernel
theorem dX1_isHolder_32 : decode cX1_isHolder 32 = .ok (.aload_n 0, 1) := by decide +kernel
theorem dX1_isHolder_33 : decode cX1_isHolder 33 = .ok (.getfield 21, 3) := by decide +kernel
theorem dX1_isHolder_36 : decode cX1_isHolder 36 = .ok (.iload_n 1, 1) := by decide +kernel
theorem dX1_isHolder_37 : decode cX1_isHolder 37 = .ok (.iload_n 2, 1) := by decide +kernel
theorem dX1_isHolder_38 : decode cX1_isHolder 38 = .ok (.invokevirtual 88, 3) := by decide +kernel
theorem dX1_isHolder_41 : decode cX1_isHolder 41 = .ok (.iload_n 2, 1) := by decide +kernel
theorem dX1_isHolder_42 : decode cX1_isHolder 42 = .ok (.ifCond .eq 7, 3) := by decide +kernel
theorem dX1_isHolder_45 : decode cX1_isHolder 45 = .ok (.iconst 1, 1) := by decide +kernel
theorem dX1_isHolder_46 : decode cX1_isHolder 46 = .ok (.goto 4, 3) := by decide +kernel
theorem dX1_isHolder_49 : decode cX1_isHolder 49 = .ok (.iconst 0, 1) := by decide +kernel
theorem dX1_isHolder_50 : decode cX1_isHolder 50 = .ok (.ireturn, 1) := by decide +kernel
theorem dX1_isCloth_0 : decode cX1_isCloth 0 = .ok (.aload_n 0, 1) := by decide +kernel
theorem dX1_isCloth_1 : decode cX1_isCloth 1 = .ok (.aload_n 0, 1) := by decide +kernel
theorem dX1_isCloth_2 : decode cX1_isCloth 2 = .ok (.getfield 21, 3) := by decide +kernel
theorem dX1_isCloth_5 : decode cX1_isCloth 5 = .ok (.getfield 92, 3) := by decide +kernel
theorem dX1_isCloth_8 : decode cX1_isCloth 8 = .ok (.invokevirtual 84, 3) := by decide +kernel
theorem dX1_isCloth_11 : decode cX1_isCloth 11 = .ok (.istore_n 1, 1) := by decide +kernel
theorem dX1_isCloth_12 : decode cX1_isCloth 12 = .ok (.aload_n 0, 1) := by decide +kernel
theorem dX1_isCloth_13 : decode cX1_isCloth 13 = .ok (.getfield 21, 3) := by decide +kernel
theorem dX1_isCloth_16 : decode cX1_isCloth 16 = .ok (.dup, 1) := by decide +kernel
theorem dX1_isCloth_17 : decode cX1_isCloth 17 = .ok (.getfield 92, 3) := by decide +kernel
theorem dX1_isCloth_20 : decode cX1_isCloth 20 = .ok (.iload_n 1, 1) := by decide +kernel
theorem dX1_isCloth_21 : decode cX1_isCloth 21 = .ok (.ior, 1) := by decide +kernel
theorem dX1_isCloth_22 : decode cX1_isCloth 22 = .ok (.putfield 92, 3) := by decide +kernel
theorem dX1_isCloth_25 : decode cX1_isCloth 25 = .ok (.iload_n 1, 1) := by decide +kernel
theorem dX1_isCloth_26 : decode cX1_isCloth 26 = .ok (.ifCond .eq 7, 3) := by decide +kernel
theorem dX1_isCloth_29 : decode cX1_isCloth 29 = .ok (.iconst 1, 1) := by decide +kernel
theorem dX1_isCloth_30 : decode cX1_isCloth 30 = .ok (.goto 4, 3) := by decide +kernel
theorem dX1_isCloth_33 : decode cX1_isCloth 33 = .ok (.iconst 0, 1) := by decide +kernel
theorem dX1_isCloth_34 : decode cX1_isCloth 34 = .ok (.ireturn, 1) := by decide +kernel
theorem dX1_isWind_0 : decode cX1_isWind 0 = .ok (.aload_n 0, 1) := by decide +kernel
theorem dX1_isWind_1 : decode cX1_isWind 1 = .ok (.invokevirtual 39, 3) := by decide +kernel
theorem dX1_isWind_4 : decode cX1_isWind 4 = .ok (.aload_n 0, 1) := by decide +kernel
theorem dX1_isWind_5 : decode cX1_isWind 5 = .ok (.iconst 0, 1) := by decide +kernel
theorem dX1_isWind_6 : decode cX1_isWind 6 = .ok (.iconst 1, 1) := by decide +kernel
theorem dX1_isWind_7 : decode cX1_isWind 7 = .ok (.invokevirtual 70, 3) := by decide +kernel
theorem dX1_isWind_10 : decode cX1_isWind 10 = .ok (.ifCond .ne 5, 3) := by decide +kernel
theorem dX1_isWind_13 : decode cX1_isWind 13 = .ok (.iconst 0, 1) := by decide +kernel
theorem dX1_isWind_14 : decode cX1_isWind 14 = .ok (.ireturn, 1) := by decide +kernel
theorem dX1_isWind_15 : decode cX1_isWind 15 = .ok (.aload_n 0, 1) := by decide +kernel
theorem dX1_isWind_16 : decode cX1_isWind 16 = .ok (.getfield 21, 3) := by decide +kernel
theorem dX1_isWind_19 : decode cX1_isWind 19 = .ok (.aload_n 0, 1) := by decide +kernel
theorem dX1_isWind_20 : decode cX1_isWind 20 = .ok (.getfield 52, 3) := by decide +kernel
theorem dX1_isWind_23 : decode cX1_isWind 23 = .ok (.putfield 95, 3) := by decide +kernel
theorem dX1_isWind_26 : decode cX1_isWind 26 = .ok (.aload_n 0, 1) := by decide +kernel
theorem dX1_isWind_27 : decode cX1_isWind 27 = .ok (.iconst 1, 1) := by decide +kernel
theorem dX1_isWind_28 : decode cX1_isWind 28 = .ok (.putfield 35, 3) := by decide +kernel
theorem dX1_isWind_31 : decode cX1_isWind 31 = .ok (.iconst 1, 1) := by decide +kernel
theorem dX1_isWind_32 : decode cX1_isWind 32 = .ok (.ireturn, 1) := by decide +kernel
theorem dX1_isStop_0 : decode cX1_isStop 0 = .ok (.aload_n 0, 1) := by decide +kernel
theorem dX1_isStop_1 : decode cX1_isStop 1 = .ok (.invokevirtual 39, 3) := by decide +kernel
theorem dX1_isStop_4 : decode cX1_isStop 4 = .ok (.aload_n 0, 1) := by decide +kernel
theorem dX1_isStop_5 : decode cX1_isStop 5 = .ok (.getfield 42, 3) := by decide +kernel
theorem dX1_isStop_8 : decode cX1_isStop 8 = .ok (.iconst 3, 1) := by decide +kernel
theorem dX1_isStop_9 : decode cX1_isStop 9 = .ok (.if_icmp .ne 7, 3) := by decide +kernel
theorem dX1_isStop_12 : decode cX1_isStop 12 = .ok (.iconst 1, 1) := by decide +kernel
theorem dX1_isStop_13 : decode cX1_isStop 13 = .ok (.goto 4, 3) := by decide +kernel
theorem dX1_isStop_16 : decode cX1_isStop 16 = .ok (.iconst 0, 1) := by decide +kernel
theorem dX1_isStop_17 : decode cX1_isStop 17 = .ok (.ireturn, 1) := by decide +kernel
theorem dX1_readFreeBit_0 : decode cX1_readFreeBit 0 = .ok (.aload_n 0, 1) := by decide +kernel
theorem dX1_readFreeBit_1 : decode cX1_readFreeBit 1 = .ok (.invokevirtual 39, 3) := by decide +kernel
theorem dX1_readFreeBit_4 : decode cX1_readFreeBit 4 = .ok (.aload_n 0, 1) := by decide +kernel
theorem dX1_readFreeBit_5 : decode cX1_readFreeBit 5 = .ok (.iconst 0, 1) := by decide +kernel
theorem dX1_readFreeBit_6 : decode cX1_readFreeBit 6 = .ok (.aload_n 0, 1) := by decide +kernel
theorem dX1_readFreeBit_7 : decode cX1_readFreeBit 7 = .ok (.getfield 21, 3) := by decide +kernel
theorem dX1_readFreeBit_10 : decode cX1_readFreeBit 10 = .ok (.getfield 74, 3) := by decide +kernel
theorem dX1_readFreeBit_13 : decode cX1_readFreeBit 13 = .ok (.iconst 1, 1) := by decide +kernel
theorem dX1_readFreeBit_14 : decode cX1_readFreeBit 14 = .ok (.isub, 1) := by decide +kernel
theorem dX1_readFreeBit_15 : decode cX1_readFreeBit 15 = .ok (.invokevirtual 70, 3) := by decide +kernel
theorem dX1_readFreeBit_18 : decode cX1_readFreeBit 18 = .ok (.ifCond .ne 5, 3) := by decide +kernel
theorem dX1_readFreeBit_21 : decode cX1_readFreeBit 21 = .ok (.iconst 0, 1) := by decide +kernel
theorem dX1_readFreeBit_22 : decode cX1_readFreeBit 22 = .ok (.ireturn, 1) := by decide +kernel
theorem dX1_readFreeBit_23 : decode cX1_readFreeBit 23 = .ok (.aload_n 0, 1) := by decide +kernel
theorem dX1_readFreeBit_24 : decode cX1_readFreeBit 24 = .ok (.getfield 52, 3) := by decide +kernel
theorem dX1_readFreeBit_27 : decode cX1_readFreeBit 27 = .ok (.istore_n 2, 1) := by decide +kernel
theorem dX1_readFreeBit_28 : decode cX1_readFreeBit 28 = .ok (.aload_n 0, 1) := by decide +kernel
theorem dX1_readFreeBit_29 : decode cX1_readFreeBit 29 = .ok (.invokevirtual 39, 3) := by decide +kernel
theorem dX1_readFreeBit_32 : decode cX1_readFreeBit 32 = .ok (.aload_n 0, 1) := by decide +kernel
theorem dX1_readFreeBit_33 : decode cX1_readFreeBit 33 = .ok (.iconst 0, 1) := by decide +kernel
theorem dX1_readFreeBit_34 : decode cX1_readFreeBit 34 = .ok (.aload_n 0, 1) := by decide +kernel
theorem dX1_readFreeBit_35 : decode cX1_readFreeBit 35 = .ok (.getfield 21, 3) := by decide +kernel
theorem dX1_readFreeBit_38 : decode cX1_readFreeBit 38 = .ok (.getfield 77, 3) := by decide +kernel
theorem dX1_readFreeBit_41 : decode cX1_readFreeBit 41 = .ok (.iconst 1, 1) := by decide +kernel
theorem dX1_readFreeBit_42 : decode cX1_readFreeBit 42 = .ok (.isub, 1) := by decide +kernel
theorem dX1_readFreeBit_43 : decode cX1_readFreeBit 43 = .ok (.invokevirtual 70, 3) := by decide +kernel
theorem dX1_readFreeBit_46 : decode cX1_readFreeBit 46 = .ok (.ifCond .ne 5, 3) := by decide +kernel
theorem dX1_readFreeBit_49 : decode cX1_readFreeBit 49 = .ok (.iconst 0, 1) := by decide +kernel
theorem dX1_readFreeBit_50 : decode cX1_readFreeBit 50 = .ok (.ireturn, 1) := by decide +kernel
theorem dX1_readFreeBit_51 : decode cX1_readFreeBit 51 = .ok (.iload_n 2, 1) := by decide +kernel
theorem dX1_readFreeBit_52 : decode cX1_readFreeBit 52 = .ok (.aload_n 0, 1) := by decide +kernel
theorem dX1_readFreeBit_53 : decode cX1_readFreeBit 53 = .ok (.getfield 52, 3) := by decide +kernel
theorem dX1_readFreeBit_56 : decode cX1_readFreeBit 56 = .ok (.invokestatic 98, 3) := by decide +kernel
theorem dX1_readFreeBit_59 : decode cX1_readFreeBit 59 = .ok (.iload_n 1, 1) := by decide +kernel
theorem dX1_readFreeBit_60 : decode cX1_readFreeBit 60 = .ok (.iconst (-1), 1) := by decide +kernel
theorem dX1_readFreeBit_61 : decode cX1_readFreeBit 61 = .ok (.ixor, 1) := by decide +kernel
theorem dX1_readFreeBit_62 : decode cX1_readFreeBit 62 = .ok (.iand, 1) := by decide +kernel
theorem dX1_readFreeBit_63 : decode cX1_readFreeBit 63 = .ok (.ireturn, 1) := by decide +kernel
theorem dX1_isNumber_0 : decode cX1_isNumber 0 = .ok (.aload_n 0, 1) := by decide +kernel
theorem dX1_isNumber_1 : decode cX1_isNumber 1 = .ok (.getfield 42, 3) := by decide +kernel
theorem dX1_isNumber_4 : decode cX1_isNumber 4 = .ok (.iconst 2, 1) := by decide +kernel
theorem dX1_isNumber_5 : decode cX1_isNumber 5 = .ok (.if_icmp .ne 23, 3) := by decide +kernel
theorem dX1_isNumber_8 : decode cX1_isNumber 8 = .ok (.aload_n 0, 1) := by decide +kernel
theorem dX1_isNumber_9 : decode cX1_isNumber 9 = .ok (.getfield 52, 3) := by decide +kernel
theorem dX1_isNumber_12 : decode cX1_isNumber 12 = .ok (.iload_n 1, 1) := by decide +kernel
theorem dX1_isNumber_13 : decode cX1_isNumber 13 = .ok (.if_icmp .lt 15, 3) := by decide +kernel
theorem dX1_isNumber_16 : decode cX1_isNumber 16 = .ok (.aload_n 0, 1) := by decide +kernel
theorem dX1_isNumber_17 : decode cX1_isNumber 17 = .ok (.getfield 52, 3) := by decide +kernel
theorem dX1_isNumber_20 : decode cX1_isNumber 20 = .ok (.iload_n 2, 1) := by decide +kernel
theorem dX1_isNumber_21 : decode cX1_isNumber 21 = .ok (.if_icmp .gt 7, 3) := by decide +kernel
theorem dX1_isNumber_24 : decode cX1_isNumber 24 = .ok (.iconst 1, 1) := by decide +kernel
theorem dX1_isNumber_25 : decode cX1_isNumber 25 = .ok (.goto 4, 3) := by decide +kernel
theorem dX1_isNumber_28 : decode cX1_isNumber 28 = .ok (.iconst 0, 1) := by decide +kernel
theorem dX1_isNumber_29 : decode cX1_isNumber 29 = .ok (.ireturn, 1) := by decide +kernel
theorem dX1_readToken_0 : decode cX1_readToken 0 = .ok (.iconst 0, 1) := by decide +kernel
theorem dX1_readToken_1 : decode cX1_readToken 1 = .ok (.istore_n 1, 1) := by decide +kernel
theorem dX1_readToken_2 : decode cX1_readToken 2 = .ok (.iload_n 1, 1) := by decide +kernel
theorem dX1_readToken_3 : decode cX1_readToken 3 = .ok (.sipush 150, 3) := by decide +kernel
theorem dX1_readToken_6 : decode cX1_readToken 6 = .ok (.if_icmp .ge 35, 3) := by decide +kernel
theorem dX1_readToken_9 : decode cX1_readToken 9 = .ok (.aload_n 0, 1) := by decide +kernel
theorem dX1_readToken_10 : decode cX1_readToken 10 = .ok (.getfield 12, 3) := by decide +kernel
theorem dX1_readToken_13 : decode cX1_readToken 13 = .ok (.aload_n 0, 1) := by decide +kernel
theorem dX1_readToken_14 : decode cX1_readToken 14 = .ok (.getfield 28, 3) := by decide +kernel
theorem dX1_readToken_17 : decode cX1_readToken 17 = .ok (.invokevirtual 102, 3) := by decide +kernel
theorem dX1_readToken_20 : decode cX1_readToken 20 = .ok (.bipush 32, 2) := by decide +kernel
theorem dX1_readToken_22 : decode cX1_readToken 22 = .ok (.if_icmp .ne 19, 3) := by decide +kernel
theorem dX1_readToken_25 : decode cX1_readToken 25 = .ok (.aload_n 0, 1) := by decide +kernel
theorem dX1_readToken_26 : decode cX1_readToken 26 = .ok (.dup, 1) := by decide +kernel
theorem dX1_readToken_27 : decode cX1_readToken 27 = .ok (.getfield 28, 3) := by decide +kernel
theorem dX1_readToken_30 : decode cX1_readToken 30 = .ok (.iconst 1, 1) := by decide +kernel
theorem dX1_readToken_31 : decode cX1_readToken 31 = .ok (.iadd, 1) := by decide +kernel
theorem dX1_readToken_32 : decode cX1_readToken 32 = .ok (.putfield 28, 3) := by decide +kernel
theorem dX1_readToken_35 : decode cX1_readToken 35 = .ok (.iinc 1 1, 3) := by decide +kernel
theorem dX1_readToken_38 : decode cX1_readToken 38 = .ok (.goto (-36), 3) := by decide +kernel
theorem dX1_readToken_41 : decode cX1_readToken 41 = .ok (.aload_n 0, 1) := by decide +kernel
theorem dX1_readToken_42 : decode cX1_readToken 42 = .ok (.aload_n 0, 1) := by decide +kernel
theorem dX1_readToken_43 : decode cX1_readToken 43 = .ok (.getfield 28, 3) := by decide +kernel
theorem dX1_readToken_46 : decode cX1_readToken 46 = .ok (.putfield 49, 3) := by decide +kernel
theorem dX1_readToken_49 : decode cX1_readToken 49 = .ok (.aload_n 0, 1) := by decide +kernel
theorem dX1_readToken_50 : decode cX1_readToken 50 = .ok (.aload_n 0, 1) := by decide +kernel
theorem dX1_readToken_51 : decode cX1_readToken 51 = .ok (.getfield 12, 3) := by decide +kernel
theorem dX1_readToken_54 : decode cX1_readToken 54 = .ok (.aload_n 0, 1) := by decide +kernel
theorem dX1_readToken_55 : decode cX1_readToken 55 = .ok (.getfield 28, 3) := by decide +kernel
theorem dX1_readToken_58 : decode cX1_readToken 58 = .ok (.invokevirtual 102, 3) := by decide +kernel
theorem dX1_readToken_61 : decode cX1_readToken 61 = .ok (.invokestatic 105, 3) := by decide +kernel
theorem dX1_readToken_64 : decode cX1_readToken 64 = .ok (.putfield 42, 3) := by decide +kernel
theorem dX1_readToken_67 : decode cX1_readToken 67 = .ok (.aload_n 0, 1) := by decide +kernel
theorem dX1_readToken_68 : decode cX1_readToken 68 = .ok (.getfield 42, 3) := by decide +kernel
theorem dX1_readToken_71 : decode cX1_readToken 71 = .ok (.iconst 1, 1) := by decide +kernel
theorem dX1_readToken_72 : decode cX1_readToken 72 = .ok (.if_icmp .eq 11, 3) := by decide +kernel
theorem dX1_readToken_75 : decode cX1_readToken 75 = .ok (.aload_n 0, 1) := by decide +kernel
theorem dX1_readToken_76 : decode cX1_readToken 76 = .ok (.getfield 42, 3) := by decide +kernel
theorem dX1_readToken_79 : decode cX1_readToken 79 = .ok (.iconst 2, 1) := by decide +kernel
theorem dX1_readToken_80 : decode cX1_readToken 80 = .ok (.if_icmp .ne 9, 3) := by decide +kernel
theorem dX1_readToken_83 : decode cX1_readToken 83 = .ok (.sipush 150, 3) := by decide +kernel
theorem dX1_readToken_86 : decode cX1_readToken 86 = .ok (.goto 4, 3) := by decide +kernel
theorem dX1_readToken_89 : decode cX1_readToken 89 = .ok (.iconst 1, 1) := by decide +kernel
theorem dX1_readToken_90 : decode cX1_readToken 90 = .ok (.istore_n 1, 1) := by decide +kernel
theorem dX1_readToken_91 : decode cX1_readToken 91 = .ok (.iconst 0, 1) := by decide +kernel
theorem dX1_readToken_92 : decode cX1_readToken 92 = .ok (.istore_n 2, 1) := by decide +kernel
theorem dX1_readToken_93 : decode cX1_readToken 93 = .ok (.iload_n 2, 1) := by decide +kernel
theorem dX1_readToken_94 : decode cX1_readToken 94 = .ok (.iload_n 1, 1) := by decide +kernel
theorem dX1_readToken_95 : decode cX1_readToken 95 = .ok (.if_icmp .ge 40, 3) := by decide +kernel
theorem dX1_readToken_98 : decode cX1_readToken 98 = .ok (.aload_n 0, 1) := by decide +kernel
theorem dX1_readToken_99 : decode cX1_readToken 99 = .ok (.getfield 12, 3) := by decide +kernel
theorem dX1_readToken_102 : decode cX1_readToken 102 = .ok (.aload_n 0, 1) := by decide +kernel
theorem dX1_readToken_103 : decode cX1_readToken 103 = .ok (.getfield 28, 3) := by decide +kernel
theorem dX1_readToken_106 : decode cX1_readToken 106 = .ok (.invokevirtual 102, 3) := by decide +kernel
theorem dX1_readToken_109 : decode cX1_readToken 109 = .ok (.invokestatic 105, 3) := by decide +kernel
theorem dX1_readToken_112 : decode cX1_readToken 112 = .ok (.aload_n 0, 1) := by decide +kernel
theorem dX1_readToken_113 : decode cX1_readToken 113 = .ok (.getfield 42, 3) := by decide +kernel
theorem dX1_readToken_116 : decode cX1_readToken 116 = .ok (.if_icmp .ne 19, 3) := by decide +kernel
theorem dX1_readToken_119 : decode cX1_readToken 119 = .ok (.aload_n 0, 1) := by decide +kernel
theorem dX1_readToken_120 : decode cX1_readToken 120 = .ok (.dup, 1) := by decide +kernel
theorem dX1_readToken_121 : decode cX1_readToken 121 = .ok (.getfield 28, 3) := by decide +kernel
theorem dX1_readToken_124 : decode cX1_readToken 124 = .ok (.iconst 1, 1) := by decide +kernel
theorem dX1_readToken_125 : decode cX1_readToken 125 = .ok (.iadd, 1) := by decide +kernel
theorem dX1_readToken_126 : decode cX1_readToken 126 = .ok (.putfield 28, 3) := by decide +kernel
theorem dX1_readToken_129 : decode cX1_readToken 129 = .ok (.iinc 2 1, 3) := by decide +kernel
theorem dX1_readToken_132 : decode cX1_readToken 132 = .ok (.goto (-39), 3) := by decide +kernel
theorem dX1_readToken_135 : decode cX1_readToken 135 = .ok (.aload_n 0, 1) := by decide +kernel
theorem dX1_readToken_136 : decode cX1_readToken 136 = .ok (.getfield 12, 3) := by decide +kernel
theorem dX1_readToken_139 : decode cX1_readToken 139 = .ok (.aload_n 0, 1) := by decide +kernel
theorem dX1_readToken_140 : decode cX1_readToken 140 = .ok (.getfield 49, 3) := by decide +kernel
theorem dX1_readToken_143 : decode cX1_readToken 143 = .ok (.invokevirtual 102, 3) := by decide +kernel
theorem dX1_readToken_146 : decode cX1_readToken 146 = .ok (.istore_n 2, 1) := by decide +kernel
theorem dX1_readToken_147 : decode cX1_readToken 147 = .ok (.aload_n 0, 1) := by decide +kernel
theorem dX1_readToken_148 : decode cX1_readToken 148 = .ok (.getfield 42, 3) := by decide +kernel
theorem dX1_readToken_151 : decode cX1_readToken 151 = .ok (.iconst 2, 1) := by decide +kernel
theorem dX1_readToken_152 : decode cX1_readToken 152 = .ok (.if_icmp .ne 10, 3) := by decide +kernel
theorem dX1_readToken_155 : decode cX1_readToken 155 = .ok (.iload_n 2, 1) := by decide +kernel
theorem dX1_readToken_156 : decode cX1_readToken 156 = .ok (.bipush 48, 2) := by decide +kernel
theorem dX1_readToken_158 : decode cX1_readToken 158 = .ok (.isub, 1) := by decide +kernel
theorem dX1_readToken_159 : decode cX1_readToken 159 = .ok (.goto 4, 3) := by decide +kernel
theorem dX1_readToken_162 : decode cX1_readToken 162 = .ok (.iload_n 2, 1) := by decide +kernel
theorem dX1_readToken_163 : decode cX1_readToken 163 = .ok (.istore_n 3, 1) := by decide +kernel
theorem dX1_readToken_164 : decode cX1_readToken 164 = .ok (.aload_n 0, 1) := by decide +kernel
theorem dX1_readToken_165 : decode cX1_readToken 165 = .ok (.aload_n 0, 1) := by decide +kernel
theorem dX1_readToken_166 : decode cX1_readToken 166 = .ok (.getfield 28, 3) := by decide +kernel
theorem dX1_readToken_169 : decode cX1_readToken 169 = .ok (.aload_n 0, 1) := by decide +kernel
theorem dX1_readToken_170 : decode cX1_readToken 170 = .ok (.getfield 49, 3) := by decide +kernel
theorem dX1_readToken_173 : decode cX1_readToken 173 = .ok (.isub, 1) := by decide +kernel
theorem dX1_readToken_174 : decode cX1_readToken 174 = .ok (.iconst 1, 1) := by decide +kernel
theorem dX1_readToken_175 : decode cX1_readToken 175 = .ok (.if_icmp .ne 7, 3) := by decide +kernel
theorem dX1_readToken_178 : decode cX1_readToken 178 = .ok (.iload_n 3, 1) := by decide +kernel
theorem dX1_readToken_179 : decode cX1_readToken 179 = .ok (.goto 4, 3) := by decide +kernel
theorem dX1_readToken_182 : decode cX1_readToken 182 = .ok (.iconst (-1), 1) := by decide +kernel
theorem dX1_readToken_183 : decode cX1_readToken 183 = .ok (.putfield 52, 3) := by decide +kernel
theorem dX1_readToken_186 : decode cX1_readToken 186 = .ok (.return_, 1) := by decide +kernel
theorem dX1_tokenOf_0 : decode cX1_tokenOf 0 = .ok (.iload_n 0, 1) := by decide +kernel
theorem dX1_tokenOf_1 : decode cX1_tokenOf 1 = .ok (.bipush 97, 2) := by decide +kernel
theorem dX1_tokenOf_3 : decode cX1_tokenOf 3 = .ok (.if_icmp .lt 11, 3) := by decide +kernel
theorem dX1_tokenOf_6 : decode cX1_tokenOf 6 = .ok (.iload_n 0, 1) := by decide +kernel
theorem dX1_tokenOf_7 : decode cX1_tokenOf 7 = .ok (.bipush 122, 2) := by decide +kernel
theorem dX1_tokenOf_9 : decode cX1_tokenOf 9 = .ok (.if_icmp .gt 5, 3) := by decide +kernel
theorem dX1_tokenOf_12 : decode cX1_tokenOf 12 = .ok (.iconst 1, 1) := by decide +kernel
theorem dX1_tokenOf_13 : decode cX1_tokenOf 13 = .ok (.ireturn, 1) := by decide +kernel
theorem dX1_tokenOf_14 : decode cX1_tokenOf 14 = .ok (.iload_n 0, 1) := by decide +kernel
theorem dX1_tokenOf_15 : decode cX1_tokenOf 15 = .ok (.bipush 48, 2) := by decide +kernel
theorem dX1_tokenOf_17 : decode cX1_tokenOf 17 = .ok (.if_icmp .lt 11, 3) := by decide +kernel
theorem dX1_tokenOf_20 : decode cX1_tokenOf 20 = .ok (.iload_n 0, 1) := by decide +kernel
theorem dX1_tokenOf_21 : decode cX1_tokenOf 21 = .ok (.bipush 57, 2) := by decide +kernel
theorem dX1_tokenOf_23 : decode cX1_tokenOf 23 = .ok (.if_icmp .gt 5, 3) := by decide +kernel
theorem dX1_tokenOf_26 : decode cX1_tokenOf 26 = .ok (.iconst 2, 1) := by decide +kernel
theorem dX1_tokenOf_27 : decode cX1_tokenOf 27 = .ok (.ireturn, 1) := by decide +kernel
theorem dX1_tokenOf_28 : decode cX1_tokenOf 28 = .ok (.iload_n 0, 1) := by decide +kernel
theorem dX1_tokenOf_29 : decode cX1_tokenOf 29 = .ok (.bipush 59, 2) := by decide +kernel
theorem dX1_tokenOf_31 : decode cX1_tokenOf 31 = .ok (.if_icmp .ne 5, 3) := by decide +kernel
theorem dX1_tokenOf_34 : decode cX1_tokenOf 34 = .ok (.iconst 3, 1) := by decide +kernel
theorem dX1_tokenOf_35 : decode cX1_tokenOf 35 = .ok (.ireturn, 1) := by decide +kernel
theorem dX1_tokenOf_36 : decode cX1_tokenOf 36 = .ok (.iload_n 0, 1) := by decide +kernel
theorem dX1_tokenOf_37 : decode cX1_tokenOf 37 = .ok (.ifCond .ge 7, 3) := by decide +kernel
theorem dX1_tokenOf_40 : decode cX1_tokenOf 40 = .ok (.iconst 0, 1) := by decide +kernel
theorem dX1_tokenOf_41 : decode cX1_tokenOf 41 = .ok (.goto 4, 3) := by decide +kernel
theorem dX1_tokenOf_44 : decode cX1_tokenOf 44 = .ok (.iconst 4, 1) := by decide +kernel
theorem dX1_tokenOf_45 : decode cX1_tokenOf 45 = .ok (.ireturn, 1) := by decide +kernel
theorem dX2_init_0 : decode cX2_init 0 = .ok (.aload_n 0, 1) := by decide +kernel
theorem dX2_init_1 : decode cX2_init 1 = .ok (.invokespecial 3, 3) := by decide +kernel
theorem dX2_init_4 : decode cX2_init 4 = .ok (.return_, 1) := by decide +kernel
theorem dX2_dropAll_0 : decode cX2_dropAll 0 = .ok (.aload_n 0, 1) := by decide +kernel
theorem dX2_dropAll_1 : decode cX2_dropAll 1 = .ok (.iconst 0, 1) := by decide +kernel
theorem dX2_dropAll_2 : decode cX2_dropAll 2 = .ok (.putfield 9, 3) := by decide +kernel
theorem dX2_dropAll_5 : decode cX2_dropAll 5 = .ok (.aload_n 0, 1) := by decide +kernel
theorem dX2_dropAll_6 : decode cX2_dropAll 6 = .ok (.iconst 0, 1) := by decide +kernel
theorem dX2_dropAll_7 : decode cX2_dropAll 7 = .ok (.putfield 15, 3) := by decide +kernel
theorem dX2_dropAll_10 : decode cX2_dropAll 10 = .ok (.aload_n 0, 1) := by decide +kernel
theorem dX2_dropAll_11 : decode cX2_dropAll 11 = .ok (.iconst 0, 1) := by decide +kernel
theorem dX2_dropAll_12 : decode cX2_dropAll 12 = .ok (.putfield 18, 3) := by decide +kernel
theorem dX2_dropAll_15 : decode cX2_dropAll 15 = .ok (.aload_n 0, 1) := by decide +kernel
theorem dX2_dropAll_16 : decode cX2_dropAll 16 = .ok (.iconst 0, 1) := by decide +kernel
theorem dX2_dropAll_17 : decode cX2_dropAll 17 = .ok (.putfield 21, 3) := by decide +kernel
theorem dX2_dropAll_20 : decode cX2_dropAll 20 = .ok (.aload_n 0, 1) := by decide +kernel
theorem dX2_dropAll_21 : decode cX2_dropAll 21 = .ok (.iconst 0, 1) := by decide +kernel
theorem dX2_dropAll_22 : decode cX2_dropAll 22 = .ok (.putfield 24, 3) := by decide +kernel
theorem dX2_dropAll_25 : decode cX2_dropAll 25 = .ok (.return_, 1) := by decide +kernel
theorem dX2_add_0 : decode cX2_add 0 = .ok (.aload_n 0, 1) := by decide +kernel
theorem dX2_add_1 : decode cX2_add 1 = .ok (.getfield 9, 3) := by decide +kernel
theorem dX2_add_4 : decode cX2_add 4 = .ok (.bipush 6, 2) := by decide +kernel
theorem dX2_add_6 : decode cX2_add 6 = .ok (.if_icmp .lt 5, 3) := by decide +kernel
theorem dX2_add_9 : decode cX2_add 9 = .ok (.iconst 0, 1) := by decide +kernel
theorem dX2_add_10 : decode cX2_add 10 = .ok (.ireturn, 1) := by decide +kernel
theorem dX2_add_11 : decode cX2_add 11 = .ok (.aload_n 0, 1) := by decide +kernel
theorem dX2_add_12 : decode cX2_add 12 = .ok (.dup, 1) := by decide +kernel
theorem dX2_add_13 : decode cX2_add 13 = .ok (.getfield 15, 3) := by decide +kernel
theorem dX2_add_16 : decode cX2_add 16 = .ok (.iload_n 2, 1) := by decide +kernel
theorem dX2_add_17 : decode cX2_add 17 = .ok (.ifCond .ne 12, 3) := by decide +kernel
theorem dX2_add_20 : decode cX2_add 20 = .ok (.iload_n 3, 1) := by decide +kernel
theorem dX2_add_21 : decode cX2_add 21 = .ok (.iconst 1, 1) := by decide +kernel
theorem dX2_add_22 : decode cX2_add 22 = .ok (.if_icmp .ne 7, 3) := by decide +kernel
theorem dX2_add_25 : decode cX2_add 25 = .ok (.iload_n 1, 1) := by decide +kernel
theorem dX2_add_26 : decode cX2_add 26 = .ok (.goto 4, 3) := by decide +kernel
theorem dX2_add_29 : decode cX2_add 29 = .ok (.iconst 0, 1) := by decide +kernel
theorem dX2_add_30 : decode cX2_add 30 = .ok (.ior, 1) := by decide +kernel
theorem dX2_add_31 : decode cX2_add 31 = .ok (.putfield 15, 3) := by decide +kernel
theorem dX2_add_34 : decode cX2_add 34 = .ok (.aload_n 0, 1) := by decide +kernel
theorem dX2_add_35 : decode cX2_add 35 = .ok (.dup, 1) := by decide +kernel
theorem dX2_add_36 : decode cX2_add 36 = .ok (.getfield 18, 3) := by decide +kernel
theorem dX2_add_39 : decode cX2_add 39 = .ok (.iload_n 2, 1) := by decide +kernel
theorem dX2_add_40 : decode cX2_add 40 = .ok (.iconst 1, 1) := by decide +kernel
theorem dX2_add_41 : decode cX2_add 41 = .ok (.if_icmp .ne 12, 3) := by decide +kernel
theorem dX2_add_44 : decode cX2_add 44 = .ok (.iload_n 3, 1) := by decide +kernel
theorem dX2_add_45 : decode cX2_add 45 = .ok (.iconst 1, 1) := by decide +kernel
theorem dX2_add_46 : decode cX2_add 46 = .ok (.if_icmp .ne 7, 3) := by decide +kernel
theorem dX2_add_49 : decode cX2_add 49 = .ok (.iload_n 1, 1) := by decide +kernel
theorem dX2_add_50 : decode cX2_add 50 = .ok (.goto 4, 3) := by decide +kernel
theorem dX2_add_53 : decode cX2_add 53 = .ok (.iconst 0, 1) := by decide +kernel
theorem dX2_add_54 : decode cX2_add 54 = .ok (.ior, 1) := by decide +kernel
theorem dX2_add_55 : decode cX2_add 55 = .ok (.putfield 18, 3) := by decide +kernel
theorem dX2_add_58 : decode cX2_add 58 = .ok (.aload_n 0, 1) := by decide +kernel
theorem dX2_add_59 : decode cX2_add 59 = .ok (.dup, 1) := by decide +kernel
theorem dX2_add_60 : decode cX2_add 60 = .ok (.getfield 21, 3) := by decide +kernel
theorem dX2_add_63 : decode cX2_add 63 = .ok (.iload_n 2, 1) := by decide +kernel
theorem dX2_add_64 : decode cX2_add 64 = .ok (.ifCond .ne 11, 3) := by decide +kernel
theorem dX2_add_67 : decode cX2_add 67 = .ok (.iload_n 3, 1) := by decide +kernel
theorem dX2_add_68 : decode cX2_add 68 = .ok (.ifCond .ne 7, 3) := by decide +kernel
theorem dX2_add_71 : decode cX2_add 71 = .ok (.iload_n 1, 1) := by decide +kernel
theorem dX2_add_72 : decode cX2_add 72 = .ok (.goto 4, 3) := by decide +kernel
theorem dX2_add_75 : decode cX2_add 75 = .ok (.iconst 0, 1) := by decide +kernel
theorem dX2_add_76 : decode cX2_add 76 = .ok (.ior, 1) := by decide +kernel
theorem dX2_add_77 : decode cX2_add 77 = .ok (.putfield 21, 3) := by decide +kernel
theorem dX2_add_80 : decode cX2_add 80 = .ok (.aload_n 0, 1) := by decide +kernel
theorem dX2_add_81 : decode cX2_add 81 = .ok (.dup, 1) := by decide +kernel
theorem dX2_add_82 : decode cX2_add 82 = .ok (.getfield 24, 3) := by decide +kernel
theorem dX2_add_85 : decode cX2_add 85 = .ok (.iload_n 2, 1) := by decide +kernel
theorem dX2_add_86 : decode cX2_add 86 = .ok (.iconst 1, 1) := by decide +kernel
theorem dX2_add_87 : decode cX2_add 87 = .ok (.if_icmp .ne 11, 3) := by decide +kernel
theorem dX2_add_90 : decode cX2_add 90 = .ok (.iload_n 3, 1) := by decide +kernel
theorem dX2_add_91 : decode cX2_add 91 = .ok (.ifCond .ne 7, 3) := by decide +kernel
theorem dX2_add_94 : decode cX2_add 94 = .ok (.iload_n 1, 1) := by decide +kernel
theorem dX2_add_95 : decode cX2_add 95 = .ok (.goto 4, 3) := by decide +kernel
theorem dX2_add_98 : decode cX2_add 98 = .ok (.iconst 0, 1) := by decide +kernel
theorem dX2_add_99 : decode cX2_add 99 = .ok (.ior, 1) := by decide +kernel
theorem dX2_add_100 : decode cX2_add 100 = .ok (.putfield 24, 3) := by decide +kernel
theorem dX2_add_103 : decode cX2_add 103 = .ok (.aload_n 0, 1) := by decide +kernel
theorem dX2_add_104 : decode cX2_add 104 = .ok (.dup, 1) := by decide +kernel
theorem dX2_add_105 : decode cX2_add 105 = .ok (.getfield 9, 3) := by decide +kernel
theorem dX2_add_108 : decode cX2_add 108 = .ok (.iconst 1, 1) := by decide +kernel
theorem dX2_add_109 : decode cX2_add 109 = .ok (.iadd, 1) := by decide +kernel
theorem dX2_add_110 : decode cX2_add 110 = .ok (.putfield 9, 3) := by decide +kernel
theorem dX2_add_113 : decode cX2_add 113 = .ok (.iconst 1, 1) := by decide +kernel
theorem dX2_add_114 : decode cX2_add 114 = .ok (.ireturn, 1) := by decide +kernel
theorem dX2_agrees_0 : decode cX2_agrees 0 = .ok (.aload_n 0, 1) := by decide +kernel
theorem dX2_agrees_1 : decode cX2_agrees 1 = .ok (.getfield 15, 3) := by decide +kernel
theorem dX2_agrees_4 : decode cX2_agrees 4 = .ok (.iload_n 1, 1) := by decide +kernel
theorem dX2_agrees_5 : decode cX2_agrees 5 = .ok (.iconst (-1), 1) := by decide +kernel
theorem dX2_agrees_6 : decode cX2_agrees 6 = .ok (.ixor, 1) := by decide +kernel
theorem dX2_agrees_7 : decode cX2_agrees 7 = .ok (.iand, 1) := by decide +kernel
theorem dX2_agrees_8 : decode cX2_agrees 8 = .ok (.ifCond .ne 36, 3) := by decide +kernel
theorem dX2_agrees_11 : decode cX2_agrees 11 = .ok (.aload_n 0, 1) := by decide +kernel
theorem dX2_agrees_12 : decode cX2_agrees 12 = .ok (.getfield 21, 3) := by decide +kernel
theorem dX2_agrees_15 : decode cX2_agrees 15 = .ok (.iload_n 1, 1) := by decide +kernel
theorem dX2_agrees_16 : decode cX2_agrees 16 = .ok (.iand, 1) := by decide +kernel
theorem dX2_agrees_17 : decode cX2_agrees 17 = .ok (.ifCond .ne 27, 3) := by decide +kernel
theorem dX2_agrees_20 : decode cX2_agrees 20 = .ok (.aload_n 0, 1) := by decide +kernel
theorem dX2_agrees_21 : decode cX2_agrees 21 = .ok (.getfield 18, 3) := by decide +kernel
theorem dX2_agrees_24 : decode cX2_agrees 24 = .ok (.iload_n 2, 1) := by decide +kernel
theorem dX2_agrees_25 : decode cX2_agrees 25 = .ok (.iconst (-1), 1) := by decide +kernel
theorem dX2_agrees_26 : decode cX2_agrees 26 = .ok (.ixor, 1) := by decide +kernel
theorem dX2_agrees_27 : decode cX2_agrees 27 = .ok (.iand, 1) := by decide +kernel
theorem dX2_agrees_28 : decode cX2_agrees 28 = .ok (.ifCond .ne 16, 3) := by decide +kernel
theorem dX2_agrees_31 : decode cX2_agrees 31 = .ok (.aload_n 0, 1) := by decide +kernel
theorem dX2_agrees_32 : decode cX2_agrees 32 = .ok (.getfield 24, 3) := by decide +kernel
theorem dX2_agrees_35 : decode cX2_agrees 35 = .ok (.iload_n 2, 1) := by decide +kernel
theorem dX2_agrees_36 : decode cX2_agrees 36 = .ok (.iand, 1) := by decide +kernel
theorem dX2_agrees_37 : decode cX2_agrees 37 = .ok (.ifCond .ne 7, 3) := by decide +kernel
theorem dX2_agrees_40 : decode cX2_agrees 40 = .ok (.iconst 1, 1) := by decide +kernel
theorem dX2_agrees_41 : decode cX2_agrees 41 = .ok (.goto 4, 3) := by decide +kernel
theorem dX2_agrees_44 : decode cX2_agrees 44 = .ok (.iconst 0, 1) := by decide +kernel
theorem dX2_agrees_45 : decode cX2_agrees 45 = .ok (.ireturn, 1) := by decide +kernel
theorem dX3_init_0 : decode cX3_init 0 = .ok (.aload_n 0, 1) := by decide +kernel
theorem dX3_init_1 : decode cX3_init 1 = .ok (.invokespecial 3, 3) := by decide +kernel
theorem dX3_init_4 : decode cX3_init 4 = .ok (.aload_n 0, 1) := by decide +kernel
theorem dX3_init_5 : decode cX3_init 5 = .ok (.new 9, 3) := by decide +kernel
theorem dX3_init_8 : decode cX3_init 8 = .ok (.dup, 1) := by decide +kernel
theorem dX3_init_9 : decode cX3_init 9 = .ok (.invokespecial 11, 3) := by decide +kernel
theorem dX3_init_12 : decode cX3_init 12 = .ok (.putfield 12, 3) := by decide +kernel
theorem dX3_init_15 : decode cX3_init 15 = .ok (.aload_n 0, 1) := by decide +kernel
theorem dX3_init_16 : decode cX3_init 16 = .ok (.bipush 10, 2) := by decide +kernel
theorem dX3_init_18 : decode cX3_init 18 = .ok (.anewarray 9, 3) := by decide +kernel
theorem dX3_init_21 : decode cX3_init 21 = .ok (.putfield 18, 3) := by decide +kernel
theorem dX3_init_24 : decode cX3_init 24 = .ok (.iconst 0, 1) := by decide +kernel
theorem dX3_init_25 : decode cX3_init 25 = .ok (.istore_n 1, 1) := by decide +kernel
theorem dX3_init_26 : decode cX3_init 26 = .ok (.iload_n 1, 1) := by decide +kernel
theorem dX3_init_27 : decode cX3_init 27 = .ok (.aload_n 0, 1) := by decide +kernel
theorem dX3_init_28 : decode cX3_init 28 = .ok (.getfield 18, 3) := by decide +kernel
theorem dX3_init_31 : decode cX3_init 31 = .ok (.arraylength, 1) := by decide +kernel
theorem dX3_init_32 : decode cX3_init 32 = .ok (.if_icmp .ge 22, 3) := by decide +kernel
theorem dX3_init_35 : decode cX3_init 35 = .ok (.aload_n 0, 1) := by decide +kernel
theorem dX3_init_36 : decode cX3_init 36 = .ok (.getfield 18, 3) := by decide +kernel
theorem dX3_init_39 : decode cX3_init 39 = .ok (.iload_n 1, 1) := by decide +kernel
theorem dX3_init_40 : decode cX3_init 40 = .ok (.new 9, 3) := by decide +kernel
theorem dX3_init_43 : decode cX3_init 43 = .ok (.dup, 1) := by decide +kernel
theorem dX3_init_44 : decode cX3_init 44 = .ok (.invokespecial 11, 3) := by decide +kernel
theorem dX3_init_47 : decode cX3_init 47 = .ok (.aastore, 1) := by decide +kernel
theorem dX3_init_48 : decode cX3_init 48 = .ok (.iinc 1 1, 3) := by decide +kernel
theorem dX3_init_51 : decode cX3_init 51 = .ok (.goto (-25), 3) := by decide +kernel
theorem dX3_init_54 : decode cX3_init 54 = .ok (.return_, 1) := by decide +kernel
theorem dX3_remember_0 : decode cX3_remember 0 = .ok (.aload_n 0, 1) := by decide +kernel
theorem dX3_remember_1 : decode cX3_remember 1 = .ok (.getfield 22, 3) := by decide +kernel
theorem dX3_remember_4 : decode cX3_remember 4 = .ok (.aload_n 0, 1) := by decide +kernel
theorem dX3_remember_5 : decode cX3_remember 5 = .ok (.getfield 18, 3) := by decide +kernel
theorem dX3_remember_8 : decode cX3_remember 8 = .ok (.arraylength, 1) := by decide +kernel
theorem dX3_remember_9 : decode cX3_remember 9 = .ok (.if_icmp .lt 7, 3) := by decide +kernel
theorem dX3_remember_12 : decode cX3_remember 12 = .ok (.aload_n 0, 1) := by decide +kernel
theorem dX3_remember_13 : decode cX3_remember 13 = .ok (.invokevirtual 26, 3) := by decide +kernel
theorem dX3_remember_16 : decode cX3_remember 16 = .ok (.aload_n 0, 1) := by decide +kernel
theorem dX3_remember_17 : decode cX3_remember 17 = .ok (.getfield 12, 3) := by decide +kernel
theorem dX3_remember_20 : decode cX3_remember 20 = .ok (.aload_n 0, 1) := by decide +kernel
theorem dX3_remember_21 : decode cX3_remember 21 = .ok (.aload_n 0, 1) := by decide +kernel
theorem dX3_remember_22 : decode cX3_remember 22 = .ok (.getfield 22, 3) := by decide +kernel
theorem dX3_remember_25 : decode cX3_remember 25 = .ok (.invokevirtual 29, 3) := by decide +kernel
theorem dX3_remember_28 : decode cX3_remember 28 = .ok (.invokestatic 33, 3) := by decide +kernel
theorem dX3_remember_31 : decode cX3_remember 31 = .ok (.aload_n 0, 1) := by decide +kernel
theorem dX3_remember_32 : decode cX3_remember 32 = .ok (.dup, 1) := by decide +kernel
theorem dX3_remember_33 : decode cX3_remember 33 = .ok (.getfield 22, 3) := by decide +kernel
theorem dX3_remember_36 : decode cX3_remember 36 = .ok (.iconst 1, 1) := by decide +kernel
theorem dX3_remember_37 : decode cX3_remember 37 = .ok (.iadd, 1) := by decide +kernel
theorem dX3_remember_38 : decode cX3_remember 38 = .ok (.putfield 22, 3) := by decide +kernel
theorem dX3_remember_41 : decode cX3_remember 41 = .ok (.return_, 1) := by decide +kernel
theorem dX3_dropOldest_0 : decode cX3_dropOldest 0 = .ok (.iconst 1, 1) := by decide +kernel
theorem dX3_dropOldest_1 : decode cX3_dropOldest 1 = .ok (.istore_n 1, 1) := by decide +kernel
theorem dX3_dropOldest_2 : decode cX3_dropOldest 2 = .ok (.iload_n 1, 1) := by decide +kernel
theorem dX3_dropOldest_3 : decode cX3_dropOldest 3 = .ok (.aload_n 0, 1) := by decide +kernel
theorem dX3_dropOldest_4 : decode cX3_dropOldest 4 = .ok (.getfield 18, 3) := by decide +kernel
theorem dX3_dropOldest_7 : decode cX3_dropOldest 7 = .ok (.arraylength, 1) := by decide +kernel
theorem dX3_dropOldest_8 : decode cX3_dropOldest 8 = .ok (.if_icmp .ge 24, 3) := by decide +kernel
theorem dX3_dropOldest_11 : decode cX3_dropOldest 11 = .ok (.aload_n 0, 1) := by decide +kernel
theorem dX3_dropOldest_12 : decode cX3_dropOldest 12 = .ok (.iload_n 1, 1) := by decide +kernel
theorem dX3_dropOldest_13 : decode cX3_dropOldest 13 = .ok (.invokevirtual 29, 3) := by decide +kernel
theorem dX3_dropOldest_16 : decode cX3_dropOldest 16 = .ok (.aload_n 0, 1) := by decide +kernel
theorem dX3_dropOldest_17 : decode cX3_dropOldest 17 = .ok (.iload_n 1, 1) := by decide +kernel
theorem dX3_dropOldest_18 : decode cX3_dropOldest 18 = .ok (.iconst 1, 1) := by decide +kernel
theorem dX3_dropOldest_19 : decode cX3_dropOldest 19 = .ok (.isub, 1) := by decide +kernel
theorem dX3_dropOldest_20 : decode cX3_dropOldest 20 = .ok (.invokevirtual 29, 3) := by decide +kernel
theorem dX3_dropOldest_23 : decode cX3_dropOldest 23 = .ok (.invokestatic 33, 3) := by decide +kernel
theorem dX3_dropOldest_26 : decode cX3_dropOldest 26 = .ok (.iinc 1 1, 3) := by decide +kernel
theorem dX3_dropOldest_29 : decode cX3_dropOldest 29 = .ok (.goto (-27), 3) := by decide +kernel
theorem dX3_dropOldest_32 : decode cX3_dropOldest 32 = .ok (.aload_n 0, 1) := by decide +kernel
theorem dX3_dropOldest_33 : decode cX3_dropOldest 33 = .ok (.aload_n 0, 1) := by decide +kernel
theorem dX3_dropOldest_34 : decode cX3_dropOldest 34 = .ok (.getfield 18, 3) := by decide +kernel
theorem dX3_dropOldest_37 : decode cX3_dropOldest 37 = .ok (.arraylength, 1) := by decide +kernel
theorem dX3_dropOldest_38 : decode cX3_dropOldest 38 = .ok (.iconst 1, 1) := by decide +kernel
theorem dX3_dropOldest_39 : decode cX3_dropOldest 39 = .ok (.isub, 1) := by decide +kernel
theorem dX3_dropOldest_40 : decode cX3_dropOldest 40 = .ok (.putfield 22, 3) := by decide +kernel
theorem dX3_dropOldest_43 : decode cX3_dropOldest 43 = .ok (.return_, 1) := by decide +kernel
theorem dX3_goBack_0 : decode cX3_goBack 0 = .ok (.aload_n 0, 1) := by decide +kernel
theorem dX3_goBack_1 : decode cX3_goBack 1 = .ok (.getfield 22, 3) := by decide +kernel
theorem dX3_goBack_4 : decode cX3_goBack 4 = .ok (.ifCond .gt 5, 3) := by decide +kernel
theorem dX3_goBack_7 : decode cX3_goBack 7 = .ok (.iconst 0, 1) := by decide +kernel
theorem dX3_goBack_8 : decode cX3_goBack 8 = .ok (.ireturn, 1) := by decide +kernel
theorem dX3_goBack_9 : decode cX3_goBack 9 = .ok (.aload_n 0, 1) := by decide +kernel
theorem dX3_goBack_10 : decode cX3_goBack 10 = .ok (.dup, 1) := by decide +kernel
theorem dX3_goBack_11 : decode cX3_goBack 11 = .ok (.getfield 22, 3) := by decide +kernel
theorem dX3_goBack_14 : decode cX3_goBack 14 = .ok (.iconst 1, 1) := by decide +kernel
theorem dX3_goBack_15 : decode cX3_goBack 15 = .ok (.isub, 1) := by decide +kernel
theorem dX3_goBack_16 : decode cX3_goBack 16 = .ok (.putfield 22, 3) := by decide +kernel
theorem dX3_goBack_19 : decode cX3_goBack 19 = .ok (.aload_n 0, 1) := by decide +kernel
theorem dX3_goBack_20 : decode cX3_goBack 20 = .ok (.aload_n 0, 1) := by decide +kernel
theorem dX3_goBack_21 : decode cX3_goBack 21 = .ok (.getfield 22, 3) := by decide +kernel
theorem dX3_goBack_24 : decode cX3_goBack 24 = .ok (.invokevirtual 29, 3) := by decide +kernel
theorem dX3_goBack_27 : decode cX3_goBack 27 = .ok (.aload_n 0, 1) := by decide +kernel
theorem dX3_goBack_28 : decode cX3_goBack 28 = .ok (.getfield 12, 3) := by decide +kernel
theorem dX3_goBack_31 : decode cX3_goBack 31 = .ok (.invokestatic 33, 3) := by decide +kernel
theorem dX3_goBack_34 : decode cX3_goBack 34 = .ok (.iconst 1, 1) := by decide +kernel
theorem dX3_goBack_35 : decode cX3_goBack 35 = .ok (.ireturn, 1) := by decide +kernel
theorem dX3_becomes_0 : decode cX3_becomes 0 = .ok (.aload_n 0, 1) := by decide +kernel
theorem dX3_becomes_1 : decode cX3_becomes 1 = .ok (.getfield 12, 3) := by decide +kernel
theorem dX3_becomes_4 : decode cX3_becomes 4 = .ok (.aload_n 1, 1) := by decide +kernel
theorem dX3_becomes_5 : decode cX3_becomes 5 = .ok (.getfield 12, 3) := by decide +kernel
theorem dX3_becomes_8 : decode cX3_becomes 8 = .ok (.invokevirtual 37, 3) := by decide +kernel
theorem dX3_becomes_11 : decode cX3_becomes 11 = .ok (.iconst 0, 1) := by decide +kernel
theorem dX3_becomes_12 : decode cX3_becomes 12 = .ok (.istore_n 2, 1) := by decide +kernel
theorem dX3_becomes_13 : decode cX3_becomes 13 = .ok (.iload_n 2, 1) := by decide +kernel
theorem dX3_becomes_14 : decode cX3_becomes 14 = .ok (.aload_n 0, 1) := by decide +kernel
theorem dX3_becomes_15 : decode cX3_becomes 15 = .ok (.getfield 18, 3) := by decide +kernel
theorem dX3_becomes_18 : decode cX3_becomes 18 = .ok (.arraylength, 1) := by decide +kernel
theorem dX3_becomes_19 : decode cX3_becomes 19 = .ok (.if_icmp .ge 22, 3) := by decide +kernel
theorem dX3_becomes_22 : decode cX3_becomes 22 = .ok (.aload_n 1, 1) := by decide +kernel
theorem dX3_becomes_23 : decode cX3_becomes 23 = .ok (.iload_n 2, 1) := by decide +kernel
theorem dX3_becomes_24 : decode cX3_becomes 24 = .ok (.invokevirtual 29, 3) := by decide +kernel
theorem dX3_becomes_27 : decode cX3_becomes 27 = .ok (.aload_n 0, 1) := by decide +kernel
theorem dX3_becomes_28 : decode cX3_becomes 28 = .ok (.iload_n 2, 1) := by decide +kernel
theorem dX3_becomes_29 : decode cX3_becomes 29 = .ok (.invokevirtual 29, 3) := by decide +kernel
theorem dX3_becomes_32 : decode cX3_becomes 32 = .ok (.invokestatic 33, 3) := by decide +kernel
theorem dX3_becomes_35 : decode cX3_becomes 35 = .ok (.iinc 2 1, 3) := by decide +kernel
theorem dX3_becomes_38 : decode cX3_becomes 38 = .ok (.goto (-25), 3) := by decide +kernel
theorem dX3_becomes_41 : decode cX3_becomes 41 = .ok (.aload_n 0, 1) := by decide +kernel
theorem dX3_becomes_42 : decode cX3_becomes 42 = .ok (.aload_n 1, 1) := by decide +kernel
theorem dX3_becomes_43 : decode cX3_becomes 43 = .ok (.getfield 22, 3) := by decide +kernel
theorem dX3_becomes_46 : decode cX3_becomes 46 = .ok (.putfield 22, 3) := by decide +kernel
theorem dX3_becomes_49 : decode cX3_becomes 49 = .ok (.return_, 1) := by decide +kernel
theorem dX3_beforeAt_0 : decode cX3_beforeAt 0 = .ok (.iload_n 1, 1) := by decide +kernel
theorem dX3_beforeAt_1 : decode cX3_beforeAt 1 = .ok (.ifCond .lt 21, 3) := by decide +kernel
theorem dX3_beforeAt_4 : decode cX3_beforeAt 4 = .ok (.iload_n 1, 1) := by decide +kernel
theorem dX3_beforeAt_5 : decode cX3_beforeAt 5 = .ok (.aload_n 0, 1) := by decide +kernel
theorem dX3_beforeAt_6 : decode cX3_beforeAt 6 = .ok (.getfield 18, 3) := by decide +kernel
theorem dX3_beforeAt_9 : decode cX3_beforeAt 9 = .ok (.arraylength, 1) := by decide +kernel
theorem dX3_beforeAt_10 : decode cX3_beforeAt 10 = .ok (.if_icmp .ge 12, 3) := by decide +kernel
theorem dX3_beforeAt_13 : decode cX3_beforeAt 13 = .ok (.aload_n 0, 1) := by decide +kernel
theorem dX3_beforeAt_14 : decode cX3_beforeAt 14 = .ok (.getfield 18, 3) := by decide +kernel
theorem dX3_beforeAt_17 : decode cX3_beforeAt 17 = .ok (.iload_n 1, 1) := by decide +kernel
theorem dX3_beforeAt_18 : decode cX3_beforeAt 18 = .ok (.aaload, 1) := by decide +kernel
theorem dX3_beforeAt_19 : decode cX3_beforeAt 19 = .ok (.goto 4, 3) := by decide +kernel
theorem dX3_beforeAt_22 : decode cX3_beforeAt 22 = .ok (.aconst_null, 1) := by decide +kernel
theorem dX3_beforeAt_23 : decode cX3_beforeAt 23 = .ok (.areturn, 1) := by decide +kernel
theorem dX3_copy_0 : decode cX3_copy 0 = .ok (.aload_n 0, 1) := by decide +kernel
theorem dX3_copy_1 : decode cX3_copy 1 = .ok (.ifnull 12, 3) := by decide +kernel
theorem dX3_copy_4 : decode cX3_copy 4 = .ok (.aload_n 1, 1) := by decide +kernel
theorem dX3_copy_5 : decode cX3_copy 5 = .ok (.ifnull 8, 3) := by decide +kernel
theorem dX3_copy_8 : decode cX3_copy 8 = .ok (.aload_n 1, 1) := by decide +kernel
theorem dX3_copy_9 : decode cX3_copy 9 = .ok (.aload_n 0, 1) := by decide +kernel
theorem dX3_copy_10 : decode cX3_copy 10 = .ok (.invokevirtual 37, 3) := by decide +kernel
theorem dX3_copy_13 : decode cX3_copy 13 = .ok (.return_, 1) := by decide +kernel
theorem dX4_init_0 : decode cX4_init 0 = .ok (.aload_n 0, 1) := by decide +kernel
theorem dX4_init_1 : decode cX4_init 1 = .ok (.invokespecial 3, 3) := by decide +kernel
theorem dX4_init_4 : decode cX4_init 4 = .ok (.aload_n 0, 1) := by decide +kernel
theorem dX4_init_5 : decode cX4_init 5 = .ok (.iconst 3, 1) := by decide +kernel
theorem dX4_init_6 : decode cX4_init 6 = .ok (.putfield 9, 3) := by decide +kernel
theorem dX4_init_9 : decode cX4_init 9 = .ok (.aload_n 0, 1) := by decide +kernel
theorem dX4_init_10 : decode cX4_init 10 = .ok (.iconst 3, 1) := by decide +kernel
theorem dX4_init_11 : decode cX4_init 11 = .ok (.putfield 15, 3) := by decide +kernel
theorem dX4_init_14 : decode cX4_init 14 = .ok (.aload_n 0, 1) := by decide +kernel
theorem dX4_init_15 : decode cX4_init 15 = .ok (.iconst 5, 1) := by decide +kernel
theorem dX4_init_16 : decode cX4_init 16 = .ok (.newarray .int, 2) := by decide +kernel
theorem dX4_init_18 : decode cX4_init 18 = .ok (.putfield 18, 3) := by decide +kernel
theorem dX4_init_21 : decode cX4_init 21 = .ok (.return_, 1) := by decide +kernel
theorem dX4_startAnew_0 : decode cX4_startAnew 0 = .ok (.aload_n 0, 1) := by decide +kernel
theorem dX4_startAnew_1 : decode cX4_startAnew 1 = .ok (.iconst 3, 1) := by decide +kernel
theorem dX4_startAnew_2 : decode cX4_startAnew 2 = .ok (.putfield 9, 3) := by decide +kernel
theorem dX4_startAnew_5 : decode cX4_startAnew 5 = .ok (.aload_n 0, 1) := by decide +kernel
theorem dX4_startAnew_6 : decode cX4_startAnew 6 = .ok (.iconst 3, 1) := by decide +kernel
theorem dX4_startAnew_7 : decode cX4_startAnew 7 = .ok (.putfield 15, 3) := by decide +kernel
theorem dX4_startAnew_10 : decode cX4_startAnew 10 = .ok (.aload_n 0, 1) := by decide +kernel
theorem dX4_startAnew_11 : decode cX4_startAnew 11 = .ok (.iconst 0, 1) := by decide +kernel
theorem dX4_startAnew_12 : decode cX4_startAnew 12 = .ok (.putfield 22, 3) := by decide +kernel
theorem dX4_startAnew_15 : decode cX4_startAnew 15 = .ok (.aload_n 0, 1) := by decide +kernel
theorem dX4_startAnew_16 : decode cX4_startAnew 16 = .ok (.iconst 0, 1) := by decide +kernel
theorem dX4_startAnew_17 : decode cX4_startAnew 17 = .ok (.putfield 25, 3) := by decide +kernel
theorem dX4_startAnew_20 : decode cX4_startAnew 20 = .ok (.aload_n 0, 1) := by decide +kernel
theorem dX4_startAnew_21 : decode cX4_startAnew 21 = .ok (.iconst 0, 1) := by decide +kernel
theorem dX4_startAnew_22 : decode cX4_startAnew 22 = .ok (.putfield 28, 3) := by decide +kernel
theorem dX4_startAnew_25 : decode cX4_startAnew 25 = .ok (.aload_n 0, 1) := by decide +kernel
theorem dX4_startAnew_26 : decode cX4_startAnew 26 = .ok (.iconst 0, 1) := by decide +kernel
theorem dX4_startAnew_27 : decode cX4_startAnew 27 = .ok (.invokevirtual 31, 3) := by decide +kernel
theorem dX4_startAnew_30 : decode cX4_startAnew 30 = .ok (.return_, 1) := by decide +kernel
theorem dX4_becomes_0 : decode cX4_becomes 0 = .ok (.aload_n 0, 1) := by decide +kernel
theorem dX4_becomes_1 : decode cX4_becomes 1 = .ok (.aload_n 1, 1) := by decide +kernel
theorem dX4_becomes_2 : decode cX4_becomes 2 = .ok (.getfield 9, 3) := by decide +kernel
theorem dX4_becomes_5 : decode cX4_becomes 5 = .ok (.putfield 9, 3) := by decide +kernel
theorem dX4_becomes_8 : decode cX4_becomes 8 = .ok (.aload_n 0, 1) := by decide +kernel
theorem dX4_becomes_9 : decode cX4_becomes 9 = .ok (.aload_n 1, 1) := by decide +kernel
theorem dX4_becomes_10 : decode cX4_becomes 10 = .ok (.getfield 15, 3) := by decide +kernel
theorem dX4_becomes_13 : decode cX4_becomes 13 = .ok (.putfield 15, 3) := by decide +kernel
theorem dX4_becomes_16 : decode cX4_becomes 16 = .ok (.aload_n 0, 1) := by decide +kernel
theorem dX4_becomes_17 : decode cX4_becomes 17 = .ok (.aload_n 1, 1) := by decide +kernel
theorem dX4_becomes_18 : decode cX4_becomes 18 = .ok (.getfield 22, 3) := by decide +kernel
theorem dX4_becomes_21 : decode cX4_becomes 21 = .ok (.putfield 22, 3) := by decide +kernel
theorem dX4_becomes_24 : decode cX4_becomes 24 = .ok (.aload_n 0, 1) := by decide +kernel
theorem dX4_becomes_25 : decode cX4_becomes 25 = .ok (.aload_n 1, 1) := by decide +kernel
theorem dX4_becomes_26 : decode cX4_becomes 26 = .ok (.getfield 25, 3) := by decide +kernel
theorem dX4_becomes_29 : decode cX4_becomes 29 = .ok (.putfield 25, 3) := by decide +kernel
theorem dX4_becomes_32 : decode cX4_becomes 32 = .ok (.aload_n 0, 1) := by decide +kernel
theorem dX4_becomes_33 : decode cX4_becomes 33 = .ok (.aload_n 1, 1) := by decide +kernel
theorem dX4_becomes_34 : decode cX4_becomes 34 = .ok (.getfield 28, 3) := by decide +kernel
theorem dX4_becomes_37 : decode cX4_becomes 37 = .ok (.putfield 28, 3) := by decide +kernel
theorem dX4_becomes_40 : decode cX4_becomes 40 = .ok (.iconst 0, 1) := by decide +kernel
theorem dX4_becomes_41 : decode cX4_becomes 41 = .ok (.istore_n 2, 1) := by decide +kernel
theorem dX4_becomes_42 : decode cX4_becomes 42 = .ok (.iload_n 2, 1) := by decide +kernel
theorem dX4_becomes_43 : decode cX4_becomes 43 = .ok (.aload_n 0, 1) := by decide +kernel
theorem dX4_becomes_44 : decode cX4_becomes 44 = .ok (.getfield 18, 3) := by decide +kernel
theorem dX4_becomes_47 : decode cX4_becomes 47 = .ok (.arraylength, 1) := by decide +kernel
theorem dX4_becomes_48 : decode cX4_becomes 48 = .ok (.if_icmp .ge 20, 3) := by decide +kernel
theorem dX4_becomes_51 : decode cX4_becomes 51 = .ok (.aload_n 0, 1) := by decide +kernel
theorem dX4_becomes_52 : decode cX4_becomes 52 = .ok (.getfield 18, 3) := by decide +kernel
theorem dX4_becomes_55 : decode cX4_becomes 55 = .ok (.iload_n 2, 1) := by decide +kernel
theorem dX4_becomes_56 : decode cX4_becomes 56 = .ok (.aload_n 1, 1) := by decide +kernel
theorem dX4_becomes_57 : decode cX4_becomes 57 = .ok (.iload_n 2, 1) := by decide +kernel
theorem dX4_becomes_58 : decode cX4_becomes 58 = .ok (.invokevirtual 35, 3) := by decide +kernel
theorem dX4_becomes_61 : decode cX4_becomes 61 = .ok (.iastore, 1) := by decide +kernel
theorem dX4_becomes_62 : decode cX4_becomes 62 = .ok (.iinc 2 1, 3) := by decide +kernel
theorem dX4_becomes_65 : decode cX4_becomes 65 = .ok (.goto (-23), 3) := by decide +kernel
theorem dX4_becomes_68 : decode cX4_becomes 68 = .ok (.return_, 1) := by decide +kernel
theorem dX4_isCell_0 : decode cX4_isCell 0 = .ok (.iload_n 1, 1) := by decide +kernel
theorem dX4_isCell_1 : decode cX4_isCell 1 = .ok (.aload_n 0, 1) := by decide +kernel
theorem dX4_isCell_2 : decode cX4_isCell 2 = .ok (.getfield 9, 3) := by decide +kernel
theorem dX4_isCell_5 : decode cX4_isCell 5 = .ok (.iconst 1, 1) := by decide +kernel
theorem dX4_isCell_6 : decode cX4_isCell 6 = .ok (.isub, 1) := by decide +kernel
theorem dX4_isCell_7 : decode cX4_isCell 7 = .ok (.invokestatic 39, 3) := by decide +kernel
theorem dX4_isCell_10 : decode cX4_isCell 10 = .ok (.ifCond .eq 20, 3) := by decide +kernel
theorem dX4_isCell_13 : decode cX4_isCell 13 = .ok (.iload_n 2, 1) := by decide +kernel
theorem dX4_isCell_14 : decode cX4_isCell 14 = .ok (.aload_n 0, 1) := by decide +kernel
theorem dX4_isCell_15 : decode cX4_isCell 15 = .ok (.getfield 15, 3) := by decide +kernel
theorem dX4_isCell_18 : decode cX4_isCell 18 = .ok (.iconst 1, 1) := by decide +kernel
theorem dX4_isCell_19 : decode cX4_isCell 19 = .ok (.isub, 1) := by decide +kernel
theorem dX4_isCell_20 : decode cX4_isCell 20 = .ok (.invokestatic 39, 3) := by decide +kernel
theorem dX4_isCell_23 : decode cX4_isCell 23 = .ok (.ifCond .eq 7, 3) := by decide +kernel
theorem dX4_isCell_26 : decode cX4_isCell 26 = .ok (.iconst 1, 1) := by decide +kernel
theorem dX4_isCell_27 : decode cX4_isCell 27 = .ok (.goto 4, 3) := by decide +kernel
theorem dX4_isCell_30 : decode cX4_isCell 30 = .ok (.iconst 0, 1) := by decide +kernel
theorem dX4_isCell_31 : decode cX4_isCell 31 = .ok (.ireturn, 1) := by decide +kernel
theorem dX4_allCells_0 : decode cX4_allCells 0 = .ok (.aload_n 0, 1) := by decide +kernel
theorem dX4_allCells_1 : decode cX4_allCells 1 = .ok (.iconst 0, 1) := by decide +kernel
theorem dX4_allCells_2 : decode cX4_allCells 2 = .ok (.invokevirtual 43, 3) := by decide +kernel
theorem dX4_allCells_5 : decode cX4_allCells 5 = .ok (.ireturn, 1) := by decide +kernel
theorem dX4_dryCells_0 : decode cX4_dryCells 0 = .ok (.aload_n 0, 1) := by decide +kernel
theorem dX4_dryCells_1 : decode cX4_dryCells 1 = .ok (.aload_n 0, 1) := by decide +kernel
theorem dX4_dryCells_2 : decode cX4_dryCells 2 = .ok (.getfield 28, 3) := by decide +kernel
theorem dX4_dryCells_5 : decode cX4_dryCells 5 = .ok (.invokevirtual 43, 3) := by decide +kernel
theorem dX4_dryCells_8 : decode cX4_dryCells 8 = .ok (.ireturn, 1) := by decide +kernel
theorem dX4_bareCells_0 : decode cX4_bareCells 0 = .ok (.aload_n 0, 1) := by decide +kernel
theorem dX4_bareCells_1 : decode cX4_bareCells 1 = .ok (.invokevirtual 46, 3) := by decide +kernel
theorem dX4_bareCells_4 : decode cX4_bareCells 4 = .ok (.aload_n 0, 1) := by decide +kernel
theorem dX4_bareCells_5 : decode cX4_bareCells 5 = .ok (.getfield 22, 3) := by decide +kernel
theorem dX4_bareCells_8 : decode cX4_bareCells 8 = .ok (.iconst (-1), 1) := by decide +kernel
theorem dX4_bareCells_9 : decode cX4_bareCells 9 = .ok (.ixor, 1) := by decide +kernel
theorem dX4_bareCells_10 : decode cX4_bareCells 10 = .ok (.iand, 1) := by decide +kernel
theorem dX4_bareCells_11 : decode cX4_bareCells 11 = .ok (.ireturn, 1) := by decide +kernel
theorem dX4_cellsFrom_0 : decode cX4_cellsFrom 0 = .ok (.iconst 0, 1) := by decide +kernel
theorem dX4_cellsFrom_1 : decode cX4_cellsFrom 1 = .ok (.istore_n 2, 1) := by decide +kernel
theorem dX4_cellsFrom_2 : decode cX4_cellsFrom 2 = .ok (.iload_n 1, 1) := by decide +kernel
theorem dX4_cellsFrom_3 : decode cX4_cellsFrom 3 = .ok (.istore_n 3, 1) := by decide +kernel
theorem dX4_cellsFrom_4 : decode cX4_cellsFrom 4 = .ok (.iload_n 3, 1) := by decide +kernel
theorem dX4_cellsFrom_5 : decode cX4_cellsFrom 5 = .ok (.aload_n 0, 1) := by decide +kernel
theorem dX4_cellsFrom_6 : decode cX4_cellsFrom 6 = .ok (.getfield 15, 3) := by decide +kernel
theorem dX4_cellsFrom_9 : decode cX4_cellsFrom 9 = .ok (.if_icmp .ge 17, 3) := by decide +kernel
theorem dX4_cellsFrom_12 : decode cX4_cellsFrom 12 = .ok (.iload_n 2, 1) := by decide +kernel
theorem dX4_cellsFrom_13 : decode cX4_cellsFrom 13 = .ok (.aload_n 0, 1) := by decide +kernel
theorem dX4_cellsFrom_14 : decode cX4_cellsFrom 14 = .ok (.iload_n 3, 1) := by decide +kernel
theorem dX4_cellsFrom_15 : decode cX4_cellsFrom 15 = .ok (.invokevirtual 50, 3) := by decide +kernel
theorem dX4_cellsFrom_18 : decode cX4_cellsFrom 18 = .ok (.ior, 1) := by decide +kernel
theorem dX4_cellsFrom_19 : decode cX4_cellsFrom 19 = .ok (.istore_n 2, 1) := by decide +kernel
theorem dX4_cellsFrom_20 : decode cX4_cellsFrom 20 = .ok (.iinc 3 1, 3) := by decide +kernel
theorem dX4_cellsFrom_23 : decode cX4_cellsFrom 23 = .ok (.goto (-19), 3) := by decide +kernel
theorem dX4_cellsFrom_26 : decode cX4_cellsFrom 26 = .ok (.iload_n 2, 1) := by decide +kernel
theorem dX4_cellsFrom_27 : decode cX4_cellsFrom 27 = .ok (.ireturn, 1) := by decide +kernel
theorem dX4_rowOf_0 : decode cX4_rowOf 0 = .ok (.iconst 1, 1) := by decide +kernel
theorem dX4_rowOf_1 : decode cX4_rowOf 1 = .ok (.aload_n 0, 1) := by decide +kernel
theorem dX4_rowOf_2 : decode cX4_rowOf 2 = .ok (.getfield 9, 3) := by decide +kernel
theorem dX4_rowOf_5 : decode cX4_rowOf 5 = .ok (.ishl, 1) := by decide +kernel
theorem dX4_rowOf_6 : decode cX4_rowOf 6 = .ok (.iconst 1, 1) := by decide +kernel
theorem dX4_rowOf_7 : decode cX4_rowOf 7 = .ok (.isub, 1) := by decide +kernel
theorem dX4_rowOf_8 : decode cX4_rowOf 8 = .ok (.iconst 5, 1) := by decide +kernel
theorem dX4_rowOf_9 : decode cX4_rowOf 9 = .ok (.iload_n 1, 1) := by decide +kernel
theorem dX4_rowOf_10 : decode cX4_rowOf 10 = .ok (.imul, 1) := by decide +kernel
theorem dX4_rowOf_11 : decode cX4_rowOf 11 = .ok (.ishl, 1) := by decide +kernel
theorem dX4_rowOf_12 : decode cX4_rowOf 12 = .ok (.ireturn, 1) := by decide +kernel
theorem dX4_heldBy_0 : decode cX4_heldBy 0 = .ok (.iload_n 1, 1) := by decide +kernel
theorem dX4_heldBy_1 : decode cX4_heldBy 1 = .ok (.ifCond .lt 21, 3) := by decide +kernel
theorem dX4_heldBy_4 : decode cX4_heldBy 4 = .ok (.iload_n 1, 1) := by decide +kernel
theorem dX4_heldBy_5 : decode cX4_heldBy 5 = .ok (.aload_n 0, 1) := by decide +kernel
theorem dX4_heldBy_6 : decode cX4_heldBy 6 = .ok (.getfield 18, 3) := by decide +kernel
theorem dX4_heldBy_9 : decode cX4_heldBy 9 = .ok (.arraylength, 1) := by decide +kernel
theorem dX4_heldBy_10 : decode cX4_heldBy 10 = .ok (.if_icmp .ge 12, 3) := by decide +kernel
theorem dX4_heldBy_13 : decode cX4_heldBy 13 = .ok (.aload_n 0, 1) := by decide +kernel
theorem dX4_heldBy_14 : decode cX4_heldBy 14 = .ok (.getfield 18, 3) := by decide +kernel
theorem dX4_heldBy_17 : decode cX4_heldBy 17 = .ok (.iload_n 1, 1) := by decide +kernel
theorem dX4_heldBy_18 : decode cX4_heldBy 18 = .ok (.iaload, 1) := by decide +kernel
theorem dX4_heldBy_19 : decode cX4_heldBy 19 = .ok (.goto 4, 3) := by decide +kernel
theorem dX4_heldBy_22 : decode cX4_heldBy 22 = .ok (.iconst 0, 1) := by decide +kernel
theorem dX4_heldBy_23 : decode cX4_heldBy 23 = .ok (.ireturn, 1) := by decide +kernel
theorem dX4_heldByAny_0 : decode cX4_heldByAny 0 = .ok (.iconst 0, 1) := by decide +kernel
theorem dX4_heldByAny_1 : decode cX4_heldByAny 1 = .ok (.istore_n 1, 1) := by decide +kernel
theorem dX4_heldByAny_2 : decode cX4_heldByAny 2 = .ok (.iconst 0, 1) := by decide +kernel
theorem dX4_heldByAny_3 : decode cX4_heldByAny 3 = .ok (.istore_n 2, 1) := by decide +kernel
theorem dX4_heldByAny_4 : decode cX4_heldByAny 4 = .ok (.iload_n 2, 1) := by decide +kernel
theorem dX4_heldByAny_5 : decode cX4_heldByAny 5 = .ok (.aload_n 0, 1) := by decide +kernel
theorem dX4_heldByAny_6 : decode cX4_heldByAny 6 = .ok (.getfield 18, 3) := by decide +kernel
theorem dX4_heldByAny_9 : decode cX4_heldByAny 9 = .ok (.arraylength, 1) := by decide +kernel
theorem dX4_heldByAny_10 : decode cX4_heldByAny 10 = .ok (.if_icmp .ge 18, 3) := by decide +kernel
theorem dX4_heldByAny_13 : decode cX4_heldByAny 13 = .ok (.iload_n 1, 1) := by decide +kernel
theorem dX4_heldByAny_14 : decode cX4_heldByAny 14 = .ok (.aload_n 0, 1) := by decide +kernel
theorem dX4_heldByAny_15 : decode cX4_heldByAny 15 = .ok (.getfield 18, 3) := by decide +kernel
theorem dX4_heldByAny_18 : decode cX4_heldByAny 18 = .ok (.iload_n 2, 1) := by decide +kernel
theorem dX4_heldByAny_19 : decode cX4_heldByAny 19 = .ok (.iaload, 1) := by decide +kernel
theorem dX4_heldByAny_20 : decode cX4_heldByAny 20 = .ok (.ior, 1) := by decide +kernel
theorem dX4_heldByAny_21 : decode cX4_heldByAny 21 = .ok (.istore_n 1, 1) := by decide +kernel
theorem dX4_heldByAny_22 : decode cX4_heldByAny 22 = .ok (.iinc 2 1, 3) := by decide +kernel
theorem dX4_heldByAny_25 : decode cX4_heldByAny 25 = .ok (.goto (-21), 3) := by decide +kernel
theorem dX4_heldByAny_28 : decode cX4_heldByAny 28 = .ok (.iload_n 1, 1) := by decide +kernel
theorem dX4_heldByAny_29 : decode cX4_heldByAny 29 = .ok (.ireturn, 1) := by decide +kernel
theorem dX4_holderOf_0 : decode cX4_holderOf 0 = .ok (.iconst 0, 1) := by decide +kernel
theorem dX4_holderOf_1 : decode cX4_holderOf 1 = .ok (.istore_n 2, 1) := by decide +kernel
theorem dX4_holderOf_2 : decode cX4_holderOf 2 = .ok (.iload_n 2, 1) := by decide +kernel
theorem dX4_holderOf_3 : decode cX4_holderOf 3 = .ok (.aload_n 0, 1) := by decide +kernel
theorem dX4_holderOf_4 : decode cX4_holderOf 4 = .ok (.getfield 18, 3) := by decide +kernel
theorem dX4_holderOf_7 : decode cX4_holderOf 7 = .ok (.arraylength, 1) := by decide +kernel
theorem dX4_holderOf_8 : decode cX4_holderOf 8 = .ok (.if_icmp .ge 22, 3) := by decide +kernel
theorem dX4_holderOf_11 : decode cX4_holderOf 11 = .ok (.aload_n 0, 1) := by decide +kernel
theorem dX4_holderOf_12 : decode cX4_holderOf 12 = .ok (.getfield 18, 3) := by decide +kernel
theorem dX4_holderOf_15 : decode cX4_holderOf 15 = .ok (.iload_n 2, 1) := by decide +kernel
theorem dX4_holderOf_16 : decode cX4_holderOf 16 = .ok (.iaload, 1) := by decide +kernel
theorem dX4_holderOf_17 : decode cX4_holderOf 17 = .ok (.iload_n 1, 1) := by decide +kernel
theorem dX4_holderOf_18 : decode cX4_holderOf 18 = .ok (.iand, 1) := by decide +kernel
theorem dX4_holderOf_19 : decode cX4_holderOf 19 = .ok (.ifCond .eq 5, 3) := by decide +kernel
theorem dX4_holderOf_22 : decode cX4_holderOf 22 = .ok (.iload_n 2, 1) := by decide +kernel
theorem dX4_holderOf_23 : decode cX4_holderOf 23 = .ok (.ireturn, 1) := by decide +kernel
theorem dX4_holderOf_24 : decode cX4_holderOf 24 = .ok (.iinc 2 1, 3) := by decide +kernel
theorem dX4_holderOf_27 : decode cX4_holderOf 27 = .ok (.goto (-25), 3) := by decide +kernel
theorem dX4_holderOf_30 : decode cX4_holderOf 30 = .ok (.bipush (-9), 2) := by decide +kernel
theorem dX4_holderOf_32 : decode cX4_holderOf 32 = .ok (.ireturn, 1) := by decide +kernel
theorem dX4_give_0 : decode cX4_give 0 = .ok (.iload_n 1, 1) := by decide +kernel
theorem dX4_give_1 : decode cX4_give 1 = .ok (.ifCond .lt 22, 3) := by decide +kernel
theorem dX4_give_4 : decode cX4_give 4 = .ok (.iload_n 1, 1) := by decide +kernel
theorem dX4_give_5 : decode cX4_give 5 = .ok (.aload_n 0, 1) := by decide +kernel
theorem dX4_give_6 : decode cX4_give 6 = .ok (.getfield 18, 3) := by decide +kernel
theorem dX4_give_9 : decode cX4_give 9 = .ok (.arraylength, 1) := by decide +kernel
theorem dX4_give_10 : decode cX4_give 10 = .ok (.if_icmp .ge 13, 3) := by decide +kernel
theorem dX4_give_13 : decode cX4_give 13 = .ok (.aload_n 0, 1) := by decide +kernel
theorem dX4_give_14 : decode cX4_give 14 = .ok (.getfield 18, 3) := by decide +kernel
theorem dX4_give_17 : decode cX4_give 17 = .ok (.iload_n 1, 1) := by decide +kernel
theorem dX4_give_18 : decode cX4_give 18 = .ok (.dup2, 1) := by decide +kernel
theorem dX4_give_19 : decode cX4_give 19 = .ok (.iaload, 1) := by decide +kernel
theorem dX4_give_20 : decode cX4_give 20 = .ok (.iload_n 2, 1) := by decide +kernel
theorem dX4_give_21 : decode cX4_give 21 = .ok (.ior, 1) := by decide +kernel
theorem dX4_give_22 : decode cX4_give 22 = .ok (.iastore, 1) := by decide +kernel
theorem dX4_give_23 : decode cX4_give 23 = .ok (.return_, 1) := by decide +kernel
theorem dX4_freeAllBut_0 : decode cX4_freeAllBut 0 = .ok (.iconst 0, 1) := by decide +kernel
theorem dX4_freeAllBut_1 : decode cX4_freeAllBut 1 = .ok (.istore_n 2, 1) := by decide +kernel
theorem dX4_freeAllBut_2 : decode cX4_freeAllBut 2 = .ok (.iload_n 2, 1) := by decide +kernel
theorem dX4_freeAllBut_3 : decode cX4_freeAllBut 3 = .ok (.aload_n 0, 1) := by decide +kernel
theorem dX4_freeAllBut_4 : decode cX4_freeAllBut 4 = .ok (.getfield 18, 3) := by decide +kernel
theorem dX4_freeAllBut_7 : decode cX4_freeAllBut 7 = .ok (.arraylength, 1) := by decide +kernel
theorem dX4_freeAllBut_8 : decode cX4_freeAllBut 8 = .ok (.if_icmp .ge 19, 3) := by decide +kernel
theorem dX4_freeAllBut_11 : decode cX4_freeAllBut 11 = .ok (.aload_n 0, 1) := by decide +kernel
theorem dX4_freeAllBut_12 : decode cX4_freeAllBut 12 = .ok (.getfield 18, 3) := by decide +kernel
theorem dX4_freeAllBut_15 : decode cX4_freeAllBut 15 = .ok (.iload_n 2, 1) := by decide +kernel
theorem dX4_freeAllBut_16 : decode cX4_freeAllBut 16 = .ok (.dup2, 1) := by decide +kernel
theorem dX4_freeAllBut_17 : decode cX4_freeAllBut 17 = .ok (.iaload, 1) := by decide +kernel
theorem dX4_freeAllBut_18 : decode cX4_freeAllBut 18 = .ok (.iload_n 1, 1) := by decide +kernel
theorem dX4_freeAllBut_19 : decode cX4_freeAllBut 19 = .ok (.iand, 1) := by decide +kernel
theorem dX4_freeAllBut_20 : decode cX4_freeAllBut 20 = .ok (.iastore, 1) := by decide +kernel
theorem dX4_freeAllBut_21 : decode cX4_freeAllBut 21 = .ok (.iinc 2 1, 3) := by decide +kernel
theorem dX4_freeAllBut_24 : decode cX4_freeAllBut 24 = .ok (.goto (-22), 3) := by decide +kernel
theorem dX4_freeAllBut_27 : decode cX4_freeAllBut 27 = .ok (.return_, 1) := by decide +kernel
theorem dX4_tideBecomes_0 : decode cX4_tideBecomes 0 = .ok (.aload_n 0, 1) := by decide +kernel
theorem dX4_tideBecomes_1 : decode cX4_tideBecomes 1 = .ok (.iload_n 1, 1) := by decide +kernel
theorem dX4_tideBecomes_2 : decode cX4_tideBecomes 2 = .ok (.putfield 28, 3) := by decide +kernel
theorem dX4_tideBecomes_5 : decode cX4_tideBecomes 5 = .ok (.aload_n 0, 1) := by decide +kernel
theorem dX4_tideBecomes_6 : decode cX4_tideBecomes 6 = .ok (.aload_n 0, 1) := by decide +kernel
theorem dX4_tideBecomes_7 : decode cX4_tideBecomes 7 = .ok (.invokevirtual 46, 3) := by decide +kernel
theorem dX4_tideBecomes_10 : decode cX4_tideBecomes 10 = .ok (.invokevirtual 31, 3) := by decide +kernel
theorem dX4_tideBecomes_13 : decode cX4_tideBecomes 13 = .ok (.aload_n 0, 1) := by decide +kernel
theorem dX4_tideBecomes_14 : decode cX4_tideBecomes 14 = .ok (.dup, 1) := by decide +kernel
theorem dX4_tideBecomes_15 : decode cX4_tideBecomes 15 = .ok (.getfield 22, 3) := by decide +kernel
theorem dX4_tideBecomes_18 : decode cX4_tideBecomes 18 = .ok (.aload_n 0, 1) := by decide +kernel
theorem dX4_tideBecomes_19 : decode cX4_tideBecomes 19 = .ok (.invokevirtual 46, 3) := by decide +kernel
theorem dX4_tideBecomes_22 : decode cX4_tideBecomes 22 = .ok (.iand, 1) := by decide +kernel
theorem dX4_tideBecomes_23 : decode cX4_tideBecomes 23 = .ok (.putfield 22, 3) := by decide +kernel
theorem dX4_tideBecomes_26 : decode cX4_tideBecomes 26 = .ok (.return_, 1) := by decide +kernel
theorem dX4_stillBy_0 : decode cX4_stillBy 0 = .ok (.aload_n 0, 1) := by decide +kernel
theorem dX4_stillBy_1 : decode cX4_stillBy 1 = .ok (.aload_n 0, 1) := by decide +kernel
theorem dX4_stillBy_2 : decode cX4_stillBy 2 = .ok (.getfield 22, 3) := by decide +kernel
theorem dX4_stillBy_5 : decode cX4_stillBy 5 = .ok (.iload_n 1, 1) := by decide +kernel
theorem dX4_stillBy_6 : decode cX4_stillBy 6 = .ok (.invokevirtual 53, 3) := by decide +kernel
theorem dX4_stillBy_9 : decode cX4_stillBy 9 = .ok (.ireturn, 1) := by decide +kernel
theorem dX4_stillWith_0 : decode cX4_stillWith 0 = .ok (.iload_n 2, 1) := by decide +kernel
theorem dX4_stillWith_1 : decode cX4_stillWith 1 = .ok (.ifCond .ne 18, 3) := by decide +kernel
theorem dX4_stillWith_4 : decode cX4_stillWith 4 = .ok (.iload_n 1, 1) := by decide +kernel
theorem dX4_stillWith_5 : decode cX4_stillWith 5 = .ok (.invokestatic 57, 3) := by decide +kernel
theorem dX4_stillWith_8 : decode cX4_stillWith 8 = .ok (.iload_n 1, 1) := by decide +kernel
theorem dX4_stillWith_9 : decode cX4_stillWith 9 = .ok (.invokestatic 57, 3) := by decide +kernel
theorem dX4_stillWith_12 : decode cX4_stillWith 12 = .ok (.invokestatic 57, 3) := by decide +kernel
theorem dX4_stillWith_15 : decode cX4_stillWith 15 = .ok (.ior, 1) := by decide +kernel
theorem dX4_stillWith_16 : decode cX4_stillWith 16 = .ok (.goto 9, 3) := by decide +kernel
theorem dX4_stillWith_19 : decode cX4_stillWith 19 = .ok (.iload_n 1, 1) := by decide +kernel
theorem dX4_stillWith_20 : decode cX4_stillWith 20 = .ok (.iload_n 1, 1) := by decide +kernel
theorem dX4_stillWith_21 : decode cX4_stillWith 21 = .ok (.invokestatic 60, 3) := by decide +kernel
theorem dX4_stillWith_24 : decode cX4_stillWith 24 = .ok (.ior, 1) := by decide +kernel
theorem dX4_stillWith_25 : decode cX4_stillWith 25 = .ok (.istore_n 3, 1) := by decide +kernel
theorem dX4_stillWith_26 : decode cX4_stillWith 26 = .ok (.iload_n 3, 1) := by decide +kernel
theorem dX4_stillWith_27 : decode cX4_stillWith 27 = .ok (.aload_n 0, 1) := by decide +kernel
theorem dX4_stillWith_28 : decode cX4_stillWith 28 = .ok (.invokevirtual 46, 3) := by decide +kernel
theorem dX4_stillWith_31 : decode cX4_stillWith 31 = .ok (.iand, 1) := by decide +kernel
theorem dX4_stillWith_32 : decode cX4_stillWith 32 = .ok (.ireturn, 1) := by decide +kernel
theorem dX4_shelterOf_0 : decode cX4_shelterOf 0 = .ok (.aload_n 0, 1) := by decide +kernel
theorem dX4_shelterOf_1 : decode cX4_shelterOf 1 = .ok (.iload_n 1, 1) := by decide +kernel
theorem dX4_shelterOf_2 : decode cX4_shelterOf 2 = .ok (.aload_n 0, 1) := by decide +kernel
theorem dX4_shelterOf_3 : decode cX4_shelterOf 3 = .ok (.getfield 22, 3) := by decide +kernel
theorem dX4_shelterOf_6 : decode cX4_shelterOf 6 = .ok (.invokevirtual 63, 3) := by decide +kernel
theorem dX4_shelterOf_9 : decode cX4_shelterOf 9 = .ok (.ireturn, 1) := by decide +kernel
theorem dX4_shelterWith_0 : decode cX4_shelterWith 0 = .ok (.aload_n 0, 1) := by decide +kernel
theorem dX4_shelterWith_1 : decode cX4_shelterWith 1 = .ok (.iload_n 1, 1) := by decide +kernel
theorem dX4_shelterWith_2 : decode cX4_shelterWith 2 = .ok (.invokevirtual 35, 3) := by decide +kernel
theorem dX4_shelterWith_5 : decode cX4_shelterWith 5 = .ok (.aload_n 0, 1) := by decide +kernel
theorem dX4_shelterWith_6 : decode cX4_shelterWith 6 = .ok (.iload_n 2, 1) := by decide +kernel
theorem dX4_shelterWith_7 : decode cX4_shelterWith 7 = .ok (.aload_n 0, 1) := by decide +kernel
theorem dX4_shelterWith_8 : decode cX4_shelterWith 8 = .ok (.getfield 25, 3) := by decide +kernel
theorem dX4_shelterWith_11 : decode cX4_shelterWith 11 = .ok (.invokevirtual 53, 3) := by decide +kernel
theorem dX4_shelterWith_14 : decode cX4_shelterWith 14 = .ok (.iand, 1) := by decide +kernel
theorem dX4_shelterWith_15 : decode cX4_shelterWith 15 = .ok (.invokestatic 66, 3) := by decide +kernel
theorem dX4_shelterWith_18 : decode cX4_shelterWith 18 = .ok (.ireturn, 1) := by decide +kernel
theorem dX4_borderLength_0 : decode cX4_borderLength 0 = .ok (.aload_n 0, 1) := by decide +kernel
theorem dX4_borderLength_1 : decode cX4_borderLength 1 = .ok (.invokevirtual 46, 3) := by decide +kernel
theorem dX4_borderLength_4 : decode cX4_borderLength 4 = .ok (.aload_n 0, 1) := by decide +kernel
theorem dX4_borderLength_5 : decode cX4_borderLength 5 = .ok (.invokevirtual 71, 3) := by decide +kernel
theorem dX4_borderLength_8 : decode cX4_borderLength 8 = .ok (.iconst (-1), 1) := by decide +kernel
theorem dX4_borderLength_9 : decode cX4_borderLength 9 = .ok (.ixor, 1) := by decide +kernel
theorem dX4_borderLength_10 : decode cX4_borderLength 10 = .ok (.iand, 1) := by decide +kernel
theorem dX4_borderLength_11 : decode cX4_borderLength 11 = .ok (.invokestatic 74, 3) := by decide +kernel
theorem dX4_borderLength_14 : decode cX4_borderLength 14 = .ok (.istore_n 1, 1) := by decide +kernel
theorem dX4_borderLength_15 : decode cX4_borderLength 15 = .ok (.iconst 0, 1) := by decide +kernel
theorem dX4_borderLength_16 : decode cX4_borderLength 16 = .ok (.istore_n 2, 1) := by decide +kernel
theorem dX4_borderLength_17 : decode cX4_borderLength 17 = .ok (.iload_n 2, 1) := by decide +kernel
theorem dX4_borderLength_18 : decode cX4_borderLength 18 = .ok (.iconst 5, 1) := by decide +kernel
theorem dX4_borderLength_19 : decode cX4_borderLength 19 = .ok (.if_icmp .ge 20, 3) := by decide +kernel
theorem dX4_borderLength_22 : decode cX4_borderLength 22 = .ok (.iload_n 1, 1) := by decide +kernel
theorem dX4_borderLength_23 : decode cX4_borderLength 23 = .ok (.aload_n 0, 1) := by decide +kernel
theorem dX4_borderLength_24 : decode cX4_borderLength 24 = .ok (.iload_n 2, 1) := by decide +kernel
theorem dX4_borderLength_25 : decode cX4_borderLength 25 = .ok (.invokevirtual 35, 3) := by decide +kernel
theorem dX4_borderLength_28 : decode cX4_borderLength 28 = .ok (.invokestatic 74, 3) := by decide +kernel
theorem dX4_borderLength_31 : decode cX4_borderLength 31 = .ok (.iadd, 1) := by decide +kernel
theorem dX4_borderLength_32 : decode cX4_borderLength 32 = .ok (.istore_n 1, 1) := by decide +kernel
theorem dX4_borderLength_33 : decode cX4_borderLength 33 = .ok (.iinc 2 1, 3) := by decide +kernel
theorem dX4_borderLength_36 : decode cX4_borderLength 36 = .ok (.goto (-19), 3) := by decide +kernel
theorem dX4_borderLength_39 : decode cX4_borderLength 39 = .ok (.aload_n 0, 1) := by decide +kernel
theorem dX4_borderLength_40 : decode cX4_borderLength 40 = .ok (.invokevirtual 46, 3) := by decide +kernel
theorem dX4_borderLength_43 : decode cX4_borderLength 43 = .ok (.invokestatic 74, 3) := by decide +kernel
theorem dX4_borderLength_46 : decode cX4_borderLength 46 = .ok (.iload_n 1, 1) := by decide +kernel
theorem dX4_borderLength_47 : decode cX4_borderLength 47 = .ok (.isub, 1) := by decide +kernel
theorem dX4_borderLength_48 : decode cX4_borderLength 48 = .ok (.ireturn, 1) := by decide +kernel
theorem dX4_losesAfter_0 : decode cX4_losesAfter 0 = .ok (.aload_n 0, 1) := by decide +kernel
theorem dX4_losesAfter_1 : decode cX4_losesAfter 1 = .ok (.getfield 28, 3) := by decide +kernel
theorem dX4_losesAfter_4 : decode cX4_losesAfter 4 = .ok (.istore_n 2, 1) := by decide +kernel
theorem dX4_losesAfter_5 : decode cX4_losesAfter 5 = .ok (.iload_n 2, 1) := by decide +kernel
theorem dX4_losesAfter_6 : decode cX4_losesAfter 6 = .ok (.aload_n 0, 1) := by decide +kernel
theorem dX4_losesAfter_7 : decode cX4_losesAfter 7 = .ok (.getfield 15, 3) := by decide +kernel
theorem dX4_losesAfter_10 : decode cX4_losesAfter 10 = .ok (.if_icmp .ge 32, 3) := by decide +kernel
theorem dX4_losesAfter_13 : decode cX4_losesAfter 13 = .ok (.aload_n 0, 1) := by decide +kernel
theorem dX4_losesAfter_14 : decode cX4_losesAfter 14 = .ok (.iload_n 1, 1) := by decide +kernel
theorem dX4_losesAfter_15 : decode cX4_losesAfter 15 = .ok (.invokevirtual 35, 3) := by decide +kernel
theorem dX4_losesAfter_18 : decode cX4_losesAfter 18 = .ok (.aload_n 0, 1) := by decide +kernel
theorem dX4_losesAfter_19 : decode cX4_losesAfter 19 = .ok (.iload_n 2, 1) := by decide +kernel
theorem dX4_losesAfter_20 : decode cX4_losesAfter 20 = .ok (.invokevirtual 50, 3) := by decide +kernel
theorem dX4_losesAfter_23 : decode cX4_losesAfter 23 = .ok (.iand, 1) := by decide +kernel
theorem dX4_losesAfter_24 : decode cX4_losesAfter 24 = .ok (.ifCond .eq 12, 3) := by decide +kernel
theorem dX4_losesAfter_27 : decode cX4_losesAfter 27 = .ok (.iload_n 2, 1) := by decide +kernel
theorem dX4_losesAfter_28 : decode cX4_losesAfter 28 = .ok (.iconst 1, 1) := by decide +kernel
theorem dX4_losesAfter_29 : decode cX4_losesAfter 29 = .ok (.iadd, 1) := by decide +kernel
theorem dX4_losesAfter_30 : decode cX4_losesAfter 30 = .ok (.aload_n 0, 1) := by decide +kernel
theorem dX4_losesAfter_31 : decode cX4_losesAfter 31 = .ok (.getfield 28, 3) := by decide +kernel
theorem dX4_losesAfter_34 : decode cX4_losesAfter 34 = .ok (.isub, 1) := by decide +kernel
theorem dX4_losesAfter_35 : decode cX4_losesAfter 35 = .ok (.ireturn, 1) := by decide +kernel
theorem dX4_losesAfter_36 : decode cX4_losesAfter 36 = .ok (.iinc 2 1, 3) := by decide +kernel
theorem dX4_losesAfter_39 : decode cX4_losesAfter 39 = .ok (.goto (-34), 3) := by decide +kernel
theorem dX4_losesAfter_42 : decode cX4_losesAfter 42 = .ok (.bipush (-9), 2) := by decide +kernel
theorem dX4_losesAfter_44 : decode cX4_losesAfter 44 = .ok (.ireturn, 1) := by decide +kernel
theorem dX4_fewestOthers_0 : decode cX4_fewestOthers 0 = .ok (.aload_n 0, 1) := by decide +kernel
theorem dX4_fewestOthers_1 : decode cX4_fewestOthers 1 = .ok (.invokevirtual 46, 3) := by decide +kernel
theorem dX4_fewestOthers_4 : decode cX4_fewestOthers 4 = .ok (.istore_n 3, 1) := by decide +kernel
theorem dX4_fewestOthers_5 : decode cX4_fewestOthers 5 = .ok (.aload_n 0, 1) := by decide +kernel
theorem dX4_fewestOthers_6 : decode cX4_fewestOthers 6 = .ok (.invokevirtual 71, 3) := by decide +kernel
theorem dX4_fewestOthers_9 : decode cX4_fewestOthers 9 = .ok (.aload_n 0, 1) := by decide +kernel
theorem dX4_fewestOthers_10 : decode cX4_fewestOthers 10 = .ok (.iload_n 1, 1) := by decide +kernel
theorem dX4_fewestOthers_11 : decode cX4_fewestOthers 11 = .ok (.invokevirtual 35, 3) := by decide +kernel
theorem dX4_fewestOthers_14 : decode cX4_fewestOthers 14 = .ok (.iconst (-1), 1) := by decide +kernel
theorem dX4_fewestOthers_15 : decode cX4_fewestOthers 15 = .ok (.ixor, 1) := by decide +kernel
theorem dX4_fewestOthers_16 : decode cX4_fewestOthers 16 = .ok (.iand, 1) := by decide +kernel
theorem dX4_fewestOthers_17 : decode cX4_fewestOthers 17 = .ok (.istore 4, 2) := by decide +kernel
theorem dX4_fewestOthers_19 : decode cX4_fewestOthers 19 = .ok (.iload_n 2, 1) := by decide +kernel
theorem dX4_fewestOthers_20 : decode cX4_fewestOthers 20 = .ok (.istore 5, 2) := by decide +kernel
theorem dX4_fewestOthers_22 : decode cX4_fewestOthers 22 = .ok (.iload_n 2, 1) := by decide +kernel
theorem dX4_fewestOthers_23 : decode cX4_fewestOthers 23 = .ok (.iload 4, 2) := by decide +kernel
theorem dX4_fewestOthers_25 : decode cX4_fewestOthers 25 = .ok (.iand, 1) := by decide +kernel
theorem dX4_fewestOthers_26 : decode cX4_fewestOthers 26 = .ok (.ifCond .eq 7, 3) := by decide +kernel
theorem dX4_fewestOthers_29 : decode cX4_fewestOthers 29 = .ok (.iconst 1, 1) := by decide +kernel
theorem dX4_fewestOthers_30 : decode cX4_fewestOthers 30 = .ok (.goto 4, 3) := by decide +kernel
theorem dX4_fewestOthers_33 : decode cX4_fewestOthers 33 = .ok (.iconst 0, 1) := by decide +kernel
theorem dX4_fewestOthers_34 : decode cX4_fewestOthers 34 = .ok (.invokestatic 77, 3) := by decide +kernel
theorem dX4_fewestOthers_37 : decode cX4_fewestOthers 37 = .ok (.istore 6, 2) := by decide +kernel
theorem dX4_fewestOthers_39 : decode cX4_fewestOthers 39 = .ok (.iconst 0, 1) := by decide +kernel
theorem dX4_fewestOthers_40 : decode cX4_fewestOthers 40 = .ok (.istore 7, 2) := by decide +kernel
theorem dX4_fewestOthers_42 : decode cX4_fewestOthers 42 = .ok (.iload 7, 2) := by decide +kernel
theorem dX4_fewestOthers_44 : decode cX4_fewestOthers 44 = .ok (.bipush 20, 2) := by decide +kernel
theorem dX4_fewestOthers_46 : decode cX4_fewestOthers 46 = .ok (.if_icmp .ge 54, 3) := by decide +kernel
theorem dX4_fewestOthers_49 : decode cX4_fewestOthers 49 = .ok (.iload_n 3, 1) := by decide +kernel
theorem dX4_fewestOthers_50 : decode cX4_fewestOthers 50 = .ok (.iload 4, 2) := by decide +kernel
theorem dX4_fewestOthers_52 : decode cX4_fewestOthers 52 = .ok (.iconst (-1), 1) := by decide +kernel
theorem dX4_fewestOthers_53 : decode cX4_fewestOthers 53 = .ok (.ixor, 1) := by decide +kernel
theorem dX4_fewestOthers_54 : decode cX4_fewestOthers 54 = .ok (.iand, 1) := by decide +kernel
theorem dX4_fewestOthers_55 : decode cX4_fewestOthers 55 = .ok (.iload 5, 2) := by decide +kernel
theorem dX4_fewestOthers_57 : decode cX4_fewestOthers 57 = .ok (.invokestatic 81, 3) := by decide +kernel
theorem dX4_fewestOthers_60 : decode cX4_fewestOthers 60 = .ok (.istore 5, 2) := by decide +kernel
theorem dX4_fewestOthers_62 : decode cX4_fewestOthers 62 = .ok (.iload 5, 2) := by decide +kernel
theorem dX4_fewestOthers_64 : decode cX4_fewestOthers 64 = .ok (.aload_n 0, 1) := by decide +kernel
theorem dX4_fewestOthers_65 : decode cX4_fewestOthers 65 = .ok (.aload_n 0, 1) := by decide +kernel
theorem dX4_fewestOthers_66 : decode cX4_fewestOthers 66 = .ok (.getfield 28, 3) := by decide +kernel
theorem dX4_fewestOthers_69 : decode cX4_fewestOthers 69 = .ok (.invokevirtual 50, 3) := by decide +kernel
theorem dX4_fewestOthers_72 : decode cX4_fewestOthers 72 = .ok (.iand, 1) := by decide +kernel
theorem dX4_fewestOthers_73 : decode cX4_fewestOthers 73 = .ok (.ifCond .eq 6, 3) := by decide +kernel
theorem dX4_fewestOthers_76 : decode cX4_fewestOthers 76 = .ok (.iload 6, 2) := by decide +kernel
theorem dX4_fewestOthers_78 : decode cX4_fewestOthers 78 = .ok (.ireturn, 1) := by decide +kernel
theorem dX4_fewestOthers_79 : decode cX4_fewestOthers 79 = .ok (.iload 5, 2) := by decide +kernel
theorem dX4_fewestOthers_81 : decode cX4_fewestOthers 81 = .ok (.iload 5, 2) := by decide +kernel
theorem dX4_fewestOthers_83 : decode cX4_fewestOthers 83 = .ok (.invokestatic 84, 3) := by decide +kernel
theorem dX4_fewestOthers_86 : decode cX4_fewestOthers 86 = .ok (.iload_n 3, 1) := by decide +kernel
theorem dX4_fewestOthers_87 : decode cX4_fewestOthers 87 = .ok (.iand, 1) := by decide +kernel
theorem dX4_fewestOthers_88 : decode cX4_fewestOthers 88 = .ok (.ior, 1) := by decide +kernel
theorem dX4_fewestOthers_89 : decode cX4_fewestOthers 89 = .ok (.istore 5, 2) := by decide +kernel
theorem dX4_fewestOthers_91 : decode cX4_fewestOthers 91 = .ok (.iinc 6 1, 3) := by decide +kernel
theorem dX4_fewestOthers_94 : decode cX4_fewestOthers 94 = .ok (.iinc 7 1, 3) := by decide +kernel
theorem dX4_fewestOthers_97 : decode cX4_fewestOthers 97 = .ok (.goto (-55), 3) := by decide +kernel
theorem dX4_fewestOthers_100 : decode cX4_fewestOthers 100 = .ok (.iload 6, 2) := by decide +kernel
theorem dX4_fewestOthers_102 : decode cX4_fewestOthers 102 = .ok (.ireturn, 1) := by decide +kernel
theorem dX4_floodedOver_0 : decode cX4_floodedOver 0 = .ok (.iload_n 1, 1) := by decide +kernel
theorem dX4_floodedOver_1 : decode cX4_floodedOver 1 = .ok (.istore_n 2, 1) := by decide +kernel
theorem dX4_floodedOver_2 : decode cX4_floodedOver 2 = .ok (.iconst 0, 1) := by decide +kernel
theorem dX4_floodedOver_3 : decode cX4_floodedOver 3 = .ok (.istore_n 3, 1) := by decide +kernel
theorem dX4_floodedOver_4 : decode cX4_floodedOver 4 = .ok (.iload_n 3, 1) := by decide +kernel
theorem dX4_floodedOver_5 : decode cX4_floodedOver 5 = .ok (.bipush 20, 2) := by decide +kernel
theorem dX4_floodedOver_7 : decode cX4_floodedOver 7 = .ok (.if_icmp .ge 18, 3) := by decide +kernel
theorem dX4_floodedOver_10 : decode cX4_floodedOver 10 = .ok (.iload_n 2, 1) := by decide +kernel
theorem dX4_floodedOver_11 : decode cX4_floodedOver 11 = .ok (.iload_n 2, 1) := by decide +kernel
theorem dX4_floodedOver_12 : decode cX4_floodedOver 12 = .ok (.invokestatic 84, 3) := by decide +kernel
theorem dX4_floodedOver_15 : decode cX4_floodedOver 15 = .ok (.iload_n 0, 1) := by decide +kernel
theorem dX4_floodedOver_16 : decode cX4_floodedOver 16 = .ok (.iand, 1) := by decide +kernel
theorem dX4_floodedOver_17 : decode cX4_floodedOver 17 = .ok (.ior, 1) := by decide +kernel
theorem dX4_floodedOver_18 : decode cX4_floodedOver 18 = .ok (.istore_n 2, 1) := by decide +kernel
theorem dX4_floodedOver_19 : decode cX4_floodedOver 19 = .ok (.iinc 3 1, 3) := by decide +kernel
theorem dX4_floodedOver_22 : decode cX4_floodedOver 22 = .ok (.goto (-18), 3) := by decide +kernel
theorem dX4_floodedOver_25 : decode cX4_floodedOver 25 = .ok (.iload_n 2, 1) := by decide +kernel
theorem dX4_floodedOver_26 : decode cX4_floodedOver 26 = .ok (.ireturn, 1) := by decide +kernel
theorem dX4_bestCloth_0 : decode cX4_bestCloth 0 = .ok (.bipush (-9), 2) := by decide +kernel
theorem dX4_bestCloth_2 : decode cX4_bestCloth 2 = .ok (.istore_n 2, 1) := by decide +kernel
theorem dX4_bestCloth_3 : decode cX4_bestCloth 3 = .ok (.iconst (-1), 1) := by decide +kernel
theorem dX4_bestCloth_4 : decode cX4_bestCloth 4 = .ok (.istore_n 3, 1) := by decide +kernel
theorem dX4_bestCloth_5 : decode cX4_bestCloth 5 = .ok (.iconst 0, 1) := by decide +kernel
theorem dX4_bestCloth_6 : decode cX4_bestCloth 6 = .ok (.istore 4, 2) := by decide +kernel
theorem dX4_bestCloth_8 : decode cX4_bestCloth 8 = .ok (.iload 4, 2) := by decide +kernel
theorem dX4_bestCloth_10 : decode cX4_bestCloth 10 = .ok (.bipush 20, 2) := by decide +kernel
theorem dX4_bestCloth_12 : decode cX4_bestCloth 12 = .ok (.if_icmp .ge 51, 3) := by decide +kernel
theorem dX4_bestCloth_15 : decode cX4_bestCloth 15 = .ok (.iconst 1, 1) := by decide +kernel
theorem dX4_bestCloth_16 : decode cX4_bestCloth 16 = .ok (.iload 4, 2) := by decide +kernel
theorem dX4_bestCloth_18 : decode cX4_bestCloth 18 = .ok (.ishl, 1) := by decide +kernel
theorem dX4_bestCloth_19 : decode cX4_bestCloth 19 = .ok (.istore 5, 2) := by decide +kernel
theorem dX4_bestCloth_21 : decode cX4_bestCloth 21 = .ok (.aload_n 0, 1) := by decide +kernel
theorem dX4_bestCloth_22 : decode cX4_bestCloth 22 = .ok (.iload_n 1, 1) := by decide +kernel
theorem dX4_bestCloth_23 : decode cX4_bestCloth 23 = .ok (.aload_n 0, 1) := by decide +kernel
theorem dX4_bestCloth_24 : decode cX4_bestCloth 24 = .ok (.getfield 22, 3) := by decide +kernel
theorem dX4_bestCloth_27 : decode cX4_bestCloth 27 = .ok (.iload 5, 2) := by decide +kernel
theorem dX4_bestCloth_29 : decode cX4_bestCloth 29 = .ok (.ior, 1) := by decide +kernel
theorem dX4_bestCloth_30 : decode cX4_bestCloth 30 = .ok (.invokevirtual 63, 3) := by decide +kernel
theorem dX4_bestCloth_33 : decode cX4_bestCloth 33 = .ok (.istore 6, 2) := by decide +kernel
theorem dX4_bestCloth_35 : decode cX4_bestCloth 35 = .ok (.aload_n 0, 1) := by decide +kernel
theorem dX4_bestCloth_36 : decode cX4_bestCloth 36 = .ok (.invokevirtual 87, 3) := by decide +kernel
theorem dX4_bestCloth_39 : decode cX4_bestCloth 39 = .ok (.iload 5, 2) := by decide +kernel
theorem dX4_bestCloth_41 : decode cX4_bestCloth 41 = .ok (.iand, 1) := by decide +kernel
theorem dX4_bestCloth_42 : decode cX4_bestCloth 42 = .ok (.ifCond .eq 15, 3) := by decide +kernel
theorem dX4_bestCloth_45 : decode cX4_bestCloth 45 = .ok (.iload 6, 2) := by decide +kernel
theorem dX4_bestCloth_47 : decode cX4_bestCloth 47 = .ok (.iload_n 3, 1) := by decide +kernel
theorem dX4_bestCloth_48 : decode cX4_bestCloth 48 = .ok (.if_icmp .le 9, 3) := by decide +kernel
theorem dX4_bestCloth_51 : decode cX4_bestCloth 51 = .ok (.iload 4, 2) := by decide +kernel
theorem dX4_bestCloth_53 : decode cX4_bestCloth 53 = .ok (.istore_n 2, 1) := by decide +kernel
theorem dX4_bestCloth_54 : decode cX4_bestCloth 54 = .ok (.iload 6, 2) := by decide +kernel
theorem dX4_bestCloth_56 : decode cX4_bestCloth 56 = .ok (.istore_n 3, 1) := by decide +kernel
theorem dX4_bestCloth_57 : decode cX4_bestCloth 57 = .ok (.iinc 4 1, 3) := by decide +kernel
theorem dX4_bestCloth_60 : decode cX4_bestCloth 60 = .ok (.goto (-52), 3) := by decide +kernel
theorem dX4_bestCloth_63 : decode cX4_bestCloth 63 = .ok (.iload_n 2, 1) := by decide +kernel
theorem dX4_bestCloth_64 : decode cX4_bestCloth 64 = .ok (.ireturn, 1) := by decide +kernel
theorem dX4_cellsBeside_0 : decode cX4_cellsBeside 0 = .ok (.iload_n 1, 1) := by decide +kernel
theorem dX4_cellsBeside_1 : decode cX4_cellsBeside 1 = .ok (.invokestatic 84, 3) := by decide +kernel
theorem dX4_cellsBeside_4 : decode cX4_cellsBeside 4 = .ok (.aload_n 0, 1) := by decide +kernel
theorem dX4_cellsBeside_5 : decode cX4_cellsBeside 5 = .ok (.invokevirtual 90, 3) := by decide +kernel
theorem dX4_cellsBeside_8 : decode cX4_cellsBeside 8 = .ok (.iand, 1) := by decide +kernel
theorem dX4_cellsBeside_9 : decode cX4_cellsBeside 9 = .ok (.invokestatic 66, 3) := by decide +kernel
theorem dX4_cellsBeside_12 : decode cX4_cellsBeside 12 = .ok (.ireturn, 1) := by decide +kernel
theorem dX4_rightOf_0 : decode cX4_rightOf 0 = .ok (.iload_n 0, 1) := by decide +kernel
theorem dX4_rightOf_1 : decode cX4_rightOf 1 = .ok (.ldc 93, 2) := by decide +kernel
theorem dX4_rightOf_3 : decode cX4_rightOf 3 = .ok (.iand, 1) := by decide +kernel
theorem dX4_rightOf_4 : decode cX4_rightOf 4 = .ok (.iconst 1, 1) := by decide +kernel
theorem dX4_rightOf_5 : decode cX4_rightOf 5 = .ok (.ishl, 1) := by decide +kernel
theorem dX4_rightOf_6 : decode cX4_rightOf 6 = .ok (.ireturn, 1) := by decide +kernel
theorem dX4_leftOf_0 : decode cX4_leftOf 0 = .ok (.iload_n 0, 1) := by decide +kernel
theorem dX4_leftOf_1 : decode cX4_leftOf 1 = .ok (.ldc 94, 2) := by decide +kernel
theorem dX4_leftOf_3 : decode cX4_leftOf 3 = .ok (.iand, 1) := by decide +kernel
theorem dX4_leftOf_4 : decode cX4_leftOf 4 = .ok (.iconst 1, 1) := by decide +kernel
theorem dX4_leftOf_5 : decode cX4_leftOf 5 = .ok (.iushr, 1) := by decide +kernel
theorem dX4_leftOf_6 : decode cX4_leftOf 6 = .ok (.ireturn, 1) := by decide +kernel
theorem dX4_besideAny_0 : decode cX4_besideAny 0 = .ok (.iload_n 0, 1) := by decide +kernel
theorem dX4_besideAny_1 : decode cX4_besideAny 1 = .ok (.invokestatic 57, 3) := by decide +kernel
theorem dX4_besideAny_4 : decode cX4_besideAny 4 = .ok (.iload_n 0, 1) := by decide +kernel
theorem dX4_besideAny_5 : decode cX4_besideAny 5 = .ok (.invokestatic 60, 3) := by decide +kernel
theorem dX4_besideAny_8 : decode cX4_besideAny 8 = .ok (.ior, 1) := by decide +kernel
theorem dX4_besideAny_9 : decode cX4_besideAny 9 = .ok (.iload_n 0, 1) := by decide +kernel
theorem dX4_besideAny_10 : decode cX4_besideAny 10 = .ok (.iconst 5, 1) := by decide +kernel
theorem dX4_besideAny_11 : decode cX4_besideAny 11 = .ok (.ishl, 1) := by decide +kernel
theorem dX4_besideAny_12 : decode cX4_besideAny 12 = .ok (.ior, 1) := by decide +kernel
theorem dX4_besideAny_13 : decode cX4_besideAny 13 = .ok (.iload_n 0, 1) := by decide +kernel
theorem dX4_besideAny_14 : decode cX4_besideAny 14 = .ok (.iconst 5, 1) := by decide +kernel
theorem dX4_besideAny_15 : decode cX4_besideAny 15 = .ok (.iushr, 1) := by decide +kernel
theorem dX4_besideAny_16 : decode cX4_besideAny 16 = .ok (.ior, 1) := by decide +kernel
theorem dX4_besideAny_17 : decode cX4_besideAny 17 = .ok (.ireturn, 1) := by decide +kernel
theorem dX4_twosIn_0 : decode cX4_twosIn 0 = .ok (.iload_n 0, 1) := by decide +kernel
theorem dX4_twosIn_1 : decode cX4_twosIn 1 = .ok (.iload_n 0, 1) := by decide +kernel
theorem dX4_twosIn_2 : decode cX4_twosIn 2 = .ok (.invokestatic 60, 3) := by decide +kernel
theorem dX4_twosIn_5 : decode cX4_twosIn 5 = .ok (.iand, 1) := by decide +kernel
theorem dX4_twosIn_6 : decode cX4_twosIn 6 = .ok (.invokestatic 66, 3) := by decide +kernel
theorem dX4_twosIn_9 : decode cX4_twosIn 9 = .ok (.iload_n 0, 1) := by decide +kernel
theorem dX4_twosIn_10 : decode cX4_twosIn 10 = .ok (.iload_n 0, 1) := by decide +kernel
theorem dX4_twosIn_11 : decode cX4_twosIn 11 = .ok (.iconst 5, 1) := by decide +kernel
theorem dX4_twosIn_12 : decode cX4_twosIn 12 = .ok (.iushr, 1) := by decide +kernel
theorem dX4_twosIn_13 : decode cX4_twosIn 13 = .ok (.iand, 1) := by decide +kernel
theorem dX4_twosIn_14 : decode cX4_twosIn 14 = .ok (.invokestatic 66, 3) := by decide +kernel
theorem dX4_twosIn_17 : decode cX4_twosIn 17 = .ok (.iadd, 1) := by decide +kernel
theorem dX4_twosIn_18 : decode cX4_twosIn 18 = .ok (.ireturn, 1) := by decide +kernel
theorem dX5_init_0 : decode cX5_init 0 = .ok (.aload_n 0, 1) := by decide +kernel
theorem dX5_init_1 : decode cX5_init 1 = .ok (.invokespecial 3, 3) := by decide +kernel
theorem dX5_init_4 : decode cX5_init 4 = .ok (.aload_n 0, 1) := by decide +kernel
theorem dX5_init_5 : decode cX5_init 5 = .ok (.sipush 150, 3) := by decide +kernel
theorem dX5_init_8 : decode cX5_init 8 = .ok (.newarray .int, 2) := by decide +kernel
theorem dX5_init_10 : decode cX5_init 10 = .ok (.putfield 9, 3) := by decide +kernel
theorem dX5_init_13 : decode cX5_init 13 = .ok (.return_, 1) := by decide +kernel
theorem dX5_append_0 : decode cX5_append 0 = .ok (.aload_n 0, 1) := by decide +kernel
theorem dX5_append_1 : decode cX5_append 1 = .ok (.getfield 15, 3) := by decide +kernel
theorem dX5_append_4 : decode cX5_append 4 = .ok (.ifCond .lt 15, 3) := by decide +kernel
theorem dX5_append_7 : decode cX5_append 7 = .ok (.aload_n 0, 1) := by decide +kernel
theorem dX5_append_8 : decode cX5_append 8 = .ok (.getfield 15, 3) := by decide +kernel
theorem dX5_append_11 : decode cX5_append 11 = .ok (.aload_n 0, 1) := by decide +kernel
theorem dX5_append_12 : decode cX5_append 12 = .ok (.getfield 9, 3) := by decide +kernel
theorem dX5_append_15 : decode cX5_append 15 = .ok (.arraylength, 1) := by decide +kernel
theorem dX5_append_16 : decode cX5_append 16 = .ok (.if_icmp .lt 5, 3) := by decide +kernel
theorem dX5_append_19 : decode cX5_append 19 = .ok (.iconst 0, 1) := by decide +kernel
theorem dX5_append_20 : decode cX5_append 20 = .ok (.ireturn, 1) := by decide +kernel
theorem dX5_append_21 : decode cX5_append 21 = .ok (.aload_n 0, 1) := by decide +kernel
theorem dX5_append_22 : decode cX5_append 22 = .ok (.getfield 9, 3) := by decide +kernel
theorem dX5_append_25 : decode cX5_append 25 = .ok (.aload_n 0, 1) := by decide +kernel
theorem dX5_append_26 : decode cX5_append 26 = .ok (.getfield 15, 3) := by decide +kernel
theorem dX5_append_29 : decode cX5_append 29 = .ok (.iload_n 1, 1) := by decide +kernel
theorem dX5_append_30 : decode cX5_append 30 = .ok (.iastore, 1) := by decide +kernel
theorem dX5_append_31 : decode cX5_append 31 = .ok (.aload_n 0, 1) := by decide +kernel
theorem dX5_append_32 : decode cX5_append 32 = .ok (.dup, 1) := by decide +kernel
theorem dX5_append_33 : decode cX5_append 33 = .ok (.getfield 15, 3) := by decide +kernel
theorem dX5_append_36 : decode cX5_append 36 = .ok (.iconst 1, 1) := by decide +kernel
theorem dX5_append_37 : decode cX5_append 37 = .ok (.iadd, 1) := by decide +kernel
theorem dX5_append_38 : decode cX5_append 38 = .ok (.putfield 15, 3) := by decide +kernel
theorem dX5_append_41 : decode cX5_append 41 = .ok (.iconst 1, 1) := by decide +kernel
theorem dX5_append_42 : decode cX5_append 42 = .ok (.ireturn, 1) := by decide +kernel
theorem dX5_byteAt_0 : decode cX5_byteAt 0 = .ok (.iload_n 1, 1) := by decide +kernel
theorem dX5_byteAt_1 : decode cX5_byteAt 1 = .ok (.ifCond .lt 29, 3) := by decide +kernel
theorem dX5_byteAt_4 : decode cX5_byteAt 4 = .ok (.iload_n 1, 1) := by decide +kernel
theorem dX5_byteAt_5 : decode cX5_byteAt 5 = .ok (.aload_n 0, 1) := by decide +kernel
theorem dX5_byteAt_6 : decode cX5_byteAt 6 = .ok (.getfield 15, 3) := by decide +kernel
theorem dX5_byteAt_9 : decode cX5_byteAt 9 = .ok (.if_icmp .ge 21, 3) := by decide +kernel
theorem dX5_byteAt_12 : decode cX5_byteAt 12 = .ok (.iload_n 1, 1) := by decide +kernel
theorem dX5_byteAt_13 : decode cX5_byteAt 13 = .ok (.aload_n 0, 1) := by decide +kernel
theorem dX5_byteAt_14 : decode cX5_byteAt 14 = .ok (.getfield 9, 3) := by decide +kernel
theorem dX5_byteAt_17 : decode cX5_byteAt 17 = .ok (.arraylength, 1) := by decide +kernel
theorem dX5_byteAt_18 : decode cX5_byteAt 18 = .ok (.if_icmp .ge 12, 3) := by decide +kernel
theorem dX5_byteAt_21 : decode cX5_byteAt 21 = .ok (.aload_n 0, 1) := by decide +kernel
theorem dX5_byteAt_22 : decode cX5_byteAt 22 = .ok (.getfield 9, 3) := by decide +kernel
theorem dX5_byteAt_25 : decode cX5_byteAt 25 = .ok (.iload_n 1, 1) := by decide +kernel
theorem dX5_byteAt_26 : decode cX5_byteAt 26 = .ok (.iaload, 1) := by decide +kernel
theorem dX5_byteAt_27 : decode cX5_byteAt 27 = .ok (.goto 4, 3) := by decide +kernel
theorem dX5_byteAt_30 : decode cX5_byteAt 30 = .ok (.iconst (-1), 1) := by decide +kernel
theorem dX5_byteAt_31 : decode cX5_byteAt 31 = .ok (.ireturn, 1) := by decide +kernel
theorem dX6_init_0 : decode cX6_init 0 = .ok (.aload_n 0, 1) := by decide +kernel
theorem dX6_init_1 : decode cX6_init 1 = .ok (.invokespecial 3, 3) := by decide +kernel
theorem dX6_init_4 : decode cX6_init 4 = .ok (.aload_n 0, 1) := by decide +kernel
theorem dX6_init_5 : decode cX6_init 5 = .ok (.new 9, 3) := by decide +kernel
theorem dX6_init_8 : decode cX6_init 8 = .ok (.dup, 1) := by decide +kernel
theorem dX6_init_9 : decode cX6_init 9 = .ok (.invokespecial 11, 3) := by decide +kernel
theorem dX6_init_12 : decode cX6_init 12 = .ok (.putfield 12, 3) := by decide +kernel
theorem dX6_init_15 : decode cX6_init 15 = .ok (.aload_n 0, 1) := by decide +kernel
theorem dX6_init_16 : decode cX6_init 16 = .ok (.aload_n 0, 1) := by decide +kernel
theorem dX6_init_17 : decode cX6_init 17 = .ok (.getfield 12, 3) := by decide +kernel
theorem dX6_init_20 : decode cX6_init 20 = .ok (.getfield 16, 3) := by decide +kernel
theorem dX6_init_23 : decode cX6_init 23 = .ok (.putfield 20, 3) := by decide +kernel
theorem dX6_init_26 : decode cX6_init 26 = .ok (.aload_n 0, 1) := by decide +kernel
theorem dX6_init_27 : decode cX6_init 27 = .ok (.new 21, 3) := by decide +kernel
theorem dX6_init_30 : decode cX6_init 30 = .ok (.dup, 1) := by decide +kernel
theorem dX6_init_31 : decode cX6_init 31 = .ok (.invokespecial 23, 3) := by decide +kernel
theorem dX6_init_34 : decode cX6_init 34 = .ok (.putfield 24, 3) := by decide +kernel
theorem dX6_init_37 : decode cX6_init 37 = .ok (.aload_n 0, 1) := by decide +kernel
theorem dX6_init_38 : decode cX6_init 38 = .ok (.aload_n 0, 1) := by decide +kernel
theorem dX6_init_39 : decode cX6_init 39 = .ok (.getfield 24, 3) := by decide +kernel
theorem dX6_init_42 : decode cX6_init 42 = .ok (.getfield 28, 3) := by decide +kernel
theorem dX6_init_45 : decode cX6_init 45 = .ok (.putfield 32, 3) := by decide +kernel
theorem dX6_init_48 : decode cX6_init 48 = .ok (.aload_n 0, 1) := by decide +kernel
theorem dX6_init_49 : decode cX6_init 49 = .ok (.new 21, 3) := by decide +kernel
theorem dX6_init_52 : decode cX6_init 52 = .ok (.dup, 1) := by decide +kernel
theorem dX6_init_53 : decode cX6_init 53 = .ok (.invokespecial 23, 3) := by decide +kernel
theorem dX6_init_56 : decode cX6_init 56 = .ok (.putfield 35, 3) := by decide +kernel
theorem dX6_init_59 : decode cX6_init 59 = .ok (.aload_n 0, 1) := by decide +kernel
theorem dX6_init_60 : decode cX6_init 60 = .ok (.new 21, 3) := by decide +kernel
theorem dX6_init_63 : decode cX6_init 63 = .ok (.dup, 1) := by decide +kernel
theorem dX6_init_64 : decode cX6_init 64 = .ok (.invokespecial 23, 3) := by decide +kernel
theorem dX6_init_67 : decode cX6_init 67 = .ok (.putfield 38, 3) := by decide +kernel
theorem dX6_init_70 : decode cX6_init 70 = .ok (.aload_n 0, 1) := by decide +kernel
theorem dX6_init_71 : decode cX6_init 71 = .ok (.new 41, 3) := by decide +kernel
theorem dX6_init_74 : decode cX6_init 74 = .ok (.dup, 1) := by decide +kernel
theorem dX6_init_75 : decode cX6_init 75 = .ok (.invokespecial 43, 3) := by decide +kernel
theorem dX6_init_78 : decode cX6_init 78 = .ok (.putfield 44, 3) := by decide +kernel
theorem dX6_init_81 : decode cX6_init 81 = .ok (.aload_n 0, 1) := by decide +kernel
theorem dX6_init_82 : decode cX6_init 82 = .ok (.new 48, 3) := by decide +kernel
theorem dX6_init_85 : decode cX6_init 85 = .ok (.dup, 1) := by decide +kernel
theorem dX6_init_86 : decode cX6_init 86 = .ok (.invokespecial 50, 3) := by decide +kernel
theorem dX6_init_89 : decode cX6_init 89 = .ok (.putfield 51, 3) := by decide +kernel
theorem dX6_init_92 : decode cX6_init 92 = .ok (.return_, 1) := by decide +kernel
theorem dX6_type_0 : decode cX6_type 0 = .ok (.iload_n 1, 1) := by decide +kernel
theorem dX6_type_1 : decode cX6_type 1 = .ok (.sipush 255, 3) := by decide +kernel
theorem dX6_type_4 : decode cX6_type 4 = .ok (.invokestatic 55, 3) := by decide +kernel
theorem dX6_type_7 : decode cX6_type 7 = .ok (.ifCond .ne 5, 3) := by decide +kernel
theorem dX6_type_10 : decode cX6_type 10 = .ok (.iconst (-1), 1) := by decide +kernel
theorem dX6_type_11 : decode cX6_type 11 = .ok (.ireturn, 1) := by decide +kernel
theorem dX6_type_12 : decode cX6_type 12 = .ok (.aload_n 0, 1) := by decide +kernel
theorem dX6_type_13 : decode cX6_type 13 = .ok (.getfield 20, 3) := by decide +kernel
theorem dX6_type_16 : decode cX6_type 16 = .ok (.iload_n 1, 1) := by decide +kernel
theorem dX6_type_17 : decode cX6_type 17 = .ok (.invokevirtual 59, 3) := by decide +kernel
theorem dX6_type_20 : decode cX6_type 20 = .ok (.ifCond .eq 13, 3) := by decide +kernel
theorem dX6_type_23 : decode cX6_type 23 = .ok (.aload_n 0, 1) := by decide +kernel
theorem dX6_type_24 : decode cX6_type 24 = .ok (.getfield 20, 3) := by decide +kernel
theorem dX6_type_27 : decode cX6_type 27 = .ok (.getfield 65, 3) := by decide +kernel
theorem dX6_type_30 : decode cX6_type 30 = .ok (.goto 5, 3) := by decide +kernel
theorem dX6_type_33 : decode cX6_type 33 = .ok (.bipush (-3), 2) := by decide +kernel
theorem dX6_type_35 : decode cX6_type 35 = .ok (.ireturn, 1) := by decide +kernel
theorem dX6_clear_0 : decode cX6_clear 0 = .ok (.aload_n 0, 1) := by decide +kernel
theorem dX6_clear_1 : decode cX6_clear 1 = .ok (.getfield 20, 3) := by decide +kernel
theorem dX6_clear_4 : decode cX6_clear 4 = .ok (.getfield 65, 3) := by decide +kernel
theorem dX6_clear_7 : decode cX6_clear 7 = .ok (.istore_n 1, 1) := by decide +kernel
theorem dX6_clear_8 : decode cX6_clear 8 = .ok (.aload_n 0, 1) := by decide +kernel
theorem dX6_clear_9 : decode cX6_clear 9 = .ok (.getfield 20, 3) := by decide +kernel
theorem dX6_clear_12 : decode cX6_clear 12 = .ok (.iconst 0, 1) := by decide +kernel
theorem dX6_clear_13 : decode cX6_clear 13 = .ok (.putfield 65, 3) := by decide +kernel
theorem dX6_clear_16 : decode cX6_clear 16 = .ok (.iload_n 1, 1) := by decide +kernel
theorem dX6_clear_17 : decode cX6_clear 17 = .ok (.ireturn, 1) := by decide +kernel
theorem dX6_strand_0 : decode cX6_strand 0 = .ok (.aload_n 0, 1) := by decide +kernel
theorem dX6_strand_1 : decode cX6_strand 1 = .ok (.getfield 12, 3) := by decide +kernel
theorem dX6_strand_4 : decode cX6_strand 4 = .ok (.invokevirtual 69, 3) := by decide +kernel
theorem dX6_strand_7 : decode cX6_strand 7 = .ok (.istore_n 1, 1) := by decide +kernel
theorem dX6_strand_8 : decode cX6_strand 8 = .ok (.iload_n 1, 1) := by decide +kernel
theorem dX6_strand_9 : decode cX6_strand 9 = .ok (.ifCond .lt 56, 3) := by decide +kernel
theorem dX6_strand_12 : decode cX6_strand 12 = .ok (.aload_n 0, 1) := by decide +kernel
theorem dX6_strand_13 : decode cX6_strand 13 = .ok (.getfield 32, 3) := by decide +kernel
theorem dX6_strand_16 : decode cX6_strand 16 = .ok (.aload_n 0, 1) := by decide +kernel
theorem dX6_strand_17 : decode cX6_strand 17 = .ok (.getfield 12, 3) := by decide +kernel
theorem dX6_strand_20 : decode cX6_strand 20 = .ok (.getfield 73, 3) := by decide +kernel
theorem dX6_strand_23 : decode cX6_strand 23 = .ok (.invokevirtual 76, 3) := by decide +kernel
theorem dX6_strand_26 : decode cX6_strand 26 = .ok (.aload_n 0, 1) := by decide +kernel
theorem dX6_strand_27 : decode cX6_strand 27 = .ok (.getfield 24, 3) := by decide +kernel
theorem dX6_strand_30 : decode cX6_strand 30 = .ok (.iconst 0, 1) := by decide +kernel
theorem dX6_strand_31 : decode cX6_strand 31 = .ok (.putfield 82, 3) := by decide +kernel
theorem dX6_strand_34 : decode cX6_strand 34 = .ok (.aload_n 0, 1) := by decide +kernel
theorem dX6_strand_35 : decode cX6_strand 35 = .ok (.getfield 35, 3) := by decide +kernel
theorem dX6_strand_38 : decode cX6_strand 38 = .ok (.iconst 0, 1) := by decide +kernel
theorem dX6_strand_39 : decode cX6_strand 39 = .ok (.putfield 85, 3) := by decide +kernel
theorem dX6_strand_42 : decode cX6_strand 42 = .ok (.aload_n 0, 1) := by decide +kernel
theorem dX6_strand_43 : decode cX6_strand 43 = .ok (.getfield 38, 3) := by decide +kernel
theorem dX6_strand_46 : decode cX6_strand 46 = .ok (.iconst 0, 1) := by decide +kernel
theorem dX6_strand_47 : decode cX6_strand 47 = .ok (.putfield 85, 3) := by decide +kernel
theorem dX6_strand_50 : decode cX6_strand 50 = .ok (.aload_n 0, 1) := by decide +kernel
theorem dX6_strand_51 : decode cX6_strand 51 = .ok (.getfield 44, 3) := by decide +kernel
theorem dX6_strand_54 : decode cX6_strand 54 = .ok (.invokevirtual 89, 3) := by decide +kernel
theorem dX6_strand_57 : decode cX6_strand 57 = .ok (.aload_n 0, 1) := by decide +kernel
theorem dX6_strand_58 : decode cX6_strand 58 = .ok (.getfield 20, 3) := by decide +kernel
theorem dX6_strand_61 : decode cX6_strand 61 = .ok (.iconst 0, 1) := by decide +kernel
theorem dX6_strand_62 : decode cX6_strand 62 = .ok (.putfield 65, 3) := by decide +kernel
theorem dX6_strand_65 : decode cX6_strand 65 = .ok (.iload_n 1, 1) := by decide +kernel
theorem dX6_strand_66 : decode cX6_strand 66 = .ok (.ireturn, 1) := by decide +kernel
theorem dX6_cell_0 : decode cX6_cell 0 = .ok (.aload_n 0, 1) := by decide +kernel
theorem dX6_cell_1 : decode cX6_cell 1 = .ok (.getfield 32, 3) := by decide +kernel
theorem dX6_cell_4 : decode cX6_cell 4 = .ok (.iload_n 1, 1) := by decide +kernel
theorem dX6_cell_5 : decode cX6_cell 5 = .ok (.iload_n 2, 1) := by decide +kernel
theorem dX6_cell_6 : decode cX6_cell 6 = .ok (.invokevirtual 92, 3) := by decide +kernel
theorem dX6_cell_9 : decode cX6_cell 9 = .ok (.ifCond .ne 5, 3) := by decide +kernel
theorem dX6_cell_12 : decode cX6_cell 12 = .ok (.iconst (-1), 1) := by decide +kernel
theorem dX6_cell_13 : decode cX6_cell 13 = .ok (.ireturn, 1) := by decide +kernel
theorem dX6_cell_14 : decode cX6_cell 14 = .ok (.iload_n 1, 1) := by decide +kernel
theorem dX6_cell_15 : decode cX6_cell 15 = .ok (.iload_n 2, 1) := by decide +kernel
theorem dX6_cell_16 : decode cX6_cell 16 = .ok (.invokestatic 95, 3) := by decide +kernel
theorem dX6_cell_19 : decode cX6_cell 19 = .ok (.istore 4, 2) := by decide +kernel
theorem dX6_cell_21 : decode cX6_cell 21 = .ok (.iload_n 3, 1) := by decide +kernel
theorem dX6_cell_22 : decode cX6_cell 22 = .ok (.tableswitch 134 0 4 #[34, 44, 66, 88, 111], 34) := by decide +kernel
theorem dX6_cell_56 : decode cX6_cell 56 = .ok (.aload_n 0, 1) := by decide +kernel
theorem dX6_cell_57 : decode cX6_cell 57 = .ok (.getfield 32, 3) := by decide +kernel
theorem dX6_cell_60 : decode cX6_cell 60 = .ok (.iload 4, 2) := by decide +kernel
theorem dX6_cell_62 : decode cX6_cell 62 = .ok (.invokevirtual 99, 3) := by decide +kernel
theorem dX6_cell_65 : decode cX6_cell 65 = .ok (.ireturn, 1) := by decide +kernel
theorem dX6_cell_66 : decode cX6_cell 66 = .ok (.aload_n 0, 1) := by decide +kernel
theorem dX6_cell_67 : decode cX6_cell 67 = .ok (.getfield 32, 3) := by decide +kernel
theorem dX6_cell_70 : decode cX6_cell 70 = .ok (.getfield 103, 3) := by decide +kernel
theorem dX6_cell_73 : decode cX6_cell 73 = .ok (.iload 4, 2) := by decide +kernel
theorem dX6_cell_75 : decode cX6_cell 75 = .ok (.iand, 1) := by decide +kernel
theorem dX6_cell_76 : decode cX6_cell 76 = .ok (.ifCond .eq 7, 3) := by decide +kernel
theorem dX6_cell_79 : decode cX6_cell 79 = .ok (.iconst 1, 1) := by decide +kernel
theorem dX6_cell_80 : decode cX6_cell 80 = .ok (.goto 4, 3) := by decide +kernel
theorem dX6_cell_83 : decode cX6_cell 83 = .ok (.iconst 0, 1) := by decide +kernel
theorem dX6_cell_84 : decode cX6_cell 84 = .ok (.invokestatic 106, 3) := by decide +kernel
theorem dX6_cell_87 : decode cX6_cell 87 = .ok (.ireturn, 1) := by decide +kernel
theorem dX6_cell_88 : decode cX6_cell 88 = .ok (.aload_n 0, 1) := by decide +kernel
theorem dX6_cell_89 : decode cX6_cell 89 = .ok (.getfield 32, 3) := by decide +kernel
theorem dX6_cell_92 : decode cX6_cell 92 = .ok (.invokevirtual 110, 3) := by decide +kernel
theorem dX6_cell_95 : decode cX6_cell 95 = .ok (.iload 4, 2) := by decide +kernel
theorem dX6_cell_97 : decode cX6_cell 97 = .ok (.iand, 1) := by decide +kernel
theorem dX6_cell_98 : decode cX6_cell 98 = .ok (.ifCond .eq 7, 3) := by decide +kernel
theorem dX6_cell_101 : decode cX6_cell 101 = .ok (.iconst 1, 1) := by decide +kernel
theorem dX6_cell_102 : decode cX6_cell 102 = .ok (.goto 4, 3) := by decide +kernel
theorem dX6_cell_105 : decode cX6_cell 105 = .ok (.iconst 0, 1) := by decide +kernel
theorem dX6_cell_106 : decode cX6_cell 106 = .ok (.invokestatic 106, 3) := by decide +kernel
theorem dX6_cell_109 : decode cX6_cell 109 = .ok (.ireturn, 1) := by decide +kernel
theorem dX6_cell_110 : decode cX6_cell 110 = .ok (.aload_n 0, 1) := by decide +kernel
theorem dX6_cell_111 : decode cX6_cell 111 = .ok (.getfield 32, 3) := by decide +kernel
theorem dX6_cell_114 : decode cX6_cell 114 = .ok (.iconst 0, 1) := by decide +kernel
theorem dX6_cell_115 : decode cX6_cell 115 = .ok (.invokevirtual 113, 3) := by decide +kernel
theorem dX6_cell_118 : decode cX6_cell 118 = .ok (.iload 4, 2) := by decide +kernel
theorem dX6_cell_120 : decode cX6_cell 120 = .ok (.iand, 1) := by decide +kernel
theorem dX6_cell_121 : decode cX6_cell 121 = .ok (.ifCond .eq 7, 3) := by decide +kernel
theorem dX6_cell_124 : decode cX6_cell 124 = .ok (.iconst 1, 1) := by decide +kernel
theorem dX6_cell_125 : decode cX6_cell 125 = .ok (.goto 4, 3) := by decide +kernel
theorem dX6_cell_128 : decode cX6_cell 128 = .ok (.iconst 0, 1) := by decide +kernel
theorem dX6_cell_129 : decode cX6_cell 129 = .ok (.invokestatic 106, 3) := by decide +kernel
theorem dX6_cell_132 : decode cX6_cell 132 = .ok (.ireturn, 1) := by decide +kernel
theorem dX6_cell_133 : decode cX6_cell 133 = .ok (.aload_n 0, 1) := by decide +kernel
theorem dX6_cell_134 : decode cX6_cell 134 = .ok (.getfield 32, 3) := by decide +kernel
theorem dX6_cell_137 : decode cX6_cell 137 = .ok (.iconst 1, 1) := by decide +kernel
theorem dX6_cell_138 : decode cX6_cell 138 = .ok (.invokevirtual 113, 3) := by decide +kernel
theorem dX6_cell_141 : decode cX6_cell 141 = .ok (.iload 4, 2) := by decide +kernel
theorem dX6_cell_143 : decode cX6_cell 143 = .ok (.iand, 1) := by decide +kernel
theorem dX6_cell_144 : decode cX6_cell 144 = .ok (.ifCond .eq 7, 3) := by decide +kernel
theorem dX6_cell_147 : decode cX6_cell 147 = .ok (.iconst 1, 1) := by decide +kernel
theorem dX6_cell_148 : decode cX6_cell 148 = .ok (.goto 4, 3) := by decide +kernel
theorem dX6_cell_151 : decode cX6_cell 151 = .ok (.iconst 0, 1) := by decide +kernel
theorem dX6_cell_152 : decode cX6_cell 152 = .ok (.invokestatic 106, 3) := by decide +kernel
theorem dX6_cell_155 : decode cX6_cell 155 = .ok (.ireturn, 1) := by decide +kernel
theorem dX6_cell_156 : decode cX6_cell 156 = .ok (.iconst (-1), 1) := by decide +kernel
theorem dX6_cell_157 : decode cX6_cell 157 = .ok (.ireturn, 1) := by decide +kernel
theorem dX6_family_0 : decode cX6_family 0 = .ok (.iload_n 1, 1) := by decide +kernel
theorem dX6_family_1 : decode cX6_family 1 = .ok (.invokestatic 116, 3) := by decide +kernel
theorem dX6_family_4 : decode cX6_family 4 = .ok (.ifCond .ne 5, 3) := by decide +kernel
theorem dX6_family_7 : decode cX6_family 7 = .ok (.iconst (-1), 1) := by decide +kernel
theorem dX6_family_8 : decode cX6_family 8 = .ok (.ireturn, 1) := by decide +kernel
theorem dX6_family_9 : decode cX6_family 9 = .ok (.iload_n 2, 1) := by decide +kernel
theorem dX6_family_10 : decode cX6_family 10 = .ok (.tableswitch 53 0 2 #[26, 35, 44], 26) := by decide +kernel
theorem dX6_family_36 : decode cX6_family 36 = .ok (.aload_n 0, 1) := by decide +kernel
theorem dX6_family_37 : decode cX6_family 37 = .ok (.getfield 32, 3) := by decide +kernel
theorem dX6_family_40 : decode cX6_family 40 = .ok (.iload_n 1, 1) := by decide +kernel
theorem dX6_family_41 : decode cX6_family 41 = .ok (.invokevirtual 119, 3) := by decide +kernel
theorem dX6_family_44 : decode cX6_family 44 = .ok (.ireturn, 1) := by decide +kernel
theorem dX6_family_45 : decode cX6_family 45 = .ok (.aload_n 0, 1) := by decide +kernel
theorem dX6_family_46 : decode cX6_family 46 = .ok (.getfield 32, 3) := by decide +kernel
theorem dX6_family_49 : decode cX6_family 49 = .ok (.iload_n 1, 1) := by decide +kernel
theorem dX6_family_50 : decode cX6_family 50 = .ok (.invokevirtual 122, 3) := by decide +kernel
theorem dX6_family_53 : decode cX6_family 53 = .ok (.ireturn, 1) := by decide +kernel
theorem dX6_family_54 : decode cX6_family 54 = .ok (.aload_n 0, 1) := by decide +kernel
theorem dX6_family_55 : decode cX6_family 55 = .ok (.getfield 32, 3) := by decide +kernel
theorem dX6_family_58 : decode cX6_family 58 = .ok (.iload_n 1, 1) := by decide +kernel
theorem dX6_family_59 : decode cX6_family 59 = .ok (.invokevirtual 125, 3) := by decide +kernel
theorem dX6_family_62 : decode cX6_family 62 = .ok (.ireturn, 1) := by decide +kernel
theorem dX6_family_63 : decode cX6_family 63 = .ok (.iconst (-1), 1) := by decide +kernel
theorem dX6_family_64 : decode cX6_family 64 = .ok (.ireturn, 1) := by decide +kernel
theorem dX6_takes_0 : decode cX6_takes 0 = .ok (.iload_n 1, 1) := by decide +kernel
theorem dX6_takes_1 : decode cX6_takes 1 = .ok (.invokestatic 116, 3) := by decide +kernel
theorem dX6_takes_4 : decode cX6_takes 4 = .ok (.ifCond .eq 15, 3) := by decide +kernel
theorem dX6_takes_7 : decode cX6_takes 7 = .ok (.aload_n 0, 1) := by decide +kernel
theorem dX6_takes_8 : decode cX6_takes 8 = .ok (.getfield 32, 3) := by decide +kernel
theorem dX6_takes_11 : decode cX6_takes 11 = .ok (.iload_n 2, 1) := by decide +kernel
theorem dX6_takes_12 : decode cX6_takes 12 = .ok (.iload_n 3, 1) := by decide +kernel
theorem dX6_takes_13 : decode cX6_takes 13 = .ok (.invokevirtual 92, 3) := by decide +kernel
theorem dX6_takes_16 : decode cX6_takes 16 = .ok (.ifCond .ne 5, 3) := by decide +kernel
theorem dX6_takes_19 : decode cX6_takes 19 = .ok (.iconst (-1), 1) := by decide +kernel
theorem dX6_takes_20 : decode cX6_takes 20 = .ok (.ireturn, 1) := by decide +kernel
theorem dX6_takes_21 : decode cX6_takes 21 = .ok (.iload_n 2, 1) := by decide +kernel
theorem dX6_takes_22 : decode cX6_takes 22 = .ok (.iload_n 3, 1) := by decide +kernel
theorem dX6_takes_23 : decode cX6_takes 23 = .ok (.invokestatic 95, 3) := by decide +kernel
theorem dX6_takes_26 : decode cX6_takes 26 = .ok (.istore 4, 2) := by decide +kernel
theorem dX6_takes_28 : decode cX6_takes 28 = .ok (.aload_n 0, 1) := by decide +kernel
theorem dX6_takes_29 : decode cX6_takes 29 = .ok (.getfield 32, 3) := by decide +kernel
theorem dX6_takes_32 : decode cX6_takes 32 = .ok (.invokevirtual 110, 3) := by decide +kernel
theorem dX6_takes_35 : decode cX6_takes 35 = .ok (.iload 4, 2) := by decide +kernel
theorem dX6_takes_37 : decode cX6_takes 37 = .ok (.iand, 1) := by decide +kernel
theorem dX6_takes_38 : decode cX6_takes 38 = .ok (.ifCond .eq 17, 3) := by decide +kernel
theorem dX6_takes_41 : decode cX6_takes 41 = .ok (.aload_n 0, 1) := by decide +kernel
theorem dX6_takes_42 : decode cX6_takes 42 = .ok (.getfield 32, 3) := by decide +kernel
theorem dX6_takes_45 : decode cX6_takes 45 = .ok (.iload 4, 2) := by decide +kernel
theorem dX6_takes_47 : decode cX6_takes 47 = .ok (.invokevirtual 99, 3) := by decide +kernel
theorem dX6_takes_50 : decode cX6_takes 50 = .ok (.bipush (-9), 2) := by decide +kernel
theorem dX6_takes_52 : decode cX6_takes 52 = .ok (.if_icmp .eq 6, 3) := by decide +kernel
theorem dX6_takes_55 : decode cX6_takes 55 = .ok (.bipush (-2), 2) := by decide +kernel
theorem dX6_takes_57 : decode cX6_takes 57 = .ok (.ireturn, 1) := by decide +kernel
theorem dX6_takes_58 : decode cX6_takes 58 = .ok (.aload_n 0, 1) := by decide +kernel
theorem dX6_takes_59 : decode cX6_takes 59 = .ok (.getfield 24, 3) := by decide +kernel
theorem dX6_takes_62 : decode cX6_takes 62 = .ok (.invokevirtual 128, 3) := by decide +kernel
theorem dX6_takes_65 : decode cX6_takes 65 = .ok (.aload_n 0, 1) := by decide +kernel
theorem dX6_takes_66 : decode cX6_takes 66 = .ok (.getfield 32, 3) := by decide +kernel
theorem dX6_takes_69 : decode cX6_takes 69 = .ok (.iload_n 1, 1) := by decide +kernel
theorem dX6_takes_70 : decode cX6_takes 70 = .ok (.iload 4, 2) := by decide +kernel
theorem dX6_takes_72 : decode cX6_takes 72 = .ok (.invokevirtual 131, 3) := by decide +kernel
theorem dX6_takes_75 : decode cX6_takes 75 = .ok (.aload_n 0, 1) := by decide +kernel
theorem dX6_takes_76 : decode cX6_takes 76 = .ok (.getfield 32, 3) := by decide +kernel
theorem dX6_takes_79 : decode cX6_takes 79 = .ok (.iload_n 1, 1) := by decide +kernel
theorem dX6_takes_80 : decode cX6_takes 80 = .ok (.invokevirtual 119, 3) := by decide +kernel
theorem dX6_takes_83 : decode cX6_takes 83 = .ok (.invokestatic 135, 3) := by decide +kernel
theorem dX6_takes_86 : decode cX6_takes 86 = .ok (.ireturn, 1) := by decide +kernel
theorem dX6_leaves_0 : decode cX6_leaves 0 = .ok (.aload_n 0, 1) := by decide +kernel
theorem dX6_leaves_1 : decode cX6_leaves 1 = .ok (.getfield 32, 3) := by decide +kernel
theorem dX6_leaves_4 : decode cX6_leaves 4 = .ok (.iload_n 1, 1) := by decide +kernel
theorem dX6_leaves_5 : decode cX6_leaves 5 = .ok (.iload_n 2, 1) := by decide +kernel
theorem dX6_leaves_6 : decode cX6_leaves 6 = .ok (.invokevirtual 92, 3) := by decide +kernel
theorem dX6_leaves_9 : decode cX6_leaves 9 = .ok (.ifCond .ne 5, 3) := by decide +kernel
theorem dX6_leaves_12 : decode cX6_leaves 12 = .ok (.iconst (-1), 1) := by decide +kernel
theorem dX6_leaves_13 : decode cX6_leaves 13 = .ok (.ireturn, 1) := by decide +kernel
theorem dX6_leaves_14 : decode cX6_leaves 14 = .ok (.iload_n 1, 1) := by decide +kernel
theorem dX6_leaves_15 : decode cX6_leaves 15 = .ok (.iload_n 2, 1) := by decide +kernel
theorem dX6_leaves_16 : decode cX6_leaves 16 = .ok (.invokestatic 95, 3) := by decide +kernel
theorem dX6_leaves_19 : decode cX6_leaves 19 = .ok (.istore_n 3, 1) := by decide +kernel
theorem dX6_leaves_20 : decode cX6_leaves 20 = .ok (.aload_n 0, 1) := by decide +kernel
theorem dX6_leaves_21 : decode cX6_leaves 21 = .ok (.getfield 32, 3) := by decide +kernel
theorem dX6_leaves_24 : decode cX6_leaves 24 = .ok (.iload_n 3, 1) := by decide +kernel
theorem dX6_leaves_25 : decode cX6_leaves 25 = .ok (.invokevirtual 99, 3) := by decide +kernel
theorem dX6_leaves_28 : decode cX6_leaves 28 = .ok (.istore 4, 2) := by decide +kernel
theorem dX6_leaves_30 : decode cX6_leaves 30 = .ok (.iload 4, 2) := by decide +kernel
theorem dX6_leaves_32 : decode cX6_leaves 32 = .ok (.bipush (-9), 2) := by decide +kernel
theorem dX6_leaves_34 : decode cX6_leaves 34 = .ok (.if_icmp .ne 6, 3) := by decide +kernel
theorem dX6_leaves_37 : decode cX6_leaves 37 = .ok (.bipush (-2), 2) := by decide +kernel
theorem dX6_leaves_39 : decode cX6_leaves 39 = .ok (.ireturn, 1) := by decide +kernel
theorem dX6_leaves_40 : decode cX6_leaves 40 = .ok (.aload_n 0, 1) := by decide +kernel
theorem dX6_leaves_41 : decode cX6_leaves 41 = .ok (.getfield 24, 3) := by decide +kernel
theorem dX6_leaves_44 : decode cX6_leaves 44 = .ok (.invokevirtual 128, 3) := by decide +kernel
theorem dX6_leaves_47 : decode cX6_leaves 47 = .ok (.aload_n 0, 1) := by decide +kernel
theorem dX6_leaves_48 : decode cX6_leaves 48 = .ok (.getfield 32, 3) := by decide +kernel
theorem dX6_leaves_51 : decode cX6_leaves 51 = .ok (.iload_n 3, 1) := by decide +kernel
theorem dX6_leaves_52 : decode cX6_leaves 52 = .ok (.iconst (-1), 1) := by decide +kernel
theorem dX6_leaves_53 : decode cX6_leaves 53 = .ok (.ixor, 1) := by decide +kernel
theorem dX6_leaves_54 : decode cX6_leaves 54 = .ok (.invokevirtual 140, 3) := by decide +kernel
theorem dX6_leaves_57 : decode cX6_leaves 57 = .ok (.iload 4, 2) := by decide +kernel
theorem dX6_leaves_59 : decode cX6_leaves 59 = .ok (.ireturn, 1) := by decide +kernel
theorem dX6_puts_0 : decode cX6_puts 0 = .ok (.aload_n 0, 1) := by decide +kernel
theorem dX6_puts_1 : decode cX6_puts 1 = .ok (.getfield 32, 3) := by decide +kernel
theorem dX6_puts_4 : decode cX6_puts 4 = .ok (.iload_n 1, 1) := by decide +kernel
theorem dX6_puts_5 : decode cX6_puts 5 = .ok (.iload_n 2, 1) := by decide +kernel
theorem dX6_puts_6 : decode cX6_puts 6 = .ok (.invokevirtual 92, 3) := by decide +kernel
theorem dX6_puts_9 : decode cX6_puts 9 = .ok (.ifCond .eq 11, 3) := by decide +kernel
theorem dX6_puts_12 : decode cX6_puts 12 = .ok (.iload_n 3, 1) := by decide +kernel
theorem dX6_puts_13 : decode cX6_puts 13 = .ok (.iconst 1, 1) := by decide +kernel
theorem dX6_puts_14 : decode cX6_puts 14 = .ok (.invokestatic 55, 3) := by decide +kernel
theorem dX6_puts_17 : decode cX6_puts 17 = .ok (.ifCond .ne 5, 3) := by decide +kernel
theorem dX6_puts_20 : decode cX6_puts 20 = .ok (.iconst (-1), 1) := by decide +kernel
theorem dX6_puts_21 : decode cX6_puts 21 = .ok (.ireturn, 1) := by decide +kernel
theorem dX6_puts_22 : decode cX6_puts 22 = .ok (.iload_n 1, 1) := by decide +kernel
theorem dX6_puts_23 : decode cX6_puts 23 = .ok (.iload_n 2, 1) := by decide +kernel
theorem dX6_puts_24 : decode cX6_puts 24 = .ok (.invokestatic 95, 3) := by decide +kernel
theorem dX6_puts_27 : decode cX6_puts 27 = .ok (.istore 4, 2) := by decide +kernel
theorem dX6_puts_29 : decode cX6_puts 29 = .ok (.aload_n 0, 1) := by decide +kernel
theorem dX6_puts_30 : decode cX6_puts 30 = .ok (.getfield 32, 3) := by decide +kernel
theorem dX6_puts_33 : decode cX6_puts 33 = .ok (.invokevirtual 110, 3) := by decide +kernel
theorem dX6_puts_36 : decode cX6_puts 36 = .ok (.iload 4, 2) := by decide +kernel
theorem dX6_puts_38 : decode cX6_puts 38 = .ok (.iand, 1) := by decide +kernel
theorem dX6_puts_39 : decode cX6_puts 39 = .ok (.ifCond .eq 28, 3) := by decide +kernel
theorem dX6_puts_42 : decode cX6_puts 42 = .ok (.aload_n 0, 1) := by decide +kernel
theorem dX6_puts_43 : decode cX6_puts 43 = .ok (.getfield 32, 3) := by decide +kernel
theorem dX6_puts_46 : decode cX6_puts 46 = .ok (.getfield 103, 3) := by decide +kernel
theorem dX6_puts_49 : decode cX6_puts 49 = .ok (.iload 4, 2) := by decide +kernel
theorem dX6_puts_51 : decode cX6_puts 51 = .ok (.iand, 1) := by decide +kernel
theorem dX6_puts_52 : decode cX6_puts 52 = .ok (.ifCond .eq 7, 3) := by decide +kernel
theorem dX6_puts_55 : decode cX6_puts 55 = .ok (.iconst 1, 1) := by decide +kernel
theorem dX6_puts_56 : decode cX6_puts 56 = .ok (.goto 4, 3) := by decide +kernel
theorem dX6_puts_59 : decode cX6_puts 59 = .ok (.iconst 0, 1) := by decide +kernel
theorem dX6_puts_60 : decode cX6_puts 60 = .ok (.invokestatic 106, 3) := by decide +kernel
theorem dX6_puts_63 : decode cX6_puts 63 = .ok (.iload_n 3, 1) := by decide +kernel
theorem dX6_puts_64 : decode cX6_puts 64 = .ok (.if_icmp .ne 6, 3) := by decide +kernel
theorem dX6_puts_67 : decode cX6_puts 67 = .ok (.bipush (-2), 2) := by decide +kernel
theorem dX6_puts_69 : decode cX6_puts 69 = .ok (.ireturn, 1) := by decide +kernel
theorem dX6_puts_70 : decode cX6_puts 70 = .ok (.aload_n 0, 1) := by decide +kernel
theorem dX6_puts_71 : decode cX6_puts 71 = .ok (.getfield 24, 3) := by decide +kernel
theorem dX6_puts_74 : decode cX6_puts 74 = .ok (.invokevirtual 128, 3) := by decide +kernel
theorem dX6_puts_77 : decode cX6_puts 77 = .ok (.aload_n 0, 1) := by decide +kernel
theorem dX6_puts_78 : decode cX6_puts 78 = .ok (.getfield 32, 3) := by decide +kernel
theorem dX6_puts_81 : decode cX6_puts 81 = .ok (.dup, 1) := by decide +kernel
theorem dX6_puts_82 : decode cX6_puts 82 = .ok (.getfield 103, 3) := by decide +kernel
theorem dX6_puts_85 : decode cX6_puts 85 = .ok (.iload 4, 2) := by decide +kernel
theorem dX6_puts_87 : decode cX6_puts 87 = .ok (.ixor, 1) := by decide +kernel
theorem dX6_puts_88 : decode cX6_puts 88 = .ok (.putfield 103, 3) := by decide +kernel
theorem dX6_puts_91 : decode cX6_puts 91 = .ok (.aload_n 0, 1) := by decide +kernel
theorem dX6_puts_92 : decode cX6_puts 92 = .ok (.getfield 32, 3) := by decide +kernel
theorem dX6_puts_95 : decode cX6_puts 95 = .ok (.getfield 103, 3) := by decide +kernel
theorem dX6_puts_98 : decode cX6_puts 98 = .ok (.invokestatic 135, 3) := by decide +kernel
theorem dX6_puts_101 : decode cX6_puts 101 = .ok (.ireturn, 1) := by decide +kernel
theorem dX6_veers_0 : decode cX6_veers 0 = .ok (.aload_n 0, 1) := by decide +kernel
theorem dX6_veers_1 : decode cX6_veers 1 = .ok (.getfield 24, 3) := by decide +kernel
theorem dX6_veers_4 : decode cX6_veers 4 = .ok (.invokevirtual 128, 3) := by decide +kernel
theorem dX6_veers_7 : decode cX6_veers 7 = .ok (.aload_n 0, 1) := by decide +kernel
theorem dX6_veers_8 : decode cX6_veers 8 = .ok (.getfield 32, 3) := by decide +kernel
theorem dX6_veers_11 : decode cX6_veers 11 = .ok (.iconst 1, 1) := by decide +kernel
theorem dX6_veers_12 : decode cX6_veers 12 = .ok (.aload_n 0, 1) := by decide +kernel
theorem dX6_veers_13 : decode cX6_veers 13 = .ok (.getfield 32, 3) := by decide +kernel
theorem dX6_veers_16 : decode cX6_veers 16 = .ok (.getfield 144, 3) := by decide +kernel
theorem dX6_veers_19 : decode cX6_veers 19 = .ok (.isub, 1) := by decide +kernel
theorem dX6_veers_20 : decode cX6_veers 20 = .ok (.putfield 144, 3) := by decide +kernel
theorem dX6_veers_23 : decode cX6_veers 23 = .ok (.aload_n 0, 1) := by decide +kernel
theorem dX6_veers_24 : decode cX6_veers 24 = .ok (.getfield 32, 3) := by decide +kernel
theorem dX6_veers_27 : decode cX6_veers 27 = .ok (.getfield 144, 3) := by decide +kernel
theorem dX6_veers_30 : decode cX6_veers 30 = .ok (.ireturn, 1) := by decide +kernel
theorem dX6_tide_0 : decode cX6_tide 0 = .ok (.iload_n 1, 1) := by decide +kernel
theorem dX6_tide_1 : decode cX6_tide 1 = .ok (.iconst 1, 1) := by decide +kernel
theorem dX6_tide_2 : decode cX6_tide 2 = .ok (.invokestatic 55, 3) := by decide +kernel
theorem dX6_tide_5 : decode cX6_tide 5 = .ok (.ifCond .ne 5, 3) := by decide +kernel
theorem dX6_tide_8 : decode cX6_tide 8 = .ok (.iconst (-1), 1) := by decide +kernel
theorem dX6_tide_9 : decode cX6_tide 9 = .ok (.ireturn, 1) := by decide +kernel
theorem dX6_tide_10 : decode cX6_tide 10 = .ok (.iload_n 1, 1) := by decide +kernel
theorem dX6_tide_11 : decode cX6_tide 11 = .ok (.iconst 1, 1) := by decide +kernel
theorem dX6_tide_12 : decode cX6_tide 12 = .ok (.if_icmp .ne 15, 3) := by decide +kernel
theorem dX6_tide_15 : decode cX6_tide 15 = .ok (.aload_n 0, 1) := by decide +kernel
theorem dX6_tide_16 : decode cX6_tide 16 = .ok (.getfield 32, 3) := by decide +kernel
theorem dX6_tide_19 : decode cX6_tide 19 = .ok (.getfield 147, 3) := by decide +kernel
theorem dX6_tide_22 : decode cX6_tide 22 = .ok (.iconst 1, 1) := by decide +kernel
theorem dX6_tide_23 : decode cX6_tide 23 = .ok (.iadd, 1) := by decide +kernel
theorem dX6_tide_24 : decode cX6_tide 24 = .ok (.goto 12, 3) := by decide +kernel
theorem dX6_tide_27 : decode cX6_tide 27 = .ok (.aload_n 0, 1) := by decide +kernel
theorem dX6_tide_28 : decode cX6_tide 28 = .ok (.getfield 32, 3) := by decide +kernel
theorem dX6_tide_31 : decode cX6_tide 31 = .ok (.getfield 147, 3) := by decide +kernel
theorem dX6_tide_34 : decode cX6_tide 34 = .ok (.iconst 1, 1) := by decide +kernel
theorem dX6_tide_35 : decode cX6_tide 35 = .ok (.isub, 1) := by decide +kernel
theorem dX6_tide_36 : decode cX6_tide 36 = .ok (.istore_n 2, 1) := by decide +kernel
theorem dX6_tide_37 : decode cX6_tide 37 = .ok (.iload_n 2, 1) := by decide +kernel
theorem dX6_tide_38 : decode cX6_tide 38 = .ok (.aload_n 0, 1) := by decide +kernel
theorem dX6_tide_39 : decode cX6_tide 39 = .ok (.getfield 32, 3) := by decide +kernel
theorem dX6_tide_42 : decode cX6_tide 42 = .ok (.getfield 150, 3) := by decide +kernel
theorem dX6_tide_45 : decode cX6_tide 45 = .ok (.invokestatic 55, 3) := by decide +kernel
theorem dX6_tide_48 : decode cX6_tide 48 = .ok (.ifCond .ne 6, 3) := by decide +kernel
theorem dX6_tide_51 : decode cX6_tide 51 = .ok (.bipush (-2), 2) := by decide +kernel
theorem dX6_tide_53 : decode cX6_tide 53 = .ok (.ireturn, 1) := by decide +kernel
theorem dX6_tide_54 : decode cX6_tide 54 = .ok (.aload_n 0, 1) := by decide +kernel
theorem dX6_tide_55 : decode cX6_tide 55 = .ok (.getfield 24, 3) := by decide +kernel
theorem dX6_tide_58 : decode cX6_tide 58 = .ok (.invokevirtual 128, 3) := by decide +kernel
theorem dX6_tide_61 : decode cX6_tide 61 = .ok (.aload_n 0, 1) := by decide +kernel
theorem dX6_tide_62 : decode cX6_tide 62 = .ok (.getfield 32, 3) := by decide +kernel
theorem dX6_tide_65 : decode cX6_tide 65 = .ok (.iload_n 2, 1) := by decide +kernel
theorem dX6_tide_66 : decode cX6_tide 66 = .ok (.invokevirtual 153, 3) := by decide +kernel
theorem dX6_tide_69 : decode cX6_tide 69 = .ok (.iload_n 2, 1) := by decide +kernel
theorem dX6_tide_70 : decode cX6_tide 70 = .ok (.ireturn, 1) := by decide +kernel
theorem dX6_undo_0 : decode cX6_undo 0 = .ok (.aload_n 0, 1) := by decide +kernel
theorem dX6_undo_1 : decode cX6_undo 1 = .ok (.getfield 24, 3) := by decide +kernel
theorem dX6_undo_4 : decode cX6_undo 4 = .ok (.invokevirtual 156, 3) := by decide +kernel
theorem dX6_undo_7 : decode cX6_undo 7 = .ok (.ifCond .eq 13, 3) := by decide +kernel
theorem dX6_undo_10 : decode cX6_undo 10 = .ok (.aload_n 0, 1) := by decide +kernel
theorem dX6_undo_11 : decode cX6_undo 11 = .ok (.getfield 24, 3) := by decide +kernel
theorem dX6_undo_14 : decode cX6_undo 14 = .ok (.getfield 82, 3) := by decide +kernel
theorem dX6_undo_17 : decode cX6_undo 17 = .ok (.goto 5, 3) := by decide +kernel
theorem dX6_undo_20 : decode cX6_undo 20 = .ok (.bipush (-2), 2) := by decide +kernel
theorem dX6_undo_22 : decode cX6_undo 22 = .ok (.ireturn, 1) := by decide +kernel
theorem dX6_now_0 : decode cX6_now 0 = .ok (.iload_n 1, 1) := by decide +kernel
theorem dX6_now_1 : decode cX6_now 1 = .ok (.tableswitch 94 0 5 #[39, 47, 55, 63, 71, 86], 39) := by decide +kernel
theorem dX6_now_40 : decode cX6_now 40 = .ok (.aload_n 0, 1) := by decide +kernel
theorem dX6_now_41 : decode cX6_now 41 = .ok (.getfield 32, 3) := by decide +kernel
theorem dX6_now_44 : decode cX6_now 44 = .ok (.getfield 144, 3) := by decide +kernel
theorem dX6_now_47 : decode cX6_now 47 = .ok (.ireturn, 1) := by decide +kernel
theorem dX6_now_48 : decode cX6_now 48 = .ok (.aload_n 0, 1) := by decide +kernel
theorem dX6_now_49 : decode cX6_now 49 = .ok (.getfield 32, 3) := by decide +kernel
theorem dX6_now_52 : decode cX6_now 52 = .ok (.getfield 147, 3) := by decide +kernel
theorem dX6_now_55 : decode cX6_now 55 = .ok (.ireturn, 1) := by decide +kernel
theorem dX6_now_56 : decode cX6_now 56 = .ok (.aload_n 0, 1) := by decide +kernel
theorem dX6_now_57 : decode cX6_now 57 = .ok (.getfield 32, 3) := by decide +kernel
theorem dX6_now_60 : decode cX6_now 60 = .ok (.getfield 103, 3) := by decide +kernel
theorem dX6_now_63 : decode cX6_now 63 = .ok (.ireturn, 1) := by decide +kernel
theorem dX6_now_64 : decode cX6_now 64 = .ok (.aload_n 0, 1) := by decide +kernel
theorem dX6_now_65 : decode cX6_now 65 = .ok (.getfield 32, 3) := by decide +kernel
theorem dX6_now_68 : decode cX6_now 68 = .ok (.invokevirtual 160, 3) := by decide +kernel
theorem dX6_now_71 : decode cX6_now 71 = .ok (.ireturn, 1) := by decide +kernel
theorem dX6_now_72 : decode cX6_now 72 = .ok (.aload_n 0, 1) := by decide +kernel
theorem dX6_now_73 : decode cX6_now 73 = .ok (.getfield 32, 3) := by decide +kernel
theorem dX6_now_76 : decode cX6_now 76 = .ok (.aload_n 0, 1) := by decide +kernel
theorem dX6_now_77 : decode cX6_now 77 = .ok (.getfield 32, 3) := by decide +kernel
theorem dX6_now_80 : decode cX6_now 80 = .ok (.getfield 144, 3) := by decide +kernel
theorem dX6_now_83 : decode cX6_now 83 = .ok (.invokevirtual 113, 3) := by decide +kernel
theorem dX6_now_86 : decode cX6_now 86 = .ok (.ireturn, 1) := by decide +kernel
theorem dX6_now_87 : decode cX6_now 87 = .ok (.aload_n 0, 1) := by decide +kernel
theorem dX6_now_88 : decode cX6_now 88 = .ok (.getfield 32, 3) := by decide +kernel
theorem dX6_now_91 : decode cX6_now 91 = .ok (.invokevirtual 163, 3) := by decide +kernel
theorem dX6_now_94 : decode cX6_now 94 = .ok (.ireturn, 1) := by decide +kernel
theorem dX6_now_95 : decode cX6_now 95 = .ok (.iconst (-1), 1) := by decide +kernel
theorem dX6_now_96 : decode cX6_now 96 = .ok (.ireturn, 1) := by decide +kernel
theorem dX6_water_0 : decode cX6_water 0 = .ok (.iload_n 1, 1) := by decide +kernel
theorem dX6_water_1 : decode cX6_water 1 = .ok (.invokestatic 116, 3) := by decide +kernel
theorem dX6_water_4 : decode cX6_water 4 = .ok (.ifCond .eq 15, 3) := by decide +kernel
theorem dX6_water_7 : decode cX6_water 7 = .ok (.aload_n 0, 1) := by decide +kernel
theorem dX6_water_8 : decode cX6_water 8 = .ok (.getfield 32, 3) := by decide +kernel
theorem dX6_water_11 : decode cX6_water 11 = .ok (.iload_n 2, 1) := by decide +kernel
theorem dX6_water_12 : decode cX6_water 12 = .ok (.iload_n 3, 1) := by decide +kernel
theorem dX6_water_13 : decode cX6_water 13 = .ok (.invokevirtual 92, 3) := by decide +kernel
theorem dX6_water_16 : decode cX6_water 16 = .ok (.ifCond .ne 5, 3) := by decide +kernel
theorem dX6_water_19 : decode cX6_water 19 = .ok (.iconst (-1), 1) := by decide +kernel
theorem dX6_water_20 : decode cX6_water 20 = .ok (.ireturn, 1) := by decide +kernel
theorem dX6_water_21 : decode cX6_water 21 = .ok (.iload_n 2, 1) := by decide +kernel
theorem dX6_water_22 : decode cX6_water 22 = .ok (.iload_n 3, 1) := by decide +kernel
theorem dX6_water_23 : decode cX6_water 23 = .ok (.invokestatic 95, 3) := by decide +kernel
theorem dX6_water_26 : decode cX6_water 26 = .ok (.istore 4, 2) := by decide +kernel
theorem dX6_water_28 : decode cX6_water 28 = .ok (.aload_n 0, 1) := by decide +kernel
theorem dX6_water_29 : decode cX6_water 29 = .ok (.getfield 32, 3) := by decide +kernel
theorem dX6_water_32 : decode cX6_water 32 = .ok (.invokevirtual 110, 3) := by decide +kernel
theorem dX6_water_35 : decode cX6_water 35 = .ok (.iload 4, 2) := by decide +kernel
theorem dX6_water_37 : decode cX6_water 37 = .ok (.iand, 1) := by decide +kernel
theorem dX6_water_38 : decode cX6_water 38 = .ok (.ifCond .ne 7, 3) := by decide +kernel
theorem dX6_water_41 : decode cX6_water 41 = .ok (.iconst (-1), 1) := by decide +kernel
theorem dX6_water_42 : decode cX6_water 42 = .ok (.goto 13, 3) := by decide +kernel
theorem dX6_water_45 : decode cX6_water 45 = .ok (.aload_n 0, 1) := by decide +kernel
theorem dX6_water_46 : decode cX6_water 46 = .ok (.getfield 32, 3) := by decide +kernel
theorem dX6_water_49 : decode cX6_water 49 = .ok (.iload_n 1, 1) := by decide +kernel
theorem dX6_water_50 : decode cX6_water 50 = .ok (.iload 4, 2) := by decide +kernel
theorem dX6_water_52 : decode cX6_water 52 = .ok (.invokevirtual 166, 3) := by decide +kernel
theorem dX6_water_55 : decode cX6_water 55 = .ok (.ireturn, 1) := by decide +kernel
theorem dX6_help_0 : decode cX6_help 0 = .ok (.iload_n 1, 1) := by decide +kernel
theorem dX6_help_1 : decode cX6_help 1 = .ok (.invokestatic 116, 3) := by decide +kernel
theorem dX6_help_4 : decode cX6_help 4 = .ok (.ifCond .eq 11, 3) := by decide +kernel
theorem dX6_help_7 : decode cX6_help 7 = .ok (.iload_n 2, 1) := by decide +kernel
theorem dX6_help_8 : decode cX6_help 8 = .ok (.iconst 1, 1) := by decide +kernel
theorem dX6_help_9 : decode cX6_help 9 = .ok (.invokestatic 55, 3) := by decide +kernel
theorem dX6_help_12 : decode cX6_help 12 = .ok (.ifCond .ne 5, 3) := by decide +kernel
theorem dX6_help_15 : decode cX6_help 15 = .ok (.iconst (-1), 1) := by decide +kernel
theorem dX6_help_16 : decode cX6_help 16 = .ok (.ireturn, 1) := by decide +kernel
theorem dX6_help_17 : decode cX6_help 17 = .ok (.aload_n 0, 1) := by decide +kernel
theorem dX6_help_18 : decode cX6_help 18 = .ok (.getfield 32, 3) := by decide +kernel
theorem dX6_help_21 : decode cX6_help 21 = .ok (.iload_n 1, 1) := by decide +kernel
theorem dX6_help_22 : decode cX6_help 22 = .ok (.invokevirtual 169, 3) := by decide +kernel
theorem dX6_help_25 : decode cX6_help 25 = .ok (.istore_n 3, 1) := by decide +kernel
theorem dX6_help_26 : decode cX6_help 26 = .ok (.iload_n 3, 1) := by decide +kernel
theorem dX6_help_27 : decode cX6_help 27 = .ok (.bipush (-9), 2) := by decide +kernel
theorem dX6_help_29 : decode cX6_help 29 = .ok (.if_icmp .eq 7, 3) := by decide +kernel
theorem dX6_help_32 : decode cX6_help 32 = .ok (.iload_n 2, 1) := by decide +kernel
theorem dX6_help_33 : decode cX6_help 33 = .ok (.ifCond .ne 5, 3) := by decide +kernel
theorem dX6_help_36 : decode cX6_help 36 = .ok (.iload_n 3, 1) := by decide +kernel
theorem dX6_help_37 : decode cX6_help 37 = .ok (.ireturn, 1) := by decide +kernel
theorem dX6_help_38 : decode cX6_help 38 = .ok (.aload_n 0, 1) := by decide +kernel
theorem dX6_help_39 : decode cX6_help 39 = .ok (.getfield 32, 3) := by decide +kernel
theorem dX6_help_42 : decode cX6_help 42 = .ok (.iload_n 1, 1) := by decide +kernel
theorem dX6_help_43 : decode cX6_help 43 = .ok (.aload_n 0, 1) := by decide +kernel
theorem dX6_help_44 : decode cX6_help 44 = .ok (.getfield 32, 3) := by decide +kernel
theorem dX6_help_47 : decode cX6_help 47 = .ok (.getfield 103, 3) := by decide +kernel
theorem dX6_help_50 : decode cX6_help 50 = .ok (.iconst 1, 1) := by decide +kernel
theorem dX6_help_51 : decode cX6_help 51 = .ok (.iload_n 3, 1) := by decide +kernel
theorem dX6_help_52 : decode cX6_help 52 = .ok (.ishl, 1) := by decide +kernel
theorem dX6_help_53 : decode cX6_help 53 = .ok (.ior, 1) := by decide +kernel
theorem dX6_help_54 : decode cX6_help 54 = .ok (.invokevirtual 172, 3) := by decide +kernel
theorem dX6_help_57 : decode cX6_help 57 = .ok (.aload_n 0, 1) := by decide +kernel
theorem dX6_help_58 : decode cX6_help 58 = .ok (.getfield 32, 3) := by decide +kernel
theorem dX6_help_61 : decode cX6_help 61 = .ok (.iload_n 1, 1) := by decide +kernel
theorem dX6_help_62 : decode cX6_help 62 = .ok (.invokevirtual 122, 3) := by decide +kernel
theorem dX6_help_65 : decode cX6_help 65 = .ok (.isub, 1) := by decide +kernel
theorem dX6_help_66 : decode cX6_help 66 = .ok (.ireturn, 1) := by decide +kernel
theorem dX6_odds_0 : decode cX6_odds 0 = .ok (.aload_n 0, 1) := by decide +kernel
theorem dX6_odds_1 : decode cX6_odds 1 = .ok (.getfield 32, 3) := by decide +kernel
theorem dX6_odds_4 : decode cX6_odds 4 = .ok (.iload_n 1, 1) := by decide +kernel
theorem dX6_odds_5 : decode cX6_odds 5 = .ok (.iload_n 2, 1) := by decide +kernel
theorem dX6_odds_6 : decode cX6_odds 6 = .ok (.invokevirtual 92, 3) := by decide +kernel
theorem dX6_odds_9 : decode cX6_odds 9 = .ok (.ifCond .eq 31, 3) := by decide +kernel
theorem dX6_odds_12 : decode cX6_odds 12 = .ok (.iload_n 3, 1) := by decide +kernel
theorem dX6_odds_13 : decode cX6_odds 13 = .ok (.bipush 10, 2) := by decide +kernel
theorem dX6_odds_15 : decode cX6_odds 15 = .ok (.invokestatic 55, 3) := by decide +kernel
theorem dX6_odds_18 : decode cX6_odds 18 = .ok (.ifCond .eq 22, 3) := by decide +kernel
theorem dX6_odds_21 : decode cX6_odds 21 = .ok (.iload 4, 2) := by decide +kernel
theorem dX6_odds_23 : decode cX6_odds 23 = .ok (.bipush 6, 2) := by decide +kernel
theorem dX6_odds_25 : decode cX6_odds 25 = .ok (.invokestatic 55, 3) := by decide +kernel
theorem dX6_odds_28 : decode cX6_odds 28 = .ok (.ifCond .eq 12, 3) := by decide +kernel
theorem dX6_odds_31 : decode cX6_odds 31 = .ok (.iload 5, 2) := by decide +kernel
theorem dX6_odds_33 : decode cX6_odds 33 = .ok (.iconst 1, 1) := by decide +kernel
theorem dX6_odds_34 : decode cX6_odds 34 = .ok (.invokestatic 55, 3) := by decide +kernel
theorem dX6_odds_37 : decode cX6_odds 37 = .ok (.ifCond .ne 5, 3) := by decide +kernel
theorem dX6_odds_40 : decode cX6_odds 40 = .ok (.iconst (-1), 1) := by decide +kernel
theorem dX6_odds_41 : decode cX6_odds 41 = .ok (.ireturn, 1) := by decide +kernel
theorem dX6_odds_42 : decode cX6_odds 42 = .ok (.iconst 1, 1) := by decide +kernel
theorem dX6_odds_43 : decode cX6_odds 43 = .ok (.istore 6, 2) := by decide +kernel
theorem dX6_odds_45 : decode cX6_odds 45 = .ok (.iconst 0, 1) := by decide +kernel
theorem dX6_odds_46 : decode cX6_odds 46 = .ok (.istore 7, 2) := by decide +kernel
theorem dX6_odds_48 : decode cX6_odds 48 = .ok (.iconst 1, 1) := by decide +kernel
theorem dX6_odds_49 : decode cX6_odds 49 = .ok (.istore 8, 2) := by decide +kernel
theorem dX6_odds_51 : decode cX6_odds 51 = .ok (.iconst 0, 1) := by decide +kernel
theorem dX6_odds_52 : decode cX6_odds 52 = .ok (.istore 9, 2) := by decide +kernel
theorem dX6_odds_54 : decode cX6_odds 54 = .ok (.iload 9, 2) := by decide +kernel
theorem dX6_odds_56 : decode cX6_odds 56 = .ok (.iload 4, 2) := by decide +kernel
theorem dX6_odds_58 : decode cX6_odds 58 = .ok (.if_icmp .ge 48, 3) := by decide +kernel
theorem dX6_odds_61 : decode cX6_odds 61 = .ok (.iload 6, 2) := by decide +kernel
theorem dX6_odds_63 : decode cX6_odds 63 = .ok (.istore 10, 2) := by decide +kernel
theorem dX6_odds_65 : decode cX6_odds 65 = .ok (.iload 10, 2) := by decide +kernel
theorem dX6_odds_67 : decode cX6_odds 67 = .ok (.bipush 10, 2) := by decide +kernel
theorem dX6_odds_69 : decode cX6_odds 69 = .ok (.iload_n 3, 1) := by decide +kernel
theorem dX6_odds_70 : decode cX6_odds 70 = .ok (.isub, 1) := by decide +kernel
theorem dX6_odds_71 : decode cX6_odds 71 = .ok (.imul, 1) := by decide +kernel
theorem dX6_odds_72 : decode cX6_odds 72 = .ok (.iload 7, 2) := by decide +kernel
theorem dX6_odds_74 : decode cX6_odds 74 = .ok (.iload_n 3, 1) := by decide +kernel
theorem dX6_odds_75 : decode cX6_odds 75 = .ok (.imul, 1) := by decide +kernel
theorem dX6_odds_76 : decode cX6_odds 76 = .ok (.iadd, 1) := by decide +kernel
theorem dX6_odds_77 : decode cX6_odds 77 = .ok (.istore 6, 2) := by decide +kernel
theorem dX6_odds_79 : decode cX6_odds 79 = .ok (.iload 7, 2) := by decide +kernel
theorem dX6_odds_81 : decode cX6_odds 81 = .ok (.bipush 10, 2) := by decide +kernel
theorem dX6_odds_83 : decode cX6_odds 83 = .ok (.iload_n 3, 1) := by decide +kernel
theorem dX6_odds_84 : decode cX6_odds 84 = .ok (.isub, 1) := by decide +kernel
theorem dX6_odds_85 : decode cX6_odds 85 = .ok (.imul, 1) := by decide +kernel
theorem dX6_odds_86 : decode cX6_odds 86 = .ok (.iload 10, 2) := by decide +kernel
theorem dX6_odds_88 : decode cX6_odds 88 = .ok (.iload_n 3, 1) := by decide +kernel
theorem dX6_odds_89 : decode cX6_odds 89 = .ok (.imul, 1) := by decide +kernel
theorem dX6_odds_90 : decode cX6_odds 90 = .ok (.iadd, 1) := by decide +kernel
theorem dX6_odds_91 : decode cX6_odds 91 = .ok (.istore 7, 2) := by decide +kernel
theorem dX6_odds_93 : decode cX6_odds 93 = .ok (.iload 8, 2) := by decide +kernel
theorem dX6_odds_95 : decode cX6_odds 95 = .ok (.bipush 10, 2) := by decide +kernel
theorem dX6_odds_97 : decode cX6_odds 97 = .ok (.imul, 1) := by decide +kernel
theorem dX6_odds_98 : decode cX6_odds 98 = .ok (.istore 8, 2) := by decide +kernel
theorem dX6_odds_100 : decode cX6_odds 100 = .ok (.iinc 9 1, 3) := by decide +kernel
theorem dX6_odds_103 : decode cX6_odds 103 = .ok (.goto (-49), 3) := by decide +kernel
theorem dX6_odds_106 : decode cX6_odds 106 = .ok (.iload_n 1, 1) := by decide +kernel
theorem dX6_odds_107 : decode cX6_odds 107 = .ok (.iload_n 2, 1) := by decide +kernel
theorem dX6_odds_108 : decode cX6_odds 108 = .ok (.invokestatic 95, 3) := by decide +kernel
theorem dX6_odds_111 : decode cX6_odds 111 = .ok (.istore 9, 2) := by decide +kernel
theorem dX6_odds_113 : decode cX6_odds 113 = .ok (.aload_n 0, 1) := by decide +kernel
theorem dX6_odds_114 : decode cX6_odds 114 = .ok (.getfield 32, 3) := by decide +kernel
theorem dX6_odds_117 : decode cX6_odds 117 = .ok (.aload_n 0, 1) := by decide +kernel
theorem dX6_odds_118 : decode cX6_odds 118 = .ok (.getfield 32, 3) := by decide +kernel
theorem dX6_odds_121 : decode cX6_odds 121 = .ok (.getfield 144, 3) := by decide +kernel
theorem dX6_odds_124 : decode cX6_odds 124 = .ok (.invokevirtual 113, 3) := by decide +kernel
theorem dX6_odds_127 : decode cX6_odds 127 = .ok (.iload 9, 2) := by decide +kernel
theorem dX6_odds_129 : decode cX6_odds 129 = .ok (.iand, 1) := by decide +kernel
theorem dX6_odds_130 : decode cX6_odds 130 = .ok (.ifCond .eq 8, 3) := by decide +kernel
theorem dX6_odds_133 : decode cX6_odds 133 = .ok (.iload 6, 2) := by decide +kernel
theorem dX6_odds_135 : decode cX6_odds 135 = .ok (.goto 4, 3) := by decide +kernel
theorem dX6_odds_138 : decode cX6_odds 138 = .ok (.iconst 0, 1) := by decide +kernel
theorem dX6_odds_139 : decode cX6_odds 139 = .ok (.istore 10, 2) := by decide +kernel
theorem dX6_odds_141 : decode cX6_odds 141 = .ok (.iload 10, 2) := by decide +kernel
theorem dX6_odds_143 : decode cX6_odds 143 = .ok (.aload_n 0, 1) := by decide +kernel
theorem dX6_odds_144 : decode cX6_odds 144 = .ok (.getfield 32, 3) := by decide +kernel
theorem dX6_odds_147 : decode cX6_odds 147 = .ok (.iconst 1, 1) := by decide +kernel
theorem dX6_odds_148 : decode cX6_odds 148 = .ok (.aload_n 0, 1) := by decide +kernel
theorem dX6_odds_149 : decode cX6_odds 149 = .ok (.getfield 32, 3) := by decide +kernel
theorem dX6_odds_152 : decode cX6_odds 152 = .ok (.getfield 144, 3) := by decide +kernel
theorem dX6_odds_155 : decode cX6_odds 155 = .ok (.isub, 1) := by decide +kernel
theorem dX6_odds_156 : decode cX6_odds 156 = .ok (.invokevirtual 113, 3) := by decide +kernel
theorem dX6_odds_159 : decode cX6_odds 159 = .ok (.iload 9, 2) := by decide +kernel
theorem dX6_odds_161 : decode cX6_odds 161 = .ok (.iand, 1) := by decide +kernel
theorem dX6_odds_162 : decode cX6_odds 162 = .ok (.ifCond .eq 8, 3) := by decide +kernel
theorem dX6_odds_165 : decode cX6_odds 165 = .ok (.iload 7, 2) := by decide +kernel
theorem dX6_odds_167 : decode cX6_odds 167 = .ok (.goto 4, 3) := by decide +kernel
theorem dX6_odds_170 : decode cX6_odds 170 = .ok (.iconst 0, 1) := by decide +kernel
theorem dX6_odds_171 : decode cX6_odds 171 = .ok (.iadd, 1) := by decide +kernel
theorem dX6_odds_172 : decode cX6_odds 172 = .ok (.istore 10, 2) := by decide +kernel
theorem dX6_odds_174 : decode cX6_odds 174 = .ok (.iload 10, 2) := by decide +kernel
theorem dX6_odds_176 : decode cX6_odds 176 = .ok (.iload 8, 2) := by decide +kernel
theorem dX6_odds_178 : decode cX6_odds 178 = .ok (.iload 5, 2) := by decide +kernel
theorem dX6_odds_180 : decode cX6_odds 180 = .ok (.invokestatic 175, 3) := by decide +kernel
theorem dX6_odds_183 : decode cX6_odds 183 = .ok (.ireturn, 1) := by decide +kernel
theorem dX6_saw_0 : decode cX6_saw 0 = .ok (.aload_n 0, 1) := by decide +kernel
theorem dX6_saw_1 : decode cX6_saw 1 = .ok (.getfield 32, 3) := by decide +kernel
theorem dX6_saw_4 : decode cX6_saw 4 = .ok (.iload_n 1, 1) := by decide +kernel
theorem dX6_saw_5 : decode cX6_saw 5 = .ok (.iload_n 2, 1) := by decide +kernel
theorem dX6_saw_6 : decode cX6_saw 6 = .ok (.invokevirtual 92, 3) := by decide +kernel
theorem dX6_saw_9 : decode cX6_saw 9 = .ok (.ifCond .eq 20, 3) := by decide +kernel
theorem dX6_saw_12 : decode cX6_saw 12 = .ok (.iload_n 3, 1) := by decide +kernel
theorem dX6_saw_13 : decode cX6_saw 13 = .ok (.iconst 1, 1) := by decide +kernel
theorem dX6_saw_14 : decode cX6_saw 14 = .ok (.invokestatic 55, 3) := by decide +kernel
theorem dX6_saw_17 : decode cX6_saw 17 = .ok (.ifCond .eq 12, 3) := by decide +kernel
theorem dX6_saw_20 : decode cX6_saw 20 = .ok (.iload 4, 2) := by decide +kernel
theorem dX6_saw_22 : decode cX6_saw 22 = .ok (.iconst 1, 1) := by decide +kernel
theorem dX6_saw_23 : decode cX6_saw 23 = .ok (.invokestatic 55, 3) := by decide +kernel
theorem dX6_saw_26 : decode cX6_saw 26 = .ok (.ifCond .ne 5, 3) := by decide +kernel
theorem dX6_saw_29 : decode cX6_saw 29 = .ok (.iconst (-1), 1) := by decide +kernel
theorem dX6_saw_30 : decode cX6_saw 30 = .ok (.ireturn, 1) := by decide +kernel
theorem dX6_saw_31 : decode cX6_saw 31 = .ok (.aload_n 0, 1) := by decide +kernel
theorem dX6_saw_32 : decode cX6_saw 32 = .ok (.getfield 44, 3) := by decide +kernel
theorem dX6_saw_35 : decode cX6_saw 35 = .ok (.iload_n 1, 1) := by decide +kernel
theorem dX6_saw_36 : decode cX6_saw 36 = .ok (.iload_n 2, 1) := by decide +kernel
theorem dX6_saw_37 : decode cX6_saw 37 = .ok (.invokestatic 95, 3) := by decide +kernel
theorem dX6_saw_40 : decode cX6_saw 40 = .ok (.iload_n 3, 1) := by decide +kernel
theorem dX6_saw_41 : decode cX6_saw 41 = .ok (.iload 4, 2) := by decide +kernel
theorem dX6_saw_43 : decode cX6_saw 43 = .ok (.invokevirtual 179, 3) := by decide +kernel
theorem dX6_saw_46 : decode cX6_saw 46 = .ok (.ifCond .eq 13, 3) := by decide +kernel
theorem dX6_saw_49 : decode cX6_saw 49 = .ok (.aload_n 0, 1) := by decide +kernel
theorem dX6_saw_50 : decode cX6_saw 50 = .ok (.getfield 44, 3) := by decide +kernel
theorem dX6_saw_53 : decode cX6_saw 53 = .ok (.getfield 183, 3) := by decide +kernel
theorem dX6_saw_56 : decode cX6_saw 56 = .ok (.goto 5, 3) := by decide +kernel
theorem dX6_saw_59 : decode cX6_saw 59 = .ok (.bipush (-3), 2) := by decide +kernel
theorem dX6_saw_61 : decode cX6_saw 61 = .ok (.ireturn, 1) := by decide +kernel
theorem dX6_forget_0 : decode cX6_forget 0 = .ok (.aload_n 0, 1) := by decide +kernel
theorem dX6_forget_1 : decode cX6_forget 1 = .ok (.getfield 44, 3) := by decide +kernel
theorem dX6_forget_4 : decode cX6_forget 4 = .ok (.getfield 183, 3) := by decide +kernel
theorem dX6_forget_7 : decode cX6_forget 7 = .ok (.istore_n 1, 1) := by decide +kernel
theorem dX6_forget_8 : decode cX6_forget 8 = .ok (.aload_n 0, 1) := by decide +kernel
theorem dX6_forget_9 : decode cX6_forget 9 = .ok (.getfield 44, 3) := by decide +kernel
theorem dX6_forget_12 : decode cX6_forget 12 = .ok (.invokevirtual 89, 3) := by decide +kernel
theorem dX6_forget_15 : decode cX6_forget 15 = .ok (.iload_n 1, 1) := by decide +kernel
theorem dX6_forget_16 : decode cX6_forget 16 = .ok (.ireturn, 1) := by decide +kernel
theorem dX6_moved_0 : decode cX6_moved 0 = .ok (.iload_n 1, 1) := by decide +kernel
theorem dX6_moved_1 : decode cX6_moved 1 = .ok (.iconst 1, 1) := by decide +kernel
theorem dX6_moved_2 : decode cX6_moved 2 = .ok (.invokestatic 55, 3) := by decide +kernel
theorem dX6_moved_5 : decode cX6_moved 5 = .ok (.ifCond .ne 5, 3) := by decide +kernel
theorem dX6_moved_8 : decode cX6_moved 8 = .ok (.iconst (-1), 1) := by decide +kernel
theorem dX6_moved_9 : decode cX6_moved 9 = .ok (.ireturn, 1) := by decide +kernel
theorem dX6_moved_10 : decode cX6_moved 10 = .ok (.iconst 0, 1) := by decide +kernel
theorem dX6_moved_11 : decode cX6_moved 11 = .ok (.istore_n 2, 1) := by decide +kernel
theorem dX6_moved_12 : decode cX6_moved 12 = .ok (.bipush (-9), 2) := by decide +kernel
theorem dX6_moved_14 : decode cX6_moved 14 = .ok (.istore_n 3, 1) := by decide +kernel
theorem dX6_moved_15 : decode cX6_moved 15 = .ok (.iconst 0, 1) := by decide +kernel
theorem dX6_moved_16 : decode cX6_moved 16 = .ok (.istore 4, 2) := by decide +kernel
theorem dX6_moved_18 : decode cX6_moved 18 = .ok (.iload 4, 2) := by decide +kernel
theorem dX6_moved_20 : decode cX6_moved 20 = .ok (.bipush 20, 2) := by decide +kernel
theorem dX6_moved_22 : decode cX6_moved 22 = .ok (.if_icmp .ge 56, 3) := by decide +kernel
theorem dX6_moved_25 : decode cX6_moved 25 = .ok (.iconst 0, 1) := by decide +kernel
theorem dX6_moved_26 : decode cX6_moved 26 = .ok (.istore 5, 2) := by decide +kernel
theorem dX6_moved_28 : decode cX6_moved 28 = .ok (.iload 5, 2) := by decide +kernel
theorem dX6_moved_30 : decode cX6_moved 30 = .ok (.bipush 20, 2) := by decide +kernel
theorem dX6_moved_32 : decode cX6_moved 32 = .ok (.if_icmp .ge 40, 3) := by decide +kernel
theorem dX6_moved_35 : decode cX6_moved 35 = .ok (.aload_n 0, 1) := by decide +kernel
theorem dX6_moved_36 : decode cX6_moved 36 = .ok (.iload 4, 2) := by decide +kernel
theorem dX6_moved_38 : decode cX6_moved 38 = .ok (.iload 5, 2) := by decide +kernel
theorem dX6_moved_40 : decode cX6_moved 40 = .ok (.invokevirtual 186, 3) := by decide +kernel
theorem dX6_moved_43 : decode cX6_moved 43 = .ok (.ifCond .eq 23, 3) := by decide +kernel
theorem dX6_moved_46 : decode cX6_moved 46 = .ok (.iload_n 2, 1) := by decide +kernel
theorem dX6_moved_47 : decode cX6_moved 47 = .ok (.ifCond .ne 14, 3) := by decide +kernel
theorem dX6_moved_50 : decode cX6_moved 50 = .ok (.bipush 100, 2) := by decide +kernel
theorem dX6_moved_52 : decode cX6_moved 52 = .ok (.iload 4, 2) := by decide +kernel
theorem dX6_moved_54 : decode cX6_moved 54 = .ok (.imul, 1) := by decide +kernel
theorem dX6_moved_55 : decode cX6_moved 55 = .ok (.iload 5, 2) := by decide +kernel
theorem dX6_moved_57 : decode cX6_moved 57 = .ok (.iadd, 1) := by decide +kernel
theorem dX6_moved_58 : decode cX6_moved 58 = .ok (.goto 4, 3) := by decide +kernel
theorem dX6_moved_61 : decode cX6_moved 61 = .ok (.iload_n 3, 1) := by decide +kernel
theorem dX6_moved_62 : decode cX6_moved 62 = .ok (.istore_n 3, 1) := by decide +kernel
theorem dX6_moved_63 : decode cX6_moved 63 = .ok (.iinc 2 1, 3) := by decide +kernel
theorem dX6_moved_66 : decode cX6_moved 66 = .ok (.iinc 5 1, 3) := by decide +kernel
theorem dX6_moved_69 : decode cX6_moved 69 = .ok (.goto (-41), 3) := by decide +kernel
theorem dX6_moved_72 : decode cX6_moved 72 = .ok (.iinc 4 1, 3) := by decide +kernel
theorem dX6_moved_75 : decode cX6_moved 75 = .ok (.goto (-57), 3) := by decide +kernel
theorem dX6_moved_78 : decode cX6_moved 78 = .ok (.iload_n 1, 1) := by decide +kernel
theorem dX6_moved_79 : decode cX6_moved 79 = .ok (.ifCond .ne 7, 3) := by decide +kernel
theorem dX6_moved_82 : decode cX6_moved 82 = .ok (.iload_n 2, 1) := by decide +kernel
theorem dX6_moved_83 : decode cX6_moved 83 = .ok (.goto 4, 3) := by decide +kernel
theorem dX6_moved_86 : decode cX6_moved 86 = .ok (.iload_n 3, 1) := by decide +kernel
theorem dX6_moved_87 : decode cX6_moved 87 = .ok (.ireturn, 1) := by decide +kernel
theorem dX6_mark_0 : decode cX6_mark 0 = .ok (.aload_n 0, 1) := by decide +kernel
theorem dX6_mark_1 : decode cX6_mark 1 = .ok (.getfield 32, 3) := by decide +kernel
theorem dX6_mark_4 : decode cX6_mark 4 = .ok (.iload_n 2, 1) := by decide +kernel
theorem dX6_mark_5 : decode cX6_mark 5 = .ok (.iload_n 3, 1) := by decide +kernel
theorem dX6_mark_6 : decode cX6_mark 6 = .ok (.invokevirtual 92, 3) := by decide +kernel
theorem dX6_mark_9 : decode cX6_mark 9 = .ok (.ifCond .eq 20, 3) := by decide +kernel
theorem dX6_mark_12 : decode cX6_mark 12 = .ok (.aload_n 0, 1) := by decide +kernel
theorem dX6_mark_13 : decode cX6_mark 13 = .ok (.getfield 51, 3) := by decide +kernel
theorem dX6_mark_16 : decode cX6_mark 16 = .ok (.iload_n 1, 1) := by decide +kernel
theorem dX6_mark_17 : decode cX6_mark 17 = .ok (.aload_n 0, 1) := by decide +kernel
theorem dX6_mark_18 : decode cX6_mark 18 = .ok (.getfield 32, 3) := by decide +kernel
theorem dX6_mark_21 : decode cX6_mark 21 = .ok (.iload_n 2, 1) := by decide +kernel
theorem dX6_mark_22 : decode cX6_mark 22 = .ok (.iload_n 3, 1) := by decide +kernel
theorem dX6_mark_23 : decode cX6_mark 23 = .ok (.invokevirtual 189, 3) := by decide +kernel
theorem dX6_mark_26 : decode cX6_mark 26 = .ok (.goto 5, 3) := by decide +kernel
theorem dX6_mark_29 : decode cX6_mark 29 = .ok (.ldc 193, 2) := by decide +kernel
theorem dX6_mark_31 : decode cX6_mark 31 = .ok (.ireturn, 1) := by decide +kernel
theorem dX6_keep_0 : decode cX6_keep 0 = .ok (.aload_n 0, 1) := by decide +kernel
theorem dX6_keep_1 : decode cX6_keep 1 = .ok (.iload_n 1, 1) := by decide +kernel
theorem dX6_keep_2 : decode cX6_keep 2 = .ok (.invokevirtual 194, 3) := by decide +kernel
theorem dX6_keep_5 : decode cX6_keep 5 = .ok (.astore_n 2, 1) := by decide +kernel
theorem dX6_keep_6 : decode cX6_keep 6 = .ok (.aload_n 2, 1) := by decide +kernel
theorem dX6_keep_7 : decode cX6_keep 7 = .ok (.ifnonnull 5, 3) := by decide +kernel
theorem dX6_keep_10 : decode cX6_keep 10 = .ok (.iconst (-1), 1) := by decide +kernel
theorem dX6_keep_11 : decode cX6_keep 11 = .ok (.ireturn, 1) := by decide +kernel
theorem dX6_keep_12 : decode cX6_keep 12 = .ok (.aload_n 2, 1) := by decide +kernel
theorem dX6_keep_13 : decode cX6_keep 13 = .ok (.aload_n 0, 1) := by decide +kernel
theorem dX6_keep_14 : decode cX6_keep 14 = .ok (.getfield 24, 3) := by decide +kernel
theorem dX6_keep_17 : decode cX6_keep 17 = .ok (.invokevirtual 198, 3) := by decide +kernel
theorem dX6_keep_20 : decode cX6_keep 20 = .ok (.aload_n 2, 1) := by decide +kernel
theorem dX6_keep_21 : decode cX6_keep 21 = .ok (.iconst 1, 1) := by decide +kernel
theorem dX6_keep_22 : decode cX6_keep 22 = .ok (.putfield 85, 3) := by decide +kernel
theorem dX6_keep_25 : decode cX6_keep 25 = .ok (.aload_n 0, 1) := by decide +kernel
theorem dX6_keep_26 : decode cX6_keep 26 = .ok (.getfield 32, 3) := by decide +kernel
theorem dX6_keep_29 : decode cX6_keep 29 = .ok (.getfield 147, 3) := by decide +kernel
theorem dX6_keep_32 : decode cX6_keep 32 = .ok (.ireturn, 1) := by decide +kernel
theorem dX6_back_0 : decode cX6_back 0 = .ok (.aload_n 0, 1) := by decide +kernel
theorem dX6_back_1 : decode cX6_back 1 = .ok (.iload_n 1, 1) := by decide +kernel
theorem dX6_back_2 : decode cX6_back 2 = .ok (.invokevirtual 194, 3) := by decide +kernel
theorem dX6_back_5 : decode cX6_back 5 = .ok (.astore_n 2, 1) := by decide +kernel
theorem dX6_back_6 : decode cX6_back 6 = .ok (.aload_n 2, 1) := by decide +kernel
theorem dX6_back_7 : decode cX6_back 7 = .ok (.ifnonnull 5, 3) := by decide +kernel
theorem dX6_back_10 : decode cX6_back 10 = .ok (.iconst (-1), 1) := by decide +kernel
theorem dX6_back_11 : decode cX6_back 11 = .ok (.ireturn, 1) := by decide +kernel
theorem dX6_back_12 : decode cX6_back 12 = .ok (.aload_n 2, 1) := by decide +kernel
theorem dX6_back_13 : decode cX6_back 13 = .ok (.getfield 85, 3) := by decide +kernel
theorem dX6_back_16 : decode cX6_back 16 = .ok (.ifCond .ne 6, 3) := by decide +kernel
theorem dX6_back_19 : decode cX6_back 19 = .ok (.bipush (-2), 2) := by decide +kernel
theorem dX6_back_21 : decode cX6_back 21 = .ok (.ireturn, 1) := by decide +kernel
theorem dX6_back_22 : decode cX6_back 22 = .ok (.aload_n 0, 1) := by decide +kernel
theorem dX6_back_23 : decode cX6_back 23 = .ok (.getfield 24, 3) := by decide +kernel
theorem dX6_back_26 : decode cX6_back 26 = .ok (.aload_n 2, 1) := by decide +kernel
theorem dX6_back_27 : decode cX6_back 27 = .ok (.invokevirtual 198, 3) := by decide +kernel
theorem dX6_back_30 : decode cX6_back 30 = .ok (.aload_n 0, 1) := by decide +kernel
theorem dX6_back_31 : decode cX6_back 31 = .ok (.getfield 32, 3) := by decide +kernel
theorem dX6_back_34 : decode cX6_back 34 = .ok (.getfield 147, 3) := by decide +kernel
theorem dX6_back_37 : decode cX6_back 37 = .ok (.ireturn, 1) := by decide +kernel
theorem dX6_count_0 : decode cX6_count 0 = .ok (.iload_n 1, 1) := by decide +kernel
theorem dX6_count_1 : decode cX6_count 1 = .ok (.tableswitch 75 0 4 #[35, 43, 51, 59, 67], 35) := by decide +kernel
theorem dX6_count_36 : decode cX6_count 36 = .ok (.aload_n 0, 1) := by decide +kernel
theorem dX6_count_37 : decode cX6_count 37 = .ok (.getfield 32, 3) := by decide +kernel
theorem dX6_count_40 : decode cX6_count 40 = .ok (.getfield 201, 3) := by decide +kernel
theorem dX6_count_43 : decode cX6_count 43 = .ok (.ireturn, 1) := by decide +kernel
theorem dX6_count_44 : decode cX6_count 44 = .ok (.aload_n 0, 1) := by decide +kernel
theorem dX6_count_45 : decode cX6_count 45 = .ok (.getfield 32, 3) := by decide +kernel
theorem dX6_count_48 : decode cX6_count 48 = .ok (.getfield 150, 3) := by decide +kernel
theorem dX6_count_51 : decode cX6_count 51 = .ok (.ireturn, 1) := by decide +kernel
theorem dX6_count_52 : decode cX6_count 52 = .ok (.aload_n 0, 1) := by decide +kernel
theorem dX6_count_53 : decode cX6_count 53 = .ok (.getfield 44, 3) := by decide +kernel
theorem dX6_count_56 : decode cX6_count 56 = .ok (.getfield 183, 3) := by decide +kernel
theorem dX6_count_59 : decode cX6_count 59 = .ok (.ireturn, 1) := by decide +kernel
theorem dX6_count_60 : decode cX6_count 60 = .ok (.aload_n 0, 1) := by decide +kernel
theorem dX6_count_61 : decode cX6_count 61 = .ok (.getfield 24, 3) := by decide +kernel
theorem dX6_count_64 : decode cX6_count 64 = .ok (.getfield 82, 3) := by decide +kernel
theorem dX6_count_67 : decode cX6_count 67 = .ok (.ireturn, 1) := by decide +kernel
theorem dX6_count_68 : decode cX6_count 68 = .ok (.aload_n 0, 1) := by decide +kernel
theorem dX6_count_69 : decode cX6_count 69 = .ok (.getfield 20, 3) := by decide +kernel
theorem dX6_count_72 : decode cX6_count 72 = .ok (.getfield 65, 3) := by decide +kernel
theorem dX6_count_75 : decode cX6_count 75 = .ok (.ireturn, 1) := by decide +kernel
theorem dX6_count_76 : decode cX6_count 76 = .ok (.iconst (-1), 1) := by decide +kernel
theorem dX6_count_77 : decode cX6_count 77 = .ok (.ireturn, 1) := by decide +kernel
theorem dX6_trace_0 : decode cX6_trace 0 = .ok (.aload_n 0, 1) := by decide +kernel
theorem dX6_trace_1 : decode cX6_trace 1 = .ok (.getfield 51, 3) := by decide +kernel
theorem dX6_trace_4 : decode cX6_trace 4 = .ok (.getfield 204, 3) := by decide +kernel
theorem dX6_trace_7 : decode cX6_trace 7 = .ok (.lreturn, 1) := by decide +kernel
theorem dX6_mayHaveMoved_0 : decode cX6_mayHaveMoved 0 = .ok (.iconst 1, 1) := by decide +kernel
theorem dX6_mayHaveMoved_1 : decode cX6_mayHaveMoved 1 = .ok (.iload_n 1, 1) := by decide +kernel
theorem dX6_mayHaveMoved_2 : decode cX6_mayHaveMoved 2 = .ok (.ishl, 1) := by decide +kernel
theorem dX6_mayHaveMoved_3 : decode cX6_mayHaveMoved 3 = .ok (.istore_n 3, 1) := by decide +kernel
theorem dX6_mayHaveMoved_4 : decode cX6_mayHaveMoved 4 = .ok (.iconst 1, 1) := by decide +kernel
theorem dX6_mayHaveMoved_5 : decode cX6_mayHaveMoved 5 = .ok (.iload_n 2, 1) := by decide +kernel
theorem dX6_mayHaveMoved_6 : decode cX6_mayHaveMoved 6 = .ok (.ishl, 1) := by decide +kernel
theorem dX6_mayHaveMoved_7 : decode cX6_mayHaveMoved 7 = .ok (.istore 4, 2) := by decide +kernel
theorem dX6_mayHaveMoved_9 : decode cX6_mayHaveMoved 9 = .ok (.aload_n 0, 1) := by decide +kernel
theorem dX6_mayHaveMoved_10 : decode cX6_mayHaveMoved 10 = .ok (.getfield 32, 3) := by decide +kernel
theorem dX6_mayHaveMoved_13 : decode cX6_mayHaveMoved 13 = .ok (.getfield 103, 3) := by decide +kernel
theorem dX6_mayHaveMoved_16 : decode cX6_mayHaveMoved 16 = .ok (.iload_n 3, 1) := by decide +kernel
theorem dX6_mayHaveMoved_17 : decode cX6_mayHaveMoved 17 = .ok (.iand, 1) := by decide +kernel
theorem dX6_mayHaveMoved_18 : decode cX6_mayHaveMoved 18 = .ok (.ifCond .eq 16, 3) := by decide +kernel
theorem dX6_mayHaveMoved_21 : decode cX6_mayHaveMoved 21 = .ok (.aload_n 0, 1) := by decide +kernel
theorem dX6_mayHaveMoved_22 : decode cX6_mayHaveMoved 22 = .ok (.getfield 32, 3) := by decide +kernel
theorem dX6_mayHaveMoved_25 : decode cX6_mayHaveMoved 25 = .ok (.invokevirtual 208, 3) := by decide +kernel
theorem dX6_mayHaveMoved_28 : decode cX6_mayHaveMoved 28 = .ok (.iload 4, 2) := by decide +kernel
theorem dX6_mayHaveMoved_30 : decode cX6_mayHaveMoved 30 = .ok (.iand, 1) := by decide +kernel
theorem dX6_mayHaveMoved_31 : decode cX6_mayHaveMoved 31 = .ok (.ifCond .ne 5, 3) := by decide +kernel
theorem dX6_mayHaveMoved_34 : decode cX6_mayHaveMoved 34 = .ok (.iconst 0, 1) := by decide +kernel
theorem dX6_mayHaveMoved_35 : decode cX6_mayHaveMoved 35 = .ok (.ireturn, 1) := by decide +kernel
theorem dX6_mayHaveMoved_36 : decode cX6_mayHaveMoved 36 = .ok (.aload_n 0, 1) := by decide +kernel
theorem dX6_mayHaveMoved_37 : decode cX6_mayHaveMoved 37 = .ok (.getfield 32, 3) := by decide +kernel
theorem dX6_mayHaveMoved_40 : decode cX6_mayHaveMoved 40 = .ok (.getfield 103, 3) := by decide +kernel
theorem dX6_mayHaveMoved_43 : decode cX6_mayHaveMoved 43 = .ok (.iload_n 3, 1) := by decide +kernel
theorem dX6_mayHaveMoved_44 : decode cX6_mayHaveMoved 44 = .ok (.ixor, 1) := by decide +kernel
theorem dX6_mayHaveMoved_45 : decode cX6_mayHaveMoved 45 = .ok (.iload 4, 2) := by decide +kernel
theorem dX6_mayHaveMoved_47 : decode cX6_mayHaveMoved 47 = .ok (.ixor, 1) := by decide +kernel
theorem dX6_mayHaveMoved_48 : decode cX6_mayHaveMoved 48 = .ok (.istore 5, 2) := by decide +kernel
theorem dX6_mayHaveMoved_50 : decode cX6_mayHaveMoved 50 = .ok (.aload_n 0, 1) := by decide +kernel
theorem dX6_mayHaveMoved_51 : decode cX6_mayHaveMoved 51 = .ok (.getfield 44, 3) := by decide +kernel
theorem dX6_mayHaveMoved_54 : decode cX6_mayHaveMoved 54 = .ok (.aload_n 0, 1) := by decide +kernel
theorem dX6_mayHaveMoved_55 : decode cX6_mayHaveMoved 55 = .ok (.getfield 32, 3) := by decide +kernel
theorem dX6_mayHaveMoved_58 : decode cX6_mayHaveMoved 58 = .ok (.iload 5, 2) := by decide +kernel
theorem dX6_mayHaveMoved_60 : decode cX6_mayHaveMoved 60 = .ok (.iconst 0, 1) := by decide +kernel
theorem dX6_mayHaveMoved_61 : decode cX6_mayHaveMoved 61 = .ok (.invokevirtual 211, 3) := by decide +kernel
theorem dX6_mayHaveMoved_64 : decode cX6_mayHaveMoved 64 = .ok (.aload_n 0, 1) := by decide +kernel
theorem dX6_mayHaveMoved_65 : decode cX6_mayHaveMoved 65 = .ok (.getfield 32, 3) := by decide +kernel
theorem dX6_mayHaveMoved_68 : decode cX6_mayHaveMoved 68 = .ok (.iload 5, 2) := by decide +kernel
theorem dX6_mayHaveMoved_70 : decode cX6_mayHaveMoved 70 = .ok (.iconst 1, 1) := by decide +kernel
theorem dX6_mayHaveMoved_71 : decode cX6_mayHaveMoved 71 = .ok (.invokevirtual 211, 3) := by decide +kernel
theorem dX6_mayHaveMoved_74 : decode cX6_mayHaveMoved 74 = .ok (.invokevirtual 214, 3) := by decide +kernel
theorem dX6_mayHaveMoved_77 : decode cX6_mayHaveMoved 77 = .ok (.ireturn, 1) := by decide +kernel
theorem dX6_imageOf_0 : decode cX6_imageOf 0 = .ok (.iload_n 1, 1) := by decide +kernel
theorem dX6_imageOf_1 : decode cX6_imageOf 1 = .ok (.lookupswitch 37 #[(0, 27), (1, 32)], 27) := by decide +kernel
theorem dX6_imageOf_28 : decode cX6_imageOf 28 = .ok (.aload_n 0, 1) := by decide +kernel
theorem dX6_imageOf_29 : decode cX6_imageOf 29 = .ok (.getfield 35, 3) := by decide +kernel
theorem dX6_imageOf_32 : decode cX6_imageOf 32 = .ok (.areturn, 1) := by decide +kernel
theorem dX6_imageOf_33 : decode cX6_imageOf 33 = .ok (.aload_n 0, 1) := by decide +kernel
theorem dX6_imageOf_34 : decode cX6_imageOf 34 = .ok (.getfield 38, 3) := by decide +kernel
theorem dX6_imageOf_37 : decode cX6_imageOf 37 = .ok (.areturn, 1) := by decide +kernel
theorem dX6_imageOf_38 : decode cX6_imageOf 38 = .ok (.aconst_null, 1) := by decide +kernel
theorem dX6_imageOf_39 : decode cX6_imageOf 39 = .ok (.areturn, 1) := by decide +kernel
theorem dX6_isWithin_0 : decode cX6_isWithin 0 = .ok (.iload_n 0, 1) := by decide +kernel
theorem dX6_isWithin_1 : decode cX6_isWithin 1 = .ok (.ifCond .lt 12, 3) := by decide +kernel
theorem dX6_isWithin_4 : decode cX6_isWithin 4 = .ok (.iload_n 0, 1) := by decide +kernel
theorem dX6_isWithin_5 : decode cX6_isWithin 5 = .ok (.iload_n 1, 1) := by decide +kernel
theorem dX6_isWithin_6 : decode cX6_isWithin 6 = .ok (.if_icmp .gt 7, 3) := by decide +kernel
theorem dX6_isWithin_9 : decode cX6_isWithin 9 = .ok (.iconst 1, 1) := by decide +kernel
theorem dX6_isWithin_10 : decode cX6_isWithin 10 = .ok (.goto 4, 3) := by decide +kernel
theorem dX6_isWithin_13 : decode cX6_isWithin 13 = .ok (.iconst 0, 1) := by decide +kernel
theorem dX6_isWithin_14 : decode cX6_isWithin 14 = .ok (.ireturn, 1) := by decide +kernel
theorem dX6_isFamily_0 : decode cX6_isFamily 0 = .ok (.iload_n 0, 1) := by decide +kernel
theorem dX6_isFamily_1 : decode cX6_isFamily 1 = .ok (.iconst 4, 1) := by decide +kernel
theorem dX6_isFamily_2 : decode cX6_isFamily 2 = .ok (.invokestatic 55, 3) := by decide +kernel
theorem dX6_isFamily_5 : decode cX6_isFamily 5 = .ok (.ireturn, 1) := by decide +kernel
theorem dX6_oneIf_0 : decode cX6_oneIf 0 = .ok (.iload_n 0, 1) := by decide +kernel
theorem dX6_oneIf_1 : decode cX6_oneIf 1 = .ok (.ifCond .eq 7, 3) := by decide +kernel
theorem dX6_oneIf_4 : decode cX6_oneIf 4 = .ok (.iconst 1, 1) := by decide +kernel
theorem dX6_oneIf_5 : decode cX6_oneIf 5 = .ok (.goto 4, 3) := by decide +kernel
theorem dX6_oneIf_8 : decode cX6_oneIf 8 = .ok (.iconst 0, 1) := by decide +kernel
theorem dX6_oneIf_9 : decode cX6_oneIf 9 = .ok (.ireturn, 1) := by decide +kernel
theorem dX6_bitOf_0 : decode cX6_bitOf 0 = .ok (.iconst 1, 1) := by decide +kernel
theorem dX6_bitOf_1 : decode cX6_bitOf 1 = .ok (.iconst 5, 1) := by decide +kernel
theorem dX6_bitOf_2 : decode cX6_bitOf 2 = .ok (.iload_n 1, 1) := by decide +kernel
theorem dX6_bitOf_3 : decode cX6_bitOf 3 = .ok (.imul, 1) := by decide +kernel
theorem dX6_bitOf_4 : decode cX6_bitOf 4 = .ok (.iload_n 0, 1) := by decide +kernel
theorem dX6_bitOf_5 : decode cX6_bitOf 5 = .ok (.iadd, 1) := by decide +kernel
theorem dX6_bitOf_6 : decode cX6_bitOf 6 = .ok (.ishl, 1) := by decide +kernel
theorem dX6_bitOf_7 : decode cX6_bitOf 7 = .ok (.ireturn, 1) := by decide +kernel
theorem dX6_inLeastTerms_0 : decode cX6_inLeastTerms 0 = .ok (.iload_n 0, 1) := by decide +kernel
theorem dX6_inLeastTerms_1 : decode cX6_inLeastTerms 1 = .ok (.istore_n 3, 1) := by decide +kernel
theorem dX6_inLeastTerms_2 : decode cX6_inLeastTerms 2 = .ok (.iload_n 1, 1) := by decide +kernel
theorem dX6_inLeastTerms_3 : decode cX6_inLeastTerms 3 = .ok (.istore 4, 2) := by decide +kernel
theorem dX6_inLeastTerms_5 : decode cX6_inLeastTerms 5 = .ok (.iconst 0, 1) := by decide +kernel
theorem dX6_inLeastTerms_6 : decode cX6_inLeastTerms 6 = .ok (.istore 5, 2) := by decide +kernel
theorem dX6_inLeastTerms_8 : decode cX6_inLeastTerms 8 = .ok (.iload 5, 2) := by decide +kernel
theorem dX6_inLeastTerms_10 : decode cX6_inLeastTerms 10 = .ok (.bipush 6, 2) := by decide +kernel
theorem dX6_inLeastTerms_12 : decode cX6_inLeastTerms 12 = .ok (.if_icmp .ge 55, 3) := by decide +kernel
theorem dX6_inLeastTerms_15 : decode cX6_inLeastTerms 15 = .ok (.iload_n 3, 1) := by decide +kernel
theorem dX6_inLeastTerms_16 : decode cX6_inLeastTerms 16 = .ok (.iconst 2, 1) := by decide +kernel
theorem dX6_inLeastTerms_17 : decode cX6_inLeastTerms 17 = .ok (.irem, 1) := by decide +kernel
theorem dX6_inLeastTerms_18 : decode cX6_inLeastTerms 18 = .ok (.ifCond .ne 20, 3) := by decide +kernel
theorem dX6_inLeastTerms_21 : decode cX6_inLeastTerms 21 = .ok (.iload 4, 2) := by decide +kernel
theorem dX6_inLeastTerms_23 : decode cX6_inLeastTerms 23 = .ok (.iconst 2, 1) := by decide +kernel
theorem dX6_inLeastTerms_24 : decode cX6_inLeastTerms 24 = .ok (.irem, 1) := by decide +kernel
theorem dX6_inLeastTerms_25 : decode cX6_inLeastTerms 25 = .ok (.ifCond .ne 13, 3) := by decide +kernel
theorem dX6_inLeastTerms_28 : decode cX6_inLeastTerms 28 = .ok (.iload_n 3, 1) := by decide +kernel
theorem dX6_inLeastTerms_29 : decode cX6_inLeastTerms 29 = .ok (.iconst 2, 1) := by decide +kernel
theorem dX6_inLeastTerms_30 : decode cX6_inLeastTerms 30 = .ok (.idiv, 1) := by decide +kernel
theorem dX6_inLeastTerms_31 : decode cX6_inLeastTerms 31 = .ok (.istore_n 3, 1) := by decide +kernel
theorem dX6_inLeastTerms_32 : decode cX6_inLeastTerms 32 = .ok (.iload 4, 2) := by decide +kernel
theorem dX6_inLeastTerms_34 : decode cX6_inLeastTerms 34 = .ok (.iconst 2, 1) := by decide +kernel
theorem dX6_inLeastTerms_35 : decode cX6_inLeastTerms 35 = .ok (.idiv, 1) := by decide +kernel
theorem dX6_inLeastTerms_36 : decode cX6_inLeastTerms 36 = .ok (.istore 4, 2) := by decide +kernel
theorem dX6_inLeastTerms_38 : decode cX6_inLeastTerms 38 = .ok (.iload_n 3, 1) := by decide +kernel
theorem dX6_inLeastTerms_39 : decode cX6_inLeastTerms 39 = .ok (.iconst 5, 1) := by decide +kernel
theorem dX6_inLeastTerms_40 : decode cX6_inLeastTerms 40 = .ok (.irem, 1) := by decide +kernel
theorem dX6_inLeastTerms_41 : decode cX6_inLeastTerms 41 = .ok (.ifCond .ne 20, 3) := by decide +kernel
theorem dX6_inLeastTerms_44 : decode cX6_inLeastTerms 44 = .ok (.iload 4, 2) := by decide +kernel
theorem dX6_inLeastTerms_46 : decode cX6_inLeastTerms 46 = .ok (.iconst 5, 1) := by decide +kernel
theorem dX6_inLeastTerms_47 : decode cX6_inLeastTerms 47 = .ok (.irem, 1) := by decide +kernel
theorem dX6_inLeastTerms_48 : decode cX6_inLeastTerms 48 = .ok (.ifCond .ne 13, 3) := by decide +kernel
theorem dX6_inLeastTerms_51 : decode cX6_inLeastTerms 51 = .ok (.iload_n 3, 1) := by decide +kernel
theorem dX6_inLeastTerms_52 : decode cX6_inLeastTerms 52 = .ok (.iconst 5, 1) := by decide +kernel
theorem dX6_inLeastTerms_53 : decode cX6_inLeastTerms 53 = .ok (.idiv, 1) := by decide +kernel
theorem dX6_inLeastTerms_54 : decode cX6_inLeastTerms 54 = .ok (.istore_n 3, 1) := by decide +kernel
theorem dX6_inLeastTerms_55 : decode cX6_inLeastTerms 55 = .ok (.iload 4, 2) := by decide +kernel
theorem dX6_inLeastTerms_57 : decode cX6_inLeastTerms 57 = .ok (.iconst 5, 1) := by decide +kernel
theorem dX6_inLeastTerms_58 : decode cX6_inLeastTerms 58 = .ok (.idiv, 1) := by decide +kernel
theorem dX6_inLeastTerms_59 : decode cX6_inLeastTerms 59 = .ok (.istore 4, 2) := by decide +kernel
theorem dX6_inLeastTerms_61 : decode cX6_inLeastTerms 61 = .ok (.iinc 5 1, 3) := by decide +kernel
theorem dX6_inLeastTerms_64 : decode cX6_inLeastTerms 64 = .ok (.goto (-56), 3) := by decide +kernel
theorem dX6_inLeastTerms_67 : decode cX6_inLeastTerms 67 = .ok (.iload_n 2, 1) := by decide +kernel
theorem dX6_inLeastTerms_68 : decode cX6_inLeastTerms 68 = .ok (.ifCond .ne 7, 3) := by decide +kernel
theorem dX6_inLeastTerms_71 : decode cX6_inLeastTerms 71 = .ok (.iload_n 3, 1) := by decide +kernel
theorem dX6_inLeastTerms_72 : decode cX6_inLeastTerms 72 = .ok (.goto 5, 3) := by decide +kernel
theorem dX6_inLeastTerms_75 : decode cX6_inLeastTerms 75 = .ok (.iload 4, 2) := by decide +kernel
theorem dX6_inLeastTerms_77 : decode cX6_inLeastTerms 77 = .ok (.ireturn, 1) := by decide +kernel
theorem dX7_init_0 : decode cX7_init 0 = .ok (.aload_n 0, 1) := by decide +kernel
theorem dX7_init_1 : decode cX7_init 1 = .ok (.invokespecial 1, 3) := by decide +kernel
theorem dX7_init_4 : decode cX7_init 4 = .ok (.aload_n 0, 1) := by decide +kernel
theorem dX7_init_5 : decode cX7_init 5 = .ok (.iconst 3, 1) := by decide +kernel
theorem dX7_init_6 : decode cX7_init 6 = .ok (.putfield 7, 3) := by decide +kernel
theorem dX7_init_9 : decode cX7_init 9 = .ok (.aload_n 0, 1) := by decide +kernel
theorem dX7_init_10 : decode cX7_init 10 = .ok (.iconst 3, 1) := by decide +kernel
theorem dX7_init_11 : decode cX7_init 11 = .ok (.putfield 13, 3) := by decide +kernel
theorem dX7_init_14 : decode cX7_init 14 = .ok (.aload_n 0, 1) := by decide +kernel
theorem dX7_init_15 : decode cX7_init 15 = .ok (.sipush 254, 3) := by decide +kernel
theorem dX7_init_18 : decode cX7_init 18 = .ok (.newarray .int, 2) := by decide +kernel
theorem dX7_init_20 : decode cX7_init 20 = .ok (.putfield 16, 3) := by decide +kernel
theorem dX7_init_23 : decode cX7_init 23 = .ok (.aload_n 0, 1) := by decide +kernel
theorem dX7_init_24 : decode cX7_init 24 = .ok (.sipush 508, 3) := by decide +kernel
theorem dX7_init_27 : decode cX7_init 27 = .ok (.newarray .int, 2) := by decide +kernel
theorem dX7_init_29 : decode cX7_init 29 = .ok (.putfield 20, 3) := by decide +kernel
theorem dX7_init_32 : decode cX7_init 32 = .ok (.aload_n 0, 1) := by decide +kernel
theorem dX7_init_33 : decode cX7_init 33 = .ok (.iconst 2, 1) := by decide +kernel
theorem dX7_init_34 : decode cX7_init 34 = .ok (.newarray .boolean, 2) := by decide +kernel
theorem dX7_init_36 : decode cX7_init 36 = .ok (.putfield 23, 3) := by decide +kernel
theorem dX7_init_39 : decode cX7_init 39 = .ok (.aload_n 0, 1) := by decide +kernel
theorem dX7_init_40 : decode cX7_init 40 = .ok (.bipush 18, 2) := by decide +kernel
theorem dX7_init_42 : decode cX7_init 42 = .ok (.newarray .int, 2) := by decide +kernel
theorem dX7_init_44 : decode cX7_init 44 = .ok (.putfield 27, 3) := by decide +kernel
theorem dX7_init_47 : decode cX7_init 47 = .ok (.aload_n 0, 1) := by decide +kernel
theorem dX7_init_48 : decode cX7_init 48 = .ok (.sipush 150, 3) := by decide +kernel
theorem dX7_init_51 : decode cX7_init 51 = .ok (.newarray .int, 2) := by decide +kernel
theorem dX7_init_53 : decode cX7_init 53 = .ok (.putfield 30, 3) := by decide +kernel
theorem dX7_init_56 : decode cX7_init 56 = .ok (.aload_n 0, 1) := by decide +kernel
theorem dX7_init_57 : decode cX7_init 57 = .ok (.bipush 20, 2) := by decide +kernel
theorem dX7_init_59 : decode cX7_init 59 = .ok (.newarray .int, 2) := by decide +kernel
theorem dX7_init_61 : decode cX7_init 61 = .ok (.putfield 33, 3) := by decide +kernel
theorem dX7_init_64 : decode cX7_init 64 = .ok (.aload_n 0, 1) := by decide +kernel
theorem dX7_init_65 : decode cX7_init 65 = .ok (.bipush 20, 2) := by decide +kernel
theorem dX7_init_67 : decode cX7_init 67 = .ok (.newarray .int, 2) := by decide +kernel
theorem dX7_init_69 : decode cX7_init 69 = .ok (.putfield 36, 3) := by decide +kernel
theorem dX7_init_72 : decode cX7_init 72 = .ok (.return_, 1) := by decide +kernel
theorem dX7_in_0 : decode cX7_in 0 = .ok (.iload_n 0, 1) := by decide +kernel
theorem dX7_in_1 : decode cX7_in 1 = .ok (.iload_n 1, 1) := by decide +kernel
theorem dX7_in_2 : decode cX7_in 2 = .ok (.if_icmp .lt 12, 3) := by decide +kernel
theorem dX7_in_5 : decode cX7_in 5 = .ok (.iload_n 0, 1) := by decide +kernel
theorem dX7_in_6 : decode cX7_in 6 = .ok (.iload_n 2, 1) := by decide +kernel
theorem dX7_in_7 : decode cX7_in 7 = .ok (.if_icmp .gt 7, 3) := by decide +kernel
theorem dX7_in_10 : decode cX7_in 10 = .ok (.iconst 1, 1) := by decide +kernel
theorem dX7_in_11 : decode cX7_in 11 = .ok (.goto 4, 3) := by decide +kernel
theorem dX7_in_14 : decode cX7_in 14 = .ok (.iconst 0, 1) := by decide +kernel
theorem dX7_in_15 : decode cX7_in 15 = .ok (.ireturn, 1) := by decide +kernel
theorem dX7_has_0 : decode cX7_has 0 = .ok (.iload_n 0, 1) := by decide +kernel
theorem dX7_has_1 : decode cX7_has 1 = .ok (.iload_n 1, 1) := by decide +kernel
theorem dX7_has_2 : decode cX7_has 2 = .ok (.ishr, 1) := by decide +kernel
theorem dX7_has_3 : decode cX7_has 3 = .ok (.iconst 1, 1) := by decide +kernel
theorem dX7_has_4 : decode cX7_has 4 = .ok (.iand, 1) := by decide +kernel
theorem dX7_has_5 : decode cX7_has 5 = .ok (.iconst 1, 1) := by decide +kernel
theorem dX7_has_6 : decode cX7_has 6 = .ok (.if_icmp .ne 7, 3) := by decide +kernel
theorem dX7_has_9 : decode cX7_has 9 = .ok (.iconst 1, 1) := by decide +kernel
theorem dX7_has_10 : decode cX7_has 10 = .ok (.goto 4, 3) := by decide +kernel
theorem dX7_has_13 : decode cX7_has 13 = .ok (.iconst 0, 1) := by decide +kernel
theorem dX7_has_14 : decode cX7_has 14 = .ok (.ireturn, 1) := by decide +kernel
theorem dX7_bits_0 : decode cX7_bits 0 = .ok (.iconst 0, 1) := by decide +kernel
theorem dX7_bits_1 : decode cX7_bits 1 = .ok (.istore_n 1, 1) := by decide +kernel
theorem dX7_bits_2 : decode cX7_bits 2 = .ok (.iconst 0, 1) := by decide +kernel
theorem dX7_bits_3 : decode cX7_bits 3 = .ok (.istore_n 2, 1) := by decide +kernel
theorem dX7_bits_4 : decode cX7_bits 4 = .ok (.iload_n 2, 1) := by decide +kernel
theorem dX7_bits_5 : decode cX7_bits 5 = .ok (.bipush 20, 2) := by decide +kernel
theorem dX7_bits_7 : decode cX7_bits 7 = .ok (.if_icmp .ge 17, 3) := by decide +kernel
theorem dX7_bits_10 : decode cX7_bits 10 = .ok (.iload_n 1, 1) := by decide +kernel
theorem dX7_bits_11 : decode cX7_bits 11 = .ok (.iload_n 0, 1) := by decide +kernel
theorem dX7_bits_12 : decode cX7_bits 12 = .ok (.iload_n 2, 1) := by decide +kernel
theorem dX7_bits_13 : decode cX7_bits 13 = .ok (.ishr, 1) := by decide +kernel
theorem dX7_bits_14 : decode cX7_bits 14 = .ok (.iconst 1, 1) := by decide +kernel
theorem dX7_bits_15 : decode cX7_bits 15 = .ok (.iand, 1) := by decide +kernel
theorem dX7_bits_16 : decode cX7_bits 16 = .ok (.iadd, 1) := by decide +kernel
theorem dX7_bits_17 : decode cX7_bits 17 = .ok (.istore_n 1, 1) := by decide +kernel
theorem dX7_bits_18 : decode cX7_bits 18 = .ok (.iinc 2 1, 3) := by decide +kernel
theorem dX7_bits_21 : decode cX7_bits 21 = .ok (.goto (-17), 3) := by decide +kernel
theorem dX7_bits_24 : decode cX7_bits 24 = .ok (.iload_n 1, 1) := by decide +kernel
theorem dX7_bits_25 : decode cX7_bits 25 = .ok (.ireturn, 1) := by decide +kernel
theorem dX7_isCell_0 : decode cX7_isCell 0 = .ok (.iload_n 1, 1) := by decide +kernel
theorem dX7_isCell_1 : decode cX7_isCell 1 = .ok (.iconst 0, 1) := by decide +kernel
theorem dX7_isCell_2 : decode cX7_isCell 2 = .ok (.aload_n 0, 1) := by decide +kernel
theorem dX7_isCell_3 : decode cX7_isCell 3 = .ok (.getfield 7, 3) := by decide +kernel
theorem dX7_isCell_6 : decode cX7_isCell 6 = .ok (.iconst 1, 1) := by decide +kernel
theorem dX7_isCell_7 : decode cX7_isCell 7 = .ok (.isub, 1) := by decide +kernel
theorem dX7_isCell_8 : decode cX7_isCell 8 = .ok (.invokestatic 39, 3) := by decide +kernel
theorem dX7_isCell_11 : decode cX7_isCell 11 = .ok (.ifCond .eq 21, 3) := by decide +kernel
theorem dX7_isCell_14 : decode cX7_isCell 14 = .ok (.iload_n 2, 1) := by decide +kernel
theorem dX7_isCell_15 : decode cX7_isCell 15 = .ok (.iconst 0, 1) := by decide +kernel
theorem dX7_isCell_16 : decode cX7_isCell 16 = .ok (.aload_n 0, 1) := by decide +kernel
theorem dX7_isCell_17 : decode cX7_isCell 17 = .ok (.getfield 13, 3) := by decide +kernel
theorem dX7_isCell_20 : decode cX7_isCell 20 = .ok (.iconst 1, 1) := by decide +kernel
theorem dX7_isCell_21 : decode cX7_isCell 21 = .ok (.isub, 1) := by decide +kernel
theorem dX7_isCell_22 : decode cX7_isCell 22 = .ok (.invokestatic 39, 3) := by decide +kernel
theorem dX7_isCell_25 : decode cX7_isCell 25 = .ok (.ifCond .eq 7, 3) := by decide +kernel
theorem dX7_isCell_28 : decode cX7_isCell 28 = .ok (.iconst 1, 1) := by decide +kernel
theorem dX7_isCell_29 : decode cX7_isCell 29 = .ok (.goto 4, 3) := by decide +kernel
theorem dX7_isCell_32 : decode cX7_isCell 32 = .ok (.iconst 0, 1) := by decide +kernel
theorem dX7_isCell_33 : decode cX7_isCell 33 = .ok (.ireturn, 1) := by decide +kernel
theorem dX7_isFamily_0 : decode cX7_isFamily 0 = .ok (.iload_n 0, 1) := by decide +kernel
theorem dX7_isFamily_1 : decode cX7_isFamily 1 = .ok (.iconst 0, 1) := by decide +kernel
theorem dX7_isFamily_2 : decode cX7_isFamily 2 = .ok (.iconst 4, 1) := by decide +kernel
theorem dX7_isFamily_3 : decode cX7_isFamily 3 = .ok (.invokestatic 39, 3) := by decide +kernel
theorem dX7_isFamily_6 : decode cX7_isFamily 6 = .ok (.ireturn, 1) := by decide +kernel
theorem dX7_type_0 : decode cX7_type 0 = .ok (.iload_n 1, 1) := by decide +kernel
theorem dX7_type_1 : decode cX7_type 1 = .ok (.iconst 0, 1) := by decide +kernel
theorem dX7_type_2 : decode cX7_type 2 = .ok (.sipush 255, 3) := by decide +kernel
theorem dX7_type_5 : decode cX7_type 5 = .ok (.invokestatic 39, 3) := by decide +kernel
theorem dX7_type_8 : decode cX7_type 8 = .ok (.ifCond .ne 5, 3) := by decide +kernel
theorem dX7_type_11 : decode cX7_type 11 = .ok (.iconst (-1), 1) := by decide +kernel
theorem dX7_type_12 : decode cX7_type 12 = .ok (.ireturn, 1) := by decide +kernel
theorem dX7_type_13 : decode cX7_type 13 = .ok (.aload_n 0, 1) := by decide +kernel
theorem dX7_type_14 : decode cX7_type 14 = .ok (.getfield 43, 3) := by decide +kernel
theorem dX7_type_17 : decode cX7_type 17 = .ok (.sipush 150, 3) := by decide +kernel
theorem dX7_type_20 : decode cX7_type 20 = .ok (.if_icmp .ne 6, 3) := by decide +kernel
theorem dX7_type_23 : decode cX7_type 23 = .ok (.bipush (-3), 2) := by decide +kernel
theorem dX7_type_25 : decode cX7_type 25 = .ok (.ireturn, 1) := by decide +kernel
theorem dX7_type_26 : decode cX7_type 26 = .ok (.aload_n 0, 1) := by decide +kernel
theorem dX7_type_27 : decode cX7_type 27 = .ok (.getfield 30, 3) := by decide +kernel
theorem dX7_type_30 : decode cX7_type 30 = .ok (.aload_n 0, 1) := by decide +kernel
theorem dX7_type_31 : decode cX7_type 31 = .ok (.getfield 43, 3) := by decide +kernel
theorem dX7_type_34 : decode cX7_type 34 = .ok (.iload_n 1, 1) := by decide +kernel
theorem dX7_type_35 : decode cX7_type 35 = .ok (.iastore, 1) := by decide +kernel
theorem dX7_type_36 : decode cX7_type 36 = .ok (.aload_n 0, 1) := by decide +kernel
theorem dX7_type_37 : decode cX7_type 37 = .ok (.dup, 1) := by decide +kernel
theorem dX7_type_38 : decode cX7_type 38 = .ok (.getfield 43, 3) := by decide +kernel
theorem dX7_type_41 : decode cX7_type 41 = .ok (.iconst 1, 1) := by decide +kernel
theorem dX7_type_42 : decode cX7_type 42 = .ok (.iadd, 1) := by decide +kernel
theorem dX7_type_43 : decode cX7_type 43 = .ok (.putfield 43, 3) := by decide +kernel
theorem dX7_type_46 : decode cX7_type 46 = .ok (.aload_n 0, 1) := by decide +kernel
theorem dX7_type_47 : decode cX7_type 47 = .ok (.getfield 43, 3) := by decide +kernel
theorem dX7_type_50 : decode cX7_type 50 = .ok (.ireturn, 1) := by decide +kernel
theorem dX7_clear_0 : decode cX7_clear 0 = .ok (.aload_n 0, 1) := by decide +kernel
theorem dX7_clear_1 : decode cX7_clear 1 = .ok (.getfield 43, 3) := by decide +kernel
theorem dX7_clear_4 : decode cX7_clear 4 = .ok (.istore_n 1, 1) := by decide +kernel
theorem dX7_clear_5 : decode cX7_clear 5 = .ok (.aload_n 0, 1) := by decide +kernel
theorem dX7_clear_6 : decode cX7_clear 6 = .ok (.iconst 0, 1) := by decide +kernel
theorem dX7_clear_7 : decode cX7_clear 7 = .ok (.putfield 43, 3) := by decide +kernel
theorem dX7_clear_10 : decode cX7_clear 10 = .ok (.iload_n 1, 1) := by decide +kernel
theorem dX7_clear_11 : decode cX7_clear 11 = .ok (.ireturn, 1) := by decide +kernel
theorem dX7_letterAt_0 : decode cX7_letterAt 0 = .ok (.iload_n 1, 1) := by decide +kernel
theorem dX7_letterAt_1 : decode cX7_letterAt 1 = .ok (.aload_n 0, 1) := by decide +kernel
theorem dX7_letterAt_2 : decode cX7_letterAt 2 = .ok (.getfield 43, 3) := by decide +kernel
theorem dX7_letterAt_5 : decode cX7_letterAt 5 = .ok (.if_icmp .ge 12, 3) := by decide +kernel
theorem dX7_letterAt_8 : decode cX7_letterAt 8 = .ok (.aload_n 0, 1) := by decide +kernel
theorem dX7_letterAt_9 : decode cX7_letterAt 9 = .ok (.getfield 30, 3) := by decide +kernel
theorem dX7_letterAt_12 : decode cX7_letterAt 12 = .ok (.iload_n 1, 1) := by decide +kernel
theorem dX7_letterAt_13 : decode cX7_letterAt 13 = .ok (.iaload, 1) := by decide +kernel
theorem dX7_letterAt_14 : decode cX7_letterAt 14 = .ok (.goto 4, 3) := by decide +kernel
theorem dX7_letterAt_17 : decode cX7_letterAt 17 = .ok (.iconst (-1), 1) := by decide +kernel
theorem dX7_letterAt_18 : decode cX7_letterAt 18 = .ok (.ireturn, 1) := by decide +kernel
theorem dX7_isFigure_0 : decode cX7_isFigure 0 = .ok (.iload_n 0, 1) := by decide +kernel
theorem dX7_isFigure_1 : decode cX7_isFigure 1 = .ok (.bipush 48, 2) := by decide +kernel
theorem dX7_isFigure_3 : decode cX7_isFigure 3 = .ok (.bipush 57, 2) := by decide +kernel
theorem dX7_isFigure_5 : decode cX7_isFigure 5 = .ok (.invokestatic 39, 3) := by decide +kernel
theorem dX7_isFigure_8 : decode cX7_isFigure 8 = .ok (.ireturn, 1) := by decide +kernel
theorem dX7_isLetter_0 : decode cX7_isLetter 0 = .ok (.iload_n 0, 1) := by decide +kernel
theorem dX7_isLetter_1 : decode cX7_isLetter 1 = .ok (.bipush 97, 2) := by decide +kernel
theorem dX7_isLetter_3 : decode cX7_isLetter 3 = .ok (.bipush 122, 2) := by decide +kernel
theorem dX7_isLetter_5 : decode cX7_isLetter 5 = .ok (.invokestatic 39, 3) := by decide +kernel
theorem dX7_isLetter_8 : decode cX7_isLetter 8 = .ok (.ireturn, 1) := by decide +kernel
theorem dX7_next_0 : decode cX7_next 0 = .ok (.aload_n 0, 1) := by decide +kernel
theorem dX7_next_1 : decode cX7_next 1 = .ok (.aload_n 0, 1) := by decide +kernel
theorem dX7_next_2 : decode cX7_next 2 = .ok (.getfield 46, 3) := by decide +kernel
theorem dX7_next_5 : decode cX7_next 5 = .ok (.invokevirtual 49, 3) := by decide +kernel
theorem dX7_next_8 : decode cX7_next 8 = .ok (.bipush 32, 2) := by decide +kernel
theorem dX7_next_10 : decode cX7_next 10 = .ok (.if_icmp .ne 16, 3) := by decide +kernel
theorem dX7_next_13 : decode cX7_next 13 = .ok (.aload_n 0, 1) := by decide +kernel
theorem dX7_next_14 : decode cX7_next 14 = .ok (.dup, 1) := by decide +kernel
theorem dX7_next_15 : decode cX7_next 15 = .ok (.getfield 46, 3) := by decide +kernel
theorem dX7_next_18 : decode cX7_next 18 = .ok (.iconst 1, 1) := by decide +kernel
theorem dX7_next_19 : decode cX7_next 19 = .ok (.iadd, 1) := by decide +kernel
theorem dX7_next_20 : decode cX7_next 20 = .ok (.putfield 46, 3) := by decide +kernel
theorem dX7_next_23 : decode cX7_next 23 = .ok (.goto (-23), 3) := by decide +kernel
theorem dX7_next_26 : decode cX7_next 26 = .ok (.aload_n 0, 1) := by decide +kernel
theorem dX7_next_27 : decode cX7_next 27 = .ok (.aload_n 0, 1) := by decide +kernel
theorem dX7_next_28 : decode cX7_next 28 = .ok (.getfield 46, 3) := by decide +kernel
theorem dX7_next_31 : decode cX7_next 31 = .ok (.putfield 53, 3) := by decide +kernel
theorem dX7_next_34 : decode cX7_next 34 = .ok (.aload_n 0, 1) := by decide +kernel
theorem dX7_next_35 : decode cX7_next 35 = .ok (.aload_n 0, 1) := by decide +kernel
theorem dX7_next_36 : decode cX7_next 36 = .ok (.getfield 46, 3) := by decide +kernel
theorem dX7_next_39 : decode cX7_next 39 = .ok (.invokevirtual 49, 3) := by decide +kernel
theorem dX7_next_42 : decode cX7_next 42 = .ok (.istore_n 1, 1) := by decide +kernel
theorem dX7_next_43 : decode cX7_next 43 = .ok (.aload_n 0, 1) := by decide +kernel
theorem dX7_next_44 : decode cX7_next 44 = .ok (.iconst 0, 1) := by decide +kernel
theorem dX7_next_45 : decode cX7_next 45 = .ok (.putfield 56, 3) := by decide +kernel
theorem dX7_next_48 : decode cX7_next 48 = .ok (.iload_n 1, 1) := by decide +kernel
theorem dX7_next_49 : decode cX7_next 49 = .ok (.ifCond .ge 11, 3) := by decide +kernel
theorem dX7_next_52 : decode cX7_next 52 = .ok (.aload_n 0, 1) := by decide +kernel
theorem dX7_next_53 : decode cX7_next 53 = .ok (.iconst 0, 1) := by decide +kernel
theorem dX7_next_54 : decode cX7_next 54 = .ok (.putfield 59, 3) := by decide +kernel
theorem dX7_next_57 : decode cX7_next 57 = .ok (.goto 205, 3) := by decide +kernel
theorem dX7_next_60 : decode cX7_next 60 = .ok (.iload_n 1, 1) := by decide +kernel
theorem dX7_next_61 : decode cX7_next 61 = .ok (.invokestatic 62, 3) := by decide +kernel
theorem dX7_next_64 : decode cX7_next 64 = .ok (.ifCond .eq 109, 3) := by decide +kernel
theorem dX7_next_67 : decode cX7_next 67 = .ok (.aload_n 0, 1) := by decide +kernel
theorem dX7_next_68 : decode cX7_next 68 = .ok (.aload_n 0, 1) := by decide +kernel
theorem dX7_next_69 : decode cX7_next 69 = .ok (.getfield 46, 3) := by decide +kernel
theorem dX7_next_72 : decode cX7_next 72 = .ok (.invokevirtual 49, 3) := by decide +kernel
theorem dX7_next_75 : decode cX7_next 75 = .ok (.invokestatic 62, 3) := by decide +kernel
theorem dX7_next_78 : decode cX7_next 78 = .ok (.ifCond .eq 55, 3) := by decide +kernel
theorem dX7_next_81 : decode cX7_next 81 = .ok (.aload_n 0, 1) := by decide +kernel
theorem dX7_next_82 : decode cX7_next 82 = .ok (.aload_n 0, 1) := by decide +kernel
theorem dX7_next_83 : decode cX7_next 83 = .ok (.getfield 56, 3) := by decide +kernel
theorem dX7_next_86 : decode cX7_next 86 = .ok (.bipush 99, 2) := by decide +kernel
theorem dX7_next_88 : decode cX7_next 88 = .ok (.if_icmp .le 10, 3) := by decide +kernel
theorem dX7_next_91 : decode cX7_next 91 = .ok (.aload_n 0, 1) := by decide +kernel
theorem dX7_next_92 : decode cX7_next 92 = .ok (.getfield 56, 3) := by decide +kernel
theorem dX7_next_95 : decode cX7_next 95 = .ok (.goto 22, 3) := by decide +kernel
theorem dX7_next_98 : decode cX7_next 98 = .ok (.bipush 10, 2) := by decide +kernel
theorem dX7_next_100 : decode cX7_next 100 = .ok (.aload_n 0, 1) := by decide +kernel
theorem dX7_next_101 : decode cX7_next 101 = .ok (.getfield 56, 3) := by decide +kernel
theorem dX7_next_104 : decode cX7_next 104 = .ok (.imul, 1) := by decide +kernel
theorem dX7_next_105 : decode cX7_next 105 = .ok (.aload_n 0, 1) := by decide +kernel
theorem dX7_next_106 : decode cX7_next 106 = .ok (.aload_n 0, 1) := by decide +kernel
theorem dX7_next_107 : decode cX7_next 107 = .ok (.getfield 46, 3) := by decide +kernel
theorem dX7_next_110 : decode cX7_next 110 = .ok (.invokevirtual 49, 3) := by decide +kernel
theorem dX7_next_113 : decode cX7_next 113 = .ok (.iadd, 1) := by decide +kernel
theorem dX7_next_114 : decode cX7_next 114 = .ok (.bipush 48, 2) := by decide +kernel
theorem dX7_next_116 : decode cX7_next 116 = .ok (.isub, 1) := by decide +kernel
theorem dX7_next_117 : decode cX7_next 117 = .ok (.putfield 56, 3) := by decide +kernel
theorem dX7_next_120 : decode cX7_next 120 = .ok (.aload_n 0, 1) := by decide +kernel
theorem dX7_next_121 : decode cX7_next 121 = .ok (.dup, 1) := by decide +kernel
theorem dX7_next_122 : decode cX7_next 122 = .ok (.getfield 46, 3) := by decide +kernel
theorem dX7_next_125 : decode cX7_next 125 = .ok (.iconst 1, 1) := by decide +kernel
theorem dX7_next_126 : decode cX7_next 126 = .ok (.iadd, 1) := by decide +kernel
theorem dX7_next_127 : decode cX7_next 127 = .ok (.putfield 46, 3) := by decide +kernel
theorem dX7_next_130 : decode cX7_next 130 = .ok (.goto (-63), 3) := by decide +kernel
theorem dX7_next_133 : decode cX7_next 133 = .ok (.aload_n 0, 1) := by decide +kernel
theorem dX7_next_134 : decode cX7_next 134 = .ok (.aload_n 0, 1) := by decide +kernel
theorem dX7_next_135 : decode cX7_next 135 = .ok (.getfield 56, 3) := by decide +kernel
theorem dX7_next_138 : decode cX7_next 138 = .ok (.bipush 99, 2) := by decide +kernel
theorem dX7_next_140 : decode cX7_next 140 = .ok (.if_icmp .gt 22, 3) := by decide +kernel
theorem dX7_next_143 : decode cX7_next 143 = .ok (.iload_n 1, 1) := by decide +kernel
theorem dX7_next_144 : decode cX7_next 144 = .ok (.bipush 48, 2) := by decide +kernel
theorem dX7_next_146 : decode cX7_next 146 = .ok (.if_icmp .ne 20, 3) := by decide +kernel
theorem dX7_next_149 : decode cX7_next 149 = .ok (.aload_n 0, 1) := by decide +kernel
theorem dX7_next_150 : decode cX7_next 150 = .ok (.getfield 46, 3) := by decide +kernel
theorem dX7_next_153 : decode cX7_next 153 = .ok (.aload_n 0, 1) := by decide +kernel
theorem dX7_next_154 : decode cX7_next 154 = .ok (.getfield 53, 3) := by decide +kernel
theorem dX7_next_157 : decode cX7_next 157 = .ok (.isub, 1) := by decide +kernel
theorem dX7_next_158 : decode cX7_next 158 = .ok (.iconst 1, 1) := by decide +kernel
theorem dX7_next_159 : decode cX7_next 159 = .ok (.if_icmp .le 7, 3) := by decide +kernel
theorem dX7_next_162 : decode cX7_next 162 = .ok (.iconst 4, 1) := by decide +kernel
theorem dX7_next_163 : decode cX7_next 163 = .ok (.goto 4, 3) := by decide +kernel
theorem dX7_next_166 : decode cX7_next 166 = .ok (.iconst 2, 1) := by decide +kernel
theorem dX7_next_167 : decode cX7_next 167 = .ok (.putfield 59, 3) := by decide +kernel
theorem dX7_next_170 : decode cX7_next 170 = .ok (.goto 92, 3) := by decide +kernel
theorem dX7_next_173 : decode cX7_next 173 = .ok (.iload_n 1, 1) := by decide +kernel
theorem dX7_next_174 : decode cX7_next 174 = .ok (.invokestatic 66, 3) := by decide +kernel
theorem dX7_next_177 : decode cX7_next 177 = .ok (.ifCond .eq 60, 3) := by decide +kernel
theorem dX7_next_180 : decode cX7_next 180 = .ok (.aload_n 0, 1) := by decide +kernel
theorem dX7_next_181 : decode cX7_next 181 = .ok (.aload_n 0, 1) := by decide +kernel
theorem dX7_next_182 : decode cX7_next 182 = .ok (.getfield 46, 3) := by decide +kernel
theorem dX7_next_185 : decode cX7_next 185 = .ok (.invokevirtual 49, 3) := by decide +kernel
theorem dX7_next_188 : decode cX7_next 188 = .ok (.invokestatic 66, 3) := by decide +kernel
theorem dX7_next_191 : decode cX7_next 191 = .ok (.ifCond .eq 16, 3) := by decide +kernel
theorem dX7_next_194 : decode cX7_next 194 = .ok (.aload_n 0, 1) := by decide +kernel
theorem dX7_next_195 : decode cX7_next 195 = .ok (.dup, 1) := by decide +kernel
theorem dX7_next_196 : decode cX7_next 196 = .ok (.getfield 46, 3) := by decide +kernel
theorem dX7_next_199 : decode cX7_next 199 = .ok (.iconst 1, 1) := by decide +kernel
theorem dX7_next_200 : decode cX7_next 200 = .ok (.iadd, 1) := by decide +kernel
theorem dX7_next_201 : decode cX7_next 201 = .ok (.putfield 46, 3) := by decide +kernel
theorem dX7_next_204 : decode cX7_next 204 = .ok (.goto (-24), 3) := by decide +kernel
theorem dX7_next_207 : decode cX7_next 207 = .ok (.aload_n 0, 1) := by decide +kernel
theorem dX7_next_208 : decode cX7_next 208 = .ok (.iconst 1, 1) := by decide +kernel
theorem dX7_next_209 : decode cX7_next 209 = .ok (.putfield 59, 3) := by decide +kernel
theorem dX7_next_212 : decode cX7_next 212 = .ok (.aload_n 0, 1) := by decide +kernel
theorem dX7_next_213 : decode cX7_next 213 = .ok (.aload_n 0, 1) := by decide +kernel
theorem dX7_next_214 : decode cX7_next 214 = .ok (.getfield 46, 3) := by decide +kernel
theorem dX7_next_217 : decode cX7_next 217 = .ok (.aload_n 0, 1) := by decide +kernel
theorem dX7_next_218 : decode cX7_next 218 = .ok (.getfield 53, 3) := by decide +kernel
theorem dX7_next_221 : decode cX7_next 221 = .ok (.isub, 1) := by decide +kernel
theorem dX7_next_222 : decode cX7_next 222 = .ok (.iconst 1, 1) := by decide +kernel
theorem dX7_next_223 : decode cX7_next 223 = .ok (.if_icmp .ne 7, 3) := by decide +kernel
theorem dX7_next_226 : decode cX7_next 226 = .ok (.iload_n 1, 1) := by decide +kernel
theorem dX7_next_227 : decode cX7_next 227 = .ok (.goto 4, 3) := by decide +kernel
theorem dX7_next_230 : decode cX7_next 230 = .ok (.iconst 0, 1) := by decide +kernel
theorem dX7_next_231 : decode cX7_next 231 = .ok (.putfield 56, 3) := by decide +kernel
theorem dX7_next_234 : decode cX7_next 234 = .ok (.goto 28, 3) := by decide +kernel
theorem dX7_next_237 : decode cX7_next 237 = .ok (.aload_n 0, 1) := by decide +kernel
theorem dX7_next_238 : decode cX7_next 238 = .ok (.iload_n 1, 1) := by decide +kernel
theorem dX7_next_239 : decode cX7_next 239 = .ok (.bipush 59, 2) := by decide +kernel
theorem dX7_next_241 : decode cX7_next 241 = .ok (.if_icmp .ne 7, 3) := by decide +kernel
theorem dX7_next_244 : decode cX7_next 244 = .ok (.iconst 3, 1) := by decide +kernel
theorem dX7_next_245 : decode cX7_next 245 = .ok (.goto 4, 3) := by decide +kernel
theorem dX7_next_248 : decode cX7_next 248 = .ok (.iconst 4, 1) := by decide +kernel
theorem dX7_next_249 : decode cX7_next 249 = .ok (.putfield 59, 3) := by decide +kernel
theorem dX7_next_252 : decode cX7_next 252 = .ok (.aload_n 0, 1) := by decide +kernel
theorem dX7_next_253 : decode cX7_next 253 = .ok (.dup, 1) := by decide +kernel
theorem dX7_next_254 : decode cX7_next 254 = .ok (.getfield 46, 3) := by decide +kernel
theorem dX7_next_257 : decode cX7_next 257 = .ok (.iconst 1, 1) := by decide +kernel
theorem dX7_next_258 : decode cX7_next 258 = .ok (.iadd, 1) := by decide +kernel
theorem dX7_next_259 : decode cX7_next 259 = .ok (.putfield 46, 3) := by decide +kernel
theorem dX7_next_262 : decode cX7_next 262 = .ok (.return_, 1) := by decide +kernel
theorem dX7_takesNumber_0 : decode cX7_takesNumber 0 = .ok (.aload_n 0, 1) := by decide +kernel
theorem dX7_takesNumber_1 : decode cX7_takesNumber 1 = .ok (.getfield 69, 3) := by decide +kernel
theorem dX7_takesNumber_4 : decode cX7_takesNumber 4 = .ok (.ifCond .ne 27, 3) := by decide +kernel
theorem dX7_takesNumber_7 : decode cX7_takesNumber 7 = .ok (.aload_n 0, 1) := by decide +kernel
theorem dX7_takesNumber_8 : decode cX7_takesNumber 8 = .ok (.getfield 59, 3) := by decide +kernel
theorem dX7_takesNumber_11 : decode cX7_takesNumber 11 = .ok (.iconst 2, 1) := by decide +kernel
theorem dX7_takesNumber_12 : decode cX7_takesNumber 12 = .ok (.if_icmp .ne 19, 3) := by decide +kernel
theorem dX7_takesNumber_15 : decode cX7_takesNumber 15 = .ok (.aload_n 0, 1) := by decide +kernel
theorem dX7_takesNumber_16 : decode cX7_takesNumber 16 = .ok (.getfield 56, 3) := by decide +kernel
theorem dX7_takesNumber_19 : decode cX7_takesNumber 19 = .ok (.iload_n 1, 1) := by decide +kernel
theorem dX7_takesNumber_20 : decode cX7_takesNumber 20 = .ok (.iload_n 2, 1) := by decide +kernel
theorem dX7_takesNumber_21 : decode cX7_takesNumber 21 = .ok (.invokestatic 39, 3) := by decide +kernel
theorem dX7_takesNumber_24 : decode cX7_takesNumber 24 = .ok (.ifCond .eq 7, 3) := by decide +kernel
theorem dX7_takesNumber_27 : decode cX7_takesNumber 27 = .ok (.iconst 1, 1) := by decide +kernel
theorem dX7_takesNumber_28 : decode cX7_takesNumber 28 = .ok (.goto 4, 3) := by decide +kernel
theorem dX7_takesNumber_31 : decode cX7_takesNumber 31 = .ok (.iconst 0, 1) := by decide +kernel
theorem dX7_takesNumber_32 : decode cX7_takesNumber 32 = .ok (.istore_n 3, 1) := by decide +kernel
theorem dX7_takesNumber_33 : decode cX7_takesNumber 33 = .ok (.aload_n 0, 1) := by decide +kernel
theorem dX7_takesNumber_34 : decode cX7_takesNumber 34 = .ok (.iload_n 3, 1) := by decide +kernel
theorem dX7_takesNumber_35 : decode cX7_takesNumber 35 = .ok (.ifCond .ne 7, 3) := by decide +kernel
theorem dX7_takesNumber_38 : decode cX7_takesNumber 38 = .ok (.iconst 1, 1) := by decide +kernel
theorem dX7_takesNumber_39 : decode cX7_takesNumber 39 = .ok (.goto 4, 3) := by decide +kernel
theorem dX7_takesNumber_42 : decode cX7_takesNumber 42 = .ok (.iconst 0, 1) := by decide +kernel
theorem dX7_takesNumber_43 : decode cX7_takesNumber 43 = .ok (.putfield 69, 3) := by decide +kernel
theorem dX7_takesNumber_46 : decode cX7_takesNumber 46 = .ok (.aload_n 0, 1) := by decide +kernel
theorem dX7_takesNumber_47 : decode cX7_takesNumber 47 = .ok (.getfield 56, 3) := by decide +kernel
theorem dX7_takesNumber_50 : decode cX7_takesNumber 50 = .ok (.istore 4, 2) := by decide +kernel
theorem dX7_takesNumber_52 : decode cX7_takesNumber 52 = .ok (.iload_n 3, 1) := by decide +kernel
theorem dX7_takesNumber_53 : decode cX7_takesNumber 53 = .ok (.ifCond .eq 7, 3) := by decide +kernel
theorem dX7_takesNumber_56 : decode cX7_takesNumber 56 = .ok (.aload_n 0, 1) := by decide +kernel
theorem dX7_takesNumber_57 : decode cX7_takesNumber 57 = .ok (.invokevirtual 73, 3) := by decide +kernel
theorem dX7_takesNumber_60 : decode cX7_takesNumber 60 = .ok (.iload_n 3, 1) := by decide +kernel
theorem dX7_takesNumber_61 : decode cX7_takesNumber 61 = .ok (.ifCond .eq 8, 3) := by decide +kernel
theorem dX7_takesNumber_64 : decode cX7_takesNumber 64 = .ok (.iload 4, 2) := by decide +kernel
theorem dX7_takesNumber_66 : decode cX7_takesNumber 66 = .ok (.goto 4, 3) := by decide +kernel
theorem dX7_takesNumber_69 : decode cX7_takesNumber 69 = .ok (.iconst 0, 1) := by decide +kernel
theorem dX7_takesNumber_70 : decode cX7_takesNumber 70 = .ok (.ireturn, 1) := by decide +kernel
theorem dX7_takesCell_0 : decode cX7_takesCell 0 = .ok (.aload_n 0, 1) := by decide +kernel
theorem dX7_takesCell_1 : decode cX7_takesCell 1 = .ok (.iconst 0, 1) := by decide +kernel
theorem dX7_takesCell_2 : decode cX7_takesCell 2 = .ok (.aload_n 0, 1) := by decide +kernel
theorem dX7_takesCell_3 : decode cX7_takesCell 3 = .ok (.getfield 76, 3) := by decide +kernel
theorem dX7_takesCell_6 : decode cX7_takesCell 6 = .ok (.iconst 1, 1) := by decide +kernel
theorem dX7_takesCell_7 : decode cX7_takesCell 7 = .ok (.isub, 1) := by decide +kernel
theorem dX7_takesCell_8 : decode cX7_takesCell 8 = .ok (.invokevirtual 79, 3) := by decide +kernel
theorem dX7_takesCell_11 : decode cX7_takesCell 11 = .ok (.istore_n 2, 1) := by decide +kernel
theorem dX7_takesCell_12 : decode cX7_takesCell 12 = .ok (.aload_n 0, 1) := by decide +kernel
theorem dX7_takesCell_13 : decode cX7_takesCell 13 = .ok (.getfield 69, 3) := by decide +kernel
theorem dX7_takesCell_16 : decode cX7_takesCell 16 = .ok (.ifCond .ne 32, 3) := by decide +kernel
theorem dX7_takesCell_19 : decode cX7_takesCell 19 = .ok (.aload_n 0, 1) := by decide +kernel
theorem dX7_takesCell_20 : decode cX7_takesCell 20 = .ok (.getfield 59, 3) := by decide +kernel
theorem dX7_takesCell_23 : decode cX7_takesCell 23 = .ok (.iconst 2, 1) := by decide +kernel
theorem dX7_takesCell_24 : decode cX7_takesCell 24 = .ok (.if_icmp .ne 24, 3) := by decide +kernel
theorem dX7_takesCell_27 : decode cX7_takesCell 27 = .ok (.aload_n 0, 1) := by decide +kernel
theorem dX7_takesCell_28 : decode cX7_takesCell 28 = .ok (.getfield 56, 3) := by decide +kernel
theorem dX7_takesCell_31 : decode cX7_takesCell 31 = .ok (.iconst 0, 1) := by decide +kernel
theorem dX7_takesCell_32 : decode cX7_takesCell 32 = .ok (.aload_n 0, 1) := by decide +kernel
theorem dX7_takesCell_33 : decode cX7_takesCell 33 = .ok (.getfield 83, 3) := by decide +kernel
theorem dX7_takesCell_36 : decode cX7_takesCell 36 = .ok (.iconst 1, 1) := by decide +kernel
theorem dX7_takesCell_37 : decode cX7_takesCell 37 = .ok (.isub, 1) := by decide +kernel
theorem dX7_takesCell_38 : decode cX7_takesCell 38 = .ok (.invokestatic 39, 3) := by decide +kernel
theorem dX7_takesCell_41 : decode cX7_takesCell 41 = .ok (.ifCond .eq 7, 3) := by decide +kernel
theorem dX7_takesCell_44 : decode cX7_takesCell 44 = .ok (.iconst 1, 1) := by decide +kernel
theorem dX7_takesCell_45 : decode cX7_takesCell 45 = .ok (.goto 4, 3) := by decide +kernel
theorem dX7_takesCell_48 : decode cX7_takesCell 48 = .ok (.iconst 0, 1) := by decide +kernel
theorem dX7_takesCell_49 : decode cX7_takesCell 49 = .ok (.istore_n 3, 1) := by decide +kernel
theorem dX7_takesCell_50 : decode cX7_takesCell 50 = .ok (.iload_n 3, 1) := by decide +kernel
theorem dX7_takesCell_51 : decode cX7_takesCell 51 = .ok (.ifCond .eq 14, 3) := by decide +kernel
theorem dX7_takesCell_54 : decode cX7_takesCell 54 = .ok (.iconst 5, 1) := by decide +kernel
theorem dX7_takesCell_55 : decode cX7_takesCell 55 = .ok (.aload_n 0, 1) := by decide +kernel
theorem dX7_takesCell_56 : decode cX7_takesCell 56 = .ok (.getfield 56, 3) := by decide +kernel
theorem dX7_takesCell_59 : decode cX7_takesCell 59 = .ok (.imul, 1) := by decide +kernel
theorem dX7_takesCell_60 : decode cX7_takesCell 60 = .ok (.iload_n 2, 1) := by decide +kernel
theorem dX7_takesCell_61 : decode cX7_takesCell 61 = .ok (.iadd, 1) := by decide +kernel
theorem dX7_takesCell_62 : decode cX7_takesCell 62 = .ok (.goto 4, 3) := by decide +kernel
theorem dX7_takesCell_65 : decode cX7_takesCell 65 = .ok (.iconst 0, 1) := by decide +kernel
theorem dX7_takesCell_66 : decode cX7_takesCell 66 = .ok (.istore 4, 2) := by decide +kernel
theorem dX7_takesCell_68 : decode cX7_takesCell 68 = .ok (.aload_n 0, 1) := by decide +kernel
theorem dX7_takesCell_69 : decode cX7_takesCell 69 = .ok (.iload_n 3, 1) := by decide +kernel
theorem dX7_takesCell_70 : decode cX7_takesCell 70 = .ok (.ifCond .eq 32, 3) := by decide +kernel
theorem dX7_takesCell_73 : decode cX7_takesCell 73 = .ok (.iload_n 1, 1) := by decide +kernel
theorem dX7_takesCell_74 : decode cX7_takesCell 74 = .ok (.ifCond .eq 18, 3) := by decide +kernel
theorem dX7_takesCell_77 : decode cX7_takesCell 77 = .ok (.aload_n 0, 1) := by decide +kernel
theorem dX7_takesCell_78 : decode cX7_takesCell 78 = .ok (.getfield 86, 3) := by decide +kernel
theorem dX7_takesCell_81 : decode cX7_takesCell 81 = .ok (.iload 4, 2) := by decide +kernel
theorem dX7_takesCell_83 : decode cX7_takesCell 83 = .ok (.invokestatic 89, 3) := by decide +kernel
theorem dX7_takesCell_86 : decode cX7_takesCell 86 = .ok (.ifCond .eq 20, 3) := by decide +kernel
theorem dX7_takesCell_89 : decode cX7_takesCell 89 = .ok (.goto 13, 3) := by decide +kernel
theorem dX7_takesCell_92 : decode cX7_takesCell 92 = .ok (.aload_n 0, 1) := by decide +kernel
theorem dX7_takesCell_93 : decode cX7_takesCell 93 = .ok (.getfield 33, 3) := by decide +kernel
theorem dX7_takesCell_96 : decode cX7_takesCell 96 = .ok (.iload 4, 2) := by decide +kernel
theorem dX7_takesCell_98 : decode cX7_takesCell 98 = .ok (.iaload, 1) := by decide +kernel
theorem dX7_takesCell_99 : decode cX7_takesCell 99 = .ok (.ifCond .le 7, 3) := by decide +kernel
theorem dX7_takesCell_102 : decode cX7_takesCell 102 = .ok (.iconst 1, 1) := by decide +kernel
theorem dX7_takesCell_103 : decode cX7_takesCell 103 = .ok (.goto 4, 3) := by decide +kernel
theorem dX7_takesCell_106 : decode cX7_takesCell 106 = .ok (.iconst 0, 1) := by decide +kernel
theorem dX7_takesCell_107 : decode cX7_takesCell 107 = .ok (.putfield 69, 3) := by decide +kernel
theorem dX7_takesCell_110 : decode cX7_takesCell 110 = .ok (.aload_n 0, 1) := by decide +kernel
theorem dX7_takesCell_111 : decode cX7_takesCell 111 = .ok (.getfield 69, 3) := by decide +kernel
theorem dX7_takesCell_114 : decode cX7_takesCell 114 = .ok (.ifCond .ne 7, 3) := by decide +kernel
theorem dX7_takesCell_117 : decode cX7_takesCell 117 = .ok (.aload_n 0, 1) := by decide +kernel
theorem dX7_takesCell_118 : decode cX7_takesCell 118 = .ok (.invokevirtual 73, 3) := by decide +kernel
theorem dX7_takesCell_121 : decode cX7_takesCell 121 = .ok (.iload 4, 2) := by decide +kernel
theorem dX7_takesCell_123 : decode cX7_takesCell 123 = .ok (.ireturn, 1) := by decide +kernel
theorem dX7_readItem_0 : decode cX7_readItem 0 = .ok (.aload_n 0, 1) := by decide +kernel
theorem dX7_readItem_1 : decode cX7_readItem 1 = .ok (.getfield 56, 3) := by decide +kernel
theorem dX7_readItem_4 : decode cX7_readItem 4 = .ok (.istore_n 1, 1) := by decide +kernel
theorem dX7_readItem_5 : decode cX7_readItem 5 = .ok (.iload_n 1, 1) := by decide +kernel
theorem dX7_readItem_6 : decode cX7_readItem 6 = .ok (.bipush 103, 2) := by decide +kernel
theorem dX7_readItem_8 : decode cX7_readItem 8 = .ok (.if_icmp .ne 18, 3) := by decide +kernel
theorem dX7_readItem_11 : decode cX7_readItem 11 = .ok (.aload_n 0, 1) := by decide +kernel
theorem dX7_readItem_12 : decode cX7_readItem 12 = .ok (.getfield 93, 3) := by decide +kernel
theorem dX7_readItem_15 : decode cX7_readItem 15 = .ok (.ifCond .ne 7, 3) := by decide +kernel
theorem dX7_readItem_18 : decode cX7_readItem 18 = .ok (.iconst 1, 1) := by decide +kernel
theorem dX7_readItem_19 : decode cX7_readItem 19 = .ok (.goto 45, 3) := by decide +kernel
theorem dX7_readItem_22 : decode cX7_readItem 22 = .ok (.iconst 0, 1) := by decide +kernel
theorem dX7_readItem_23 : decode cX7_readItem 23 = .ok (.goto 41, 3) := by decide +kernel
theorem dX7_readItem_26 : decode cX7_readItem 26 = .ok (.iload_n 1, 1) := by decide +kernel
theorem dX7_readItem_27 : decode cX7_readItem 27 = .ok (.bipush 119, 2) := by decide +kernel
theorem dX7_readItem_29 : decode cX7_readItem 29 = .ok (.if_icmp .ne 18, 3) := by decide +kernel
theorem dX7_readItem_32 : decode cX7_readItem 32 = .ok (.aload_n 0, 1) := by decide +kernel
theorem dX7_readItem_33 : decode cX7_readItem 33 = .ok (.getfield 96, 3) := by decide +kernel
theorem dX7_readItem_36 : decode cX7_readItem 36 = .ok (.ifCond .ge 7, 3) := by decide +kernel
theorem dX7_readItem_39 : decode cX7_readItem 39 = .ok (.iconst 1, 1) := by decide +kernel
theorem dX7_readItem_40 : decode cX7_readItem 40 = .ok (.goto 24, 3) := by decide +kernel
theorem dX7_readItem_43 : decode cX7_readItem 43 = .ok (.iconst 0, 1) := by decide +kernel
theorem dX7_readItem_44 : decode cX7_readItem 44 = .ok (.goto 20, 3) := by decide +kernel
theorem dX7_readItem_47 : decode cX7_readItem 47 = .ok (.iload_n 1, 1) := by decide +kernel
theorem dX7_readItem_48 : decode cX7_readItem 48 = .ok (.bipush 111, 2) := by decide +kernel
theorem dX7_readItem_50 : decode cX7_readItem 50 = .ok (.if_icmp .eq 9, 3) := by decide +kernel
theorem dX7_readItem_53 : decode cX7_readItem 53 = .ok (.iload_n 1, 1) := by decide +kernel
theorem dX7_readItem_54 : decode cX7_readItem 54 = .ok (.bipush 99, 2) := by decide +kernel
theorem dX7_readItem_56 : decode cX7_readItem 56 = .ok (.if_icmp .ne 7, 3) := by decide +kernel
theorem dX7_readItem_59 : decode cX7_readItem 59 = .ok (.iconst 1, 1) := by decide +kernel
theorem dX7_readItem_60 : decode cX7_readItem 60 = .ok (.goto 4, 3) := by decide +kernel
theorem dX7_readItem_63 : decode cX7_readItem 63 = .ok (.iconst 0, 1) := by decide +kernel
theorem dX7_readItem_64 : decode cX7_readItem 64 = .ok (.istore_n 2, 1) := by decide +kernel
theorem dX7_readItem_65 : decode cX7_readItem 65 = .ok (.aload_n 0, 1) := by decide +kernel
theorem dX7_readItem_66 : decode cX7_readItem 66 = .ok (.getfield 59, 3) := by decide +kernel
theorem dX7_readItem_69 : decode cX7_readItem 69 = .ok (.iconst 1, 1) := by decide +kernel
theorem dX7_readItem_70 : decode cX7_readItem 70 = .ok (.if_icmp .ne 7, 3) := by decide +kernel
theorem dX7_readItem_73 : decode cX7_readItem 73 = .ok (.iload_n 2, 1) := by decide +kernel
theorem dX7_readItem_74 : decode cX7_readItem 74 = .ok (.ifCond .ne 9, 3) := by decide +kernel
theorem dX7_readItem_77 : decode cX7_readItem 77 = .ok (.aload_n 0, 1) := by decide +kernel
theorem dX7_readItem_78 : decode cX7_readItem 78 = .ok (.iconst 1, 1) := by decide +kernel
theorem dX7_readItem_79 : decode cX7_readItem 79 = .ok (.putfield 69, 3) := by decide +kernel
theorem dX7_readItem_82 : decode cX7_readItem 82 = .ok (.return_, 1) := by decide +kernel
theorem dX7_readItem_83 : decode cX7_readItem 83 = .ok (.aload_n 0, 1) := by decide +kernel
theorem dX7_readItem_84 : decode cX7_readItem 84 = .ok (.invokevirtual 73, 3) := by decide +kernel
theorem dX7_readItem_87 : decode cX7_readItem 87 = .ok (.iload_n 1, 1) := by decide +kernel
theorem dX7_readItem_88 : decode cX7_readItem 88 = .ok (.bipush 103, 2) := by decide +kernel
theorem dX7_readItem_90 : decode cX7_readItem 90 = .ok (.if_icmp .ne 26, 3) := by decide +kernel
theorem dX7_readItem_93 : decode cX7_readItem 93 = .ok (.aload_n 0, 1) := by decide +kernel
theorem dX7_readItem_94 : decode cX7_readItem 94 = .ok (.aload_n 0, 1) := by decide +kernel
theorem dX7_readItem_95 : decode cX7_readItem 95 = .ok (.iconst 1, 1) := by decide +kernel
theorem dX7_readItem_96 : decode cX7_readItem 96 = .ok (.iconst 5, 1) := by decide +kernel
theorem dX7_readItem_97 : decode cX7_readItem 97 = .ok (.invokevirtual 79, 3) := by decide +kernel
theorem dX7_readItem_100 : decode cX7_readItem 100 = .ok (.putfield 76, 3) := by decide +kernel
theorem dX7_readItem_103 : decode cX7_readItem 103 = .ok (.aload_n 0, 1) := by decide +kernel
theorem dX7_readItem_104 : decode cX7_readItem 104 = .ok (.aload_n 0, 1) := by decide +kernel
theorem dX7_readItem_105 : decode cX7_readItem 105 = .ok (.iconst 1, 1) := by decide +kernel
theorem dX7_readItem_106 : decode cX7_readItem 106 = .ok (.iconst 4, 1) := by decide +kernel
theorem dX7_readItem_107 : decode cX7_readItem 107 = .ok (.invokevirtual 79, 3) := by decide +kernel
theorem dX7_readItem_110 : decode cX7_readItem 110 = .ok (.putfield 83, 3) := by decide +kernel
theorem dX7_readItem_113 : decode cX7_readItem 113 = .ok (.goto 101, 3) := by decide +kernel
theorem dX7_readItem_116 : decode cX7_readItem 116 = .ok (.iload_n 1, 1) := by decide +kernel
theorem dX7_readItem_117 : decode cX7_readItem 117 = .ok (.bipush 119, 2) := by decide +kernel
theorem dX7_readItem_119 : decode cX7_readItem 119 = .ok (.if_icmp .ne 16, 3) := by decide +kernel
theorem dX7_readItem_122 : decode cX7_readItem 122 = .ok (.aload_n 0, 1) := by decide +kernel
theorem dX7_readItem_123 : decode cX7_readItem 123 = .ok (.aload_n 0, 1) := by decide +kernel
theorem dX7_readItem_124 : decode cX7_readItem 124 = .ok (.iconst 0, 1) := by decide +kernel
theorem dX7_readItem_125 : decode cX7_readItem 125 = .ok (.iconst 1, 1) := by decide +kernel
theorem dX7_readItem_126 : decode cX7_readItem 126 = .ok (.invokevirtual 79, 3) := by decide +kernel
theorem dX7_readItem_129 : decode cX7_readItem 129 = .ok (.putfield 96, 3) := by decide +kernel
theorem dX7_readItem_132 : decode cX7_readItem 132 = .ok (.goto 82, 3) := by decide +kernel
theorem dX7_readItem_135 : decode cX7_readItem 135 = .ok (.iload_n 1, 1) := by decide +kernel
theorem dX7_readItem_136 : decode cX7_readItem 136 = .ok (.bipush 111, 2) := by decide +kernel
theorem dX7_readItem_138 : decode cX7_readItem 138 = .ok (.if_icmp .ne 47, 3) := by decide +kernel
theorem dX7_readItem_141 : decode cX7_readItem 141 = .ok (.aload_n 0, 1) := by decide +kernel
theorem dX7_readItem_142 : decode cX7_readItem 142 = .ok (.iconst 0, 1) := by decide +kernel
theorem dX7_readItem_143 : decode cX7_readItem 143 = .ok (.iconst 4, 1) := by decide +kernel
theorem dX7_readItem_144 : decode cX7_readItem 144 = .ok (.invokevirtual 79, 3) := by decide +kernel
theorem dX7_readItem_147 : decode cX7_readItem 147 = .ok (.istore_n 3, 1) := by decide +kernel
theorem dX7_readItem_148 : decode cX7_readItem 148 = .ok (.aload_n 0, 1) := by decide +kernel
theorem dX7_readItem_149 : decode cX7_readItem 149 = .ok (.iconst 0, 1) := by decide +kernel
theorem dX7_readItem_150 : decode cX7_readItem 150 = .ok (.invokevirtual 99, 3) := by decide +kernel
theorem dX7_readItem_153 : decode cX7_readItem 153 = .ok (.istore 4, 2) := by decide +kernel
theorem dX7_readItem_155 : decode cX7_readItem 155 = .ok (.aload_n 0, 1) := by decide +kernel
theorem dX7_readItem_156 : decode cX7_readItem 156 = .ok (.getfield 33, 3) := by decide +kernel
theorem dX7_readItem_159 : decode cX7_readItem 159 = .ok (.iload 4, 2) := by decide +kernel
theorem dX7_readItem_161 : decode cX7_readItem 161 = .ok (.aload_n 0, 1) := by decide +kernel
theorem dX7_readItem_162 : decode cX7_readItem 162 = .ok (.getfield 69, 3) := by decide +kernel
theorem dX7_readItem_165 : decode cX7_readItem 165 = .ok (.ifCond .eq 13, 3) := by decide +kernel
theorem dX7_readItem_168 : decode cX7_readItem 168 = .ok (.aload_n 0, 1) := by decide +kernel
theorem dX7_readItem_169 : decode cX7_readItem 169 = .ok (.getfield 33, 3) := by decide +kernel
theorem dX7_readItem_172 : decode cX7_readItem 172 = .ok (.iload 4, 2) := by decide +kernel
theorem dX7_readItem_174 : decode cX7_readItem 174 = .ok (.iaload, 1) := by decide +kernel
theorem dX7_readItem_175 : decode cX7_readItem 175 = .ok (.goto 6, 3) := by decide +kernel
theorem dX7_readItem_178 : decode cX7_readItem 178 = .ok (.iload_n 3, 1) := by decide +kernel
theorem dX7_readItem_179 : decode cX7_readItem 179 = .ok (.iconst 1, 1) := by decide +kernel
theorem dX7_readItem_180 : decode cX7_readItem 180 = .ok (.iadd, 1) := by decide +kernel
theorem dX7_readItem_181 : decode cX7_readItem 181 = .ok (.iastore, 1) := by decide +kernel
theorem dX7_readItem_182 : decode cX7_readItem 182 = .ok (.goto 32, 3) := by decide +kernel
theorem dX7_readItem_185 : decode cX7_readItem 185 = .ok (.aload_n 0, 1) := by decide +kernel
theorem dX7_readItem_186 : decode cX7_readItem 186 = .ok (.iconst 1, 1) := by decide +kernel
theorem dX7_readItem_187 : decode cX7_readItem 187 = .ok (.invokevirtual 99, 3) := by decide +kernel
theorem dX7_readItem_190 : decode cX7_readItem 190 = .ok (.istore_n 3, 1) := by decide +kernel
theorem dX7_readItem_191 : decode cX7_readItem 191 = .ok (.aload_n 0, 1) := by decide +kernel
theorem dX7_readItem_192 : decode cX7_readItem 192 = .ok (.dup, 1) := by decide +kernel
theorem dX7_readItem_193 : decode cX7_readItem 193 = .ok (.getfield 86, 3) := by decide +kernel
theorem dX7_readItem_196 : decode cX7_readItem 196 = .ok (.aload_n 0, 1) := by decide +kernel
theorem dX7_readItem_197 : decode cX7_readItem 197 = .ok (.getfield 69, 3) := by decide +kernel
theorem dX7_readItem_200 : decode cX7_readItem 200 = .ok (.ifCond .eq 7, 3) := by decide +kernel
theorem dX7_readItem_203 : decode cX7_readItem 203 = .ok (.iconst 0, 1) := by decide +kernel
theorem dX7_readItem_204 : decode cX7_readItem 204 = .ok (.goto 6, 3) := by decide +kernel
theorem dX7_readItem_207 : decode cX7_readItem 207 = .ok (.iconst 1, 1) := by decide +kernel
theorem dX7_readItem_208 : decode cX7_readItem 208 = .ok (.iload_n 3, 1) := by decide +kernel
theorem dX7_readItem_209 : decode cX7_readItem 209 = .ok (.ishl, 1) := by decide +kernel
theorem dX7_readItem_210 : decode cX7_readItem 210 = .ok (.ior, 1) := by decide +kernel
theorem dX7_readItem_211 : decode cX7_readItem 211 = .ok (.putfield 86, 3) := by decide +kernel
theorem dX7_readItem_214 : decode cX7_readItem 214 = .ok (.aload_n 0, 1) := by decide +kernel
theorem dX7_readItem_215 : decode cX7_readItem 215 = .ok (.aload_n 0, 1) := by decide +kernel
theorem dX7_readItem_216 : decode cX7_readItem 216 = .ok (.getfield 69, 3) := by decide +kernel
theorem dX7_readItem_219 : decode cX7_readItem 219 = .ok (.ifCond .ne 11, 3) := by decide +kernel
theorem dX7_readItem_222 : decode cX7_readItem 222 = .ok (.aload_n 0, 1) := by decide +kernel
theorem dX7_readItem_223 : decode cX7_readItem 223 = .ok (.getfield 59, 3) := by decide +kernel
theorem dX7_readItem_226 : decode cX7_readItem 226 = .ok (.iconst 3, 1) := by decide +kernel
theorem dX7_readItem_227 : decode cX7_readItem 227 = .ok (.if_icmp .eq 7, 3) := by decide +kernel
theorem dX7_readItem_230 : decode cX7_readItem 230 = .ok (.iconst 1, 1) := by decide +kernel
theorem dX7_readItem_231 : decode cX7_readItem 231 = .ok (.goto 4, 3) := by decide +kernel
theorem dX7_readItem_234 : decode cX7_readItem 234 = .ok (.iconst 0, 1) := by decide +kernel
theorem dX7_readItem_235 : decode cX7_readItem 235 = .ok (.putfield 69, 3) := by decide +kernel
theorem dX7_readItem_238 : decode cX7_readItem 238 = .ok (.aload_n 0, 1) := by decide +kernel
theorem dX7_readItem_239 : decode cX7_readItem 239 = .ok (.getfield 69, 3) := by decide +kernel
theorem dX7_readItem_242 : decode cX7_readItem 242 = .ok (.ifCond .ne 7, 3) := by decide +kernel
theorem dX7_readItem_245 : decode cX7_readItem 245 = .ok (.aload_n 0, 1) := by decide +kernel
theorem dX7_readItem_246 : decode cX7_readItem 246 = .ok (.invokevirtual 73, 3) := by decide +kernel
theorem dX7_readItem_249 : decode cX7_readItem 249 = .ok (.return_, 1) := by decide +kernel
theorem dX7_strand_0 : decode cX7_strand 0 = .ok (.aload_n 0, 1) := by decide +kernel
theorem dX7_strand_1 : decode cX7_strand 1 = .ok (.iconst 0, 1) := by decide +kernel
theorem dX7_strand_2 : decode cX7_strand 2 = .ok (.putfield 46, 3) := by decide +kernel
theorem dX7_strand_5 : decode cX7_strand 5 = .ok (.aload_n 0, 1) := by decide +kernel
theorem dX7_strand_6 : decode cX7_strand 6 = .ok (.iconst 0, 1) := by decide +kernel
theorem dX7_strand_7 : decode cX7_strand 7 = .ok (.putfield 69, 3) := by decide +kernel
theorem dX7_strand_10 : decode cX7_strand 10 = .ok (.aload_n 0, 1) := by decide +kernel
theorem dX7_strand_11 : decode cX7_strand 11 = .ok (.iconst 0, 1) := by decide +kernel
theorem dX7_strand_12 : decode cX7_strand 12 = .ok (.putfield 93, 3) := by decide +kernel
theorem dX7_strand_15 : decode cX7_strand 15 = .ok (.aload_n 0, 1) := by decide +kernel
theorem dX7_strand_16 : decode cX7_strand 16 = .ok (.iconst 3, 1) := by decide +kernel
theorem dX7_strand_17 : decode cX7_strand 17 = .ok (.putfield 76, 3) := by decide +kernel
theorem dX7_strand_20 : decode cX7_strand 20 = .ok (.aload_n 0, 1) := by decide +kernel
theorem dX7_strand_21 : decode cX7_strand 21 = .ok (.iconst 3, 1) := by decide +kernel
theorem dX7_strand_22 : decode cX7_strand 22 = .ok (.putfield 83, 3) := by decide +kernel
theorem dX7_strand_25 : decode cX7_strand 25 = .ok (.aload_n 0, 1) := by decide +kernel
theorem dX7_strand_26 : decode cX7_strand 26 = .ok (.iconst 0, 1) := by decide +kernel
theorem dX7_strand_27 : decode cX7_strand 27 = .ok (.putfield 86, 3) := by decide +kernel
theorem dX7_strand_30 : decode cX7_strand 30 = .ok (.aload_n 0, 1) := by decide +kernel
theorem dX7_strand_31 : decode cX7_strand 31 = .ok (.iconst (-1), 1) := by decide +kernel
theorem dX7_strand_32 : decode cX7_strand 32 = .ok (.putfield 96, 3) := by decide +kernel
theorem dX7_strand_35 : decode cX7_strand 35 = .ok (.iconst 0, 1) := by decide +kernel
theorem dX7_strand_36 : decode cX7_strand 36 = .ok (.istore_n 1, 1) := by decide +kernel
theorem dX7_strand_37 : decode cX7_strand 37 = .ok (.iload_n 1, 1) := by decide +kernel
theorem dX7_strand_38 : decode cX7_strand 38 = .ok (.bipush 20, 2) := by decide +kernel
theorem dX7_strand_40 : decode cX7_strand 40 = .ok (.if_icmp .ge 16, 3) := by decide +kernel
theorem dX7_strand_43 : decode cX7_strand 43 = .ok (.aload_n 0, 1) := by decide +kernel
theorem dX7_strand_44 : decode cX7_strand 44 = .ok (.getfield 33, 3) := by decide +kernel
theorem dX7_strand_47 : decode cX7_strand 47 = .ok (.iload_n 1, 1) := by decide +kernel
theorem dX7_strand_48 : decode cX7_strand 48 = .ok (.iconst 0, 1) := by decide +kernel
theorem dX7_strand_49 : decode cX7_strand 49 = .ok (.iastore, 1) := by decide +kernel
theorem dX7_strand_50 : decode cX7_strand 50 = .ok (.iinc 1 1, 3) := by decide +kernel
theorem dX7_strand_53 : decode cX7_strand 53 = .ok (.goto (-16), 3) := by decide +kernel
theorem dX7_strand_56 : decode cX7_strand 56 = .ok (.aload_n 0, 1) := by decide +kernel
theorem dX7_strand_57 : decode cX7_strand 57 = .ok (.invokevirtual 73, 3) := by decide +kernel
theorem dX7_strand_60 : decode cX7_strand 60 = .ok (.aload_n 0, 1) := by decide +kernel
theorem dX7_strand_61 : decode cX7_strand 61 = .ok (.getfield 59, 3) := by decide +kernel
theorem dX7_strand_64 : decode cX7_strand 64 = .ok (.ifCond .eq 27, 3) := by decide +kernel
theorem dX7_strand_67 : decode cX7_strand 67 = .ok (.aload_n 0, 1) := by decide +kernel
theorem dX7_strand_68 : decode cX7_strand 68 = .ok (.getfield 69, 3) := by decide +kernel
theorem dX7_strand_71 : decode cX7_strand 71 = .ok (.ifCond .ne 20, 3) := by decide +kernel
theorem dX7_strand_74 : decode cX7_strand 74 = .ok (.aload_n 0, 1) := by decide +kernel
theorem dX7_strand_75 : decode cX7_strand 75 = .ok (.invokevirtual 103, 3) := by decide +kernel
theorem dX7_strand_78 : decode cX7_strand 78 = .ok (.aload_n 0, 1) := by decide +kernel
theorem dX7_strand_79 : decode cX7_strand 79 = .ok (.dup, 1) := by decide +kernel
theorem dX7_strand_80 : decode cX7_strand 80 = .ok (.getfield 93, 3) := by decide +kernel
theorem dX7_strand_83 : decode cX7_strand 83 = .ok (.iconst 1, 1) := by decide +kernel
theorem dX7_strand_84 : decode cX7_strand 84 = .ok (.iadd, 1) := by decide +kernel
theorem dX7_strand_85 : decode cX7_strand 85 = .ok (.putfield 93, 3) := by decide +kernel
theorem dX7_strand_88 : decode cX7_strand 88 = .ok (.goto (-28), 3) := by decide +kernel
theorem dX7_strand_91 : decode cX7_strand 91 = .ok (.aload_n 0, 1) := by decide +kernel
theorem dX7_strand_92 : decode cX7_strand 92 = .ok (.getfield 69, 3) := by decide +kernel
theorem dX7_strand_95 : decode cX7_strand 95 = .ok (.ifCond .eq 11, 3) := by decide +kernel
theorem dX7_strand_98 : decode cX7_strand 98 = .ok (.bipush (-10), 2) := by decide +kernel
theorem dX7_strand_100 : decode cX7_strand 100 = .ok (.aload_n 0, 1) := by decide +kernel
theorem dX7_strand_101 : decode cX7_strand 101 = .ok (.getfield 53, 3) := by decide +kernel
theorem dX7_strand_104 : decode cX7_strand 104 = .ok (.isub, 1) := by decide +kernel
theorem dX7_strand_105 : decode cX7_strand 105 = .ok (.ireturn, 1) := by decide +kernel
theorem dX7_strand_106 : decode cX7_strand 106 = .ok (.aload_n 0, 1) := by decide +kernel
theorem dX7_strand_107 : decode cX7_strand 107 = .ok (.invokevirtual 106, 3) := by decide +kernel
theorem dX7_strand_110 : decode cX7_strand 110 = .ok (.aload_n 0, 1) := by decide +kernel
theorem dX7_strand_111 : decode cX7_strand 111 = .ok (.getfield 93, 3) := by decide +kernel
theorem dX7_strand_114 : decode cX7_strand 114 = .ok (.ireturn, 1) := by decide +kernel
theorem dX7_settles_0 : decode cX7_settles 0 = .ok (.aload_n 0, 1) := by decide +kernel
theorem dX7_settles_1 : decode cX7_settles 1 = .ok (.aload_n 0, 1) := by decide +kernel
theorem dX7_settles_2 : decode cX7_settles 2 = .ok (.getfield 76, 3) := by decide +kernel
theorem dX7_settles_5 : decode cX7_settles 5 = .ok (.putfield 7, 3) := by decide +kernel
theorem dX7_settles_8 : decode cX7_settles 8 = .ok (.aload_n 0, 1) := by decide +kernel
theorem dX7_settles_9 : decode cX7_settles 9 = .ok (.aload_n 0, 1) := by decide +kernel
theorem dX7_settles_10 : decode cX7_settles 10 = .ok (.getfield 83, 3) := by decide +kernel
theorem dX7_settles_13 : decode cX7_settles 13 = .ok (.putfield 13, 3) := by decide +kernel
theorem dX7_settles_16 : decode cX7_settles 16 = .ok (.iconst 0, 1) := by decide +kernel
theorem dX7_settles_17 : decode cX7_settles 17 = .ok (.istore_n 1, 1) := by decide +kernel
theorem dX7_settles_18 : decode cX7_settles 18 = .ok (.iload_n 1, 1) := by decide +kernel
theorem dX7_settles_19 : decode cX7_settles 19 = .ok (.sipush 254, 3) := by decide +kernel
theorem dX7_settles_22 : decode cX7_settles 22 = .ok (.if_icmp .ge 31, 3) := by decide +kernel
theorem dX7_settles_25 : decode cX7_settles 25 = .ok (.aload_n 0, 1) := by decide +kernel
theorem dX7_settles_26 : decode cX7_settles 26 = .ok (.getfield 16, 3) := by decide +kernel
theorem dX7_settles_29 : decode cX7_settles 29 = .ok (.iload_n 1, 1) := by decide +kernel
theorem dX7_settles_30 : decode cX7_settles 30 = .ok (.iload_n 1, 1) := by decide +kernel
theorem dX7_settles_31 : decode cX7_settles 31 = .ok (.bipush 20, 2) := by decide +kernel
theorem dX7_settles_33 : decode cX7_settles 33 = .ok (.if_icmp .ge 12, 3) := by decide +kernel
theorem dX7_settles_36 : decode cX7_settles 36 = .ok (.aload_n 0, 1) := by decide +kernel
theorem dX7_settles_37 : decode cX7_settles 37 = .ok (.getfield 33, 3) := by decide +kernel
theorem dX7_settles_40 : decode cX7_settles 40 = .ok (.iload_n 1, 1) := by decide +kernel
theorem dX7_settles_41 : decode cX7_settles 41 = .ok (.iaload, 1) := by decide +kernel
theorem dX7_settles_42 : decode cX7_settles 42 = .ok (.goto 4, 3) := by decide +kernel
theorem dX7_settles_45 : decode cX7_settles 45 = .ok (.iconst 0, 1) := by decide +kernel
theorem dX7_settles_46 : decode cX7_settles 46 = .ok (.iastore, 1) := by decide +kernel
theorem dX7_settles_47 : decode cX7_settles 47 = .ok (.iinc 1 1, 3) := by decide +kernel
theorem dX7_settles_50 : decode cX7_settles 50 = .ok (.goto (-32), 3) := by decide +kernel
theorem dX7_settles_53 : decode cX7_settles 53 = .ok (.aload_n 0, 1) := by decide +kernel
theorem dX7_settles_54 : decode cX7_settles 54 = .ok (.getfield 16, 3) := by decide +kernel
theorem dX7_settles_57 : decode cX7_settles 57 = .ok (.bipush 20, 2) := by decide +kernel
theorem dX7_settles_59 : decode cX7_settles 59 = .ok (.aload_n 0, 1) := by decide +kernel
theorem dX7_settles_60 : decode cX7_settles 60 = .ok (.getfield 86, 3) := by decide +kernel
theorem dX7_settles_63 : decode cX7_settles 63 = .ok (.iastore, 1) := by decide +kernel
theorem dX7_settles_64 : decode cX7_settles 64 = .ok (.aload_n 0, 1) := by decide +kernel
theorem dX7_settles_65 : decode cX7_settles 65 = .ok (.getfield 16, 3) := by decide +kernel
theorem dX7_settles_68 : decode cX7_settles 68 = .ok (.bipush 21, 2) := by decide +kernel
theorem dX7_settles_70 : decode cX7_settles 70 = .ok (.aload_n 0, 1) := by decide +kernel
theorem dX7_settles_71 : decode cX7_settles 71 = .ok (.getfield 96, 3) := by decide +kernel
theorem dX7_settles_74 : decode cX7_settles 74 = .ok (.ifCond .ge 7, 3) := by decide +kernel
theorem dX7_settles_77 : decode cX7_settles 77 = .ok (.iconst 0, 1) := by decide +kernel
theorem dX7_settles_78 : decode cX7_settles 78 = .ok (.goto 7, 3) := by decide +kernel
theorem dX7_settles_81 : decode cX7_settles 81 = .ok (.aload_n 0, 1) := by decide +kernel
theorem dX7_settles_82 : decode cX7_settles 82 = .ok (.getfield 96, 3) := by decide +kernel
theorem dX7_settles_85 : decode cX7_settles 85 = .ok (.iastore, 1) := by decide +kernel
theorem dX7_settles_86 : decode cX7_settles 86 = .ok (.aload_n 0, 1) := by decide +kernel
theorem dX7_settles_87 : decode cX7_settles 87 = .ok (.iconst 0, 1) := by decide +kernel
theorem dX7_settles_88 : decode cX7_settles 88 = .ok (.putfield 109, 3) := by decide +kernel
theorem dX7_settles_91 : decode cX7_settles 91 = .ok (.aload_n 0, 1) := by decide +kernel
theorem dX7_settles_92 : decode cX7_settles 92 = .ok (.getfield 23, 3) := by decide +kernel
theorem dX7_settles_95 : decode cX7_settles 95 = .ok (.iconst 0, 1) := by decide +kernel
theorem dX7_settles_96 : decode cX7_settles 96 = .ok (.iconst 0, 1) := by decide +kernel
theorem dX7_settles_97 : decode cX7_settles 97 = .ok (.bastore, 1) := by decide +kernel
theorem dX7_settles_98 : decode cX7_settles 98 = .ok (.aload_n 0, 1) := by decide +kernel
theorem dX7_settles_99 : decode cX7_settles 99 = .ok (.getfield 23, 3) := by decide +kernel
theorem dX7_settles_102 : decode cX7_settles 102 = .ok (.iconst 1, 1) := by decide +kernel
theorem dX7_settles_103 : decode cX7_settles 103 = .ok (.iconst 0, 1) := by decide +kernel
theorem dX7_settles_104 : decode cX7_settles 104 = .ok (.bastore, 1) := by decide +kernel
theorem dX7_settles_105 : decode cX7_settles 105 = .ok (.aload_n 0, 1) := by decide +kernel
theorem dX7_settles_106 : decode cX7_settles 106 = .ok (.iconst 0, 1) := by decide +kernel
theorem dX7_settles_107 : decode cX7_settles 107 = .ok (.putfield 43, 3) := by decide +kernel
theorem dX7_settles_110 : decode cX7_settles 110 = .ok (.return_, 1) := by decide +kernel
theorem dX7_isDry_0 : decode cX7_isDry 0 = .ok (.iload_n 1, 1) := by decide +kernel
theorem dX7_isDry_1 : decode cX7_isDry 1 = .ok (.iconst 5, 1) := by decide +kernel
theorem dX7_isDry_2 : decode cX7_isDry 2 = .ok (.idiv, 1) := by decide +kernel
theorem dX7_isDry_3 : decode cX7_isDry 3 = .ok (.aload_n 0, 1) := by decide +kernel
theorem dX7_isDry_4 : decode cX7_isDry 4 = .ok (.getfield 16, 3) := by decide +kernel
theorem dX7_isDry_7 : decode cX7_isDry 7 = .ok (.bipush 22, 2) := by decide +kernel
theorem dX7_isDry_9 : decode cX7_isDry 9 = .ok (.iaload, 1) := by decide +kernel
theorem dX7_isDry_10 : decode cX7_isDry 10 = .ok (.if_icmp .lt 7, 3) := by decide +kernel
theorem dX7_isDry_13 : decode cX7_isDry 13 = .ok (.iconst 1, 1) := by decide +kernel
theorem dX7_isDry_14 : decode cX7_isDry 14 = .ok (.goto 4, 3) := by decide +kernel
theorem dX7_isDry_17 : decode cX7_isDry 17 = .ok (.iconst 0, 1) := by decide +kernel
theorem dX7_isDry_18 : decode cX7_isDry 18 = .ok (.ireturn, 1) := by decide +kernel
theorem dX7_isCloth_0 : decode cX7_isCloth 0 = .ok (.aload_n 0, 1) := by decide +kernel
theorem dX7_isCloth_1 : decode cX7_isCloth 1 = .ok (.iload_n 2, 1) := by decide +kernel
theorem dX7_isCloth_2 : decode cX7_isCloth 2 = .ok (.iload_n 3, 1) := by decide +kernel
theorem dX7_isCloth_3 : decode cX7_isCloth 3 = .ok (.invokevirtual 112, 3) := by decide +kernel
theorem dX7_isCloth_6 : decode cX7_isCloth 6 = .ok (.ifCond .eq 19, 3) := by decide +kernel
theorem dX7_isCloth_9 : decode cX7_isCloth 9 = .ok (.iload_n 1, 1) := by decide +kernel
theorem dX7_isCloth_10 : decode cX7_isCloth 10 = .ok (.iconst 5, 1) := by decide +kernel
theorem dX7_isCloth_11 : decode cX7_isCloth 11 = .ok (.iload_n 3, 1) := by decide +kernel
theorem dX7_isCloth_12 : decode cX7_isCloth 12 = .ok (.imul, 1) := by decide +kernel
theorem dX7_isCloth_13 : decode cX7_isCloth 13 = .ok (.iload_n 2, 1) := by decide +kernel
theorem dX7_isCloth_14 : decode cX7_isCloth 14 = .ok (.iadd, 1) := by decide +kernel
theorem dX7_isCloth_15 : decode cX7_isCloth 15 = .ok (.invokestatic 89, 3) := by decide +kernel
theorem dX7_isCloth_18 : decode cX7_isCloth 18 = .ok (.ifCond .eq 7, 3) := by decide +kernel
theorem dX7_isCloth_21 : decode cX7_isCloth 21 = .ok (.iconst 1, 1) := by decide +kernel
theorem dX7_isCloth_22 : decode cX7_isCloth 22 = .ok (.goto 4, 3) := by decide +kernel
theorem dX7_isCloth_25 : decode cX7_isCloth 25 = .ok (.iconst 0, 1) := by decide +kernel
theorem dX7_isCloth_26 : decode cX7_isCloth 26 = .ok (.ireturn, 1) := by decide +kernel
theorem dX7_isStill_0 : decode cX7_isStill 0 = .ok (.iload 4, 2) := by decide +kernel
theorem dX7_isStill_2 : decode cX7_isStill 2 = .ok (.ifCond .ne 35, 3) := by decide +kernel
theorem dX7_isStill_5 : decode cX7_isStill 5 = .ok (.aload_n 0, 1) := by decide +kernel
theorem dX7_isStill_6 : decode cX7_isStill 6 = .ok (.iload_n 1, 1) := by decide +kernel
theorem dX7_isStill_7 : decode cX7_isStill 7 = .ok (.iload_n 2, 1) := by decide +kernel
theorem dX7_isStill_8 : decode cX7_isStill 8 = .ok (.iconst 1, 1) := by decide +kernel
theorem dX7_isStill_9 : decode cX7_isStill 9 = .ok (.isub, 1) := by decide +kernel
theorem dX7_isStill_10 : decode cX7_isStill 10 = .ok (.iload_n 3, 1) := by decide +kernel
theorem dX7_isStill_11 : decode cX7_isStill 11 = .ok (.invokevirtual 115, 3) := by decide +kernel
theorem dX7_isStill_14 : decode cX7_isStill 14 = .ok (.ifCond .ne 15, 3) := by decide +kernel
theorem dX7_isStill_17 : decode cX7_isStill 17 = .ok (.aload_n 0, 1) := by decide +kernel
theorem dX7_isStill_18 : decode cX7_isStill 18 = .ok (.iload_n 1, 1) := by decide +kernel
theorem dX7_isStill_19 : decode cX7_isStill 19 = .ok (.iload_n 2, 1) := by decide +kernel
theorem dX7_isStill_20 : decode cX7_isStill 20 = .ok (.iconst 2, 1) := by decide +kernel
theorem dX7_isStill_21 : decode cX7_isStill 21 = .ok (.isub, 1) := by decide +kernel
theorem dX7_isStill_22 : decode cX7_isStill 22 = .ok (.iload_n 3, 1) := by decide +kernel
theorem dX7_isStill_23 : decode cX7_isStill 23 = .ok (.invokevirtual 115, 3) := by decide +kernel
theorem dX7_isStill_26 : decode cX7_isStill 26 = .ok (.ifCond .eq 7, 3) := by decide +kernel
theorem dX7_isStill_29 : decode cX7_isStill 29 = .ok (.iconst 1, 1) := by decide +kernel
theorem dX7_isStill_30 : decode cX7_isStill 30 = .ok (.goto 34, 3) := by decide +kernel
theorem dX7_isStill_33 : decode cX7_isStill 33 = .ok (.iconst 0, 1) := by decide +kernel
theorem dX7_isStill_34 : decode cX7_isStill 34 = .ok (.goto 30, 3) := by decide +kernel
theorem dX7_isStill_37 : decode cX7_isStill 37 = .ok (.aload_n 0, 1) := by decide +kernel
theorem dX7_isStill_38 : decode cX7_isStill 38 = .ok (.iload_n 1, 1) := by decide +kernel
theorem dX7_isStill_39 : decode cX7_isStill 39 = .ok (.iload_n 2, 1) := by decide +kernel
theorem dX7_isStill_40 : decode cX7_isStill 40 = .ok (.iload_n 3, 1) := by decide +kernel
theorem dX7_isStill_41 : decode cX7_isStill 41 = .ok (.invokevirtual 115, 3) := by decide +kernel
theorem dX7_isStill_44 : decode cX7_isStill 44 = .ok (.ifCond .ne 15, 3) := by decide +kernel
theorem dX7_isStill_47 : decode cX7_isStill 47 = .ok (.aload_n 0, 1) := by decide +kernel
theorem dX7_isStill_48 : decode cX7_isStill 48 = .ok (.iload_n 1, 1) := by decide +kernel
theorem dX7_isStill_49 : decode cX7_isStill 49 = .ok (.iload_n 2, 1) := by decide +kernel
theorem dX7_isStill_50 : decode cX7_isStill 50 = .ok (.iconst 1, 1) := by decide +kernel
theorem dX7_isStill_51 : decode cX7_isStill 51 = .ok (.iadd, 1) := by decide +kernel
theorem dX7_isStill_52 : decode cX7_isStill 52 = .ok (.iload_n 3, 1) := by decide +kernel
theorem dX7_isStill_53 : decode cX7_isStill 53 = .ok (.invokevirtual 115, 3) := by decide +kernel
theorem dX7_isStill_56 : decode cX7_isStill 56 = .ok (.ifCond .eq 7, 3) := by decide +kernel
theorem dX7_isStill_59 : decode cX7_isStill 59 = .ok (.iconst 1, 1) := by decide +kernel
theorem dX7_isStill_60 : decode cX7_isStill 60 = .ok (.goto 4, 3) := by decide +kernel
theorem dX7_isStill_63 : decode cX7_isStill 63 = .ok (.iconst 0, 1) := by decide +kernel
theorem dX7_isStill_64 : decode cX7_isStill 64 = .ok (.istore 5, 2) := by decide +kernel
theorem dX7_isStill_66 : decode cX7_isStill 66 = .ok (.iload 5, 2) := by decide +kernel
theorem dX7_isStill_68 : decode cX7_isStill 68 = .ok (.ifCond .eq 18, 3) := by decide +kernel
theorem dX7_isStill_71 : decode cX7_isStill 71 = .ok (.iload_n 3, 1) := by decide +kernel
theorem dX7_isStill_72 : decode cX7_isStill 72 = .ok (.aload_n 0, 1) := by decide +kernel
theorem dX7_isStill_73 : decode cX7_isStill 73 = .ok (.getfield 16, 3) := by decide +kernel
theorem dX7_isStill_76 : decode cX7_isStill 76 = .ok (.bipush 22, 2) := by decide +kernel
theorem dX7_isStill_78 : decode cX7_isStill 78 = .ok (.iaload, 1) := by decide +kernel
theorem dX7_isStill_79 : decode cX7_isStill 79 = .ok (.if_icmp .lt 7, 3) := by decide +kernel
theorem dX7_isStill_82 : decode cX7_isStill 82 = .ok (.iconst 1, 1) := by decide +kernel
theorem dX7_isStill_83 : decode cX7_isStill 83 = .ok (.goto 4, 3) := by decide +kernel
theorem dX7_isStill_86 : decode cX7_isStill 86 = .ok (.iconst 0, 1) := by decide +kernel
theorem dX7_isStill_87 : decode cX7_isStill 87 = .ok (.ireturn, 1) := by decide +kernel
theorem dX7_stillOnes_0 : decode cX7_stillOnes 0 = .ok (.iconst 0, 1) := by decide +kernel
theorem dX7_stillOnes_1 : decode cX7_stillOnes 1 = .ok (.istore_n 3, 1) := by decide +kernel
theorem dX7_stillOnes_2 : decode cX7_stillOnes 2 = .ok (.iconst 0, 1) := by decide +kernel
theorem dX7_stillOnes_3 : decode cX7_stillOnes 3 = .ok (.istore 4, 2) := by decide +kernel
theorem dX7_stillOnes_5 : decode cX7_stillOnes 5 = .ok (.iload 4, 2) := by decide +kernel
theorem dX7_stillOnes_7 : decode cX7_stillOnes 7 = .ok (.aload_n 0, 1) := by decide +kernel
theorem dX7_stillOnes_8 : decode cX7_stillOnes 8 = .ok (.getfield 13, 3) := by decide +kernel
theorem dX7_stillOnes_11 : decode cX7_stillOnes 11 = .ok (.if_icmp .ge 56, 3) := by decide +kernel
theorem dX7_stillOnes_14 : decode cX7_stillOnes 14 = .ok (.iconst 0, 1) := by decide +kernel
theorem dX7_stillOnes_15 : decode cX7_stillOnes 15 = .ok (.istore 5, 2) := by decide +kernel
theorem dX7_stillOnes_17 : decode cX7_stillOnes 17 = .ok (.iload 5, 2) := by decide +kernel
theorem dX7_stillOnes_19 : decode cX7_stillOnes 19 = .ok (.aload_n 0, 1) := by decide +kernel
theorem dX7_stillOnes_20 : decode cX7_stillOnes 20 = .ok (.getfield 7, 3) := by decide +kernel
theorem dX7_stillOnes_23 : decode cX7_stillOnes 23 = .ok (.if_icmp .ge 38, 3) := by decide +kernel
theorem dX7_stillOnes_26 : decode cX7_stillOnes 26 = .ok (.iload_n 3, 1) := by decide +kernel
theorem dX7_stillOnes_27 : decode cX7_stillOnes 27 = .ok (.aload_n 0, 1) := by decide +kernel
theorem dX7_stillOnes_28 : decode cX7_stillOnes 28 = .ok (.iload_n 1, 1) := by decide +kernel
theorem dX7_stillOnes_29 : decode cX7_stillOnes 29 = .ok (.iload 5, 2) := by decide +kernel
theorem dX7_stillOnes_31 : decode cX7_stillOnes 31 = .ok (.iload 4, 2) := by decide +kernel
theorem dX7_stillOnes_33 : decode cX7_stillOnes 33 = .ok (.iload_n 2, 1) := by decide +kernel
theorem dX7_stillOnes_34 : decode cX7_stillOnes 34 = .ok (.invokevirtual 118, 3) := by decide +kernel
theorem dX7_stillOnes_37 : decode cX7_stillOnes 37 = .ok (.ifCond .eq 15, 3) := by decide +kernel
theorem dX7_stillOnes_40 : decode cX7_stillOnes 40 = .ok (.iconst 1, 1) := by decide +kernel
theorem dX7_stillOnes_41 : decode cX7_stillOnes 41 = .ok (.iconst 5, 1) := by decide +kernel
theorem dX7_stillOnes_42 : decode cX7_stillOnes 42 = .ok (.iload 4, 2) := by decide +kernel
theorem dX7_stillOnes_44 : decode cX7_stillOnes 44 = .ok (.imul, 1) := by decide +kernel
theorem dX7_stillOnes_45 : decode cX7_stillOnes 45 = .ok (.iload 5, 2) := by decide +kernel
theorem dX7_stillOnes_47 : decode cX7_stillOnes 47 = .ok (.iadd, 1) := by decide +kernel
theorem dX7_stillOnes_48 : decode cX7_stillOnes 48 = .ok (.ishl, 1) := by decide +kernel
theorem dX7_stillOnes_49 : decode cX7_stillOnes 49 = .ok (.goto 4, 3) := by decide +kernel
theorem dX7_stillOnes_52 : decode cX7_stillOnes 52 = .ok (.iconst 0, 1) := by decide +kernel
theorem dX7_stillOnes_53 : decode cX7_stillOnes 53 = .ok (.ior, 1) := by decide +kernel
theorem dX7_stillOnes_54 : decode cX7_stillOnes 54 = .ok (.istore_n 3, 1) := by decide +kernel
theorem dX7_stillOnes_55 : decode cX7_stillOnes 55 = .ok (.iinc 5 1, 3) := by decide +kernel
theorem dX7_stillOnes_58 : decode cX7_stillOnes 58 = .ok (.goto (-41), 3) := by decide +kernel
theorem dX7_stillOnes_61 : decode cX7_stillOnes 61 = .ok (.iinc 4 1, 3) := by decide +kernel
theorem dX7_stillOnes_64 : decode cX7_stillOnes 64 = .ok (.goto (-59), 3) := by decide +kernel
theorem dX7_stillOnes_67 : decode cX7_stillOnes 67 = .ok (.iload_n 3, 1) := by decide +kernel
theorem dX7_stillOnes_68 : decode cX7_stillOnes 68 = .ok (.ireturn, 1) := by decide +kernel
theorem dX7_heldBy_0 : decode cX7_heldBy 0 = .ok (.iconst 0, 1) := by decide +kernel
theorem dX7_heldBy_1 : decode cX7_heldBy 1 = .ok (.istore_n 2, 1) := by decide +kernel
theorem dX7_heldBy_2 : decode cX7_heldBy 2 = .ok (.iconst 0, 1) := by decide +kernel
theorem dX7_heldBy_3 : decode cX7_heldBy 3 = .ok (.istore_n 3, 1) := by decide +kernel
theorem dX7_heldBy_4 : decode cX7_heldBy 4 = .ok (.iload_n 3, 1) := by decide +kernel
theorem dX7_heldBy_5 : decode cX7_heldBy 5 = .ok (.bipush 20, 2) := by decide +kernel
theorem dX7_heldBy_7 : decode cX7_heldBy 7 = .ok (.if_icmp .ge 31, 3) := by decide +kernel
theorem dX7_heldBy_10 : decode cX7_heldBy 10 = .ok (.iload_n 2, 1) := by decide +kernel
theorem dX7_heldBy_11 : decode cX7_heldBy 11 = .ok (.aload_n 0, 1) := by decide +kernel
theorem dX7_heldBy_12 : decode cX7_heldBy 12 = .ok (.getfield 16, 3) := by decide +kernel
theorem dX7_heldBy_15 : decode cX7_heldBy 15 = .ok (.iload_n 3, 1) := by decide +kernel
theorem dX7_heldBy_16 : decode cX7_heldBy 16 = .ok (.iaload, 1) := by decide +kernel
theorem dX7_heldBy_17 : decode cX7_heldBy 17 = .ok (.iload_n 1, 1) := by decide +kernel
theorem dX7_heldBy_18 : decode cX7_heldBy 18 = .ok (.iconst 1, 1) := by decide +kernel
theorem dX7_heldBy_19 : decode cX7_heldBy 19 = .ok (.iadd, 1) := by decide +kernel
theorem dX7_heldBy_20 : decode cX7_heldBy 20 = .ok (.if_icmp .ne 9, 3) := by decide +kernel
theorem dX7_heldBy_23 : decode cX7_heldBy 23 = .ok (.iconst 1, 1) := by decide +kernel
theorem dX7_heldBy_24 : decode cX7_heldBy 24 = .ok (.iload_n 3, 1) := by decide +kernel
theorem dX7_heldBy_25 : decode cX7_heldBy 25 = .ok (.ishl, 1) := by decide +kernel
theorem dX7_heldBy_26 : decode cX7_heldBy 26 = .ok (.goto 4, 3) := by decide +kernel
theorem dX7_heldBy_29 : decode cX7_heldBy 29 = .ok (.iconst 0, 1) := by decide +kernel
theorem dX7_heldBy_30 : decode cX7_heldBy 30 = .ok (.ior, 1) := by decide +kernel
theorem dX7_heldBy_31 : decode cX7_heldBy 31 = .ok (.istore_n 2, 1) := by decide +kernel
theorem dX7_heldBy_32 : decode cX7_heldBy 32 = .ok (.iinc 3 1, 3) := by decide +kernel
theorem dX7_heldBy_35 : decode cX7_heldBy 35 = .ok (.goto (-31), 3) := by decide +kernel
theorem dX7_heldBy_38 : decode cX7_heldBy 38 = .ok (.iload_n 2, 1) := by decide +kernel
theorem dX7_heldBy_39 : decode cX7_heldBy 39 = .ok (.ireturn, 1) := by decide +kernel
theorem dX7_losesOf_0 : decode cX7_losesOf 0 = .ok (.aload_n 0, 1) := by decide +kernel
theorem dX7_losesOf_1 : decode cX7_losesOf 1 = .ok (.iload_n 1, 1) := by decide +kernel
theorem dX7_losesOf_2 : decode cX7_losesOf 2 = .ok (.invokevirtual 122, 3) := by decide +kernel
theorem dX7_losesOf_5 : decode cX7_losesOf 5 = .ok (.istore_n 2, 1) := by decide +kernel
theorem dX7_losesOf_6 : decode cX7_losesOf 6 = .ok (.iconst 0, 1) := by decide +kernel
theorem dX7_losesOf_7 : decode cX7_losesOf 7 = .ok (.istore_n 3, 1) := by decide +kernel
theorem dX7_losesOf_8 : decode cX7_losesOf 8 = .ok (.iload_n 3, 1) := by decide +kernel
theorem dX7_losesOf_9 : decode cX7_losesOf 9 = .ok (.bipush 20, 2) := by decide +kernel
theorem dX7_losesOf_11 : decode cX7_losesOf 11 = .ok (.if_icmp .ge 31, 3) := by decide +kernel
theorem dX7_losesOf_14 : decode cX7_losesOf 14 = .ok (.iload_n 2, 1) := by decide +kernel
theorem dX7_losesOf_15 : decode cX7_losesOf 15 = .ok (.iload_n 3, 1) := by decide +kernel
theorem dX7_losesOf_16 : decode cX7_losesOf 16 = .ok (.invokestatic 89, 3) := by decide +kernel
theorem dX7_losesOf_19 : decode cX7_losesOf 19 = .ok (.ifCond .eq 17, 3) := by decide +kernel
theorem dX7_losesOf_22 : decode cX7_losesOf 22 = .ok (.iload_n 3, 1) := by decide +kernel
theorem dX7_losesOf_23 : decode cX7_losesOf 23 = .ok (.iconst 5, 1) := by decide +kernel
theorem dX7_losesOf_24 : decode cX7_losesOf 24 = .ok (.idiv, 1) := by decide +kernel
theorem dX7_losesOf_25 : decode cX7_losesOf 25 = .ok (.aload_n 0, 1) := by decide +kernel
theorem dX7_losesOf_26 : decode cX7_losesOf 26 = .ok (.getfield 16, 3) := by decide +kernel
theorem dX7_losesOf_29 : decode cX7_losesOf 29 = .ok (.bipush 22, 2) := by decide +kernel
theorem dX7_losesOf_31 : decode cX7_losesOf 31 = .ok (.iaload, 1) := by decide +kernel
theorem dX7_losesOf_32 : decode cX7_losesOf 32 = .ok (.isub, 1) := by decide +kernel
theorem dX7_losesOf_33 : decode cX7_losesOf 33 = .ok (.iconst 1, 1) := by decide +kernel
theorem dX7_losesOf_34 : decode cX7_losesOf 34 = .ok (.iadd, 1) := by decide +kernel
theorem dX7_losesOf_35 : decode cX7_losesOf 35 = .ok (.ireturn, 1) := by decide +kernel
theorem dX7_losesOf_36 : decode cX7_losesOf 36 = .ok (.iinc 3 1, 3) := by decide +kernel
theorem dX7_losesOf_39 : decode cX7_losesOf 39 = .ok (.goto (-31), 3) := by decide +kernel
theorem dX7_losesOf_42 : decode cX7_losesOf 42 = .ok (.bipush (-9), 2) := by decide +kernel
theorem dX7_losesOf_44 : decode cX7_losesOf 44 = .ok (.ireturn, 1) := by decide +kernel
theorem dX7_cell_0 : decode cX7_cell 0 = .ok (.aload_n 0, 1) := by decide +kernel
theorem dX7_cell_1 : decode cX7_cell 1 = .ok (.iload_n 1, 1) := by decide +kernel
theorem dX7_cell_2 : decode cX7_cell 2 = .ok (.iload_n 2, 1) := by decide +kernel
theorem dX7_cell_3 : decode cX7_cell 3 = .ok (.invokevirtual 112, 3) := by decide +kernel
theorem dX7_cell_6 : decode cX7_cell 6 = .ok (.ifCond .ne 5, 3) := by decide +kernel
theorem dX7_cell_9 : decode cX7_cell 9 = .ok (.iconst (-1), 1) := by decide +kernel
theorem dX7_cell_10 : decode cX7_cell 10 = .ok (.ireturn, 1) := by decide +kernel
theorem dX7_cell_11 : decode cX7_cell 11 = .ok (.iconst 5, 1) := by decide +kernel
theorem dX7_cell_12 : decode cX7_cell 12 = .ok (.iload_n 2, 1) := by decide +kernel
theorem dX7_cell_13 : decode cX7_cell 13 = .ok (.imul, 1) := by decide +kernel
theorem dX7_cell_14 : decode cX7_cell 14 = .ok (.iload_n 1, 1) := by decide +kernel
theorem dX7_cell_15 : decode cX7_cell 15 = .ok (.iadd, 1) := by decide +kernel
theorem dX7_cell_16 : decode cX7_cell 16 = .ok (.istore 4, 2) := by decide +kernel
theorem dX7_cell_18 : decode cX7_cell 18 = .ok (.iload_n 3, 1) := by decide +kernel
theorem dX7_cell_19 : decode cX7_cell 19 = .ok (.tableswitch 119 0 4 #[33, 58, 79, 94, 94], 33) := by decide +kernel
theorem dX7_cell_52 : decode cX7_cell 52 = .ok (.aload_n 0, 1) := by decide +kernel
theorem dX7_cell_53 : decode cX7_cell 53 = .ok (.getfield 16, 3) := by decide +kernel
theorem dX7_cell_56 : decode cX7_cell 56 = .ok (.iload 4, 2) := by decide +kernel
theorem dX7_cell_58 : decode cX7_cell 58 = .ok (.iaload, 1) := by decide +kernel
theorem dX7_cell_59 : decode cX7_cell 59 = .ok (.ifCond .ne 8, 3) := by decide +kernel
theorem dX7_cell_62 : decode cX7_cell 62 = .ok (.bipush (-9), 2) := by decide +kernel
theorem dX7_cell_64 : decode cX7_cell 64 = .ok (.goto 12, 3) := by decide +kernel
theorem dX7_cell_67 : decode cX7_cell 67 = .ok (.aload_n 0, 1) := by decide +kernel
theorem dX7_cell_68 : decode cX7_cell 68 = .ok (.getfield 16, 3) := by decide +kernel
theorem dX7_cell_71 : decode cX7_cell 71 = .ok (.iload 4, 2) := by decide +kernel
theorem dX7_cell_73 : decode cX7_cell 73 = .ok (.iaload, 1) := by decide +kernel
theorem dX7_cell_74 : decode cX7_cell 74 = .ok (.iconst 1, 1) := by decide +kernel
theorem dX7_cell_75 : decode cX7_cell 75 = .ok (.isub, 1) := by decide +kernel
theorem dX7_cell_76 : decode cX7_cell 76 = .ok (.ireturn, 1) := by decide +kernel
theorem dX7_cell_77 : decode cX7_cell 77 = .ok (.aload_n 0, 1) := by decide +kernel
theorem dX7_cell_78 : decode cX7_cell 78 = .ok (.getfield 16, 3) := by decide +kernel
theorem dX7_cell_81 : decode cX7_cell 81 = .ok (.bipush 20, 2) := by decide +kernel
theorem dX7_cell_83 : decode cX7_cell 83 = .ok (.iaload, 1) := by decide +kernel
theorem dX7_cell_84 : decode cX7_cell 84 = .ok (.iload 4, 2) := by decide +kernel
theorem dX7_cell_86 : decode cX7_cell 86 = .ok (.invokestatic 89, 3) := by decide +kernel
theorem dX7_cell_89 : decode cX7_cell 89 = .ok (.ifCond .eq 7, 3) := by decide +kernel
theorem dX7_cell_92 : decode cX7_cell 92 = .ok (.iconst 1, 1) := by decide +kernel
theorem dX7_cell_93 : decode cX7_cell 93 = .ok (.goto 4, 3) := by decide +kernel
theorem dX7_cell_96 : decode cX7_cell 96 = .ok (.iconst 0, 1) := by decide +kernel
theorem dX7_cell_97 : decode cX7_cell 97 = .ok (.ireturn, 1) := by decide +kernel
theorem dX7_cell_98 : decode cX7_cell 98 = .ok (.aload_n 0, 1) := by decide +kernel
theorem dX7_cell_99 : decode cX7_cell 99 = .ok (.iload 4, 2) := by decide +kernel
theorem dX7_cell_101 : decode cX7_cell 101 = .ok (.invokevirtual 125, 3) := by decide +kernel
theorem dX7_cell_104 : decode cX7_cell 104 = .ok (.ifCond .eq 7, 3) := by decide +kernel
theorem dX7_cell_107 : decode cX7_cell 107 = .ok (.iconst 1, 1) := by decide +kernel
theorem dX7_cell_108 : decode cX7_cell 108 = .ok (.goto 4, 3) := by decide +kernel
theorem dX7_cell_111 : decode cX7_cell 111 = .ok (.iconst 0, 1) := by decide +kernel
theorem dX7_cell_112 : decode cX7_cell 112 = .ok (.ireturn, 1) := by decide +kernel
theorem dX7_cell_113 : decode cX7_cell 113 = .ok (.aload_n 0, 1) := by decide +kernel
theorem dX7_cell_114 : decode cX7_cell 114 = .ok (.aload_n 0, 1) := by decide +kernel
theorem dX7_cell_115 : decode cX7_cell 115 = .ok (.getfield 16, 3) := by decide +kernel
theorem dX7_cell_118 : decode cX7_cell 118 = .ok (.bipush 20, 2) := by decide +kernel
theorem dX7_cell_120 : decode cX7_cell 120 = .ok (.iaload, 1) := by decide +kernel
theorem dX7_cell_121 : decode cX7_cell 121 = .ok (.iload_n 1, 1) := by decide +kernel
theorem dX7_cell_122 : decode cX7_cell 122 = .ok (.iload_n 2, 1) := by decide +kernel
theorem dX7_cell_123 : decode cX7_cell 123 = .ok (.iload_n 3, 1) := by decide +kernel
theorem dX7_cell_124 : decode cX7_cell 124 = .ok (.iconst 3, 1) := by decide +kernel
theorem dX7_cell_125 : decode cX7_cell 125 = .ok (.isub, 1) := by decide +kernel
theorem dX7_cell_126 : decode cX7_cell 126 = .ok (.invokevirtual 118, 3) := by decide +kernel
theorem dX7_cell_129 : decode cX7_cell 129 = .ok (.ifCond .eq 7, 3) := by decide +kernel
theorem dX7_cell_132 : decode cX7_cell 132 = .ok (.iconst 1, 1) := by decide +kernel
theorem dX7_cell_133 : decode cX7_cell 133 = .ok (.goto 4, 3) := by decide +kernel
theorem dX7_cell_136 : decode cX7_cell 136 = .ok (.iconst 0, 1) := by decide +kernel
theorem dX7_cell_137 : decode cX7_cell 137 = .ok (.ireturn, 1) := by decide +kernel
theorem dX7_cell_138 : decode cX7_cell 138 = .ok (.iconst (-1), 1) := by decide +kernel
theorem dX7_cell_139 : decode cX7_cell 139 = .ok (.ireturn, 1) := by decide +kernel
theorem dX7_family_0 : decode cX7_family 0 = .ok (.iload_n 1, 1) := by decide +kernel
theorem dX7_family_1 : decode cX7_family 1 = .ok (.invokestatic 128, 3) := by decide +kernel
theorem dX7_family_4 : decode cX7_family 4 = .ok (.ifCond .ne 5, 3) := by decide +kernel
theorem dX7_family_7 : decode cX7_family 7 = .ok (.iconst (-1), 1) := by decide +kernel
theorem dX7_family_8 : decode cX7_family 8 = .ok (.ireturn, 1) := by decide +kernel
theorem dX7_family_9 : decode cX7_family 9 = .ok (.iload_n 2, 1) := by decide +kernel
theorem dX7_family_10 : decode cX7_family 10 = .ok (.tableswitch 66 0 2 #[26, 32, 60], 26) := by decide +kernel
theorem dX7_family_36 : decode cX7_family 36 = .ok (.aload_n 0, 1) := by decide +kernel
theorem dX7_family_37 : decode cX7_family 37 = .ok (.iload_n 1, 1) := by decide +kernel
theorem dX7_family_38 : decode cX7_family 38 = .ok (.invokevirtual 122, 3) := by decide +kernel
theorem dX7_family_41 : decode cX7_family 41 = .ok (.ireturn, 1) := by decide +kernel
theorem dX7_family_42 : decode cX7_family 42 = .ok (.aload_n 0, 1) := by decide +kernel
theorem dX7_family_43 : decode cX7_family 43 = .ok (.iload_n 1, 1) := by decide +kernel
theorem dX7_family_44 : decode cX7_family 44 = .ok (.invokevirtual 122, 3) := by decide +kernel
theorem dX7_family_47 : decode cX7_family 47 = .ok (.aload_n 0, 1) := by decide +kernel
theorem dX7_family_48 : decode cX7_family 48 = .ok (.aload_n 0, 1) := by decide +kernel
theorem dX7_family_49 : decode cX7_family 49 = .ok (.getfield 16, 3) := by decide +kernel
theorem dX7_family_52 : decode cX7_family 52 = .ok (.bipush 20, 2) := by decide +kernel
theorem dX7_family_54 : decode cX7_family 54 = .ok (.iaload, 1) := by decide +kernel
theorem dX7_family_55 : decode cX7_family 55 = .ok (.aload_n 0, 1) := by decide +kernel
theorem dX7_family_56 : decode cX7_family 56 = .ok (.getfield 16, 3) := by decide +kernel
theorem dX7_family_59 : decode cX7_family 59 = .ok (.bipush 21, 2) := by decide +kernel
theorem dX7_family_61 : decode cX7_family 61 = .ok (.iaload, 1) := by decide +kernel
theorem dX7_family_62 : decode cX7_family 62 = .ok (.invokevirtual 131, 3) := by decide +kernel
theorem dX7_family_65 : decode cX7_family 65 = .ok (.iand, 1) := by decide +kernel
theorem dX7_family_66 : decode cX7_family 66 = .ok (.invokestatic 134, 3) := by decide +kernel
theorem dX7_family_69 : decode cX7_family 69 = .ok (.ireturn, 1) := by decide +kernel
theorem dX7_family_70 : decode cX7_family 70 = .ok (.aload_n 0, 1) := by decide +kernel
theorem dX7_family_71 : decode cX7_family 71 = .ok (.iload_n 1, 1) := by decide +kernel
theorem dX7_family_72 : decode cX7_family 72 = .ok (.invokevirtual 137, 3) := by decide +kernel
theorem dX7_family_75 : decode cX7_family 75 = .ok (.ireturn, 1) := by decide +kernel
theorem dX7_family_76 : decode cX7_family 76 = .ok (.iconst (-1), 1) := by decide +kernel
theorem dX7_family_77 : decode cX7_family 77 = .ok (.ireturn, 1) := by decide +kernel
theorem dX7_remembers_0 : decode cX7_remembers 0 = .ok (.aload_n 0, 1) := by decide +kernel
theorem dX7_remembers_1 : decode cX7_remembers 1 = .ok (.getfield 16, 3) := by decide +kernel
theorem dX7_remembers_4 : decode cX7_remembers 4 = .ok (.bipush 23, 2) := by decide +kernel
theorem dX7_remembers_6 : decode cX7_remembers 6 = .ok (.iaload, 1) := by decide +kernel
theorem dX7_remembers_7 : decode cX7_remembers 7 = .ok (.bipush 10, 2) := by decide +kernel
theorem dX7_remembers_9 : decode cX7_remembers 9 = .ok (.if_icmp .ne 45, 3) := by decide +kernel
theorem dX7_remembers_12 : decode cX7_remembers 12 = .ok (.bipush 24, 2) := by decide +kernel
theorem dX7_remembers_14 : decode cX7_remembers 14 = .ok (.istore_n 1, 1) := by decide +kernel
theorem dX7_remembers_15 : decode cX7_remembers 15 = .ok (.iload_n 1, 1) := by decide +kernel
theorem dX7_remembers_16 : decode cX7_remembers 16 = .ok (.sipush 231, 3) := by decide +kernel
theorem dX7_remembers_19 : decode cX7_remembers 19 = .ok (.if_icmp .ge 24, 3) := by decide +kernel
theorem dX7_remembers_22 : decode cX7_remembers 22 = .ok (.aload_n 0, 1) := by decide +kernel
theorem dX7_remembers_23 : decode cX7_remembers 23 = .ok (.getfield 16, 3) := by decide +kernel
theorem dX7_remembers_26 : decode cX7_remembers 26 = .ok (.iload_n 1, 1) := by decide +kernel
theorem dX7_remembers_27 : decode cX7_remembers 27 = .ok (.aload_n 0, 1) := by decide +kernel
theorem dX7_remembers_28 : decode cX7_remembers 28 = .ok (.getfield 16, 3) := by decide +kernel
theorem dX7_remembers_31 : decode cX7_remembers 31 = .ok (.iload_n 1, 1) := by decide +kernel
theorem dX7_remembers_32 : decode cX7_remembers 32 = .ok (.bipush 23, 2) := by decide +kernel
theorem dX7_remembers_34 : decode cX7_remembers 34 = .ok (.iadd, 1) := by decide +kernel
theorem dX7_remembers_35 : decode cX7_remembers 35 = .ok (.iaload, 1) := by decide +kernel
theorem dX7_remembers_36 : decode cX7_remembers 36 = .ok (.iastore, 1) := by decide +kernel
theorem dX7_remembers_37 : decode cX7_remembers 37 = .ok (.iinc 1 1, 3) := by decide +kernel
theorem dX7_remembers_40 : decode cX7_remembers 40 = .ok (.goto (-25), 3) := by decide +kernel
theorem dX7_remembers_43 : decode cX7_remembers 43 = .ok (.aload_n 0, 1) := by decide +kernel
theorem dX7_remembers_44 : decode cX7_remembers 44 = .ok (.getfield 16, 3) := by decide +kernel
theorem dX7_remembers_47 : decode cX7_remembers 47 = .ok (.bipush 23, 2) := by decide +kernel
theorem dX7_remembers_49 : decode cX7_remembers 49 = .ok (.dup2, 1) := by decide +kernel
theorem dX7_remembers_50 : decode cX7_remembers 50 = .ok (.iaload, 1) := by decide +kernel
theorem dX7_remembers_51 : decode cX7_remembers 51 = .ok (.iconst 1, 1) := by decide +kernel
theorem dX7_remembers_52 : decode cX7_remembers 52 = .ok (.isub, 1) := by decide +kernel
theorem dX7_remembers_53 : decode cX7_remembers 53 = .ok (.iastore, 1) := by decide +kernel
theorem dX7_remembers_54 : decode cX7_remembers 54 = .ok (.bipush 24, 2) := by decide +kernel
theorem dX7_remembers_56 : decode cX7_remembers 56 = .ok (.bipush 23, 2) := by decide +kernel
theorem dX7_remembers_58 : decode cX7_remembers 58 = .ok (.aload_n 0, 1) := by decide +kernel
theorem dX7_remembers_59 : decode cX7_remembers 59 = .ok (.getfield 16, 3) := by decide +kernel
theorem dX7_remembers_62 : decode cX7_remembers 62 = .ok (.bipush 23, 2) := by decide +kernel
theorem dX7_remembers_64 : decode cX7_remembers 64 = .ok (.iaload, 1) := by decide +kernel
theorem dX7_remembers_65 : decode cX7_remembers 65 = .ok (.imul, 1) := by decide +kernel
theorem dX7_remembers_66 : decode cX7_remembers 66 = .ok (.iadd, 1) := by decide +kernel
theorem dX7_remembers_67 : decode cX7_remembers 67 = .ok (.istore_n 1, 1) := by decide +kernel
theorem dX7_remembers_68 : decode cX7_remembers 68 = .ok (.iconst 0, 1) := by decide +kernel
theorem dX7_remembers_69 : decode cX7_remembers 69 = .ok (.istore_n 2, 1) := by decide +kernel
theorem dX7_remembers_70 : decode cX7_remembers 70 = .ok (.iload_n 2, 1) := by decide +kernel
theorem dX7_remembers_71 : decode cX7_remembers 71 = .ok (.bipush 23, 2) := by decide +kernel
theorem dX7_remembers_73 : decode cX7_remembers 73 = .ok (.if_icmp .ge 23, 3) := by decide +kernel
theorem dX7_remembers_76 : decode cX7_remembers 76 = .ok (.aload_n 0, 1) := by decide +kernel
theorem dX7_remembers_77 : decode cX7_remembers 77 = .ok (.getfield 16, 3) := by decide +kernel
theorem dX7_remembers_80 : decode cX7_remembers 80 = .ok (.iload_n 1, 1) := by decide +kernel
theorem dX7_remembers_81 : decode cX7_remembers 81 = .ok (.iload_n 2, 1) := by decide +kernel
theorem dX7_remembers_82 : decode cX7_remembers 82 = .ok (.iadd, 1) := by decide +kernel
theorem dX7_remembers_83 : decode cX7_remembers 83 = .ok (.aload_n 0, 1) := by decide +kernel
theorem dX7_remembers_84 : decode cX7_remembers 84 = .ok (.getfield 16, 3) := by decide +kernel
theorem dX7_remembers_87 : decode cX7_remembers 87 = .ok (.iload_n 2, 1) := by decide +kernel
theorem dX7_remembers_88 : decode cX7_remembers 88 = .ok (.iaload, 1) := by decide +kernel
theorem dX7_remembers_89 : decode cX7_remembers 89 = .ok (.iastore, 1) := by decide +kernel
theorem dX7_remembers_90 : decode cX7_remembers 90 = .ok (.iinc 2 1, 3) := by decide +kernel
theorem dX7_remembers_93 : decode cX7_remembers 93 = .ok (.goto (-23), 3) := by decide +kernel
theorem dX7_remembers_96 : decode cX7_remembers 96 = .ok (.aload_n 0, 1) := by decide +kernel
theorem dX7_remembers_97 : decode cX7_remembers 97 = .ok (.getfield 16, 3) := by decide +kernel
theorem dX7_remembers_100 : decode cX7_remembers 100 = .ok (.bipush 23, 2) := by decide +kernel
theorem dX7_remembers_102 : decode cX7_remembers 102 = .ok (.dup2, 1) := by decide +kernel
theorem dX7_remembers_103 : decode cX7_remembers 103 = .ok (.iaload, 1) := by decide +kernel
theorem dX7_remembers_104 : decode cX7_remembers 104 = .ok (.iconst 1, 1) := by decide +kernel
theorem dX7_remembers_105 : decode cX7_remembers 105 = .ok (.iadd, 1) := by decide +kernel
theorem dX7_remembers_106 : decode cX7_remembers 106 = .ok (.iastore, 1) := by decide +kernel
theorem dX7_remembers_107 : decode cX7_remembers 107 = .ok (.return_, 1) := by decide +kernel
theorem dX7_takes_0 : decode cX7_takes 0 = .ok (.iload_n 1, 1) := by decide +kernel
theorem dX7_takes_1 : decode cX7_takes 1 = .ok (.invokestatic 128, 3) := by decide +kernel
theorem dX7_takes_4 : decode cX7_takes 4 = .ok (.ifCond .eq 12, 3) := by decide +kernel
theorem dX7_takes_7 : decode cX7_takes 7 = .ok (.aload_n 0, 1) := by decide +kernel
theorem dX7_takes_8 : decode cX7_takes 8 = .ok (.iload_n 2, 1) := by decide +kernel
theorem dX7_takes_9 : decode cX7_takes 9 = .ok (.iload_n 3, 1) := by decide +kernel
theorem dX7_takes_10 : decode cX7_takes 10 = .ok (.invokevirtual 112, 3) := by decide +kernel
theorem dX7_takes_13 : decode cX7_takes 13 = .ok (.ifCond .ne 5, 3) := by decide +kernel
theorem dX7_takes_16 : decode cX7_takes 16 = .ok (.iconst (-1), 1) := by decide +kernel
theorem dX7_takes_17 : decode cX7_takes 17 = .ok (.ireturn, 1) := by decide +kernel
theorem dX7_takes_18 : decode cX7_takes 18 = .ok (.iconst 5, 1) := by decide +kernel
theorem dX7_takes_19 : decode cX7_takes 19 = .ok (.iload_n 3, 1) := by decide +kernel
theorem dX7_takes_20 : decode cX7_takes 20 = .ok (.imul, 1) := by decide +kernel
theorem dX7_takes_21 : decode cX7_takes 21 = .ok (.iload_n 2, 1) := by decide +kernel
theorem dX7_takes_22 : decode cX7_takes 22 = .ok (.iadd, 1) := by decide +kernel
theorem dX7_takes_23 : decode cX7_takes 23 = .ok (.istore 4, 2) := by decide +kernel
theorem dX7_takes_25 : decode cX7_takes 25 = .ok (.aload_n 0, 1) := by decide +kernel
theorem dX7_takes_26 : decode cX7_takes 26 = .ok (.getfield 16, 3) := by decide +kernel
theorem dX7_takes_29 : decode cX7_takes 29 = .ok (.iload 4, 2) := by decide +kernel
theorem dX7_takes_31 : decode cX7_takes 31 = .ok (.iaload, 1) := by decide +kernel
theorem dX7_takes_32 : decode cX7_takes 32 = .ok (.ifCond .gt 12, 3) := by decide +kernel
theorem dX7_takes_35 : decode cX7_takes 35 = .ok (.aload_n 0, 1) := by decide +kernel
theorem dX7_takes_36 : decode cX7_takes 36 = .ok (.iload 4, 2) := by decide +kernel
theorem dX7_takes_38 : decode cX7_takes 38 = .ok (.invokevirtual 125, 3) := by decide +kernel
theorem dX7_takes_41 : decode cX7_takes 41 = .ok (.ifCond .ne 6, 3) := by decide +kernel
theorem dX7_takes_44 : decode cX7_takes 44 = .ok (.bipush (-2), 2) := by decide +kernel
theorem dX7_takes_46 : decode cX7_takes 46 = .ok (.ireturn, 1) := by decide +kernel
theorem dX7_takes_47 : decode cX7_takes 47 = .ok (.aload_n 0, 1) := by decide +kernel
theorem dX7_takes_48 : decode cX7_takes 48 = .ok (.invokevirtual 140, 3) := by decide +kernel
theorem dX7_takes_51 : decode cX7_takes 51 = .ok (.aload_n 0, 1) := by decide +kernel
theorem dX7_takes_52 : decode cX7_takes 52 = .ok (.getfield 16, 3) := by decide +kernel
theorem dX7_takes_55 : decode cX7_takes 55 = .ok (.iload 4, 2) := by decide +kernel
theorem dX7_takes_57 : decode cX7_takes 57 = .ok (.iload_n 1, 1) := by decide +kernel
theorem dX7_takes_58 : decode cX7_takes 58 = .ok (.iconst 1, 1) := by decide +kernel
theorem dX7_takes_59 : decode cX7_takes 59 = .ok (.iadd, 1) := by decide +kernel
theorem dX7_takes_60 : decode cX7_takes 60 = .ok (.iastore, 1) := by decide +kernel
theorem dX7_takes_61 : decode cX7_takes 61 = .ok (.aload_n 0, 1) := by decide +kernel
theorem dX7_takes_62 : decode cX7_takes 62 = .ok (.iload_n 1, 1) := by decide +kernel
theorem dX7_takes_63 : decode cX7_takes 63 = .ok (.invokevirtual 122, 3) := by decide +kernel
theorem dX7_takes_66 : decode cX7_takes 66 = .ok (.invokestatic 134, 3) := by decide +kernel
theorem dX7_takes_69 : decode cX7_takes 69 = .ok (.ireturn, 1) := by decide +kernel
theorem dX7_leaves_0 : decode cX7_leaves 0 = .ok (.aload_n 0, 1) := by decide +kernel
theorem dX7_leaves_1 : decode cX7_leaves 1 = .ok (.iload_n 1, 1) := by decide +kernel
theorem dX7_leaves_2 : decode cX7_leaves 2 = .ok (.iload_n 2, 1) := by decide +kernel
theorem dX7_leaves_3 : decode cX7_leaves 3 = .ok (.invokevirtual 112, 3) := by decide +kernel
theorem dX7_leaves_6 : decode cX7_leaves 6 = .ok (.ifCond .ne 5, 3) := by decide +kernel
theorem dX7_leaves_9 : decode cX7_leaves 9 = .ok (.iconst (-1), 1) := by decide +kernel
theorem dX7_leaves_10 : decode cX7_leaves 10 = .ok (.ireturn, 1) := by decide +kernel
theorem dX7_leaves_11 : decode cX7_leaves 11 = .ok (.iconst 5, 1) := by decide +kernel
theorem dX7_leaves_12 : decode cX7_leaves 12 = .ok (.iload_n 2, 1) := by decide +kernel
theorem dX7_leaves_13 : decode cX7_leaves 13 = .ok (.imul, 1) := by decide +kernel
theorem dX7_leaves_14 : decode cX7_leaves 14 = .ok (.iload_n 1, 1) := by decide +kernel
theorem dX7_leaves_15 : decode cX7_leaves 15 = .ok (.iadd, 1) := by decide +kernel
theorem dX7_leaves_16 : decode cX7_leaves 16 = .ok (.istore_n 3, 1) := by decide +kernel
theorem dX7_leaves_17 : decode cX7_leaves 17 = .ok (.aload_n 0, 1) := by decide +kernel
theorem dX7_leaves_18 : decode cX7_leaves 18 = .ok (.getfield 16, 3) := by decide +kernel
theorem dX7_leaves_21 : decode cX7_leaves 21 = .ok (.iload_n 3, 1) := by decide +kernel
theorem dX7_leaves_22 : decode cX7_leaves 22 = .ok (.iaload, 1) := by decide +kernel
theorem dX7_leaves_23 : decode cX7_leaves 23 = .ok (.istore 4, 2) := by decide +kernel
theorem dX7_leaves_25 : decode cX7_leaves 25 = .ok (.iload 4, 2) := by decide +kernel
theorem dX7_leaves_27 : decode cX7_leaves 27 = .ok (.ifCond .ne 6, 3) := by decide +kernel
theorem dX7_leaves_30 : decode cX7_leaves 30 = .ok (.bipush (-2), 2) := by decide +kernel
theorem dX7_leaves_32 : decode cX7_leaves 32 = .ok (.ireturn, 1) := by decide +kernel
theorem dX7_leaves_33 : decode cX7_leaves 33 = .ok (.aload_n 0, 1) := by decide +kernel
theorem dX7_leaves_34 : decode cX7_leaves 34 = .ok (.invokevirtual 140, 3) := by decide +kernel
theorem dX7_leaves_37 : decode cX7_leaves 37 = .ok (.aload_n 0, 1) := by decide +kernel
theorem dX7_leaves_38 : decode cX7_leaves 38 = .ok (.getfield 16, 3) := by decide +kernel
theorem dX7_leaves_41 : decode cX7_leaves 41 = .ok (.iload_n 3, 1) := by decide +kernel
theorem dX7_leaves_42 : decode cX7_leaves 42 = .ok (.iconst 0, 1) := by decide +kernel
theorem dX7_leaves_43 : decode cX7_leaves 43 = .ok (.iastore, 1) := by decide +kernel
theorem dX7_leaves_44 : decode cX7_leaves 44 = .ok (.iload 4, 2) := by decide +kernel
theorem dX7_leaves_46 : decode cX7_leaves 46 = .ok (.iconst 1, 1) := by decide +kernel
theorem dX7_leaves_47 : decode cX7_leaves 47 = .ok (.isub, 1) := by decide +kernel
theorem dX7_leaves_48 : decode cX7_leaves 48 = .ok (.ireturn, 1) := by decide +kernel
theorem dX7_puts_0 : decode cX7_puts 0 = .ok (.aload_n 0, 1) := by decide +kernel
theorem dX7_puts_1 : decode cX7_puts 1 = .ok (.iload_n 1, 1) := by decide +kernel
theorem dX7_puts_2 : decode cX7_puts 2 = .ok (.iload_n 2, 1) := by decide +kernel
theorem dX7_puts_3 : decode cX7_puts 3 = .ok (.invokevirtual 112, 3) := by decide +kernel
theorem dX7_puts_6 : decode cX7_puts 6 = .ok (.ifCond .eq 12, 3) := by decide +kernel
theorem dX7_puts_9 : decode cX7_puts 9 = .ok (.iload_n 3, 1) := by decide +kernel
theorem dX7_puts_10 : decode cX7_puts 10 = .ok (.iconst 0, 1) := by decide +kernel
theorem dX7_puts_11 : decode cX7_puts 11 = .ok (.iconst 1, 1) := by decide +kernel
theorem dX7_puts_12 : decode cX7_puts 12 = .ok (.invokestatic 39, 3) := by decide +kernel
theorem dX7_puts_15 : decode cX7_puts 15 = .ok (.ifCond .ne 5, 3) := by decide +kernel
theorem dX7_puts_18 : decode cX7_puts 18 = .ok (.iconst (-1), 1) := by decide +kernel
theorem dX7_puts_19 : decode cX7_puts 19 = .ok (.ireturn, 1) := by decide +kernel
theorem dX7_puts_20 : decode cX7_puts 20 = .ok (.iconst 5, 1) := by decide +kernel
theorem dX7_puts_21 : decode cX7_puts 21 = .ok (.iload_n 2, 1) := by decide +kernel
theorem dX7_puts_22 : decode cX7_puts 22 = .ok (.imul, 1) := by decide +kernel
theorem dX7_puts_23 : decode cX7_puts 23 = .ok (.iload_n 1, 1) := by decide +kernel
theorem dX7_puts_24 : decode cX7_puts 24 = .ok (.iadd, 1) := by decide +kernel
theorem dX7_puts_25 : decode cX7_puts 25 = .ok (.istore 4, 2) := by decide +kernel
theorem dX7_puts_27 : decode cX7_puts 27 = .ok (.aload_n 0, 1) := by decide +kernel
theorem dX7_puts_28 : decode cX7_puts 28 = .ok (.getfield 16, 3) := by decide +kernel
theorem dX7_puts_31 : decode cX7_puts 31 = .ok (.bipush 20, 2) := by decide +kernel
theorem dX7_puts_33 : decode cX7_puts 33 = .ok (.iaload, 1) := by decide +kernel
theorem dX7_puts_34 : decode cX7_puts 34 = .ok (.iload 4, 2) := by decide +kernel
theorem dX7_puts_36 : decode cX7_puts 36 = .ok (.invokestatic 89, 3) := by decide +kernel
theorem dX7_puts_39 : decode cX7_puts 39 = .ok (.iload_n 3, 1) := by decide +kernel
theorem dX7_puts_40 : decode cX7_puts 40 = .ok (.iconst 1, 1) := by decide +kernel
theorem dX7_puts_41 : decode cX7_puts 41 = .ok (.if_icmp .ne 7, 3) := by decide +kernel
theorem dX7_puts_44 : decode cX7_puts 44 = .ok (.iconst 1, 1) := by decide +kernel
theorem dX7_puts_45 : decode cX7_puts 45 = .ok (.goto 4, 3) := by decide +kernel
theorem dX7_puts_48 : decode cX7_puts 48 = .ok (.iconst 0, 1) := by decide +kernel
theorem dX7_puts_49 : decode cX7_puts 49 = .ok (.if_icmp .eq 12, 3) := by decide +kernel
theorem dX7_puts_52 : decode cX7_puts 52 = .ok (.aload_n 0, 1) := by decide +kernel
theorem dX7_puts_53 : decode cX7_puts 53 = .ok (.iload 4, 2) := by decide +kernel
theorem dX7_puts_55 : decode cX7_puts 55 = .ok (.invokevirtual 125, 3) := by decide +kernel
theorem dX7_puts_58 : decode cX7_puts 58 = .ok (.ifCond .ne 6, 3) := by decide +kernel
theorem dX7_puts_61 : decode cX7_puts 61 = .ok (.bipush (-2), 2) := by decide +kernel
theorem dX7_puts_63 : decode cX7_puts 63 = .ok (.ireturn, 1) := by decide +kernel
theorem dX7_puts_64 : decode cX7_puts 64 = .ok (.aload_n 0, 1) := by decide +kernel
theorem dX7_puts_65 : decode cX7_puts 65 = .ok (.invokevirtual 140, 3) := by decide +kernel
theorem dX7_puts_68 : decode cX7_puts 68 = .ok (.aload_n 0, 1) := by decide +kernel
theorem dX7_puts_69 : decode cX7_puts 69 = .ok (.getfield 16, 3) := by decide +kernel
theorem dX7_puts_72 : decode cX7_puts 72 = .ok (.bipush 20, 2) := by decide +kernel
theorem dX7_puts_74 : decode cX7_puts 74 = .ok (.dup2, 1) := by decide +kernel
theorem dX7_puts_75 : decode cX7_puts 75 = .ok (.iaload, 1) := by decide +kernel
theorem dX7_puts_76 : decode cX7_puts 76 = .ok (.iconst 1, 1) := by decide +kernel
theorem dX7_puts_77 : decode cX7_puts 77 = .ok (.iload 4, 2) := by decide +kernel
theorem dX7_puts_79 : decode cX7_puts 79 = .ok (.ishl, 1) := by decide +kernel
theorem dX7_puts_80 : decode cX7_puts 80 = .ok (.ixor, 1) := by decide +kernel
theorem dX7_puts_81 : decode cX7_puts 81 = .ok (.iastore, 1) := by decide +kernel
theorem dX7_puts_82 : decode cX7_puts 82 = .ok (.aload_n 0, 1) := by decide +kernel
theorem dX7_puts_83 : decode cX7_puts 83 = .ok (.getfield 16, 3) := by decide +kernel
theorem dX7_puts_86 : decode cX7_puts 86 = .ok (.bipush 20, 2) := by decide +kernel
theorem dX7_puts_88 : decode cX7_puts 88 = .ok (.iaload, 1) := by decide +kernel
theorem dX7_puts_89 : decode cX7_puts 89 = .ok (.invokestatic 134, 3) := by decide +kernel
theorem dX7_puts_92 : decode cX7_puts 92 = .ok (.ireturn, 1) := by decide +kernel
theorem dX7_veers_0 : decode cX7_veers 0 = .ok (.aload_n 0, 1) := by decide +kernel
theorem dX7_veers_1 : decode cX7_veers 1 = .ok (.invokevirtual 140, 3) := by decide +kernel
theorem dX7_veers_4 : decode cX7_veers 4 = .ok (.aload_n 0, 1) := by decide +kernel
theorem dX7_veers_5 : decode cX7_veers 5 = .ok (.getfield 16, 3) := by decide +kernel
theorem dX7_veers_8 : decode cX7_veers 8 = .ok (.bipush 21, 2) := by decide +kernel
theorem dX7_veers_10 : decode cX7_veers 10 = .ok (.iconst 1, 1) := by decide +kernel
theorem dX7_veers_11 : decode cX7_veers 11 = .ok (.aload_n 0, 1) := by decide +kernel
theorem dX7_veers_12 : decode cX7_veers 12 = .ok (.getfield 16, 3) := by decide +kernel
theorem dX7_veers_15 : decode cX7_veers 15 = .ok (.bipush 21, 2) := by decide +kernel
theorem dX7_veers_17 : decode cX7_veers 17 = .ok (.iaload, 1) := by decide +kernel
theorem dX7_veers_18 : decode cX7_veers 18 = .ok (.isub, 1) := by decide +kernel
theorem dX7_veers_19 : decode cX7_veers 19 = .ok (.iastore, 1) := by decide +kernel
theorem dX7_veers_20 : decode cX7_veers 20 = .ok (.aload_n 0, 1) := by decide +kernel
theorem dX7_veers_21 : decode cX7_veers 21 = .ok (.getfield 16, 3) := by decide +kernel
theorem dX7_veers_24 : decode cX7_veers 24 = .ok (.bipush 21, 2) := by decide +kernel
theorem dX7_veers_26 : decode cX7_veers 26 = .ok (.iaload, 1) := by decide +kernel
theorem dX7_veers_27 : decode cX7_veers 27 = .ok (.ireturn, 1) := by decide +kernel
theorem dX7_tide_0 : decode cX7_tide 0 = .ok (.iload_n 1, 1) := by decide +kernel
theorem dX7_tide_1 : decode cX7_tide 1 = .ok (.iconst 0, 1) := by decide +kernel
theorem dX7_tide_2 : decode cX7_tide 2 = .ok (.iconst 1, 1) := by decide +kernel
theorem dX7_tide_3 : decode cX7_tide 3 = .ok (.invokestatic 39, 3) := by decide +kernel
theorem dX7_tide_6 : decode cX7_tide 6 = .ok (.ifCond .ne 5, 3) := by decide +kernel
theorem dX7_tide_9 : decode cX7_tide 9 = .ok (.iconst (-1), 1) := by decide +kernel
theorem dX7_tide_10 : decode cX7_tide 10 = .ok (.ireturn, 1) := by decide +kernel
theorem dX7_tide_11 : decode cX7_tide 11 = .ok (.aload_n 0, 1) := by decide +kernel
theorem dX7_tide_12 : decode cX7_tide 12 = .ok (.getfield 16, 3) := by decide +kernel
theorem dX7_tide_15 : decode cX7_tide 15 = .ok (.bipush 22, 2) := by decide +kernel
theorem dX7_tide_17 : decode cX7_tide 17 = .ok (.iaload, 1) := by decide +kernel
theorem dX7_tide_18 : decode cX7_tide 18 = .ok (.iload_n 1, 1) := by decide +kernel
theorem dX7_tide_19 : decode cX7_tide 19 = .ok (.iconst 1, 1) := by decide +kernel
theorem dX7_tide_20 : decode cX7_tide 20 = .ok (.if_icmp .ne 10, 3) := by decide +kernel
theorem dX7_tide_23 : decode cX7_tide 23 = .ok (.aload_n 0, 1) := by decide +kernel
theorem dX7_tide_24 : decode cX7_tide 24 = .ok (.getfield 13, 3) := by decide +kernel
theorem dX7_tide_27 : decode cX7_tide 27 = .ok (.goto 4, 3) := by decide +kernel
theorem dX7_tide_30 : decode cX7_tide 30 = .ok (.iconst 0, 1) := by decide +kernel
theorem dX7_tide_31 : decode cX7_tide 31 = .ok (.if_icmp .ne 6, 3) := by decide +kernel
theorem dX7_tide_34 : decode cX7_tide 34 = .ok (.bipush (-2), 2) := by decide +kernel
theorem dX7_tide_36 : decode cX7_tide 36 = .ok (.ireturn, 1) := by decide +kernel
theorem dX7_tide_37 : decode cX7_tide 37 = .ok (.aload_n 0, 1) := by decide +kernel
theorem dX7_tide_38 : decode cX7_tide 38 = .ok (.invokevirtual 140, 3) := by decide +kernel
theorem dX7_tide_41 : decode cX7_tide 41 = .ok (.aload_n 0, 1) := by decide +kernel
theorem dX7_tide_42 : decode cX7_tide 42 = .ok (.getfield 16, 3) := by decide +kernel
theorem dX7_tide_45 : decode cX7_tide 45 = .ok (.bipush 22, 2) := by decide +kernel
theorem dX7_tide_47 : decode cX7_tide 47 = .ok (.dup2, 1) := by decide +kernel
theorem dX7_tide_48 : decode cX7_tide 48 = .ok (.iaload, 1) := by decide +kernel
theorem dX7_tide_49 : decode cX7_tide 49 = .ok (.iload_n 1, 1) := by decide +kernel
theorem dX7_tide_50 : decode cX7_tide 50 = .ok (.iconst 1, 1) := by decide +kernel
theorem dX7_tide_51 : decode cX7_tide 51 = .ok (.if_icmp .ne 7, 3) := by decide +kernel
theorem dX7_tide_54 : decode cX7_tide 54 = .ok (.iconst 1, 1) := by decide +kernel
theorem dX7_tide_55 : decode cX7_tide 55 = .ok (.goto 4, 3) := by decide +kernel
theorem dX7_tide_58 : decode cX7_tide 58 = .ok (.iconst (-1), 1) := by decide +kernel
theorem dX7_tide_59 : decode cX7_tide 59 = .ok (.iadd, 1) := by decide +kernel
theorem dX7_tide_60 : decode cX7_tide 60 = .ok (.iastore, 1) := by decide +kernel
theorem dX7_tide_61 : decode cX7_tide 61 = .ok (.iconst 0, 1) := by decide +kernel
theorem dX7_tide_62 : decode cX7_tide 62 = .ok (.istore_n 2, 1) := by decide +kernel
theorem dX7_tide_63 : decode cX7_tide 63 = .ok (.iload_n 2, 1) := by decide +kernel
theorem dX7_tide_64 : decode cX7_tide 64 = .ok (.bipush 20, 2) := by decide +kernel
theorem dX7_tide_66 : decode cX7_tide 66 = .ok (.if_icmp .ge 39, 3) := by decide +kernel
theorem dX7_tide_69 : decode cX7_tide 69 = .ok (.aload_n 0, 1) := by decide +kernel
theorem dX7_tide_70 : decode cX7_tide 70 = .ok (.iload_n 2, 1) := by decide +kernel
theorem dX7_tide_71 : decode cX7_tide 71 = .ok (.invokevirtual 125, 3) := by decide +kernel
theorem dX7_tide_74 : decode cX7_tide 74 = .ok (.ifCond .ne 25, 3) := by decide +kernel
theorem dX7_tide_77 : decode cX7_tide 77 = .ok (.aload_n 0, 1) := by decide +kernel
theorem dX7_tide_78 : decode cX7_tide 78 = .ok (.getfield 16, 3) := by decide +kernel
theorem dX7_tide_81 : decode cX7_tide 81 = .ok (.iload_n 2, 1) := by decide +kernel
theorem dX7_tide_82 : decode cX7_tide 82 = .ok (.iconst 0, 1) := by decide +kernel
theorem dX7_tide_83 : decode cX7_tide 83 = .ok (.iastore, 1) := by decide +kernel
theorem dX7_tide_84 : decode cX7_tide 84 = .ok (.aload_n 0, 1) := by decide +kernel
theorem dX7_tide_85 : decode cX7_tide 85 = .ok (.getfield 16, 3) := by decide +kernel
theorem dX7_tide_88 : decode cX7_tide 88 = .ok (.bipush 20, 2) := by decide +kernel
theorem dX7_tide_90 : decode cX7_tide 90 = .ok (.dup2, 1) := by decide +kernel
theorem dX7_tide_91 : decode cX7_tide 91 = .ok (.iaload, 1) := by decide +kernel
theorem dX7_tide_92 : decode cX7_tide 92 = .ok (.iconst 1, 1) := by decide +kernel
theorem dX7_tide_93 : decode cX7_tide 93 = .ok (.iload_n 2, 1) := by decide +kernel
theorem dX7_tide_94 : decode cX7_tide 94 = .ok (.ishl, 1) := by decide +kernel
theorem dX7_tide_95 : decode cX7_tide 95 = .ok (.iconst (-1), 1) := by decide +kernel
theorem dX7_tide_96 : decode cX7_tide 96 = .ok (.ixor, 1) := by decide +kernel
theorem dX7_tide_97 : decode cX7_tide 97 = .ok (.iand, 1) := by decide +kernel
theorem dX7_tide_98 : decode cX7_tide 98 = .ok (.iastore, 1) := by decide +kernel
theorem dX7_tide_99 : decode cX7_tide 99 = .ok (.iinc 2 1, 3) := by decide +kernel
theorem dX7_tide_102 : decode cX7_tide 102 = .ok (.goto (-39), 3) := by decide +kernel
theorem dX7_tide_105 : decode cX7_tide 105 = .ok (.aload_n 0, 1) := by decide +kernel
theorem dX7_tide_106 : decode cX7_tide 106 = .ok (.getfield 16, 3) := by decide +kernel
theorem dX7_tide_109 : decode cX7_tide 109 = .ok (.bipush 22, 2) := by decide +kernel
theorem dX7_tide_111 : decode cX7_tide 111 = .ok (.iaload, 1) := by decide +kernel
theorem dX7_tide_112 : decode cX7_tide 112 = .ok (.ireturn, 1) := by decide +kernel
theorem dX7_undo_0 : decode cX7_undo 0 = .ok (.aload_n 0, 1) := by decide +kernel
theorem dX7_undo_1 : decode cX7_undo 1 = .ok (.getfield 16, 3) := by decide +kernel
theorem dX7_undo_4 : decode cX7_undo 4 = .ok (.bipush 23, 2) := by decide +kernel
theorem dX7_undo_6 : decode cX7_undo 6 = .ok (.iaload, 1) := by decide +kernel
theorem dX7_undo_7 : decode cX7_undo 7 = .ok (.ifCond .ne 6, 3) := by decide +kernel
theorem dX7_undo_10 : decode cX7_undo 10 = .ok (.bipush (-2), 2) := by decide +kernel
theorem dX7_undo_12 : decode cX7_undo 12 = .ok (.ireturn, 1) := by decide +kernel
theorem dX7_undo_13 : decode cX7_undo 13 = .ok (.aload_n 0, 1) := by decide +kernel
theorem dX7_undo_14 : decode cX7_undo 14 = .ok (.getfield 16, 3) := by decide +kernel
theorem dX7_undo_17 : decode cX7_undo 17 = .ok (.bipush 23, 2) := by decide +kernel
theorem dX7_undo_19 : decode cX7_undo 19 = .ok (.dup2, 1) := by decide +kernel
theorem dX7_undo_20 : decode cX7_undo 20 = .ok (.iaload, 1) := by decide +kernel
theorem dX7_undo_21 : decode cX7_undo 21 = .ok (.iconst 1, 1) := by decide +kernel
theorem dX7_undo_22 : decode cX7_undo 22 = .ok (.isub, 1) := by decide +kernel
theorem dX7_undo_23 : decode cX7_undo 23 = .ok (.iastore, 1) := by decide +kernel
theorem dX7_undo_24 : decode cX7_undo 24 = .ok (.bipush 24, 2) := by decide +kernel
theorem dX7_undo_26 : decode cX7_undo 26 = .ok (.bipush 23, 2) := by decide +kernel
theorem dX7_undo_28 : decode cX7_undo 28 = .ok (.aload_n 0, 1) := by decide +kernel
theorem dX7_undo_29 : decode cX7_undo 29 = .ok (.getfield 16, 3) := by decide +kernel
theorem dX7_undo_32 : decode cX7_undo 32 = .ok (.bipush 23, 2) := by decide +kernel
theorem dX7_undo_34 : decode cX7_undo 34 = .ok (.iaload, 1) := by decide +kernel
theorem dX7_undo_35 : decode cX7_undo 35 = .ok (.imul, 1) := by decide +kernel
theorem dX7_undo_36 : decode cX7_undo 36 = .ok (.iadd, 1) := by decide +kernel
theorem dX7_undo_37 : decode cX7_undo 37 = .ok (.istore_n 1, 1) := by decide +kernel
theorem dX7_undo_38 : decode cX7_undo 38 = .ok (.iconst 0, 1) := by decide +kernel
theorem dX7_undo_39 : decode cX7_undo 39 = .ok (.istore_n 2, 1) := by decide +kernel
theorem dX7_undo_40 : decode cX7_undo 40 = .ok (.iload_n 2, 1) := by decide +kernel
theorem dX7_undo_41 : decode cX7_undo 41 = .ok (.bipush 23, 2) := by decide +kernel
theorem dX7_undo_43 : decode cX7_undo 43 = .ok (.if_icmp .ge 23, 3) := by decide +kernel
theorem dX7_undo_46 : decode cX7_undo 46 = .ok (.aload_n 0, 1) := by decide +kernel
theorem dX7_undo_47 : decode cX7_undo 47 = .ok (.getfield 16, 3) := by decide +kernel
theorem dX7_undo_50 : decode cX7_undo 50 = .ok (.iload_n 2, 1) := by decide +kernel
theorem dX7_undo_51 : decode cX7_undo 51 = .ok (.aload_n 0, 1) := by decide +kernel
theorem dX7_undo_52 : decode cX7_undo 52 = .ok (.getfield 16, 3) := by decide +kernel
theorem dX7_undo_55 : decode cX7_undo 55 = .ok (.iload_n 1, 1) := by decide +kernel
theorem dX7_undo_56 : decode cX7_undo 56 = .ok (.iload_n 2, 1) := by decide +kernel
theorem dX7_undo_57 : decode cX7_undo 57 = .ok (.iadd, 1) := by decide +kernel
theorem dX7_undo_58 : decode cX7_undo 58 = .ok (.iaload, 1) := by decide +kernel
theorem dX7_undo_59 : decode cX7_undo 59 = .ok (.iastore, 1) := by decide +kernel
theorem dX7_undo_60 : decode cX7_undo 60 = .ok (.iinc 2 1, 3) := by decide +kernel
theorem dX7_undo_63 : decode cX7_undo 63 = .ok (.goto (-23), 3) := by decide +kernel
theorem dX7_undo_66 : decode cX7_undo 66 = .ok (.aload_n 0, 1) := by decide +kernel
theorem dX7_undo_67 : decode cX7_undo 67 = .ok (.getfield 16, 3) := by decide +kernel
theorem dX7_undo_70 : decode cX7_undo 70 = .ok (.bipush 23, 2) := by decide +kernel
theorem dX7_undo_72 : decode cX7_undo 72 = .ok (.iaload, 1) := by decide +kernel
theorem dX7_undo_73 : decode cX7_undo 73 = .ok (.ireturn, 1) := by decide +kernel
theorem dX7_isBorder_0 : decode cX7_isBorder 0 = .ok (.aload_n 0, 1) := by decide +kernel
theorem dX7_isBorder_1 : decode cX7_isBorder 1 = .ok (.iload_n 1, 1) := by decide +kernel
theorem dX7_isBorder_2 : decode cX7_isBorder 2 = .ok (.iload_n 2, 1) := by decide +kernel
theorem dX7_isBorder_3 : decode cX7_isBorder 3 = .ok (.invokevirtual 112, 3) := by decide +kernel
theorem dX7_isBorder_6 : decode cX7_isBorder 6 = .ok (.ifCond .eq 66, 3) := by decide +kernel
theorem dX7_isBorder_9 : decode cX7_isBorder 9 = .ok (.aload_n 0, 1) := by decide +kernel
theorem dX7_isBorder_10 : decode cX7_isBorder 10 = .ok (.iload_n 3, 1) := by decide +kernel
theorem dX7_isBorder_11 : decode cX7_isBorder 11 = .ok (.iload 4, 2) := by decide +kernel
theorem dX7_isBorder_13 : decode cX7_isBorder 13 = .ok (.invokevirtual 112, 3) := by decide +kernel
theorem dX7_isBorder_16 : decode cX7_isBorder 16 = .ok (.ifCond .eq 56, 3) := by decide +kernel
theorem dX7_isBorder_19 : decode cX7_isBorder 19 = .ok (.aload_n 0, 1) := by decide +kernel
theorem dX7_isBorder_20 : decode cX7_isBorder 20 = .ok (.iconst 5, 1) := by decide +kernel
theorem dX7_isBorder_21 : decode cX7_isBorder 21 = .ok (.iload_n 2, 1) := by decide +kernel
theorem dX7_isBorder_22 : decode cX7_isBorder 22 = .ok (.imul, 1) := by decide +kernel
theorem dX7_isBorder_23 : decode cX7_isBorder 23 = .ok (.iload_n 1, 1) := by decide +kernel
theorem dX7_isBorder_24 : decode cX7_isBorder 24 = .ok (.iadd, 1) := by decide +kernel
theorem dX7_isBorder_25 : decode cX7_isBorder 25 = .ok (.invokevirtual 125, 3) := by decide +kernel
theorem dX7_isBorder_28 : decode cX7_isBorder 28 = .ok (.ifCond .eq 44, 3) := by decide +kernel
theorem dX7_isBorder_31 : decode cX7_isBorder 31 = .ok (.aload_n 0, 1) := by decide +kernel
theorem dX7_isBorder_32 : decode cX7_isBorder 32 = .ok (.iconst 5, 1) := by decide +kernel
theorem dX7_isBorder_33 : decode cX7_isBorder 33 = .ok (.iload 4, 2) := by decide +kernel
theorem dX7_isBorder_35 : decode cX7_isBorder 35 = .ok (.imul, 1) := by decide +kernel
theorem dX7_isBorder_36 : decode cX7_isBorder 36 = .ok (.iload_n 3, 1) := by decide +kernel
theorem dX7_isBorder_37 : decode cX7_isBorder 37 = .ok (.iadd, 1) := by decide +kernel
theorem dX7_isBorder_38 : decode cX7_isBorder 38 = .ok (.invokevirtual 125, 3) := by decide +kernel
theorem dX7_isBorder_41 : decode cX7_isBorder 41 = .ok (.ifCond .eq 31, 3) := by decide +kernel
theorem dX7_isBorder_44 : decode cX7_isBorder 44 = .ok (.aload_n 0, 1) := by decide +kernel
theorem dX7_isBorder_45 : decode cX7_isBorder 45 = .ok (.getfield 16, 3) := by decide +kernel
theorem dX7_isBorder_48 : decode cX7_isBorder 48 = .ok (.iconst 5, 1) := by decide +kernel
theorem dX7_isBorder_49 : decode cX7_isBorder 49 = .ok (.iload_n 2, 1) := by decide +kernel
theorem dX7_isBorder_50 : decode cX7_isBorder 50 = .ok (.imul, 1) := by decide +kernel
theorem dX7_isBorder_51 : decode cX7_isBorder 51 = .ok (.iload_n 1, 1) := by decide +kernel
theorem dX7_isBorder_52 : decode cX7_isBorder 52 = .ok (.iadd, 1) := by decide +kernel
theorem dX7_isBorder_53 : decode cX7_isBorder 53 = .ok (.iaload, 1) := by decide +kernel
theorem dX7_isBorder_54 : decode cX7_isBorder 54 = .ok (.aload_n 0, 1) := by decide +kernel
theorem dX7_isBorder_55 : decode cX7_isBorder 55 = .ok (.getfield 16, 3) := by decide +kernel
theorem dX7_isBorder_58 : decode cX7_isBorder 58 = .ok (.iconst 5, 1) := by decide +kernel
theorem dX7_isBorder_59 : decode cX7_isBorder 59 = .ok (.iload 4, 2) := by decide +kernel
theorem dX7_isBorder_61 : decode cX7_isBorder 61 = .ok (.imul, 1) := by decide +kernel
theorem dX7_isBorder_62 : decode cX7_isBorder 62 = .ok (.iload_n 3, 1) := by decide +kernel
theorem dX7_isBorder_63 : decode cX7_isBorder 63 = .ok (.iadd, 1) := by decide +kernel
theorem dX7_isBorder_64 : decode cX7_isBorder 64 = .ok (.iaload, 1) := by decide +kernel
theorem dX7_isBorder_65 : decode cX7_isBorder 65 = .ok (.if_icmp .eq 7, 3) := by decide +kernel
theorem dX7_isBorder_68 : decode cX7_isBorder 68 = .ok (.iconst 1, 1) := by decide +kernel
theorem dX7_isBorder_69 : decode cX7_isBorder 69 = .ok (.goto 4, 3) := by decide +kernel
theorem dX7_isBorder_72 : decode cX7_isBorder 72 = .ok (.iconst 0, 1) := by decide +kernel
theorem dX7_isBorder_73 : decode cX7_isBorder 73 = .ok (.ireturn, 1) := by decide +kernel
theorem dX7_border_0 : decode cX7_border 0 = .ok (.iconst 0, 1) := by decide +kernel
theorem dX7_border_1 : decode cX7_border 1 = .ok (.istore_n 1, 1) := by decide +kernel
theorem dX7_border_2 : decode cX7_border 2 = .ok (.iconst 0, 1) := by decide +kernel
theorem dX7_border_3 : decode cX7_border 3 = .ok (.istore_n 2, 1) := by decide +kernel
theorem dX7_border_4 : decode cX7_border 4 = .ok (.iload_n 2, 1) := by decide +kernel
theorem dX7_border_5 : decode cX7_border 5 = .ok (.aload_n 0, 1) := by decide +kernel
theorem dX7_border_6 : decode cX7_border 6 = .ok (.getfield 13, 3) := by decide +kernel
theorem dX7_border_9 : decode cX7_border 9 = .ok (.if_icmp .ge 67, 3) := by decide +kernel
theorem dX7_border_12 : decode cX7_border 12 = .ok (.iconst 0, 1) := by decide +kernel
theorem dX7_border_13 : decode cX7_border 13 = .ok (.istore_n 3, 1) := by decide +kernel
theorem dX7_border_14 : decode cX7_border 14 = .ok (.iload_n 3, 1) := by decide +kernel
theorem dX7_border_15 : decode cX7_border 15 = .ok (.aload_n 0, 1) := by decide +kernel
theorem dX7_border_16 : decode cX7_border 16 = .ok (.getfield 7, 3) := by decide +kernel
theorem dX7_border_19 : decode cX7_border 19 = .ok (.if_icmp .ge 51, 3) := by decide +kernel
theorem dX7_border_22 : decode cX7_border 22 = .ok (.iload_n 1, 1) := by decide +kernel
theorem dX7_border_23 : decode cX7_border 23 = .ok (.aload_n 0, 1) := by decide +kernel
theorem dX7_border_24 : decode cX7_border 24 = .ok (.iload_n 3, 1) := by decide +kernel
theorem dX7_border_25 : decode cX7_border 25 = .ok (.iload_n 2, 1) := by decide +kernel
theorem dX7_border_26 : decode cX7_border 26 = .ok (.iload_n 3, 1) := by decide +kernel
theorem dX7_border_27 : decode cX7_border 27 = .ok (.iconst 1, 1) := by decide +kernel
theorem dX7_border_28 : decode cX7_border 28 = .ok (.iadd, 1) := by decide +kernel
theorem dX7_border_29 : decode cX7_border 29 = .ok (.iload_n 2, 1) := by decide +kernel
theorem dX7_border_30 : decode cX7_border 30 = .ok (.invokevirtual 143, 3) := by decide +kernel
theorem dX7_border_33 : decode cX7_border 33 = .ok (.ifCond .eq 7, 3) := by decide +kernel
theorem dX7_border_36 : decode cX7_border 36 = .ok (.iconst 1, 1) := by decide +kernel
theorem dX7_border_37 : decode cX7_border 37 = .ok (.goto 4, 3) := by decide +kernel
theorem dX7_border_40 : decode cX7_border 40 = .ok (.iconst 0, 1) := by decide +kernel
theorem dX7_border_41 : decode cX7_border 41 = .ok (.iadd, 1) := by decide +kernel
theorem dX7_border_42 : decode cX7_border 42 = .ok (.istore_n 1, 1) := by decide +kernel
theorem dX7_border_43 : decode cX7_border 43 = .ok (.iload_n 1, 1) := by decide +kernel
theorem dX7_border_44 : decode cX7_border 44 = .ok (.aload_n 0, 1) := by decide +kernel
theorem dX7_border_45 : decode cX7_border 45 = .ok (.iload_n 3, 1) := by decide +kernel
theorem dX7_border_46 : decode cX7_border 46 = .ok (.iload_n 2, 1) := by decide +kernel
theorem dX7_border_47 : decode cX7_border 47 = .ok (.iload_n 3, 1) := by decide +kernel
theorem dX7_border_48 : decode cX7_border 48 = .ok (.iload_n 2, 1) := by decide +kernel
theorem dX7_border_49 : decode cX7_border 49 = .ok (.iconst 1, 1) := by decide +kernel
theorem dX7_border_50 : decode cX7_border 50 = .ok (.iadd, 1) := by decide +kernel
theorem dX7_border_51 : decode cX7_border 51 = .ok (.invokevirtual 143, 3) := by decide +kernel
theorem dX7_border_54 : decode cX7_border 54 = .ok (.ifCond .eq 7, 3) := by decide +kernel
theorem dX7_border_57 : decode cX7_border 57 = .ok (.iconst 1, 1) := by decide +kernel
theorem dX7_border_58 : decode cX7_border 58 = .ok (.goto 4, 3) := by decide +kernel
theorem dX7_border_61 : decode cX7_border 61 = .ok (.iconst 0, 1) := by decide +kernel
theorem dX7_border_62 : decode cX7_border 62 = .ok (.iadd, 1) := by decide +kernel
theorem dX7_border_63 : decode cX7_border 63 = .ok (.istore_n 1, 1) := by decide +kernel
theorem dX7_border_64 : decode cX7_border 64 = .ok (.iinc 3 1, 3) := by decide +kernel
theorem dX7_border_67 : decode cX7_border 67 = .ok (.goto (-53), 3) := by decide +kernel
theorem dX7_border_70 : decode cX7_border 70 = .ok (.iinc 2 1, 3) := by decide +kernel
theorem dX7_border_73 : decode cX7_border 73 = .ok (.goto (-69), 3) := by decide +kernel
theorem dX7_border_76 : decode cX7_border 76 = .ok (.iload_n 1, 1) := by decide +kernel
theorem dX7_border_77 : decode cX7_border 77 = .ok (.ireturn, 1) := by decide +kernel
theorem dX7_now_0 : decode cX7_now 0 = .ok (.iconst 0, 1) := by decide +kernel
theorem dX7_now_1 : decode cX7_now 1 = .ok (.istore_n 2, 1) := by decide +kernel
theorem dX7_now_2 : decode cX7_now 2 = .ok (.iconst 0, 1) := by decide +kernel
theorem dX7_now_3 : decode cX7_now 3 = .ok (.istore_n 3, 1) := by decide +kernel
theorem dX7_now_4 : decode cX7_now 4 = .ok (.iload_n 3, 1) := by decide +kernel
theorem dX7_now_5 : decode cX7_now 5 = .ok (.bipush 20, 2) := by decide +kernel
theorem dX7_now_7 : decode cX7_now 7 = .ok (.if_icmp .ge 28, 3) := by decide +kernel
theorem dX7_now_10 : decode cX7_now 10 = .ok (.iload_n 2, 1) := by decide +kernel
theorem dX7_now_11 : decode cX7_now 11 = .ok (.aload_n 0, 1) := by decide +kernel
theorem dX7_now_12 : decode cX7_now 12 = .ok (.getfield 16, 3) := by decide +kernel
theorem dX7_now_15 : decode cX7_now 15 = .ok (.iload_n 3, 1) := by decide +kernel
theorem dX7_now_16 : decode cX7_now 16 = .ok (.iaload, 1) := by decide +kernel
theorem dX7_now_17 : decode cX7_now 17 = .ok (.ifCond .le 9, 3) := by decide +kernel
theorem dX7_now_20 : decode cX7_now 20 = .ok (.iconst 1, 1) := by decide +kernel
theorem dX7_now_21 : decode cX7_now 21 = .ok (.iload_n 3, 1) := by decide +kernel
theorem dX7_now_22 : decode cX7_now 22 = .ok (.ishl, 1) := by decide +kernel
theorem dX7_now_23 : decode cX7_now 23 = .ok (.goto 4, 3) := by decide +kernel
theorem dX7_now_26 : decode cX7_now 26 = .ok (.iconst 0, 1) := by decide +kernel
theorem dX7_now_27 : decode cX7_now 27 = .ok (.ior, 1) := by decide +kernel
theorem dX7_now_28 : decode cX7_now 28 = .ok (.istore_n 2, 1) := by decide +kernel
theorem dX7_now_29 : decode cX7_now 29 = .ok (.iinc 3 1, 3) := by decide +kernel
theorem dX7_now_32 : decode cX7_now 32 = .ok (.goto (-28), 3) := by decide +kernel
theorem dX7_now_35 : decode cX7_now 35 = .ok (.iload_n 1, 1) := by decide +kernel
theorem dX7_now_36 : decode cX7_now 36 = .ok (.tableswitch 90 0 5 #[40, 48, 56, 64, 66, 85], 40) := by decide +kernel
theorem dX7_now_76 : decode cX7_now 76 = .ok (.aload_n 0, 1) := by decide +kernel
theorem dX7_now_77 : decode cX7_now 77 = .ok (.getfield 16, 3) := by decide +kernel
theorem dX7_now_80 : decode cX7_now 80 = .ok (.bipush 21, 2) := by decide +kernel
theorem dX7_now_82 : decode cX7_now 82 = .ok (.iaload, 1) := by decide +kernel
theorem dX7_now_83 : decode cX7_now 83 = .ok (.ireturn, 1) := by decide +kernel
theorem dX7_now_84 : decode cX7_now 84 = .ok (.aload_n 0, 1) := by decide +kernel
theorem dX7_now_85 : decode cX7_now 85 = .ok (.getfield 16, 3) := by decide +kernel
theorem dX7_now_88 : decode cX7_now 88 = .ok (.bipush 22, 2) := by decide +kernel
theorem dX7_now_90 : decode cX7_now 90 = .ok (.iaload, 1) := by decide +kernel
theorem dX7_now_91 : decode cX7_now 91 = .ok (.ireturn, 1) := by decide +kernel
theorem dX7_now_92 : decode cX7_now 92 = .ok (.aload_n 0, 1) := by decide +kernel
theorem dX7_now_93 : decode cX7_now 93 = .ok (.getfield 16, 3) := by decide +kernel
theorem dX7_now_96 : decode cX7_now 96 = .ok (.bipush 20, 2) := by decide +kernel
theorem dX7_now_98 : decode cX7_now 98 = .ok (.iaload, 1) := by decide +kernel
theorem dX7_now_99 : decode cX7_now 99 = .ok (.ireturn, 1) := by decide +kernel
theorem dX7_now_100 : decode cX7_now 100 = .ok (.iload_n 2, 1) := by decide +kernel
theorem dX7_now_101 : decode cX7_now 101 = .ok (.ireturn, 1) := by decide +kernel
theorem dX7_now_102 : decode cX7_now 102 = .ok (.aload_n 0, 1) := by decide +kernel
theorem dX7_now_103 : decode cX7_now 103 = .ok (.aload_n 0, 1) := by decide +kernel
theorem dX7_now_104 : decode cX7_now 104 = .ok (.getfield 16, 3) := by decide +kernel
theorem dX7_now_107 : decode cX7_now 107 = .ok (.bipush 20, 2) := by decide +kernel
theorem dX7_now_109 : decode cX7_now 109 = .ok (.iaload, 1) := by decide +kernel
theorem dX7_now_110 : decode cX7_now 110 = .ok (.aload_n 0, 1) := by decide +kernel
theorem dX7_now_111 : decode cX7_now 111 = .ok (.getfield 16, 3) := by decide +kernel
theorem dX7_now_114 : decode cX7_now 114 = .ok (.bipush 21, 2) := by decide +kernel
theorem dX7_now_116 : decode cX7_now 116 = .ok (.iaload, 1) := by decide +kernel
theorem dX7_now_117 : decode cX7_now 117 = .ok (.invokevirtual 131, 3) := by decide +kernel
theorem dX7_now_120 : decode cX7_now 120 = .ok (.ireturn, 1) := by decide +kernel
theorem dX7_now_121 : decode cX7_now 121 = .ok (.aload_n 0, 1) := by decide +kernel
theorem dX7_now_122 : decode cX7_now 122 = .ok (.invokevirtual 146, 3) := by decide +kernel
theorem dX7_now_125 : decode cX7_now 125 = .ok (.ireturn, 1) := by decide +kernel
theorem dX7_now_126 : decode cX7_now 126 = .ok (.iconst (-1), 1) := by decide +kernel
theorem dX7_now_127 : decode cX7_now 127 = .ok (.ireturn, 1) := by decide +kernel
theorem dX7_costOf_0 : decode cX7_costOf 0 = .ok (.aload_n 0, 1) := by decide +kernel
theorem dX7_costOf_1 : decode cX7_costOf 1 = .ok (.getfield 16, 3) := by decide +kernel
theorem dX7_costOf_4 : decode cX7_costOf 4 = .ok (.iload_n 2, 1) := by decide +kernel
theorem dX7_costOf_5 : decode cX7_costOf 5 = .ok (.iaload, 1) := by decide +kernel
theorem dX7_costOf_6 : decode cX7_costOf 6 = .ok (.ifCond .eq 15, 3) := by decide +kernel
theorem dX7_costOf_9 : decode cX7_costOf 9 = .ok (.aload_n 0, 1) := by decide +kernel
theorem dX7_costOf_10 : decode cX7_costOf 10 = .ok (.getfield 16, 3) := by decide +kernel
theorem dX7_costOf_13 : decode cX7_costOf 13 = .ok (.iload_n 2, 1) := by decide +kernel
theorem dX7_costOf_14 : decode cX7_costOf 14 = .ok (.iaload, 1) := by decide +kernel
theorem dX7_costOf_15 : decode cX7_costOf 15 = .ok (.iload_n 1, 1) := by decide +kernel
theorem dX7_costOf_16 : decode cX7_costOf 16 = .ok (.iconst 1, 1) := by decide +kernel
theorem dX7_costOf_17 : decode cX7_costOf 17 = .ok (.iadd, 1) := by decide +kernel
theorem dX7_costOf_18 : decode cX7_costOf 18 = .ok (.if_icmp .ne 7, 3) := by decide +kernel
theorem dX7_costOf_21 : decode cX7_costOf 21 = .ok (.iconst 0, 1) := by decide +kernel
theorem dX7_costOf_22 : decode cX7_costOf 22 = .ok (.goto 4, 3) := by decide +kernel
theorem dX7_costOf_25 : decode cX7_costOf 25 = .ok (.iconst 1, 1) := by decide +kernel
theorem dX7_costOf_26 : decode cX7_costOf 26 = .ok (.ireturn, 1) := by decide +kernel
theorem dX7_leastBeside_0 : decode cX7_leastBeside 0 = .ok (.bipush 100, 2) := by decide +kernel
theorem dX7_leastBeside_2 : decode cX7_leastBeside 2 = .ok (.istore_n 3, 1) := by decide +kernel
theorem dX7_leastBeside_3 : decode cX7_leastBeside 3 = .ok (.iconst 0, 1) := by decide +kernel
theorem dX7_leastBeside_4 : decode cX7_leastBeside 4 = .ok (.istore 4, 2) := by decide +kernel
theorem dX7_leastBeside_6 : decode cX7_leastBeside 6 = .ok (.iload 4, 2) := by decide +kernel
theorem dX7_leastBeside_8 : decode cX7_leastBeside 8 = .ok (.iconst 4, 1) := by decide +kernel
theorem dX7_leastBeside_9 : decode cX7_leastBeside 9 = .ok (.if_icmp .ge 114, 3) := by decide +kernel
theorem dX7_leastBeside_12 : decode cX7_leastBeside 12 = .ok (.iload_n 1, 1) := by decide +kernel
theorem dX7_leastBeside_13 : decode cX7_leastBeside 13 = .ok (.iload 4, 2) := by decide +kernel
theorem dX7_leastBeside_15 : decode cX7_leastBeside 15 = .ok (.ifCond .ne 7, 3) := by decide +kernel
theorem dX7_leastBeside_18 : decode cX7_leastBeside 18 = .ok (.iconst 1, 1) := by decide +kernel
theorem dX7_leastBeside_19 : decode cX7_leastBeside 19 = .ok (.goto 14, 3) := by decide +kernel
theorem dX7_leastBeside_22 : decode cX7_leastBeside 22 = .ok (.iload 4, 2) := by decide +kernel
theorem dX7_leastBeside_24 : decode cX7_leastBeside 24 = .ok (.iconst 1, 1) := by decide +kernel
theorem dX7_leastBeside_25 : decode cX7_leastBeside 25 = .ok (.if_icmp .ne 7, 3) := by decide +kernel
theorem dX7_leastBeside_28 : decode cX7_leastBeside 28 = .ok (.iconst (-1), 1) := by decide +kernel
theorem dX7_leastBeside_29 : decode cX7_leastBeside 29 = .ok (.goto 4, 3) := by decide +kernel
theorem dX7_leastBeside_32 : decode cX7_leastBeside 32 = .ok (.iconst 0, 1) := by decide +kernel
theorem dX7_leastBeside_33 : decode cX7_leastBeside 33 = .ok (.iadd, 1) := by decide +kernel
theorem dX7_leastBeside_34 : decode cX7_leastBeside 34 = .ok (.istore 5, 2) := by decide +kernel
theorem dX7_leastBeside_36 : decode cX7_leastBeside 36 = .ok (.iload_n 2, 1) := by decide +kernel
theorem dX7_leastBeside_37 : decode cX7_leastBeside 37 = .ok (.iload 4, 2) := by decide +kernel
theorem dX7_leastBeside_39 : decode cX7_leastBeside 39 = .ok (.iconst 2, 1) := by decide +kernel
theorem dX7_leastBeside_40 : decode cX7_leastBeside 40 = .ok (.if_icmp .ne 7, 3) := by decide +kernel
theorem dX7_leastBeside_43 : decode cX7_leastBeside 43 = .ok (.iconst 1, 1) := by decide +kernel
theorem dX7_leastBeside_44 : decode cX7_leastBeside 44 = .ok (.goto 14, 3) := by decide +kernel
theorem dX7_leastBeside_47 : decode cX7_leastBeside 47 = .ok (.iload 4, 2) := by decide +kernel
theorem dX7_leastBeside_49 : decode cX7_leastBeside 49 = .ok (.iconst 3, 1) := by decide +kernel
theorem dX7_leastBeside_50 : decode cX7_leastBeside 50 = .ok (.if_icmp .ne 7, 3) := by decide +kernel
theorem dX7_leastBeside_53 : decode cX7_leastBeside 53 = .ok (.iconst (-1), 1) := by decide +kernel
theorem dX7_leastBeside_54 : decode cX7_leastBeside 54 = .ok (.goto 4, 3) := by decide +kernel
theorem dX7_leastBeside_57 : decode cX7_leastBeside 57 = .ok (.iconst 0, 1) := by decide +kernel
theorem dX7_leastBeside_58 : decode cX7_leastBeside 58 = .ok (.iadd, 1) := by decide +kernel
theorem dX7_leastBeside_59 : decode cX7_leastBeside 59 = .ok (.istore 6, 2) := by decide +kernel
theorem dX7_leastBeside_61 : decode cX7_leastBeside 61 = .ok (.aload_n 0, 1) := by decide +kernel
theorem dX7_leastBeside_62 : decode cX7_leastBeside 62 = .ok (.iload 5, 2) := by decide +kernel
theorem dX7_leastBeside_64 : decode cX7_leastBeside 64 = .ok (.iload 6, 2) := by decide +kernel
theorem dX7_leastBeside_66 : decode cX7_leastBeside 66 = .ok (.invokevirtual 112, 3) := by decide +kernel
theorem dX7_leastBeside_69 : decode cX7_leastBeside 69 = .ok (.ifCond .eq 23, 3) := by decide +kernel
theorem dX7_leastBeside_72 : decode cX7_leastBeside 72 = .ok (.aload_n 0, 1) := by decide +kernel
theorem dX7_leastBeside_73 : decode cX7_leastBeside 73 = .ok (.getfield 36, 3) := by decide +kernel
theorem dX7_leastBeside_76 : decode cX7_leastBeside 76 = .ok (.iconst 5, 1) := by decide +kernel
theorem dX7_leastBeside_77 : decode cX7_leastBeside 77 = .ok (.iload 6, 2) := by decide +kernel
theorem dX7_leastBeside_79 : decode cX7_leastBeside 79 = .ok (.imul, 1) := by decide +kernel
theorem dX7_leastBeside_80 : decode cX7_leastBeside 80 = .ok (.iload 5, 2) := by decide +kernel
theorem dX7_leastBeside_82 : decode cX7_leastBeside 82 = .ok (.iadd, 1) := by decide +kernel
theorem dX7_leastBeside_83 : decode cX7_leastBeside 83 = .ok (.iaload, 1) := by decide +kernel
theorem dX7_leastBeside_84 : decode cX7_leastBeside 84 = .ok (.iload_n 3, 1) := by decide +kernel
theorem dX7_leastBeside_85 : decode cX7_leastBeside 85 = .ok (.if_icmp .ge 7, 3) := by decide +kernel
theorem dX7_leastBeside_88 : decode cX7_leastBeside 88 = .ok (.iconst 1, 1) := by decide +kernel
theorem dX7_leastBeside_89 : decode cX7_leastBeside 89 = .ok (.goto 4, 3) := by decide +kernel
theorem dX7_leastBeside_92 : decode cX7_leastBeside 92 = .ok (.iconst 0, 1) := by decide +kernel
theorem dX7_leastBeside_93 : decode cX7_leastBeside 93 = .ok (.istore 7, 2) := by decide +kernel
theorem dX7_leastBeside_95 : decode cX7_leastBeside 95 = .ok (.iload 7, 2) := by decide +kernel
theorem dX7_leastBeside_97 : decode cX7_leastBeside 97 = .ok (.ifCond .eq 18, 3) := by decide +kernel
theorem dX7_leastBeside_100 : decode cX7_leastBeside 100 = .ok (.aload_n 0, 1) := by decide +kernel
theorem dX7_leastBeside_101 : decode cX7_leastBeside 101 = .ok (.getfield 36, 3) := by decide +kernel
theorem dX7_leastBeside_104 : decode cX7_leastBeside 104 = .ok (.iconst 5, 1) := by decide +kernel
theorem dX7_leastBeside_105 : decode cX7_leastBeside 105 = .ok (.iload 6, 2) := by decide +kernel
theorem dX7_leastBeside_107 : decode cX7_leastBeside 107 = .ok (.imul, 1) := by decide +kernel
theorem dX7_leastBeside_108 : decode cX7_leastBeside 108 = .ok (.iload 5, 2) := by decide +kernel
theorem dX7_leastBeside_110 : decode cX7_leastBeside 110 = .ok (.iadd, 1) := by decide +kernel
theorem dX7_leastBeside_111 : decode cX7_leastBeside 111 = .ok (.iaload, 1) := by decide +kernel
theorem dX7_leastBeside_112 : decode cX7_leastBeside 112 = .ok (.goto 4, 3) := by decide +kernel
theorem dX7_leastBeside_115 : decode cX7_leastBeside 115 = .ok (.iload_n 3, 1) := by decide +kernel
theorem dX7_leastBeside_116 : decode cX7_leastBeside 116 = .ok (.istore_n 3, 1) := by decide +kernel
theorem dX7_leastBeside_117 : decode cX7_leastBeside 117 = .ok (.iinc 4 1, 3) := by decide +kernel
theorem dX7_leastBeside_120 : decode cX7_leastBeside 120 = .ok (.goto (-114), 3) := by decide +kernel
theorem dX7_leastBeside_123 : decode cX7_leastBeside 123 = .ok (.iload_n 3, 1) := by decide +kernel
theorem dX7_leastBeside_124 : decode cX7_leastBeside 124 = .ok (.ireturn, 1) := by decide +kernel
theorem dX7_findFar_0 : decode cX7_findFar 0 = .ok (.iconst 0, 1) := by decide +kernel
theorem dX7_findFar_1 : decode cX7_findFar 1 = .ok (.istore_n 2, 1) := by decide +kernel
theorem dX7_findFar_2 : decode cX7_findFar 2 = .ok (.iload_n 2, 1) := by decide +kernel
theorem dX7_findFar_3 : decode cX7_findFar 3 = .ok (.bipush 20, 2) := by decide +kernel
theorem dX7_findFar_5 : decode cX7_findFar 5 = .ok (.if_icmp .ge 52, 3) := by decide +kernel
theorem dX7_findFar_8 : decode cX7_findFar 8 = .ok (.aload_n 0, 1) := by decide +kernel
theorem dX7_findFar_9 : decode cX7_findFar 9 = .ok (.getfield 36, 3) := by decide +kernel
theorem dX7_findFar_12 : decode cX7_findFar 12 = .ok (.iload_n 2, 1) := by decide +kernel
theorem dX7_findFar_13 : decode cX7_findFar 13 = .ok (.aload_n 0, 1) := by decide +kernel
theorem dX7_findFar_14 : decode cX7_findFar 14 = .ok (.iload_n 2, 1) := by decide +kernel
theorem dX7_findFar_15 : decode cX7_findFar 15 = .ok (.iconst 5, 1) := by decide +kernel
theorem dX7_findFar_16 : decode cX7_findFar 16 = .ok (.irem, 1) := by decide +kernel
theorem dX7_findFar_17 : decode cX7_findFar 17 = .ok (.iload_n 2, 1) := by decide +kernel
theorem dX7_findFar_18 : decode cX7_findFar 18 = .ok (.iconst 5, 1) := by decide +kernel
theorem dX7_findFar_19 : decode cX7_findFar 19 = .ok (.idiv, 1) := by decide +kernel
theorem dX7_findFar_20 : decode cX7_findFar 20 = .ok (.invokevirtual 112, 3) := by decide +kernel
theorem dX7_findFar_23 : decode cX7_findFar 23 = .ok (.ifCond .eq 25, 3) := by decide +kernel
theorem dX7_findFar_26 : decode cX7_findFar 26 = .ok (.iload_n 2, 1) := by decide +kernel
theorem dX7_findFar_27 : decode cX7_findFar 27 = .ok (.iconst 5, 1) := by decide +kernel
theorem dX7_findFar_28 : decode cX7_findFar 28 = .ok (.idiv, 1) := by decide +kernel
theorem dX7_findFar_29 : decode cX7_findFar 29 = .ok (.aload_n 0, 1) := by decide +kernel
theorem dX7_findFar_30 : decode cX7_findFar 30 = .ok (.getfield 16, 3) := by decide +kernel
theorem dX7_findFar_33 : decode cX7_findFar 33 = .ok (.bipush 22, 2) := by decide +kernel
theorem dX7_findFar_35 : decode cX7_findFar 35 = .ok (.iaload, 1) := by decide +kernel
theorem dX7_findFar_36 : decode cX7_findFar 36 = .ok (.if_icmp .ne 12, 3) := by decide +kernel
theorem dX7_findFar_39 : decode cX7_findFar 39 = .ok (.aload_n 0, 1) := by decide +kernel
theorem dX7_findFar_40 : decode cX7_findFar 40 = .ok (.iload_n 1, 1) := by decide +kernel
theorem dX7_findFar_41 : decode cX7_findFar 41 = .ok (.iload_n 2, 1) := by decide +kernel
theorem dX7_findFar_42 : decode cX7_findFar 42 = .ok (.invokevirtual 150, 3) := by decide +kernel
theorem dX7_findFar_45 : decode cX7_findFar 45 = .ok (.goto 5, 3) := by decide +kernel
theorem dX7_findFar_48 : decode cX7_findFar 48 = .ok (.bipush 100, 2) := by decide +kernel
theorem dX7_findFar_50 : decode cX7_findFar 50 = .ok (.iastore, 1) := by decide +kernel
theorem dX7_findFar_51 : decode cX7_findFar 51 = .ok (.iinc 2 1, 3) := by decide +kernel
theorem dX7_findFar_54 : decode cX7_findFar 54 = .ok (.goto (-52), 3) := by decide +kernel
theorem dX7_findFar_57 : decode cX7_findFar 57 = .ok (.iconst 0, 1) := by decide +kernel
theorem dX7_findFar_58 : decode cX7_findFar 58 = .ok (.istore_n 2, 1) := by decide +kernel
theorem dX7_findFar_59 : decode cX7_findFar 59 = .ok (.iload_n 2, 1) := by decide +kernel
theorem dX7_findFar_60 : decode cX7_findFar 60 = .ok (.bipush 20, 2) := by decide +kernel
theorem dX7_findFar_62 : decode cX7_findFar 62 = .ok (.if_icmp .ge 91, 3) := by decide +kernel
theorem dX7_findFar_65 : decode cX7_findFar 65 = .ok (.iconst 0, 1) := by decide +kernel
theorem dX7_findFar_66 : decode cX7_findFar 66 = .ok (.istore_n 3, 1) := by decide +kernel
theorem dX7_findFar_67 : decode cX7_findFar 67 = .ok (.iload_n 3, 1) := by decide +kernel
theorem dX7_findFar_68 : decode cX7_findFar 68 = .ok (.bipush 20, 2) := by decide +kernel
theorem dX7_findFar_70 : decode cX7_findFar 70 = .ok (.if_icmp .ge 77, 3) := by decide +kernel
theorem dX7_findFar_73 : decode cX7_findFar 73 = .ok (.aload_n 0, 1) := by decide +kernel
theorem dX7_findFar_74 : decode cX7_findFar 74 = .ok (.iload_n 3, 1) := by decide +kernel
theorem dX7_findFar_75 : decode cX7_findFar 75 = .ok (.iconst 5, 1) := by decide +kernel
theorem dX7_findFar_76 : decode cX7_findFar 76 = .ok (.irem, 1) := by decide +kernel
theorem dX7_findFar_77 : decode cX7_findFar 77 = .ok (.iload_n 3, 1) := by decide +kernel
theorem dX7_findFar_78 : decode cX7_findFar 78 = .ok (.iconst 5, 1) := by decide +kernel
theorem dX7_findFar_79 : decode cX7_findFar 79 = .ok (.idiv, 1) := by decide +kernel
theorem dX7_findFar_80 : decode cX7_findFar 80 = .ok (.invokevirtual 112, 3) := by decide +kernel
theorem dX7_findFar_83 : decode cX7_findFar 83 = .ok (.ifCond .eq 58, 3) := by decide +kernel
theorem dX7_findFar_86 : decode cX7_findFar 86 = .ok (.aload_n 0, 1) := by decide +kernel
theorem dX7_findFar_87 : decode cX7_findFar 87 = .ok (.iload_n 3, 1) := by decide +kernel
theorem dX7_findFar_88 : decode cX7_findFar 88 = .ok (.invokevirtual 125, 3) := by decide +kernel
theorem dX7_findFar_91 : decode cX7_findFar 91 = .ok (.ifCond .eq 50, 3) := by decide +kernel
theorem dX7_findFar_94 : decode cX7_findFar 94 = .ok (.aload_n 0, 1) := by decide +kernel
theorem dX7_findFar_95 : decode cX7_findFar 95 = .ok (.iload_n 3, 1) := by decide +kernel
theorem dX7_findFar_96 : decode cX7_findFar 96 = .ok (.iconst 5, 1) := by decide +kernel
theorem dX7_findFar_97 : decode cX7_findFar 97 = .ok (.irem, 1) := by decide +kernel
theorem dX7_findFar_98 : decode cX7_findFar 98 = .ok (.iload_n 3, 1) := by decide +kernel
theorem dX7_findFar_99 : decode cX7_findFar 99 = .ok (.iconst 5, 1) := by decide +kernel
theorem dX7_findFar_100 : decode cX7_findFar 100 = .ok (.idiv, 1) := by decide +kernel
theorem dX7_findFar_101 : decode cX7_findFar 101 = .ok (.invokevirtual 153, 3) := by decide +kernel
theorem dX7_findFar_104 : decode cX7_findFar 104 = .ok (.aload_n 0, 1) := by decide +kernel
theorem dX7_findFar_105 : decode cX7_findFar 105 = .ok (.iload_n 1, 1) := by decide +kernel
theorem dX7_findFar_106 : decode cX7_findFar 106 = .ok (.iload_n 3, 1) := by decide +kernel
theorem dX7_findFar_107 : decode cX7_findFar 107 = .ok (.invokevirtual 150, 3) := by decide +kernel
theorem dX7_findFar_110 : decode cX7_findFar 110 = .ok (.iadd, 1) := by decide +kernel
theorem dX7_findFar_111 : decode cX7_findFar 111 = .ok (.istore 4, 2) := by decide +kernel
theorem dX7_findFar_113 : decode cX7_findFar 113 = .ok (.aload_n 0, 1) := by decide +kernel
theorem dX7_findFar_114 : decode cX7_findFar 114 = .ok (.getfield 36, 3) := by decide +kernel
theorem dX7_findFar_117 : decode cX7_findFar 117 = .ok (.iload_n 3, 1) := by decide +kernel
theorem dX7_findFar_118 : decode cX7_findFar 118 = .ok (.iload 4, 2) := by decide +kernel
theorem dX7_findFar_120 : decode cX7_findFar 120 = .ok (.aload_n 0, 1) := by decide +kernel
theorem dX7_findFar_121 : decode cX7_findFar 121 = .ok (.getfield 36, 3) := by decide +kernel
theorem dX7_findFar_124 : decode cX7_findFar 124 = .ok (.iload_n 3, 1) := by decide +kernel
theorem dX7_findFar_125 : decode cX7_findFar 125 = .ok (.iaload, 1) := by decide +kernel
theorem dX7_findFar_126 : decode cX7_findFar 126 = .ok (.if_icmp .ge 8, 3) := by decide +kernel
theorem dX7_findFar_129 : decode cX7_findFar 129 = .ok (.iload 4, 2) := by decide +kernel
theorem dX7_findFar_131 : decode cX7_findFar 131 = .ok (.goto 9, 3) := by decide +kernel
theorem dX7_findFar_134 : decode cX7_findFar 134 = .ok (.aload_n 0, 1) := by decide +kernel
theorem dX7_findFar_135 : decode cX7_findFar 135 = .ok (.getfield 36, 3) := by decide +kernel
theorem dX7_findFar_138 : decode cX7_findFar 138 = .ok (.iload_n 3, 1) := by decide +kernel
theorem dX7_findFar_139 : decode cX7_findFar 139 = .ok (.iaload, 1) := by decide +kernel
theorem dX7_findFar_140 : decode cX7_findFar 140 = .ok (.iastore, 1) := by decide +kernel
theorem dX7_findFar_141 : decode cX7_findFar 141 = .ok (.iinc 3 1, 3) := by decide +kernel
theorem dX7_findFar_144 : decode cX7_findFar 144 = .ok (.goto (-77), 3) := by decide +kernel
theorem dX7_findFar_147 : decode cX7_findFar 147 = .ok (.iinc 2 1, 3) := by decide +kernel
theorem dX7_findFar_150 : decode cX7_findFar 150 = .ok (.goto (-91), 3) := by decide +kernel
theorem dX7_findFar_153 : decode cX7_findFar 153 = .ok (.return_, 1) := by decide +kernel
theorem dX7_water_0 : decode cX7_water 0 = .ok (.iload_n 1, 1) := by decide +kernel
theorem dX7_water_1 : decode cX7_water 1 = .ok (.invokestatic 128, 3) := by decide +kernel
theorem dX7_water_4 : decode cX7_water 4 = .ok (.ifCond .eq 24, 3) := by decide +kernel
theorem dX7_water_7 : decode cX7_water 7 = .ok (.aload_n 0, 1) := by decide +kernel
theorem dX7_water_8 : decode cX7_water 8 = .ok (.iload_n 2, 1) := by decide +kernel
theorem dX7_water_9 : decode cX7_water 9 = .ok (.iload_n 3, 1) := by decide +kernel
theorem dX7_water_10 : decode cX7_water 10 = .ok (.invokevirtual 112, 3) := by decide +kernel
theorem dX7_water_13 : decode cX7_water 13 = .ok (.ifCond .eq 15, 3) := by decide +kernel
theorem dX7_water_16 : decode cX7_water 16 = .ok (.aload_n 0, 1) := by decide +kernel
theorem dX7_water_17 : decode cX7_water 17 = .ok (.iconst 5, 1) := by decide +kernel
theorem dX7_water_18 : decode cX7_water 18 = .ok (.iload_n 3, 1) := by decide +kernel
theorem dX7_water_19 : decode cX7_water 19 = .ok (.imul, 1) := by decide +kernel
theorem dX7_water_20 : decode cX7_water 20 = .ok (.iload_n 2, 1) := by decide +kernel
theorem dX7_water_21 : decode cX7_water 21 = .ok (.iadd, 1) := by decide +kernel
theorem dX7_water_22 : decode cX7_water 22 = .ok (.invokevirtual 125, 3) := by decide +kernel
theorem dX7_water_25 : decode cX7_water 25 = .ok (.ifCond .ne 5, 3) := by decide +kernel
theorem dX7_water_28 : decode cX7_water 28 = .ok (.iconst (-1), 1) := by decide +kernel
theorem dX7_water_29 : decode cX7_water 29 = .ok (.ireturn, 1) := by decide +kernel
theorem dX7_water_30 : decode cX7_water 30 = .ok (.aload_n 0, 1) := by decide +kernel
theorem dX7_water_31 : decode cX7_water 31 = .ok (.iload_n 1, 1) := by decide +kernel
theorem dX7_water_32 : decode cX7_water 32 = .ok (.invokevirtual 156, 3) := by decide +kernel
theorem dX7_water_35 : decode cX7_water 35 = .ok (.aload_n 0, 1) := by decide +kernel
theorem dX7_water_36 : decode cX7_water 36 = .ok (.getfield 36, 3) := by decide +kernel
theorem dX7_water_39 : decode cX7_water 39 = .ok (.iconst 5, 1) := by decide +kernel
theorem dX7_water_40 : decode cX7_water 40 = .ok (.iload_n 3, 1) := by decide +kernel
theorem dX7_water_41 : decode cX7_water 41 = .ok (.imul, 1) := by decide +kernel
theorem dX7_water_42 : decode cX7_water 42 = .ok (.iload_n 2, 1) := by decide +kernel
theorem dX7_water_43 : decode cX7_water 43 = .ok (.iadd, 1) := by decide +kernel
theorem dX7_water_44 : decode cX7_water 44 = .ok (.iaload, 1) := by decide +kernel
theorem dX7_water_45 : decode cX7_water 45 = .ok (.ireturn, 1) := by decide +kernel
theorem dX7_help_0 : decode cX7_help 0 = .ok (.iload_n 1, 1) := by decide +kernel
theorem dX7_help_1 : decode cX7_help 1 = .ok (.invokestatic 128, 3) := by decide +kernel
theorem dX7_help_4 : decode cX7_help 4 = .ok (.ifCond .eq 12, 3) := by decide +kernel
theorem dX7_help_7 : decode cX7_help 7 = .ok (.iload_n 2, 1) := by decide +kernel
theorem dX7_help_8 : decode cX7_help 8 = .ok (.iconst 0, 1) := by decide +kernel
theorem dX7_help_9 : decode cX7_help 9 = .ok (.iconst 1, 1) := by decide +kernel
theorem dX7_help_10 : decode cX7_help 10 = .ok (.invokestatic 39, 3) := by decide +kernel
theorem dX7_help_13 : decode cX7_help 13 = .ok (.ifCond .ne 5, 3) := by decide +kernel
theorem dX7_help_16 : decode cX7_help 16 = .ok (.iconst (-1), 1) := by decide +kernel
theorem dX7_help_17 : decode cX7_help 17 = .ok (.ireturn, 1) := by decide +kernel
theorem dX7_help_18 : decode cX7_help 18 = .ok (.aload_n 0, 1) := by decide +kernel
theorem dX7_help_19 : decode cX7_help 19 = .ok (.iload_n 1, 1) := by decide +kernel
theorem dX7_help_20 : decode cX7_help 20 = .ok (.invokevirtual 122, 3) := by decide +kernel
theorem dX7_help_23 : decode cX7_help 23 = .ok (.istore_n 3, 1) := by decide +kernel
theorem dX7_help_24 : decode cX7_help 24 = .ok (.iload_n 3, 1) := by decide +kernel
theorem dX7_help_25 : decode cX7_help 25 = .ok (.aload_n 0, 1) := by decide +kernel
theorem dX7_help_26 : decode cX7_help 26 = .ok (.aload_n 0, 1) := by decide +kernel
theorem dX7_help_27 : decode cX7_help 27 = .ok (.getfield 16, 3) := by decide +kernel
theorem dX7_help_30 : decode cX7_help 30 = .ok (.bipush 20, 2) := by decide +kernel
theorem dX7_help_32 : decode cX7_help 32 = .ok (.iaload, 1) := by decide +kernel
theorem dX7_help_33 : decode cX7_help 33 = .ok (.aload_n 0, 1) := by decide +kernel
theorem dX7_help_34 : decode cX7_help 34 = .ok (.getfield 16, 3) := by decide +kernel
theorem dX7_help_37 : decode cX7_help 37 = .ok (.bipush 21, 2) := by decide +kernel
theorem dX7_help_39 : decode cX7_help 39 = .ok (.iaload, 1) := by decide +kernel
theorem dX7_help_40 : decode cX7_help 40 = .ok (.invokevirtual 131, 3) := by decide +kernel
theorem dX7_help_43 : decode cX7_help 43 = .ok (.iand, 1) := by decide +kernel
theorem dX7_help_44 : decode cX7_help 44 = .ok (.invokestatic 134, 3) := by decide +kernel
theorem dX7_help_47 : decode cX7_help 47 = .ok (.istore 4, 2) := by decide +kernel
theorem dX7_help_49 : decode cX7_help 49 = .ok (.bipush (-9), 2) := by decide +kernel
theorem dX7_help_51 : decode cX7_help 51 = .ok (.istore 5, 2) := by decide +kernel
theorem dX7_help_53 : decode cX7_help 53 = .ok (.iconst (-1), 1) := by decide +kernel
theorem dX7_help_54 : decode cX7_help 54 = .ok (.istore 6, 2) := by decide +kernel
theorem dX7_help_56 : decode cX7_help 56 = .ok (.iconst 0, 1) := by decide +kernel
theorem dX7_help_57 : decode cX7_help 57 = .ok (.istore 7, 2) := by decide +kernel
theorem dX7_help_59 : decode cX7_help 59 = .ok (.iload 7, 2) := by decide +kernel
theorem dX7_help_61 : decode cX7_help 61 = .ok (.bipush 20, 2) := by decide +kernel
theorem dX7_help_63 : decode cX7_help 63 = .ok (.if_icmp .ge 113, 3) := by decide +kernel
theorem dX7_help_66 : decode cX7_help 66 = .ok (.aload_n 0, 1) := by decide +kernel
theorem dX7_help_67 : decode cX7_help 67 = .ok (.iload 7, 2) := by decide +kernel
theorem dX7_help_69 : decode cX7_help 69 = .ok (.iconst 5, 1) := by decide +kernel
theorem dX7_help_70 : decode cX7_help 70 = .ok (.irem, 1) := by decide +kernel
theorem dX7_help_71 : decode cX7_help 71 = .ok (.iload 7, 2) := by decide +kernel
theorem dX7_help_73 : decode cX7_help 73 = .ok (.iconst 5, 1) := by decide +kernel
theorem dX7_help_74 : decode cX7_help 74 = .ok (.idiv, 1) := by decide +kernel
theorem dX7_help_75 : decode cX7_help 75 = .ok (.invokevirtual 112, 3) := by decide +kernel
theorem dX7_help_78 : decode cX7_help 78 = .ok (.ifCond .eq 92, 3) := by decide +kernel
theorem dX7_help_81 : decode cX7_help 81 = .ok (.aload_n 0, 1) := by decide +kernel
theorem dX7_help_82 : decode cX7_help 82 = .ok (.iload 7, 2) := by decide +kernel
theorem dX7_help_84 : decode cX7_help 84 = .ok (.invokevirtual 125, 3) := by decide +kernel
theorem dX7_help_87 : decode cX7_help 87 = .ok (.ifCond .eq 83, 3) := by decide +kernel
theorem dX7_help_90 : decode cX7_help 90 = .ok (.aload_n 0, 1) := by decide +kernel
theorem dX7_help_91 : decode cX7_help 91 = .ok (.getfield 16, 3) := by decide +kernel
theorem dX7_help_94 : decode cX7_help 94 = .ok (.bipush 20, 2) := by decide +kernel
theorem dX7_help_96 : decode cX7_help 96 = .ok (.iaload, 1) := by decide +kernel
theorem dX7_help_97 : decode cX7_help 97 = .ok (.iload 7, 2) := by decide +kernel
theorem dX7_help_99 : decode cX7_help 99 = .ok (.invokestatic 89, 3) := by decide +kernel
theorem dX7_help_102 : decode cX7_help 102 = .ok (.ifCond .ne 68, 3) := by decide +kernel
theorem dX7_help_105 : decode cX7_help 105 = .ok (.iload_n 3, 1) := by decide +kernel
theorem dX7_help_106 : decode cX7_help 106 = .ok (.aload_n 0, 1) := by decide +kernel
theorem dX7_help_107 : decode cX7_help 107 = .ok (.aload_n 0, 1) := by decide +kernel
theorem dX7_help_108 : decode cX7_help 108 = .ok (.getfield 16, 3) := by decide +kernel
theorem dX7_help_111 : decode cX7_help 111 = .ok (.bipush 20, 2) := by decide +kernel
theorem dX7_help_113 : decode cX7_help 113 = .ok (.iaload, 1) := by decide +kernel
theorem dX7_help_114 : decode cX7_help 114 = .ok (.iconst 1, 1) := by decide +kernel
theorem dX7_help_115 : decode cX7_help 115 = .ok (.iload 7, 2) := by decide +kernel
theorem dX7_help_117 : decode cX7_help 117 = .ok (.ishl, 1) := by decide +kernel
theorem dX7_help_118 : decode cX7_help 118 = .ok (.ior, 1) := by decide +kernel
theorem dX7_help_119 : decode cX7_help 119 = .ok (.aload_n 0, 1) := by decide +kernel
theorem dX7_help_120 : decode cX7_help 120 = .ok (.getfield 16, 3) := by decide +kernel
theorem dX7_help_123 : decode cX7_help 123 = .ok (.bipush 21, 2) := by decide +kernel
theorem dX7_help_125 : decode cX7_help 125 = .ok (.iaload, 1) := by decide +kernel
theorem dX7_help_126 : decode cX7_help 126 = .ok (.invokevirtual 131, 3) := by decide +kernel
theorem dX7_help_129 : decode cX7_help 129 = .ok (.iand, 1) := by decide +kernel
theorem dX7_help_130 : decode cX7_help 130 = .ok (.invokestatic 134, 3) := by decide +kernel
theorem dX7_help_133 : decode cX7_help 133 = .ok (.iload 4, 2) := by decide +kernel
theorem dX7_help_135 : decode cX7_help 135 = .ok (.isub, 1) := by decide +kernel
theorem dX7_help_136 : decode cX7_help 136 = .ok (.istore 8, 2) := by decide +kernel
theorem dX7_help_138 : decode cX7_help 138 = .ok (.iload 8, 2) := by decide +kernel
theorem dX7_help_140 : decode cX7_help 140 = .ok (.iload 6, 2) := by decide +kernel
theorem dX7_help_142 : decode cX7_help 142 = .ok (.if_icmp .le 8, 3) := by decide +kernel
theorem dX7_help_145 : decode cX7_help 145 = .ok (.iload 7, 2) := by decide +kernel
theorem dX7_help_147 : decode cX7_help 147 = .ok (.goto 5, 3) := by decide +kernel
theorem dX7_help_150 : decode cX7_help 150 = .ok (.iload 5, 2) := by decide +kernel
theorem dX7_help_152 : decode cX7_help 152 = .ok (.istore 5, 2) := by decide +kernel
theorem dX7_help_154 : decode cX7_help 154 = .ok (.iload 8, 2) := by decide +kernel
theorem dX7_help_156 : decode cX7_help 156 = .ok (.iload 6, 2) := by decide +kernel
theorem dX7_help_158 : decode cX7_help 158 = .ok (.if_icmp .le 8, 3) := by decide +kernel
theorem dX7_help_161 : decode cX7_help 161 = .ok (.iload 8, 2) := by decide +kernel
theorem dX7_help_163 : decode cX7_help 163 = .ok (.goto 5, 3) := by decide +kernel
theorem dX7_help_166 : decode cX7_help 166 = .ok (.iload 6, 2) := by decide +kernel
theorem dX7_help_168 : decode cX7_help 168 = .ok (.istore 6, 2) := by decide +kernel
theorem dX7_help_170 : decode cX7_help 170 = .ok (.iinc 7 1, 3) := by decide +kernel
theorem dX7_help_173 : decode cX7_help 173 = .ok (.goto (-114), 3) := by decide +kernel
theorem dX7_help_176 : decode cX7_help 176 = .ok (.iload 5, 2) := by decide +kernel
theorem dX7_help_178 : decode cX7_help 178 = .ok (.ifCond .lt 7, 3) := by decide +kernel
theorem dX7_help_181 : decode cX7_help 181 = .ok (.iload_n 2, 1) := by decide +kernel
theorem dX7_help_182 : decode cX7_help 182 = .ok (.ifCond .ne 8, 3) := by decide +kernel
theorem dX7_help_185 : decode cX7_help 185 = .ok (.iload 5, 2) := by decide +kernel
theorem dX7_help_187 : decode cX7_help 187 = .ok (.goto 5, 3) := by decide +kernel
theorem dX7_help_190 : decode cX7_help 190 = .ok (.iload 6, 2) := by decide +kernel
theorem dX7_help_192 : decode cX7_help 192 = .ok (.ireturn, 1) := by decide +kernel
theorem dX7_odds_0 : decode cX7_odds 0 = .ok (.aload_n 0, 1) := by decide +kernel
theorem dX7_odds_1 : decode cX7_odds 1 = .ok (.iload_n 1, 1) := by decide +kernel
theorem dX7_odds_2 : decode cX7_odds 2 = .ok (.iload_n 2, 1) := by decide +kernel
theorem dX7_odds_3 : decode cX7_odds 3 = .ok (.invokevirtual 112, 3) := by decide +kernel
theorem dX7_odds_6 : decode cX7_odds 6 = .ok (.ifCond .eq 34, 3) := by decide +kernel
theorem dX7_odds_9 : decode cX7_odds 9 = .ok (.iload_n 3, 1) := by decide +kernel
theorem dX7_odds_10 : decode cX7_odds 10 = .ok (.iconst 0, 1) := by decide +kernel
theorem dX7_odds_11 : decode cX7_odds 11 = .ok (.bipush 10, 2) := by decide +kernel
theorem dX7_odds_13 : decode cX7_odds 13 = .ok (.invokestatic 39, 3) := by decide +kernel
theorem dX7_odds_16 : decode cX7_odds 16 = .ok (.ifCond .eq 24, 3) := by decide +kernel
theorem dX7_odds_19 : decode cX7_odds 19 = .ok (.iload 4, 2) := by decide +kernel
theorem dX7_odds_21 : decode cX7_odds 21 = .ok (.iconst 0, 1) := by decide +kernel
theorem dX7_odds_22 : decode cX7_odds 22 = .ok (.bipush 6, 2) := by decide +kernel
theorem dX7_odds_24 : decode cX7_odds 24 = .ok (.invokestatic 39, 3) := by decide +kernel
theorem dX7_odds_27 : decode cX7_odds 27 = .ok (.ifCond .eq 13, 3) := by decide +kernel
theorem dX7_odds_30 : decode cX7_odds 30 = .ok (.iload 5, 2) := by decide +kernel
theorem dX7_odds_32 : decode cX7_odds 32 = .ok (.iconst 0, 1) := by decide +kernel
theorem dX7_odds_33 : decode cX7_odds 33 = .ok (.iconst 1, 1) := by decide +kernel
theorem dX7_odds_34 : decode cX7_odds 34 = .ok (.invokestatic 39, 3) := by decide +kernel
theorem dX7_odds_37 : decode cX7_odds 37 = .ok (.ifCond .ne 5, 3) := by decide +kernel
theorem dX7_odds_40 : decode cX7_odds 40 = .ok (.iconst (-1), 1) := by decide +kernel
theorem dX7_odds_41 : decode cX7_odds 41 = .ok (.ireturn, 1) := by decide +kernel
theorem dX7_odds_42 : decode cX7_odds 42 = .ok (.iconst 1, 1) := by decide +kernel
theorem dX7_odds_43 : decode cX7_odds 43 = .ok (.istore 6, 2) := by decide +kernel
theorem dX7_odds_45 : decode cX7_odds 45 = .ok (.iconst 0, 1) := by decide +kernel
theorem dX7_odds_46 : decode cX7_odds 46 = .ok (.istore 7, 2) := by decide +kernel
theorem dX7_odds_48 : decode cX7_odds 48 = .ok (.iconst 0, 1) := by decide +kernel
theorem dX7_odds_49 : decode cX7_odds 49 = .ok (.istore 8, 2) := by decide +kernel
theorem dX7_odds_51 : decode cX7_odds 51 = .ok (.iload 8, 2) := by decide +kernel
theorem dX7_odds_53 : decode cX7_odds 53 = .ok (.iload 4, 2) := by decide +kernel
theorem dX7_odds_55 : decode cX7_odds 55 = .ok (.if_icmp .ge 16, 3) := by decide +kernel
theorem dX7_odds_58 : decode cX7_odds 58 = .ok (.iload 6, 2) := by decide +kernel
theorem dX7_odds_60 : decode cX7_odds 60 = .ok (.bipush 10, 2) := by decide +kernel
theorem dX7_odds_62 : decode cX7_odds 62 = .ok (.imul, 1) := by decide +kernel
theorem dX7_odds_63 : decode cX7_odds 63 = .ok (.istore 6, 2) := by decide +kernel
theorem dX7_odds_65 : decode cX7_odds 65 = .ok (.iinc 8 1, 3) := by decide +kernel
theorem dX7_odds_68 : decode cX7_odds 68 = .ok (.goto (-17), 3) := by decide +kernel
theorem dX7_odds_71 : decode cX7_odds 71 = .ok (.iconst 0, 1) := by decide +kernel
theorem dX7_odds_72 : decode cX7_odds 72 = .ok (.istore 8, 2) := by decide +kernel
theorem dX7_odds_74 : decode cX7_odds 74 = .ok (.iload 8, 2) := by decide +kernel
theorem dX7_odds_76 : decode cX7_odds 76 = .ok (.iconst 1, 1) := by decide +kernel
theorem dX7_odds_77 : decode cX7_odds 77 = .ok (.iload 4, 2) := by decide +kernel
theorem dX7_odds_79 : decode cX7_odds 79 = .ok (.ishl, 1) := by decide +kernel
theorem dX7_odds_80 : decode cX7_odds 80 = .ok (.if_icmp .ge 110, 3) := by decide +kernel
theorem dX7_odds_83 : decode cX7_odds 83 = .ok (.aload_n 0, 1) := by decide +kernel
theorem dX7_odds_84 : decode cX7_odds 84 = .ok (.getfield 16, 3) := by decide +kernel
theorem dX7_odds_87 : decode cX7_odds 87 = .ok (.bipush 21, 2) := by decide +kernel
theorem dX7_odds_89 : decode cX7_odds 89 = .ok (.iaload, 1) := by decide +kernel
theorem dX7_odds_90 : decode cX7_odds 90 = .ok (.istore 9, 2) := by decide +kernel
theorem dX7_odds_92 : decode cX7_odds 92 = .ok (.iconst 1, 1) := by decide +kernel
theorem dX7_odds_93 : decode cX7_odds 93 = .ok (.istore 10, 2) := by decide +kernel
theorem dX7_odds_95 : decode cX7_odds 95 = .ok (.iconst 0, 1) := by decide +kernel
theorem dX7_odds_96 : decode cX7_odds 96 = .ok (.istore 11, 2) := by decide +kernel
theorem dX7_odds_98 : decode cX7_odds 98 = .ok (.iload 11, 2) := by decide +kernel
theorem dX7_odds_100 : decode cX7_odds 100 = .ok (.iload 4, 2) := by decide +kernel
theorem dX7_odds_102 : decode cX7_odds 102 = .ok (.if_icmp .ge 53, 3) := by decide +kernel
theorem dX7_odds_105 : decode cX7_odds 105 = .ok (.iload 10, 2) := by decide +kernel
theorem dX7_odds_107 : decode cX7_odds 107 = .ok (.iload 8, 2) := by decide +kernel
theorem dX7_odds_109 : decode cX7_odds 109 = .ok (.iload 11, 2) := by decide +kernel
theorem dX7_odds_111 : decode cX7_odds 111 = .ok (.invokestatic 89, 3) := by decide +kernel
theorem dX7_odds_114 : decode cX7_odds 114 = .ok (.ifCond .eq 7, 3) := by decide +kernel
theorem dX7_odds_117 : decode cX7_odds 117 = .ok (.iload_n 3, 1) := by decide +kernel
theorem dX7_odds_118 : decode cX7_odds 118 = .ok (.goto 7, 3) := by decide +kernel
theorem dX7_odds_121 : decode cX7_odds 121 = .ok (.bipush 10, 2) := by decide +kernel
theorem dX7_odds_123 : decode cX7_odds 123 = .ok (.iload_n 3, 1) := by decide +kernel
theorem dX7_odds_124 : decode cX7_odds 124 = .ok (.isub, 1) := by decide +kernel
theorem dX7_odds_125 : decode cX7_odds 125 = .ok (.imul, 1) := by decide +kernel
theorem dX7_odds_126 : decode cX7_odds 126 = .ok (.istore 10, 2) := by decide +kernel
theorem dX7_odds_128 : decode cX7_odds 128 = .ok (.iload 8, 2) := by decide +kernel
theorem dX7_odds_130 : decode cX7_odds 130 = .ok (.iload 11, 2) := by decide +kernel
theorem dX7_odds_132 : decode cX7_odds 132 = .ok (.invokestatic 89, 3) := by decide +kernel
theorem dX7_odds_135 : decode cX7_odds 135 = .ok (.ifCond .eq 10, 3) := by decide +kernel
theorem dX7_odds_138 : decode cX7_odds 138 = .ok (.iconst 1, 1) := by decide +kernel
theorem dX7_odds_139 : decode cX7_odds 139 = .ok (.iload 9, 2) := by decide +kernel
theorem dX7_odds_141 : decode cX7_odds 141 = .ok (.isub, 1) := by decide +kernel
theorem dX7_odds_142 : decode cX7_odds 142 = .ok (.goto 5, 3) := by decide +kernel
theorem dX7_odds_145 : decode cX7_odds 145 = .ok (.iload 9, 2) := by decide +kernel
theorem dX7_odds_147 : decode cX7_odds 147 = .ok (.istore 9, 2) := by decide +kernel
theorem dX7_odds_149 : decode cX7_odds 149 = .ok (.iinc 11 1, 3) := by decide +kernel
theorem dX7_odds_152 : decode cX7_odds 152 = .ok (.goto (-54), 3) := by decide +kernel
theorem dX7_odds_155 : decode cX7_odds 155 = .ok (.iload 7, 2) := by decide +kernel
theorem dX7_odds_157 : decode cX7_odds 157 = .ok (.aload_n 0, 1) := by decide +kernel
theorem dX7_odds_158 : decode cX7_odds 158 = .ok (.aload_n 0, 1) := by decide +kernel
theorem dX7_odds_159 : decode cX7_odds 159 = .ok (.getfield 16, 3) := by decide +kernel
theorem dX7_odds_162 : decode cX7_odds 162 = .ok (.bipush 20, 2) := by decide +kernel
theorem dX7_odds_164 : decode cX7_odds 164 = .ok (.iaload, 1) := by decide +kernel
theorem dX7_odds_165 : decode cX7_odds 165 = .ok (.iload_n 1, 1) := by decide +kernel
theorem dX7_odds_166 : decode cX7_odds 166 = .ok (.iload_n 2, 1) := by decide +kernel
theorem dX7_odds_167 : decode cX7_odds 167 = .ok (.iload 9, 2) := by decide +kernel
theorem dX7_odds_169 : decode cX7_odds 169 = .ok (.invokevirtual 118, 3) := by decide +kernel
theorem dX7_odds_172 : decode cX7_odds 172 = .ok (.ifCond .eq 8, 3) := by decide +kernel
theorem dX7_odds_175 : decode cX7_odds 175 = .ok (.iload 10, 2) := by decide +kernel
theorem dX7_odds_177 : decode cX7_odds 177 = .ok (.goto 4, 3) := by decide +kernel
theorem dX7_odds_180 : decode cX7_odds 180 = .ok (.iconst 0, 1) := by decide +kernel
theorem dX7_odds_181 : decode cX7_odds 181 = .ok (.iadd, 1) := by decide +kernel
theorem dX7_odds_182 : decode cX7_odds 182 = .ok (.istore 7, 2) := by decide +kernel
theorem dX7_odds_184 : decode cX7_odds 184 = .ok (.iinc 8 1, 3) := by decide +kernel
theorem dX7_odds_187 : decode cX7_odds 187 = .ok (.goto (-113), 3) := by decide +kernel
theorem dX7_odds_190 : decode cX7_odds 190 = .ok (.iload 7, 2) := by decide +kernel
theorem dX7_odds_192 : decode cX7_odds 192 = .ok (.istore 8, 2) := by decide +kernel
theorem dX7_odds_194 : decode cX7_odds 194 = .ok (.iload 6, 2) := by decide +kernel
theorem dX7_odds_196 : decode cX7_odds 196 = .ok (.istore 9, 2) := by decide +kernel
theorem dX7_odds_198 : decode cX7_odds 198 = .ok (.iload 9, 2) := by decide +kernel
theorem dX7_odds_200 : decode cX7_odds 200 = .ok (.ifCond .le 21, 3) := by decide +kernel
theorem dX7_odds_203 : decode cX7_odds 203 = .ok (.iload 8, 2) := by decide +kernel
theorem dX7_odds_205 : decode cX7_odds 205 = .ok (.iload 9, 2) := by decide +kernel
theorem dX7_odds_207 : decode cX7_odds 207 = .ok (.irem, 1) := by decide +kernel
theorem dX7_odds_208 : decode cX7_odds 208 = .ok (.istore 10, 2) := by decide +kernel
theorem dX7_odds_210 : decode cX7_odds 210 = .ok (.iload 9, 2) := by decide +kernel
theorem dX7_odds_212 : decode cX7_odds 212 = .ok (.istore 8, 2) := by decide +kernel
theorem dX7_odds_214 : decode cX7_odds 214 = .ok (.iload 10, 2) := by decide +kernel
theorem dX7_odds_216 : decode cX7_odds 216 = .ok (.istore 9, 2) := by decide +kernel
theorem dX7_odds_218 : decode cX7_odds 218 = .ok (.goto (-20), 3) := by decide +kernel
theorem dX7_odds_221 : decode cX7_odds 221 = .ok (.iload 5, 2) := by decide +kernel
theorem dX7_odds_223 : decode cX7_odds 223 = .ok (.ifCond .ne 8, 3) := by decide +kernel
theorem dX7_odds_226 : decode cX7_odds 226 = .ok (.iload 7, 2) := by decide +kernel
theorem dX7_odds_228 : decode cX7_odds 228 = .ok (.goto 5, 3) := by decide +kernel
theorem dX7_odds_231 : decode cX7_odds 231 = .ok (.iload 6, 2) := by decide +kernel
theorem dX7_odds_233 : decode cX7_odds 233 = .ok (.iload 8, 2) := by decide +kernel
theorem dX7_odds_235 : decode cX7_odds 235 = .ok (.idiv, 1) := by decide +kernel
theorem dX7_odds_236 : decode cX7_odds 236 = .ok (.ireturn, 1) := by decide +kernel
theorem dX7_saw_0 : decode cX7_saw 0 = .ok (.aload_n 0, 1) := by decide +kernel
theorem dX7_saw_1 : decode cX7_saw 1 = .ok (.iload_n 1, 1) := by decide +kernel
theorem dX7_saw_2 : decode cX7_saw 2 = .ok (.iload_n 2, 1) := by decide +kernel
theorem dX7_saw_3 : decode cX7_saw 3 = .ok (.invokevirtual 112, 3) := by decide +kernel
theorem dX7_saw_6 : decode cX7_saw 6 = .ok (.ifCond .eq 22, 3) := by decide +kernel
theorem dX7_saw_9 : decode cX7_saw 9 = .ok (.iload_n 3, 1) := by decide +kernel
theorem dX7_saw_10 : decode cX7_saw 10 = .ok (.iconst 0, 1) := by decide +kernel
theorem dX7_saw_11 : decode cX7_saw 11 = .ok (.iconst 1, 1) := by decide +kernel
theorem dX7_saw_12 : decode cX7_saw 12 = .ok (.invokestatic 39, 3) := by decide +kernel
theorem dX7_saw_15 : decode cX7_saw 15 = .ok (.ifCond .eq 13, 3) := by decide +kernel
theorem dX7_saw_18 : decode cX7_saw 18 = .ok (.iload 4, 2) := by decide +kernel
theorem dX7_saw_20 : decode cX7_saw 20 = .ok (.iconst 0, 1) := by decide +kernel
theorem dX7_saw_21 : decode cX7_saw 21 = .ok (.iconst 1, 1) := by decide +kernel
theorem dX7_saw_22 : decode cX7_saw 22 = .ok (.invokestatic 39, 3) := by decide +kernel
theorem dX7_saw_25 : decode cX7_saw 25 = .ok (.ifCond .ne 5, 3) := by decide +kernel
theorem dX7_saw_28 : decode cX7_saw 28 = .ok (.iconst (-1), 1) := by decide +kernel
theorem dX7_saw_29 : decode cX7_saw 29 = .ok (.ireturn, 1) := by decide +kernel
theorem dX7_saw_30 : decode cX7_saw 30 = .ok (.aload_n 0, 1) := by decide +kernel
theorem dX7_saw_31 : decode cX7_saw 31 = .ok (.getfield 109, 3) := by decide +kernel
theorem dX7_saw_34 : decode cX7_saw 34 = .ok (.bipush 6, 2) := by decide +kernel
theorem dX7_saw_36 : decode cX7_saw 36 = .ok (.if_icmp .ne 6, 3) := by decide +kernel
theorem dX7_saw_39 : decode cX7_saw 39 = .ok (.bipush (-3), 2) := by decide +kernel
theorem dX7_saw_41 : decode cX7_saw 41 = .ok (.ireturn, 1) := by decide +kernel
theorem dX7_saw_42 : decode cX7_saw 42 = .ok (.aload_n 0, 1) := by decide +kernel
theorem dX7_saw_43 : decode cX7_saw 43 = .ok (.getfield 27, 3) := by decide +kernel
theorem dX7_saw_46 : decode cX7_saw 46 = .ok (.iconst 3, 1) := by decide +kernel
theorem dX7_saw_47 : decode cX7_saw 47 = .ok (.aload_n 0, 1) := by decide +kernel
theorem dX7_saw_48 : decode cX7_saw 48 = .ok (.getfield 109, 3) := by decide +kernel
theorem dX7_saw_51 : decode cX7_saw 51 = .ok (.imul, 1) := by decide +kernel
theorem dX7_saw_52 : decode cX7_saw 52 = .ok (.iconst 5, 1) := by decide +kernel
theorem dX7_saw_53 : decode cX7_saw 53 = .ok (.iload_n 2, 1) := by decide +kernel
theorem dX7_saw_54 : decode cX7_saw 54 = .ok (.imul, 1) := by decide +kernel
theorem dX7_saw_55 : decode cX7_saw 55 = .ok (.iload_n 1, 1) := by decide +kernel
theorem dX7_saw_56 : decode cX7_saw 56 = .ok (.iadd, 1) := by decide +kernel
theorem dX7_saw_57 : decode cX7_saw 57 = .ok (.iastore, 1) := by decide +kernel
theorem dX7_saw_58 : decode cX7_saw 58 = .ok (.aload_n 0, 1) := by decide +kernel
theorem dX7_saw_59 : decode cX7_saw 59 = .ok (.getfield 27, 3) := by decide +kernel
theorem dX7_saw_62 : decode cX7_saw 62 = .ok (.iconst 3, 1) := by decide +kernel
theorem dX7_saw_63 : decode cX7_saw 63 = .ok (.aload_n 0, 1) := by decide +kernel
theorem dX7_saw_64 : decode cX7_saw 64 = .ok (.getfield 109, 3) := by decide +kernel
theorem dX7_saw_67 : decode cX7_saw 67 = .ok (.imul, 1) := by decide +kernel
theorem dX7_saw_68 : decode cX7_saw 68 = .ok (.iconst 1, 1) := by decide +kernel
theorem dX7_saw_69 : decode cX7_saw 69 = .ok (.iadd, 1) := by decide +kernel
theorem dX7_saw_70 : decode cX7_saw 70 = .ok (.iload_n 3, 1) := by decide +kernel
theorem dX7_saw_71 : decode cX7_saw 71 = .ok (.iastore, 1) := by decide +kernel
theorem dX7_saw_72 : decode cX7_saw 72 = .ok (.aload_n 0, 1) := by decide +kernel
theorem dX7_saw_73 : decode cX7_saw 73 = .ok (.getfield 27, 3) := by decide +kernel
theorem dX7_saw_76 : decode cX7_saw 76 = .ok (.iconst 3, 1) := by decide +kernel
theorem dX7_saw_77 : decode cX7_saw 77 = .ok (.aload_n 0, 1) := by decide +kernel
theorem dX7_saw_78 : decode cX7_saw 78 = .ok (.getfield 109, 3) := by decide +kernel
theorem dX7_saw_81 : decode cX7_saw 81 = .ok (.imul, 1) := by decide +kernel
theorem dX7_saw_82 : decode cX7_saw 82 = .ok (.iconst 2, 1) := by decide +kernel
theorem dX7_saw_83 : decode cX7_saw 83 = .ok (.iadd, 1) := by decide +kernel
theorem dX7_saw_84 : decode cX7_saw 84 = .ok (.iload 4, 2) := by decide +kernel
theorem dX7_saw_86 : decode cX7_saw 86 = .ok (.iastore, 1) := by decide +kernel
theorem dX7_saw_87 : decode cX7_saw 87 = .ok (.aload_n 0, 1) := by decide +kernel
theorem dX7_saw_88 : decode cX7_saw 88 = .ok (.dup, 1) := by decide +kernel
theorem dX7_saw_89 : decode cX7_saw 89 = .ok (.getfield 109, 3) := by decide +kernel
theorem dX7_saw_92 : decode cX7_saw 92 = .ok (.iconst 1, 1) := by decide +kernel
theorem dX7_saw_93 : decode cX7_saw 93 = .ok (.iadd, 1) := by decide +kernel
theorem dX7_saw_94 : decode cX7_saw 94 = .ok (.putfield 109, 3) := by decide +kernel
theorem dX7_saw_97 : decode cX7_saw 97 = .ok (.aload_n 0, 1) := by decide +kernel
theorem dX7_saw_98 : decode cX7_saw 98 = .ok (.getfield 109, 3) := by decide +kernel
theorem dX7_saw_101 : decode cX7_saw 101 = .ok (.ireturn, 1) := by decide +kernel
theorem dX7_forget_0 : decode cX7_forget 0 = .ok (.aload_n 0, 1) := by decide +kernel
theorem dX7_forget_1 : decode cX7_forget 1 = .ok (.getfield 109, 3) := by decide +kernel
theorem dX7_forget_4 : decode cX7_forget 4 = .ok (.istore_n 1, 1) := by decide +kernel
theorem dX7_forget_5 : decode cX7_forget 5 = .ok (.aload_n 0, 1) := by decide +kernel
theorem dX7_forget_6 : decode cX7_forget 6 = .ok (.iconst 0, 1) := by decide +kernel
theorem dX7_forget_7 : decode cX7_forget 7 = .ok (.putfield 109, 3) := by decide +kernel
theorem dX7_forget_10 : decode cX7_forget 10 = .ok (.iload_n 1, 1) := by decide +kernel
theorem dX7_forget_11 : decode cX7_forget 11 = .ok (.ireturn, 1) := by decide +kernel
theorem dX7_isSo_0 : decode cX7_isSo 0 = .ok (.iconst 1, 1) := by decide +kernel
theorem dX7_isSo_1 : decode cX7_isSo 1 = .ok (.istore_n 2, 1) := by decide +kernel
theorem dX7_isSo_2 : decode cX7_isSo 2 = .ok (.iconst 0, 1) := by decide +kernel
theorem dX7_isSo_3 : decode cX7_isSo 3 = .ok (.istore_n 3, 1) := by decide +kernel
theorem dX7_isSo_4 : decode cX7_isSo 4 = .ok (.iload_n 3, 1) := by decide +kernel
theorem dX7_isSo_5 : decode cX7_isSo 5 = .ok (.aload_n 0, 1) := by decide +kernel
theorem dX7_isSo_6 : decode cX7_isSo 6 = .ok (.getfield 109, 3) := by decide +kernel
theorem dX7_isSo_9 : decode cX7_isSo 9 = .ok (.if_icmp .ge 74, 3) := by decide +kernel
theorem dX7_isSo_12 : decode cX7_isSo 12 = .ok (.aload_n 0, 1) := by decide +kernel
theorem dX7_isSo_13 : decode cX7_isSo 13 = .ok (.getfield 27, 3) := by decide +kernel
theorem dX7_isSo_16 : decode cX7_isSo 16 = .ok (.iconst 3, 1) := by decide +kernel
theorem dX7_isSo_17 : decode cX7_isSo 17 = .ok (.iload_n 3, 1) := by decide +kernel
theorem dX7_isSo_18 : decode cX7_isSo 18 = .ok (.imul, 1) := by decide +kernel
theorem dX7_isSo_19 : decode cX7_isSo 19 = .ok (.iaload, 1) := by decide +kernel
theorem dX7_isSo_20 : decode cX7_isSo 20 = .ok (.istore 4, 2) := by decide +kernel
theorem dX7_isSo_22 : decode cX7_isSo 22 = .ok (.iload_n 2, 1) := by decide +kernel
theorem dX7_isSo_23 : decode cX7_isSo 23 = .ok (.ifCond .eq 52, 3) := by decide +kernel
theorem dX7_isSo_26 : decode cX7_isSo 26 = .ok (.aload_n 0, 1) := by decide +kernel
theorem dX7_isSo_27 : decode cX7_isSo 27 = .ok (.iload_n 1, 1) := by decide +kernel
theorem dX7_isSo_28 : decode cX7_isSo 28 = .ok (.iload 4, 2) := by decide +kernel
theorem dX7_isSo_30 : decode cX7_isSo 30 = .ok (.iconst 5, 1) := by decide +kernel
theorem dX7_isSo_31 : decode cX7_isSo 31 = .ok (.irem, 1) := by decide +kernel
theorem dX7_isSo_32 : decode cX7_isSo 32 = .ok (.iload 4, 2) := by decide +kernel
theorem dX7_isSo_34 : decode cX7_isSo 34 = .ok (.iconst 5, 1) := by decide +kernel
theorem dX7_isSo_35 : decode cX7_isSo 35 = .ok (.idiv, 1) := by decide +kernel
theorem dX7_isSo_36 : decode cX7_isSo 36 = .ok (.aload_n 0, 1) := by decide +kernel
theorem dX7_isSo_37 : decode cX7_isSo 37 = .ok (.getfield 27, 3) := by decide +kernel
theorem dX7_isSo_40 : decode cX7_isSo 40 = .ok (.iconst 3, 1) := by decide +kernel
theorem dX7_isSo_41 : decode cX7_isSo 41 = .ok (.iload_n 3, 1) := by decide +kernel
theorem dX7_isSo_42 : decode cX7_isSo 42 = .ok (.imul, 1) := by decide +kernel
theorem dX7_isSo_43 : decode cX7_isSo 43 = .ok (.iconst 1, 1) := by decide +kernel
theorem dX7_isSo_44 : decode cX7_isSo 44 = .ok (.iadd, 1) := by decide +kernel
theorem dX7_isSo_45 : decode cX7_isSo 45 = .ok (.iaload, 1) := by decide +kernel
theorem dX7_isSo_46 : decode cX7_isSo 46 = .ok (.invokevirtual 118, 3) := by decide +kernel
theorem dX7_isSo_49 : decode cX7_isSo 49 = .ok (.aload_n 0, 1) := by decide +kernel
theorem dX7_isSo_50 : decode cX7_isSo 50 = .ok (.getfield 27, 3) := by decide +kernel
theorem dX7_isSo_53 : decode cX7_isSo 53 = .ok (.iconst 3, 1) := by decide +kernel
theorem dX7_isSo_54 : decode cX7_isSo 54 = .ok (.iload_n 3, 1) := by decide +kernel
theorem dX7_isSo_55 : decode cX7_isSo 55 = .ok (.imul, 1) := by decide +kernel
theorem dX7_isSo_56 : decode cX7_isSo 56 = .ok (.iconst 2, 1) := by decide +kernel
theorem dX7_isSo_57 : decode cX7_isSo 57 = .ok (.iadd, 1) := by decide +kernel
theorem dX7_isSo_58 : decode cX7_isSo 58 = .ok (.iaload, 1) := by decide +kernel
theorem dX7_isSo_59 : decode cX7_isSo 59 = .ok (.iconst 1, 1) := by decide +kernel
theorem dX7_isSo_60 : decode cX7_isSo 60 = .ok (.if_icmp .ne 7, 3) := by decide +kernel
theorem dX7_isSo_63 : decode cX7_isSo 63 = .ok (.iconst 1, 1) := by decide +kernel
theorem dX7_isSo_64 : decode cX7_isSo 64 = .ok (.goto 4, 3) := by decide +kernel
theorem dX7_isSo_67 : decode cX7_isSo 67 = .ok (.iconst 0, 1) := by decide +kernel
theorem dX7_isSo_68 : decode cX7_isSo 68 = .ok (.if_icmp .ne 7, 3) := by decide +kernel
theorem dX7_isSo_71 : decode cX7_isSo 71 = .ok (.iconst 1, 1) := by decide +kernel
theorem dX7_isSo_72 : decode cX7_isSo 72 = .ok (.goto 4, 3) := by decide +kernel
theorem dX7_isSo_75 : decode cX7_isSo 75 = .ok (.iconst 0, 1) := by decide +kernel
theorem dX7_isSo_76 : decode cX7_isSo 76 = .ok (.istore_n 2, 1) := by decide +kernel
theorem dX7_isSo_77 : decode cX7_isSo 77 = .ok (.iinc 3 1, 3) := by decide +kernel
theorem dX7_isSo_80 : decode cX7_isSo 80 = .ok (.goto (-76), 3) := by decide +kernel
theorem dX7_isSo_83 : decode cX7_isSo 83 = .ok (.iload_n 2, 1) := by decide +kernel
theorem dX7_isSo_84 : decode cX7_isSo 84 = .ok (.ireturn, 1) := by decide +kernel
theorem dX7_moved_0 : decode cX7_moved 0 = .ok (.iload_n 1, 1) := by decide +kernel
theorem dX7_moved_1 : decode cX7_moved 1 = .ok (.iconst 0, 1) := by decide +kernel
theorem dX7_moved_2 : decode cX7_moved 2 = .ok (.iconst 1, 1) := by decide +kernel
theorem dX7_moved_3 : decode cX7_moved 3 = .ok (.invokestatic 39, 3) := by decide +kernel
theorem dX7_moved_6 : decode cX7_moved 6 = .ok (.ifCond .ne 5, 3) := by decide +kernel
theorem dX7_moved_9 : decode cX7_moved 9 = .ok (.iconst (-1), 1) := by decide +kernel
theorem dX7_moved_10 : decode cX7_moved 10 = .ok (.ireturn, 1) := by decide +kernel
theorem dX7_moved_11 : decode cX7_moved 11 = .ok (.iconst 0, 1) := by decide +kernel
theorem dX7_moved_12 : decode cX7_moved 12 = .ok (.istore_n 2, 1) := by decide +kernel
theorem dX7_moved_13 : decode cX7_moved 13 = .ok (.bipush (-9), 2) := by decide +kernel
theorem dX7_moved_15 : decode cX7_moved 15 = .ok (.istore_n 3, 1) := by decide +kernel
theorem dX7_moved_16 : decode cX7_moved 16 = .ok (.iconst 0, 1) := by decide +kernel
theorem dX7_moved_17 : decode cX7_moved 17 = .ok (.istore 4, 2) := by decide +kernel
theorem dX7_moved_19 : decode cX7_moved 19 = .ok (.iload 4, 2) := by decide +kernel
theorem dX7_moved_21 : decode cX7_moved 21 = .ok (.bipush 20, 2) := by decide +kernel
theorem dX7_moved_23 : decode cX7_moved 23 = .ok (.if_icmp .ge 135, 3) := by decide +kernel
theorem dX7_moved_26 : decode cX7_moved 26 = .ok (.iconst 0, 1) := by decide +kernel
theorem dX7_moved_27 : decode cX7_moved 27 = .ok (.istore 5, 2) := by decide +kernel
theorem dX7_moved_29 : decode cX7_moved 29 = .ok (.iload 5, 2) := by decide +kernel
theorem dX7_moved_31 : decode cX7_moved 31 = .ok (.bipush 20, 2) := by decide +kernel
theorem dX7_moved_33 : decode cX7_moved 33 = .ok (.if_icmp .ge 119, 3) := by decide +kernel
theorem dX7_moved_36 : decode cX7_moved 36 = .ok (.aload_n 0, 1) := by decide +kernel
theorem dX7_moved_37 : decode cX7_moved 37 = .ok (.getfield 16, 3) := by decide +kernel
theorem dX7_moved_40 : decode cX7_moved 40 = .ok (.bipush 20, 2) := by decide +kernel
theorem dX7_moved_42 : decode cX7_moved 42 = .ok (.iaload, 1) := by decide +kernel
theorem dX7_moved_43 : decode cX7_moved 43 = .ok (.iload 4, 2) := by decide +kernel
theorem dX7_moved_45 : decode cX7_moved 45 = .ok (.invokestatic 89, 3) := by decide +kernel
theorem dX7_moved_48 : decode cX7_moved 48 = .ok (.ifCond .eq 46, 3) := by decide +kernel
theorem dX7_moved_51 : decode cX7_moved 51 = .ok (.aload_n 0, 1) := by decide +kernel
theorem dX7_moved_52 : decode cX7_moved 52 = .ok (.iload 5, 2) := by decide +kernel
theorem dX7_moved_54 : decode cX7_moved 54 = .ok (.iconst 5, 1) := by decide +kernel
theorem dX7_moved_55 : decode cX7_moved 55 = .ok (.irem, 1) := by decide +kernel
theorem dX7_moved_56 : decode cX7_moved 56 = .ok (.iload 5, 2) := by decide +kernel
theorem dX7_moved_58 : decode cX7_moved 58 = .ok (.iconst 5, 1) := by decide +kernel
theorem dX7_moved_59 : decode cX7_moved 59 = .ok (.idiv, 1) := by decide +kernel
theorem dX7_moved_60 : decode cX7_moved 60 = .ok (.invokevirtual 112, 3) := by decide +kernel
theorem dX7_moved_63 : decode cX7_moved 63 = .ok (.ifCond .eq 31, 3) := by decide +kernel
theorem dX7_moved_66 : decode cX7_moved 66 = .ok (.aload_n 0, 1) := by decide +kernel
theorem dX7_moved_67 : decode cX7_moved 67 = .ok (.iload 5, 2) := by decide +kernel
theorem dX7_moved_69 : decode cX7_moved 69 = .ok (.invokevirtual 125, 3) := by decide +kernel
theorem dX7_moved_72 : decode cX7_moved 72 = .ok (.ifCond .eq 22, 3) := by decide +kernel
theorem dX7_moved_75 : decode cX7_moved 75 = .ok (.aload_n 0, 1) := by decide +kernel
theorem dX7_moved_76 : decode cX7_moved 76 = .ok (.getfield 16, 3) := by decide +kernel
theorem dX7_moved_79 : decode cX7_moved 79 = .ok (.bipush 20, 2) := by decide +kernel
theorem dX7_moved_81 : decode cX7_moved 81 = .ok (.iaload, 1) := by decide +kernel
theorem dX7_moved_82 : decode cX7_moved 82 = .ok (.iload 5, 2) := by decide +kernel
theorem dX7_moved_84 : decode cX7_moved 84 = .ok (.invokestatic 89, 3) := by decide +kernel
theorem dX7_moved_87 : decode cX7_moved 87 = .ok (.ifCond .ne 7, 3) := by decide +kernel
theorem dX7_moved_90 : decode cX7_moved 90 = .ok (.iconst 1, 1) := by decide +kernel
theorem dX7_moved_91 : decode cX7_moved 91 = .ok (.goto 4, 3) := by decide +kernel
theorem dX7_moved_94 : decode cX7_moved 94 = .ok (.iconst 0, 1) := by decide +kernel
theorem dX7_moved_95 : decode cX7_moved 95 = .ok (.istore 6, 2) := by decide +kernel
theorem dX7_moved_97 : decode cX7_moved 97 = .ok (.iload 6, 2) := by decide +kernel
theorem dX7_moved_99 : decode cX7_moved 99 = .ok (.ifCond .eq 47, 3) := by decide +kernel
theorem dX7_moved_102 : decode cX7_moved 102 = .ok (.aload_n 0, 1) := by decide +kernel
theorem dX7_moved_103 : decode cX7_moved 103 = .ok (.aload_n 0, 1) := by decide +kernel
theorem dX7_moved_104 : decode cX7_moved 104 = .ok (.getfield 16, 3) := by decide +kernel
theorem dX7_moved_107 : decode cX7_moved 107 = .ok (.bipush 20, 2) := by decide +kernel
theorem dX7_moved_109 : decode cX7_moved 109 = .ok (.iaload, 1) := by decide +kernel
theorem dX7_moved_110 : decode cX7_moved 110 = .ok (.iconst 1, 1) := by decide +kernel
theorem dX7_moved_111 : decode cX7_moved 111 = .ok (.iload 4, 2) := by decide +kernel
theorem dX7_moved_113 : decode cX7_moved 113 = .ok (.ishl, 1) := by decide +kernel
theorem dX7_moved_114 : decode cX7_moved 114 = .ok (.iconst 1, 1) := by decide +kernel
theorem dX7_moved_115 : decode cX7_moved 115 = .ok (.iload 5, 2) := by decide +kernel
theorem dX7_moved_117 : decode cX7_moved 117 = .ok (.ishl, 1) := by decide +kernel
theorem dX7_moved_118 : decode cX7_moved 118 = .ok (.ior, 1) := by decide +kernel
theorem dX7_moved_119 : decode cX7_moved 119 = .ok (.ixor, 1) := by decide +kernel
theorem dX7_moved_120 : decode cX7_moved 120 = .ok (.invokevirtual 160, 3) := by decide +kernel
theorem dX7_moved_123 : decode cX7_moved 123 = .ok (.ifCond .eq 23, 3) := by decide +kernel
theorem dX7_moved_126 : decode cX7_moved 126 = .ok (.iload_n 2, 1) := by decide +kernel
theorem dX7_moved_127 : decode cX7_moved 127 = .ok (.ifCond .ne 14, 3) := by decide +kernel
theorem dX7_moved_130 : decode cX7_moved 130 = .ok (.bipush 100, 2) := by decide +kernel
theorem dX7_moved_132 : decode cX7_moved 132 = .ok (.iload 4, 2) := by decide +kernel
theorem dX7_moved_134 : decode cX7_moved 134 = .ok (.imul, 1) := by decide +kernel
theorem dX7_moved_135 : decode cX7_moved 135 = .ok (.iload 5, 2) := by decide +kernel
theorem dX7_moved_137 : decode cX7_moved 137 = .ok (.iadd, 1) := by decide +kernel
theorem dX7_moved_138 : decode cX7_moved 138 = .ok (.goto 4, 3) := by decide +kernel
theorem dX7_moved_141 : decode cX7_moved 141 = .ok (.iload_n 3, 1) := by decide +kernel
theorem dX7_moved_142 : decode cX7_moved 142 = .ok (.istore_n 3, 1) := by decide +kernel
theorem dX7_moved_143 : decode cX7_moved 143 = .ok (.iinc 2 1, 3) := by decide +kernel
theorem dX7_moved_146 : decode cX7_moved 146 = .ok (.iinc 5 1, 3) := by decide +kernel
theorem dX7_moved_149 : decode cX7_moved 149 = .ok (.goto (-120), 3) := by decide +kernel
theorem dX7_moved_152 : decode cX7_moved 152 = .ok (.iinc 4 1, 3) := by decide +kernel
theorem dX7_moved_155 : decode cX7_moved 155 = .ok (.goto (-136), 3) := by decide +kernel
theorem dX7_moved_158 : decode cX7_moved 158 = .ok (.iload_n 1, 1) := by decide +kernel
theorem dX7_moved_159 : decode cX7_moved 159 = .ok (.ifCond .ne 7, 3) := by decide +kernel
theorem dX7_moved_162 : decode cX7_moved 162 = .ok (.iload_n 2, 1) := by decide +kernel
theorem dX7_moved_163 : decode cX7_moved 163 = .ok (.goto 4, 3) := by decide +kernel
theorem dX7_moved_166 : decode cX7_moved 166 = .ok (.iload_n 3, 1) := by decide +kernel
theorem dX7_moved_167 : decode cX7_moved 167 = .ok (.ireturn, 1) := by decide +kernel
theorem dX7_mark_0 : decode cX7_mark 0 = .ok (.iload_n 1, 1) := by decide +kernel
theorem dX7_mark_1 : decode cX7_mark 1 = .ok (.iconst 0, 1) := by decide +kernel
theorem dX7_mark_2 : decode cX7_mark 2 = .ok (.iconst 5, 1) := by decide +kernel
theorem dX7_mark_3 : decode cX7_mark 3 = .ok (.invokestatic 39, 3) := by decide +kernel
theorem dX7_mark_6 : decode cX7_mark 6 = .ok (.ifCond .eq 12, 3) := by decide +kernel
theorem dX7_mark_9 : decode cX7_mark 9 = .ok (.aload_n 0, 1) := by decide +kernel
theorem dX7_mark_10 : decode cX7_mark 10 = .ok (.iload_n 2, 1) := by decide +kernel
theorem dX7_mark_11 : decode cX7_mark 11 = .ok (.iload_n 3, 1) := by decide +kernel
theorem dX7_mark_12 : decode cX7_mark 12 = .ok (.invokevirtual 112, 3) := by decide +kernel
theorem dX7_mark_15 : decode cX7_mark 15 = .ok (.ifCond .ne 6, 3) := by decide +kernel
theorem dX7_mark_18 : decode cX7_mark 18 = .ok (.ldc 163, 2) := by decide +kernel
theorem dX7_mark_20 : decode cX7_mark 20 = .ok (.ireturn, 1) := by decide +kernel
theorem dX7_mark_21 : decode cX7_mark 21 = .ok (.iload_n 3, 1) := by decide +kernel
theorem dX7_mark_22 : decode cX7_mark 22 = .ok (.iload_n 2, 1) := by decide +kernel
theorem dX7_mark_23 : decode cX7_mark 23 = .ok (.ifCond .le 7, 3) := by decide +kernel
theorem dX7_mark_26 : decode cX7_mark 26 = .ok (.iconst 1, 1) := by decide +kernel
theorem dX7_mark_27 : decode cX7_mark 27 = .ok (.goto 4, 3) := by decide +kernel
theorem dX7_mark_30 : decode cX7_mark 30 = .ok (.iconst 0, 1) := by decide +kernel
theorem dX7_mark_31 : decode cX7_mark 31 = .ok (.iadd, 1) := by decide +kernel
theorem dX7_mark_32 : decode cX7_mark 32 = .ok (.iload_n 3, 1) := by decide +kernel
theorem dX7_mark_33 : decode cX7_mark 33 = .ok (.ifCond .le 7, 3) := by decide +kernel
theorem dX7_mark_36 : decode cX7_mark 36 = .ok (.iconst 1, 1) := by decide +kernel
theorem dX7_mark_37 : decode cX7_mark 37 = .ok (.goto 4, 3) := by decide +kernel
theorem dX7_mark_40 : decode cX7_mark 40 = .ok (.iconst 0, 1) := by decide +kernel
theorem dX7_mark_41 : decode cX7_mark 41 = .ok (.iadd, 1) := by decide +kernel
theorem dX7_mark_42 : decode cX7_mark 42 = .ok (.iload_n 2, 1) := by decide +kernel
theorem dX7_mark_43 : decode cX7_mark 43 = .ok (.iconst 1, 1) := by decide +kernel
theorem dX7_mark_44 : decode cX7_mark 44 = .ok (.iadd, 1) := by decide +kernel
theorem dX7_mark_45 : decode cX7_mark 45 = .ok (.aload_n 0, 1) := by decide +kernel
theorem dX7_mark_46 : decode cX7_mark 46 = .ok (.getfield 7, 3) := by decide +kernel
theorem dX7_mark_49 : decode cX7_mark 49 = .ok (.if_icmp .ge 7, 3) := by decide +kernel
theorem dX7_mark_52 : decode cX7_mark 52 = .ok (.iconst 1, 1) := by decide +kernel
theorem dX7_mark_53 : decode cX7_mark 53 = .ok (.goto 4, 3) := by decide +kernel
theorem dX7_mark_56 : decode cX7_mark 56 = .ok (.iconst 0, 1) := by decide +kernel
theorem dX7_mark_57 : decode cX7_mark 57 = .ok (.iadd, 1) := by decide +kernel
theorem dX7_mark_58 : decode cX7_mark 58 = .ok (.iload_n 3, 1) := by decide +kernel
theorem dX7_mark_59 : decode cX7_mark 59 = .ok (.iconst 1, 1) := by decide +kernel
theorem dX7_mark_60 : decode cX7_mark 60 = .ok (.iadd, 1) := by decide +kernel
theorem dX7_mark_61 : decode cX7_mark 61 = .ok (.aload_n 0, 1) := by decide +kernel
theorem dX7_mark_62 : decode cX7_mark 62 = .ok (.getfield 13, 3) := by decide +kernel
theorem dX7_mark_65 : decode cX7_mark 65 = .ok (.if_icmp .ge 7, 3) := by decide +kernel
theorem dX7_mark_68 : decode cX7_mark 68 = .ok (.iconst 1, 1) := by decide +kernel
theorem dX7_mark_69 : decode cX7_mark 69 = .ok (.goto 4, 3) := by decide +kernel
theorem dX7_mark_72 : decode cX7_mark 72 = .ok (.iconst 0, 1) := by decide +kernel
theorem dX7_mark_73 : decode cX7_mark 73 = .ok (.iadd, 1) := by decide +kernel
theorem dX7_mark_74 : decode cX7_mark 74 = .ok (.istore 4, 2) := by decide +kernel
theorem dX7_mark_76 : decode cX7_mark 76 = .ok (.aload_n 0, 1) := by decide +kernel
theorem dX7_mark_77 : decode cX7_mark 77 = .ok (.getfield 16, 3) := by decide +kernel
theorem dX7_mark_80 : decode cX7_mark 80 = .ok (.iconst 5, 1) := by decide +kernel
theorem dX7_mark_81 : decode cX7_mark 81 = .ok (.iload_n 3, 1) := by decide +kernel
theorem dX7_mark_82 : decode cX7_mark 82 = .ok (.imul, 1) := by decide +kernel
theorem dX7_mark_83 : decode cX7_mark 83 = .ok (.iload_n 2, 1) := by decide +kernel
theorem dX7_mark_84 : decode cX7_mark 84 = .ok (.iadd, 1) := by decide +kernel
theorem dX7_mark_85 : decode cX7_mark 85 = .ok (.iaload, 1) := by decide +kernel
theorem dX7_mark_86 : decode cX7_mark 86 = .ok (.istore 5, 2) := by decide +kernel
theorem dX7_mark_88 : decode cX7_mark 88 = .ok (.iload_n 1, 1) := by decide +kernel
theorem dX7_mark_89 : decode cX7_mark 89 = .ok (.tableswitch 142 1 5 #[35, 50, 66, 83, 120], 35) := by decide +kernel
theorem dX7_mark_124 : decode cX7_mark 124 = .ok (.aload_n 0, 1) := by decide +kernel
theorem dX7_mark_125 : decode cX7_mark 125 = .ok (.dup, 1) := by decide +kernel
theorem dX7_mark_126 : decode cX7_mark 126 = .ok (.getfield 164, 3) := by decide +kernel
theorem dX7_mark_129 : decode cX7_mark 129 = .ok (.ldc2_w 168, 3) := by decide +kernel
theorem dX7_mark_132 : decode cX7_mark 132 = .ok (.ladd, 1) := by decide +kernel
theorem dX7_mark_133 : decode cX7_mark 133 = .ok (.putfield 164, 3) := by decide +kernel
theorem dX7_mark_136 : decode cX7_mark 136 = .ok (.iload 4, 2) := by decide +kernel
theorem dX7_mark_138 : decode cX7_mark 138 = .ok (.ireturn, 1) := by decide +kernel
theorem dX7_mark_139 : decode cX7_mark 139 = .ok (.aload_n 0, 1) := by decide +kernel
theorem dX7_mark_140 : decode cX7_mark 140 = .ok (.dup, 1) := by decide +kernel
theorem dX7_mark_141 : decode cX7_mark 141 = .ok (.getfield 164, 3) := by decide +kernel
theorem dX7_mark_144 : decode cX7_mark 144 = .ok (.ldc2_w 170, 3) := by decide +kernel
theorem dX7_mark_147 : decode cX7_mark 147 = .ok (.ladd, 1) := by decide +kernel
theorem dX7_mark_148 : decode cX7_mark 148 = .ok (.putfield 164, 3) := by decide +kernel
theorem dX7_mark_151 : decode cX7_mark 151 = .ok (.iload_n 3, 1) := by decide +kernel
theorem dX7_mark_152 : decode cX7_mark 152 = .ok (.iload_n 2, 1) := by decide +kernel
theorem dX7_mark_153 : decode cX7_mark 153 = .ok (.isub, 1) := by decide +kernel
theorem dX7_mark_154 : decode cX7_mark 154 = .ok (.ireturn, 1) := by decide +kernel
theorem dX7_mark_155 : decode cX7_mark 155 = .ok (.aload_n 0, 1) := by decide +kernel
theorem dX7_mark_156 : decode cX7_mark 156 = .ok (.dup, 1) := by decide +kernel
theorem dX7_mark_157 : decode cX7_mark 157 = .ok (.getfield 164, 3) := by decide +kernel
theorem dX7_mark_160 : decode cX7_mark 160 = .ok (.ldc2_w 172, 3) := by decide +kernel
theorem dX7_mark_163 : decode cX7_mark 163 = .ok (.ladd, 1) := by decide +kernel
theorem dX7_mark_164 : decode cX7_mark 164 = .ok (.putfield 164, 3) := by decide +kernel
theorem dX7_mark_167 : decode cX7_mark 167 = .ok (.iconst 2, 1) := by decide +kernel
theorem dX7_mark_168 : decode cX7_mark 168 = .ok (.iload 4, 2) := by decide +kernel
theorem dX7_mark_170 : decode cX7_mark 170 = .ok (.imul, 1) := by decide +kernel
theorem dX7_mark_171 : decode cX7_mark 171 = .ok (.ireturn, 1) := by decide +kernel
theorem dX7_mark_172 : decode cX7_mark 172 = .ok (.aload_n 0, 1) := by decide +kernel
theorem dX7_mark_173 : decode cX7_mark 173 = .ok (.dup, 1) := by decide +kernel
theorem dX7_mark_174 : decode cX7_mark 174 = .ok (.getfield 164, 3) := by decide +kernel
theorem dX7_mark_177 : decode cX7_mark 177 = .ok (.ldc2_w 174, 3) := by decide +kernel
theorem dX7_mark_180 : decode cX7_mark 180 = .ok (.ladd, 1) := by decide +kernel
theorem dX7_mark_181 : decode cX7_mark 181 = .ok (.putfield 164, 3) := by decide +kernel
theorem dX7_mark_184 : decode cX7_mark 184 = .ok (.iload_n 3, 1) := by decide +kernel
theorem dX7_mark_185 : decode cX7_mark 185 = .ok (.iload_n 2, 1) := by decide +kernel
theorem dX7_mark_186 : decode cX7_mark 186 = .ok (.isub, 1) := by decide +kernel
theorem dX7_mark_187 : decode cX7_mark 187 = .ok (.iload 5, 2) := by decide +kernel
theorem dX7_mark_189 : decode cX7_mark 189 = .ok (.ifCond .ne 7, 3) := by decide +kernel
theorem dX7_mark_192 : decode cX7_mark 192 = .ok (.iconst 0, 1) := by decide +kernel
theorem dX7_mark_193 : decode cX7_mark 193 = .ok (.goto 14, 3) := by decide +kernel
theorem dX7_mark_196 : decode cX7_mark 196 = .ok (.aload_n 0, 1) := by decide +kernel
theorem dX7_mark_197 : decode cX7_mark 197 = .ok (.iload 5, 2) := by decide +kernel
theorem dX7_mark_199 : decode cX7_mark 199 = .ok (.iconst 1, 1) := by decide +kernel
theorem dX7_mark_200 : decode cX7_mark 200 = .ok (.isub, 1) := by decide +kernel
theorem dX7_mark_201 : decode cX7_mark 201 = .ok (.invokevirtual 122, 3) := by decide +kernel
theorem dX7_mark_204 : decode cX7_mark 204 = .ok (.invokestatic 134, 3) := by decide +kernel
theorem dX7_mark_207 : decode cX7_mark 207 = .ok (.iadd, 1) := by decide +kernel
theorem dX7_mark_208 : decode cX7_mark 208 = .ok (.ireturn, 1) := by decide +kernel
theorem dX7_mark_209 : decode cX7_mark 209 = .ok (.aload_n 0, 1) := by decide +kernel
theorem dX7_mark_210 : decode cX7_mark 210 = .ok (.dup, 1) := by decide +kernel
theorem dX7_mark_211 : decode cX7_mark 211 = .ok (.getfield 164, 3) := by decide +kernel
theorem dX7_mark_214 : decode cX7_mark 214 = .ok (.ldc2_w 176, 3) := by decide +kernel
theorem dX7_mark_217 : decode cX7_mark 217 = .ok (.ladd, 1) := by decide +kernel
theorem dX7_mark_218 : decode cX7_mark 218 = .ok (.putfield 164, 3) := by decide +kernel
theorem dX7_mark_221 : decode cX7_mark 221 = .ok (.iload_n 3, 1) := by decide +kernel
theorem dX7_mark_222 : decode cX7_mark 222 = .ok (.aload_n 0, 1) := by decide +kernel
theorem dX7_mark_223 : decode cX7_mark 223 = .ok (.getfield 16, 3) := by decide +kernel
theorem dX7_mark_226 : decode cX7_mark 226 = .ok (.bipush 22, 2) := by decide +kernel
theorem dX7_mark_228 : decode cX7_mark 228 = .ok (.iaload, 1) := by decide +kernel
theorem dX7_mark_229 : decode cX7_mark 229 = .ok (.iadd, 1) := by decide +kernel
theorem dX7_mark_230 : decode cX7_mark 230 = .ok (.ireturn, 1) := by decide +kernel
theorem dX7_mark_231 : decode cX7_mark 231 = .ok (.aload_n 0, 1) := by decide +kernel
theorem dX7_mark_232 : decode cX7_mark 232 = .ok (.dup, 1) := by decide +kernel
theorem dX7_mark_233 : decode cX7_mark 233 = .ok (.getfield 164, 3) := by decide +kernel
theorem dX7_mark_236 : decode cX7_mark 236 = .ok (.lconst 1, 1) := by decide +kernel
theorem dX7_mark_237 : decode cX7_mark 237 = .ok (.ladd, 1) := by decide +kernel
theorem dX7_mark_238 : decode cX7_mark 238 = .ok (.putfield 164, 3) := by decide +kernel
theorem dX7_mark_241 : decode cX7_mark 241 = .ok (.iload_n 3, 1) := by decide +kernel
theorem dX7_mark_242 : decode cX7_mark 242 = .ok (.ireturn, 1) := by decide +kernel
theorem dX7_keep_0 : decode cX7_keep 0 = .ok (.iload_n 1, 1) := by decide +kernel
theorem dX7_keep_1 : decode cX7_keep 1 = .ok (.iconst 0, 1) := by decide +kernel
theorem dX7_keep_2 : decode cX7_keep 2 = .ok (.iconst 1, 1) := by decide +kernel
theorem dX7_keep_3 : decode cX7_keep 3 = .ok (.invokestatic 39, 3) := by decide +kernel
theorem dX7_keep_6 : decode cX7_keep 6 = .ok (.ifCond .ne 5, 3) := by decide +kernel
theorem dX7_keep_9 : decode cX7_keep 9 = .ok (.iconst (-1), 1) := by decide +kernel
theorem dX7_keep_10 : decode cX7_keep 10 = .ok (.ireturn, 1) := by decide +kernel
theorem dX7_keep_11 : decode cX7_keep 11 = .ok (.iconst 0, 1) := by decide +kernel
theorem dX7_keep_12 : decode cX7_keep 12 = .ok (.istore_n 2, 1) := by decide +kernel
theorem dX7_keep_13 : decode cX7_keep 13 = .ok (.iload_n 2, 1) := by decide +kernel
theorem dX7_keep_14 : decode cX7_keep 14 = .ok (.sipush 254, 3) := by decide +kernel
theorem dX7_keep_17 : decode cX7_keep 17 = .ok (.if_icmp .ge 27, 3) := by decide +kernel
theorem dX7_keep_20 : decode cX7_keep 20 = .ok (.aload_n 0, 1) := by decide +kernel
theorem dX7_keep_21 : decode cX7_keep 21 = .ok (.getfield 20, 3) := by decide +kernel
theorem dX7_keep_24 : decode cX7_keep 24 = .ok (.sipush 254, 3) := by decide +kernel
theorem dX7_keep_27 : decode cX7_keep 27 = .ok (.iload_n 1, 1) := by decide +kernel
theorem dX7_keep_28 : decode cX7_keep 28 = .ok (.imul, 1) := by decide +kernel
theorem dX7_keep_29 : decode cX7_keep 29 = .ok (.iload_n 2, 1) := by decide +kernel
theorem dX7_keep_30 : decode cX7_keep 30 = .ok (.iadd, 1) := by decide +kernel
theorem dX7_keep_31 : decode cX7_keep 31 = .ok (.aload_n 0, 1) := by decide +kernel
theorem dX7_keep_32 : decode cX7_keep 32 = .ok (.getfield 16, 3) := by decide +kernel
theorem dX7_keep_35 : decode cX7_keep 35 = .ok (.iload_n 2, 1) := by decide +kernel
theorem dX7_keep_36 : decode cX7_keep 36 = .ok (.iaload, 1) := by decide +kernel
theorem dX7_keep_37 : decode cX7_keep 37 = .ok (.iastore, 1) := by decide +kernel
theorem dX7_keep_38 : decode cX7_keep 38 = .ok (.iinc 2 1, 3) := by decide +kernel
theorem dX7_keep_41 : decode cX7_keep 41 = .ok (.goto (-28), 3) := by decide +kernel
theorem dX7_keep_44 : decode cX7_keep 44 = .ok (.aload_n 0, 1) := by decide +kernel
theorem dX7_keep_45 : decode cX7_keep 45 = .ok (.getfield 23, 3) := by decide +kernel
theorem dX7_keep_48 : decode cX7_keep 48 = .ok (.iload_n 1, 1) := by decide +kernel
theorem dX7_keep_49 : decode cX7_keep 49 = .ok (.iconst 1, 1) := by decide +kernel
theorem dX7_keep_50 : decode cX7_keep 50 = .ok (.bastore, 1) := by decide +kernel
theorem dX7_keep_51 : decode cX7_keep 51 = .ok (.aload_n 0, 1) := by decide +kernel
theorem dX7_keep_52 : decode cX7_keep 52 = .ok (.getfield 16, 3) := by decide +kernel
theorem dX7_keep_55 : decode cX7_keep 55 = .ok (.bipush 22, 2) := by decide +kernel
theorem dX7_keep_57 : decode cX7_keep 57 = .ok (.iaload, 1) := by decide +kernel
theorem dX7_keep_58 : decode cX7_keep 58 = .ok (.ireturn, 1) := by decide +kernel
theorem dX7_back_0 : decode cX7_back 0 = .ok (.iload_n 1, 1) := by decide +kernel
theorem dX7_back_1 : decode cX7_back 1 = .ok (.iconst 0, 1) := by decide +kernel
theorem dX7_back_2 : decode cX7_back 2 = .ok (.iconst 1, 1) := by decide +kernel
theorem dX7_back_3 : decode cX7_back 3 = .ok (.invokestatic 39, 3) := by decide +kernel
theorem dX7_back_6 : decode cX7_back 6 = .ok (.ifCond .ne 5, 3) := by decide +kernel
theorem dX7_back_9 : decode cX7_back 9 = .ok (.iconst (-1), 1) := by decide +kernel
theorem dX7_back_10 : decode cX7_back 10 = .ok (.ireturn, 1) := by decide +kernel
theorem dX7_back_11 : decode cX7_back 11 = .ok (.aload_n 0, 1) := by decide +kernel
theorem dX7_back_12 : decode cX7_back 12 = .ok (.getfield 23, 3) := by decide +kernel
theorem dX7_back_15 : decode cX7_back 15 = .ok (.iload_n 1, 1) := by decide +kernel
theorem dX7_back_16 : decode cX7_back 16 = .ok (.baload, 1) := by decide +kernel
theorem dX7_back_17 : decode cX7_back 17 = .ok (.ifCond .ne 6, 3) := by decide +kernel
theorem dX7_back_20 : decode cX7_back 20 = .ok (.bipush (-2), 2) := by decide +kernel
theorem dX7_back_22 : decode cX7_back 22 = .ok (.ireturn, 1) := by decide +kernel
theorem dX7_back_23 : decode cX7_back 23 = .ok (.iconst 0, 1) := by decide +kernel
theorem dX7_back_24 : decode cX7_back 24 = .ok (.istore_n 2, 1) := by decide +kernel
theorem dX7_back_25 : decode cX7_back 25 = .ok (.iload_n 2, 1) := by decide +kernel
theorem dX7_back_26 : decode cX7_back 26 = .ok (.sipush 254, 3) := by decide +kernel
theorem dX7_back_29 : decode cX7_back 29 = .ok (.if_icmp .ge 27, 3) := by decide +kernel
theorem dX7_back_32 : decode cX7_back 32 = .ok (.aload_n 0, 1) := by decide +kernel
theorem dX7_back_33 : decode cX7_back 33 = .ok (.getfield 16, 3) := by decide +kernel
theorem dX7_back_36 : decode cX7_back 36 = .ok (.iload_n 2, 1) := by decide +kernel
theorem dX7_back_37 : decode cX7_back 37 = .ok (.aload_n 0, 1) := by decide +kernel
theorem dX7_back_38 : decode cX7_back 38 = .ok (.getfield 20, 3) := by decide +kernel
theorem dX7_back_41 : decode cX7_back 41 = .ok (.sipush 254, 3) := by decide +kernel
theorem dX7_back_44 : decode cX7_back 44 = .ok (.iload_n 1, 1) := by decide +kernel
theorem dX7_back_45 : decode cX7_back 45 = .ok (.imul, 1) := by decide +kernel
theorem dX7_back_46 : decode cX7_back 46 = .ok (.iload_n 2, 1) := by decide +kernel
theorem dX7_back_47 : decode cX7_back 47 = .ok (.iadd, 1) := by decide +kernel
theorem dX7_back_48 : decode cX7_back 48 = .ok (.iaload, 1) := by decide +kernel
theorem dX7_back_49 : decode cX7_back 49 = .ok (.iastore, 1) := by decide +kernel
theorem dX7_back_50 : decode cX7_back 50 = .ok (.iinc 2 1, 3) := by decide +kernel
theorem dX7_back_53 : decode cX7_back 53 = .ok (.goto (-28), 3) := by decide +kernel
theorem dX7_back_56 : decode cX7_back 56 = .ok (.aload_n 0, 1) := by decide +kernel
theorem dX7_back_57 : decode cX7_back 57 = .ok (.getfield 16, 3) := by decide +kernel
theorem dX7_back_60 : decode cX7_back 60 = .ok (.bipush 22, 2) := by decide +kernel
theorem dX7_back_62 : decode cX7_back 62 = .ok (.iaload, 1) := by decide +kernel
theorem dX7_back_63 : decode cX7_back 63 = .ok (.ireturn, 1) := by decide +kernel
theorem dX7_count_0 : decode cX7_count 0 = .ok (.iload_n 1, 1) := by decide +kernel
theorem dX7_count_1 : decode cX7_count 1 = .ok (.tableswitch 63 0 4 #[35, 40, 45, 50, 58], 35) := by decide +kernel
theorem dX7_count_36 : decode cX7_count 36 = .ok (.aload_n 0, 1) := by decide +kernel
theorem dX7_count_37 : decode cX7_count 37 = .ok (.getfield 7, 3) := by decide +kernel
theorem dX7_count_40 : decode cX7_count 40 = .ok (.ireturn, 1) := by decide +kernel
theorem dX7_count_41 : decode cX7_count 41 = .ok (.aload_n 0, 1) := by decide +kernel
theorem dX7_count_42 : decode cX7_count 42 = .ok (.getfield 13, 3) := by decide +kernel
theorem dX7_count_45 : decode cX7_count 45 = .ok (.ireturn, 1) := by decide +kernel
theorem dX7_count_46 : decode cX7_count 46 = .ok (.aload_n 0, 1) := by decide +kernel
theorem dX7_count_47 : decode cX7_count 47 = .ok (.getfield 109, 3) := by decide +kernel
theorem dX7_count_50 : decode cX7_count 50 = .ok (.ireturn, 1) := by decide +kernel
theorem dX7_count_51 : decode cX7_count 51 = .ok (.aload_n 0, 1) := by decide +kernel
theorem dX7_count_52 : decode cX7_count 52 = .ok (.getfield 16, 3) := by decide +kernel
theorem dX7_count_55 : decode cX7_count 55 = .ok (.bipush 23, 2) := by decide +kernel
theorem dX7_count_57 : decode cX7_count 57 = .ok (.iaload, 1) := by decide +kernel
theorem dX7_count_58 : decode cX7_count 58 = .ok (.ireturn, 1) := by decide +kernel
theorem dX7_count_59 : decode cX7_count 59 = .ok (.aload_n 0, 1) := by decide +kernel
theorem dX7_count_60 : decode cX7_count 60 = .ok (.getfield 43, 3) := by decide +kernel
theorem dX7_count_63 : decode cX7_count 63 = .ok (.ireturn, 1) := by decide +kernel
theorem dX7_count_64 : decode cX7_count 64 = .ok (.iconst (-1), 1) := by decide +kernel
theorem dX7_count_65 : decode cX7_count 65 = .ok (.ireturn, 1) := by decide +kernel
theorem dX7_trace_0 : decode cX7_trace 0 = .ok (.aload_n 0, 1) := by decide +kernel
theorem dX7_trace_1 : decode cX7_trace 1 = .ok (.getfield 164, 3) := by decide +kernel
theorem dX7_trace_4 : decode cX7_trace 4 = .ok (.lreturn, 1) := by decide +kernel
theorem dJ6_bitCount_0f7a4_0 : decode cJ6_bitCount_0f7a4 0 = .ok (.iload_n 0, 1) := by decide +kernel
theorem dJ6_bitCount_0f7a4_1 : decode cJ6_bitCount_0f7a4 1 = .ok (.iload_n 0, 1) := by decide +kernel
theorem dJ6_bitCount_0f7a4_2 : decode cJ6_bitCount_0f7a4 2 = .ok (.iconst 1, 1) := by decide +kernel
theorem dJ6_bitCount_0f7a4_3 : decode cJ6_bitCount_0f7a4 3 = .ok (.iushr, 1) := by decide +kernel
theorem dJ6_bitCount_0f7a4_4 : decode cJ6_bitCount_0f7a4 4 = .ok (.ldc_w 265, 3) := by decide +kernel
theorem dJ6_bitCount_0f7a4_7 : decode cJ6_bitCount_0f7a4 7 = .ok (.iand, 1) := by decide +kernel
theorem dJ6_bitCount_0f7a4_8 : decode cJ6_bitCount_0f7a4 8 = .ok (.isub, 1) := by decide +kernel
theorem dJ6_bitCount_0f7a4_9 : decode cJ6_bitCount_0f7a4 9 = .ok (.istore_n 0, 1) := by decide +kernel
theorem dJ6_bitCount_0f7a4_10 : decode cJ6_bitCount_0f7a4 10 = .ok (.iload_n 0, 1) := by decide +kernel
theorem dJ6_bitCount_0f7a4_11 : decode cJ6_bitCount_0f7a4 11 = .ok (.ldc_w 266, 3) := by decide +kernel
theorem dJ6_bitCount_0f7a4_14 : decode cJ6_bitCount_0f7a4 14 = .ok (.iand, 1) := by decide +kernel
theorem dJ6_bitCount_0f7a4_15 : decode cJ6_bitCount_0f7a4 15 = .ok (.iload_n 0, 1) := by decide +kernel
theorem dJ6_bitCount_0f7a4_16 : decode cJ6_bitCount_0f7a4 16 = .ok (.iconst 2, 1) := by decide +kernel
theorem dJ6_bitCount_0f7a4_17 : decode cJ6_bitCount_0f7a4 17 = .ok (.iushr, 1) := by decide +kernel
theorem dJ6_bitCount_0f7a4_18 : decode cJ6_bitCount_0f7a4 18 = .ok (.ldc_w 266, 3) := by decide +kernel
theorem dJ6_bitCount_0f7a4_21 : decode cJ6_bitCount_0f7a4 21 = .ok (.iand, 1) := by decide +kernel
theorem dJ6_bitCount_0f7a4_22 : decode cJ6_bitCount_0f7a4 22 = .ok (.iadd, 1) := by decide +kernel
theorem dJ6_bitCount_0f7a4_23 : decode cJ6_bitCount_0f7a4 23 = .ok (.istore_n 0, 1) := by decide +kernel
theorem dJ6_bitCount_0f7a4_24 : decode cJ6_bitCount_0f7a4 24 = .ok (.iload_n 0, 1) := by decide +kernel
theorem dJ6_bitCount_0f7a4_25 : decode cJ6_bitCount_0f7a4 25 = .ok (.iload_n 0, 1) := by decide +kernel
theorem dJ6_bitCount_0f7a4_26 : decode cJ6_bitCount_0f7a4 26 = .ok (.iconst 4, 1) := by decide +kernel
theorem dJ6_bitCount_0f7a4_27 : decode cJ6_bitCount_0f7a4 27 = .ok (.iushr, 1) := by decide +kernel
theorem dJ6_bitCount_0f7a4_28 : decode cJ6_bitCount_0f7a4 28 = .ok (.iadd, 1) := by decide +kernel
theorem dJ6_bitCount_0f7a4_29 : decode cJ6_bitCount_0f7a4 29 = .ok (.ldc_w 267, 3) := by decide +kernel
theorem dJ6_bitCount_0f7a4_32 : decode cJ6_bitCount_0f7a4 32 = .ok (.iand, 1) := by decide +kernel
theorem dJ6_bitCount_0f7a4_33 : decode cJ6_bitCount_0f7a4 33 = .ok (.istore_n 0, 1) := by decide +kernel
theorem dJ6_bitCount_0f7a4_34 : decode cJ6_bitCount_0f7a4 34 = .ok (.iload_n 0, 1) := by decide +kernel
theorem dJ6_bitCount_0f7a4_35 : decode cJ6_bitCount_0f7a4 35 = .ok (.iload_n 0, 1) := by decide +kernel
theorem dJ6_bitCount_0f7a4_36 : decode cJ6_bitCount_0f7a4 36 = .ok (.bipush 8, 2) := by decide +kernel
theorem dJ6_bitCount_0f7a4_38 : decode cJ6_bitCount_0f7a4 38 = .ok (.iushr, 1) := by decide +kernel
theorem dJ6_bitCount_0f7a4_39 : decode cJ6_bitCount_0f7a4 39 = .ok (.iadd, 1) := by decide +kernel
theorem dJ6_bitCount_0f7a4_40 : decode cJ6_bitCount_0f7a4 40 = .ok (.istore_n 0, 1) := by decide +kernel
theorem dJ6_bitCount_0f7a4_41 : decode cJ6_bitCount_0f7a4 41 = .ok (.iload_n 0, 1) := by decide +kernel
theorem dJ6_bitCount_0f7a4_42 : decode cJ6_bitCount_0f7a4 42 = .ok (.iload_n 0, 1) := by decide +kernel
theorem dJ6_bitCount_0f7a4_43 : decode cJ6_bitCount_0f7a4 43 = .ok (.bipush 16, 2) := by decide +kernel
theorem dJ6_bitCount_0f7a4_45 : decode cJ6_bitCount_0f7a4 45 = .ok (.iushr, 1) := by decide +kernel
theorem dJ6_bitCount_0f7a4_46 : decode cJ6_bitCount_0f7a4 46 = .ok (.iadd, 1) := by decide +kernel
theorem dJ6_bitCount_0f7a4_47 : decode cJ6_bitCount_0f7a4 47 = .ok (.istore_n 0, 1) := by decide +kernel
theorem dJ6_bitCount_0f7a4_48 : decode cJ6_bitCount_0f7a4 48 = .ok (.iload_n 0, 1) := by decide +kernel
theorem dJ6_bitCount_0f7a4_49 : decode cJ6_bitCount_0f7a4 49 = .ok (.bipush 63, 2) := by decide +kernel
theorem dJ6_bitCount_0f7a4_51 : decode cJ6_bitCount_0f7a4 51 = .ok (.iand, 1) := by decide +kernel
theorem dJ6_bitCount_0f7a4_52 : decode cJ6_bitCount_0f7a4 52 = .ok (.ireturn, 1) := by decide +kernel
theorem dL_law_0 : decode cL_law 0 = .ok (.new 7, 3) := by decide +kernel
theorem dL_law_3 : decode cL_law 3 = .ok (.dup, 1) := by decide +kernel
theorem dL_law_4 : decode cL_law 4 = .ok (.invokespecial 9, 3) := by decide +kernel
theorem dL_law_7 : decode cL_law 7 = .ok (.astore_n 1, 1) := by decide +kernel
theorem dL_law_8 : decode cL_law 8 = .ok (.new 10, 3) := by decide +kernel
theorem dL_law_11 : decode cL_law 11 = .ok (.dup, 1) := by decide +kernel
theorem dL_law_12 : decode cL_law 12 = .ok (.invokespecial 12, 3) := by decide +kernel
theorem dL_law_15 : decode cL_law 15 = .ok (.astore_n 2, 1) := by decide +kernel
theorem dL_law_16 : decode cL_law 16 = .ok (.iconst 0, 1) := by decide +kernel
theorem dL_law_17 : decode cL_law 17 = .ok (.istore_n 3, 1) := by decide +kernel
theorem dL_law_18 : decode cL_law 18 = .ok (.iload_n 3, 1) := by decide +kernel
theorem dL_law_19 : decode cL_law 19 = .ok (.aload_n 0, 1) := by decide +kernel
theorem dL_law_20 : decode cL_law 20 = .ok (.arraylength, 1) := by decide +kernel
theorem dL_law_21 : decode cL_law 21 = .ok (.bipush 6, 2) := by decide +kernel
theorem dL_law_23 : decode cL_law 23 = .ok (.isub, 1) := by decide +kernel
theorem dL_law_24 : decode cL_law 24 = .ok (.if_icmp .gt 792, 3) := by decide +kernel
theorem dL_law_27 : decode cL_law 27 = .ok (.aload_n 0, 1) := by decide +kernel
theorem dL_law_28 : decode cL_law 28 = .ok (.iload_n 3, 1) := by decide +kernel
theorem dL_law_29 : decode cL_law 29 = .ok (.iaload, 1) := by decide +kernel
theorem dL_law_30 : decode cL_law 30 = .ok (.bipush 31, 2) := by decide +kernel
theorem dL_law_32 : decode cL_law 32 = .ok (.iand, 1) := by decide +kernel
theorem dL_law_33 : decode cL_law 33 = .ok (.tableswitch 777 0 22 #[107, 130, 143, 156, 199, 232, 275, 308, 351, 364, 387, 400, 423, 466, 499, 562, 615, 628, 651, 694, 717, 740, 763], 107) := by decide +kernel
theorem dL_law_140 : decode cL_law 140 = .ok (.aload_n 1, 1) := by decide +kernel
theorem dL_law_141 : decode cL_law 141 = .ok (.aload_n 0, 1) := by decide +kernel
theorem dL_law_142 : decode cL_law 142 = .ok (.iload_n 3, 1) := by decide +kernel
theorem dL_law_143 : decode cL_law 143 = .ok (.iconst 1, 1) := by decide +kernel
theorem dL_law_144 : decode cL_law 144 = .ok (.iadd, 1) := by decide +kernel
theorem dL_law_145 : decode cL_law 145 = .ok (.iaload, 1) := by decide +kernel
theorem dL_law_146 : decode cL_law 146 = .ok (.invokevirtual 13, 3) := by decide +kernel
theorem dL_law_149 : decode cL_law 149 = .ok (.aload_n 2, 1) := by decide +kernel
theorem dL_law_150 : decode cL_law 150 = .ok (.aload_n 0, 1) := by decide +kernel
theorem dL_law_151 : decode cL_law 151 = .ok (.iload_n 3, 1) := by decide +kernel
theorem dL_law_152 : decode cL_law 152 = .ok (.iconst 1, 1) := by decide +kernel
theorem dL_law_153 : decode cL_law 153 = .ok (.iadd, 1) := by decide +kernel
theorem dL_law_154 : decode cL_law 154 = .ok (.iaload, 1) := by decide +kernel
theorem dL_law_155 : decode cL_law 155 = .ok (.invokevirtual 17, 3) := by decide +kernel
theorem dL_law_158 : decode cL_law 158 = .ok (.if_icmp .eq 652, 3) := by decide +kernel
theorem dL_law_161 : decode cL_law 161 = .ok (.iconst 0, 1) := by decide +kernel
theorem dL_law_162 : decode cL_law 162 = .ok (.ireturn, 1) := by decide +kernel
theorem dL_law_163 : decode cL_law 163 = .ok (.aload_n 1, 1) := by decide +kernel
theorem dL_law_164 : decode cL_law 164 = .ok (.invokevirtual 18, 3) := by decide +kernel
theorem dL_law_167 : decode cL_law 167 = .ok (.aload_n 2, 1) := by decide +kernel
theorem dL_law_168 : decode cL_law 168 = .ok (.invokevirtual 22, 3) := by decide +kernel
theorem dL_law_171 : decode cL_law 171 = .ok (.if_icmp .eq 639, 3) := by decide +kernel
theorem dL_law_174 : decode cL_law 174 = .ok (.iconst 0, 1) := by decide +kernel
theorem dL_law_175 : decode cL_law 175 = .ok (.ireturn, 1) := by decide +kernel
theorem dL_law_176 : decode cL_law 176 = .ok (.aload_n 1, 1) := by decide +kernel
theorem dL_law_177 : decode cL_law 177 = .ok (.invokevirtual 23, 3) := by decide +kernel
theorem dL_law_180 : decode cL_law 180 = .ok (.aload_n 2, 1) := by decide +kernel
theorem dL_law_181 : decode cL_law 181 = .ok (.invokevirtual 26, 3) := by decide +kernel
theorem dL_law_184 : decode cL_law 184 = .ok (.if_icmp .eq 626, 3) := by decide +kernel
theorem dL_law_187 : decode cL_law 187 = .ok (.iconst 0, 1) := by decide +kernel
theorem dL_law_188 : decode cL_law 188 = .ok (.ireturn, 1) := by decide +kernel
theorem dL_law_189 : decode cL_law 189 = .ok (.aload_n 1, 1) := by decide +kernel
theorem dL_law_190 : decode cL_law 190 = .ok (.aload_n 0, 1) := by decide +kernel
theorem dL_law_191 : decode cL_law 191 = .ok (.iload_n 3, 1) := by decide +kernel
theorem dL_law_192 : decode cL_law 192 = .ok (.iconst 1, 1) := by decide +kernel
theorem dL_law_193 : decode cL_law 193 = .ok (.iadd, 1) := by decide +kernel
theorem dL_law_194 : decode cL_law 194 = .ok (.iaload, 1) := by decide +kernel
theorem dL_law_195 : decode cL_law 195 = .ok (.aload_n 0, 1) := by decide +kernel
theorem dL_law_196 : decode cL_law 196 = .ok (.iload_n 3, 1) := by decide +kernel
theorem dL_law_197 : decode cL_law 197 = .ok (.iconst 2, 1) := by decide +kernel
theorem dL_law_198 : decode cL_law 198 = .ok (.iadd, 1) := by decide +kernel
theorem dL_law_199 : decode cL_law 199 = .ok (.iaload, 1) := by decide +kernel
theorem dL_law_200 : decode cL_law 200 = .ok (.aload_n 0, 1) := by decide +kernel
theorem dL_law_201 : decode cL_law 201 = .ok (.iload_n 3, 1) := by decide +kernel
theorem dL_law_202 : decode cL_law 202 = .ok (.iconst 3, 1) := by decide +kernel
theorem dL_law_203 : decode cL_law 203 = .ok (.iadd, 1) := by decide +kernel
theorem dL_law_204 : decode cL_law 204 = .ok (.iaload, 1) := by decide +kernel
theorem dL_law_205 : decode cL_law 205 = .ok (.invokevirtual 27, 3) := by decide +kernel
theorem dL_law_208 : decode cL_law 208 = .ok (.aload_n 2, 1) := by decide +kernel
theorem dL_law_209 : decode cL_law 209 = .ok (.aload_n 0, 1) := by decide +kernel
theorem dL_law_210 : decode cL_law 210 = .ok (.iload_n 3, 1) := by decide +kernel
theorem dL_law_211 : decode cL_law 211 = .ok (.iconst 1, 1) := by decide +kernel
theorem dL_law_212 : decode cL_law 212 = .ok (.iadd, 1) := by decide +kernel
theorem dL_law_213 : decode cL_law 213 = .ok (.iaload, 1) := by decide +kernel
theorem dL_law_214 : decode cL_law 214 = .ok (.aload_n 0, 1) := by decide +kernel
theorem dL_law_215 : decode cL_law 215 = .ok (.iload_n 3, 1) := by decide +kernel
theorem dL_law_216 : decode cL_law 216 = .ok (.iconst 2, 1) := by decide +kernel
theorem dL_law_217 : decode cL_law 217 = .ok (.iadd, 1) := by decide +kernel
theorem dL_law_218 : decode cL_law 218 = .ok (.iaload, 1) := by decide +kernel
theorem dL_law_219 : decode cL_law 219 = .ok (.aload_n 0, 1) := by decide +kernel
theorem dL_law_220 : decode cL_law 220 = .ok (.iload_n 3, 1) := by decide +kernel
theorem dL_law_221 : decode cL_law 221 = .ok (.iconst 3, 1) := by decide +kernel
theorem dL_law_222 : decode cL_law 222 = .ok (.iadd, 1) := by decide +kernel
theorem dL_law_223 : decode cL_law 223 = .ok (.iaload, 1) := by decide +kernel
theorem dL_law_224 : decode cL_law 224 = .ok (.invokevirtual 31, 3) := by decide +kernel
theorem dL_law_227 : decode cL_law 227 = .ok (.if_icmp .eq 583, 3) := by decide +kernel
theorem dL_law_230 : decode cL_law 230 = .ok (.iconst 0, 1) := by decide +kernel
theorem dL_law_231 : decode cL_law 231 = .ok (.ireturn, 1) := by decide +kernel
theorem dL_law_232 : decode cL_law 232 = .ok (.aload_n 1, 1) := by decide +kernel
theorem dL_law_233 : decode cL_law 233 = .ok (.aload_n 0, 1) := by decide +kernel
theorem dL_law_234 : decode cL_law 234 = .ok (.iload_n 3, 1) := by decide +kernel
theorem dL_law_235 : decode cL_law 235 = .ok (.iconst 1, 1) := by decide +kernel
theorem dL_law_236 : decode cL_law 236 = .ok (.iadd, 1) := by decide +kernel
theorem dL_law_237 : decode cL_law 237 = .ok (.iaload, 1) := by decide +kernel
theorem dL_law_238 : decode cL_law 238 = .ok (.aload_n 0, 1) := by decide +kernel
theorem dL_law_239 : decode cL_law 239 = .ok (.iload_n 3, 1) := by decide +kernel
theorem dL_law_240 : decode cL_law 240 = .ok (.iconst 2, 1) := by decide +kernel
theorem dL_law_241 : decode cL_law 241 = .ok (.iadd, 1) := by decide +kernel
theorem dL_law_242 : decode cL_law 242 = .ok (.iaload, 1) := by decide +kernel
theorem dL_law_243 : decode cL_law 243 = .ok (.invokevirtual 32, 3) := by decide +kernel
theorem dL_law_246 : decode cL_law 246 = .ok (.aload_n 2, 1) := by decide +kernel
theorem dL_law_247 : decode cL_law 247 = .ok (.aload_n 0, 1) := by decide +kernel
theorem dL_law_248 : decode cL_law 248 = .ok (.iload_n 3, 1) := by decide +kernel
theorem dL_law_249 : decode cL_law 249 = .ok (.iconst 1, 1) := by decide +kernel
theorem dL_law_250 : decode cL_law 250 = .ok (.iadd, 1) := by decide +kernel
theorem dL_law_251 : decode cL_law 251 = .ok (.iaload, 1) := by decide +kernel
theorem dL_law_252 : decode cL_law 252 = .ok (.aload_n 0, 1) := by decide +kernel
theorem dL_law_253 : decode cL_law 253 = .ok (.iload_n 3, 1) := by decide +kernel
theorem dL_law_254 : decode cL_law 254 = .ok (.iconst 2, 1) := by decide +kernel
theorem dL_law_255 : decode cL_law 255 = .ok (.iadd, 1) := by decide +kernel
theorem dL_law_256 : decode cL_law 256 = .ok (.iaload, 1) := by decide +kernel
theorem dL_law_257 : decode cL_law 257 = .ok (.invokevirtual 36, 3) := by decide +kernel
theorem dL_law_260 : decode cL_law 260 = .ok (.if_icmp .eq 550, 3) := by decide +kernel
theorem dL_law_263 : decode cL_law 263 = .ok (.iconst 0, 1) := by decide +kernel
theorem dL_law_264 : decode cL_law 264 = .ok (.ireturn, 1) := by decide +kernel
theorem dL_law_265 : decode cL_law 265 = .ok (.aload_n 1, 1) := by decide +kernel
theorem dL_law_266 : decode cL_law 266 = .ok (.aload_n 0, 1) := by decide +kernel
theorem dL_law_267 : decode cL_law 267 = .ok (.iload_n 3, 1) := by decide +kernel
theorem dL_law_268 : decode cL_law 268 = .ok (.iconst 1, 1) := by decide +kernel
theorem dL_law_269 : decode cL_law 269 = .ok (.iadd, 1) := by decide +kernel
theorem dL_law_270 : decode cL_law 270 = .ok (.iaload, 1) := by decide +kernel
theorem dL_law_271 : decode cL_law 271 = .ok (.aload_n 0, 1) := by decide +kernel
theorem dL_law_272 : decode cL_law 272 = .ok (.iload_n 3, 1) := by decide +kernel
theorem dL_law_273 : decode cL_law 273 = .ok (.iconst 2, 1) := by decide +kernel
theorem dL_law_274 : decode cL_law 274 = .ok (.iadd, 1) := by decide +kernel
theorem dL_law_275 : decode cL_law 275 = .ok (.iaload, 1) := by decide +kernel
theorem dL_law_276 : decode cL_law 276 = .ok (.aload_n 0, 1) := by decide +kernel
theorem dL_law_277 : decode cL_law 277 = .ok (.iload_n 3, 1) := by decide +kernel
theorem dL_law_278 : decode cL_law 278 = .ok (.iconst 3, 1) := by decide +kernel
theorem dL_law_279 : decode cL_law 279 = .ok (.iadd, 1) := by decide +kernel
theorem dL_law_280 : decode cL_law 280 = .ok (.iaload, 1) := by decide +kernel
theorem dL_law_281 : decode cL_law 281 = .ok (.invokevirtual 37, 3) := by decide +kernel
theorem dL_law_284 : decode cL_law 284 = .ok (.aload_n 2, 1) := by decide +kernel
theorem dL_law_285 : decode cL_law 285 = .ok (.aload_n 0, 1) := by decide +kernel
theorem dL_law_286 : decode cL_law 286 = .ok (.iload_n 3, 1) := by decide +kernel
theorem dL_law_287 : decode cL_law 287 = .ok (.iconst 1, 1) := by decide +kernel
theorem dL_law_288 : decode cL_law 288 = .ok (.iadd, 1) := by decide +kernel
theorem dL_law_289 : decode cL_law 289 = .ok (.iaload, 1) := by decide +kernel
theorem dL_law_290 : decode cL_law 290 = .ok (.aload_n 0, 1) := by decide +kernel
theorem dL_law_291 : decode cL_law 291 = .ok (.iload_n 3, 1) := by decide +kernel
theorem dL_law_292 : decode cL_law 292 = .ok (.iconst 2, 1) := by decide +kernel
theorem dL_law_293 : decode cL_law 293 = .ok (.iadd, 1) := by decide +kernel
theorem dL_law_294 : decode cL_law 294 = .ok (.iaload, 1) := by decide +kernel
theorem dL_law_295 : decode cL_law 295 = .ok (.aload_n 0, 1) := by decide +kernel
theorem dL_law_296 : decode cL_law 296 = .ok (.iload_n 3, 1) := by decide +kernel
theorem dL_law_297 : decode cL_law 297 = .ok (.iconst 3, 1) := by decide +kernel
theorem dL_law_298 : decode cL_law 298 = .ok (.iadd, 1) := by decide +kernel
theorem dL_law_299 : decode cL_law 299 = .ok (.iaload, 1) := by decide +kernel
theorem dL_law_300 : decode cL_law 300 = .ok (.invokevirtual 40, 3) := by decide +kernel
theorem dL_law_303 : decode cL_law 303 = .ok (.if_icmp .eq 507, 3) := by decide +kernel
theorem dL_law_306 : decode cL_law 306 = .ok (.iconst 0, 1) := by decide +kernel
theorem dL_law_307 : decode cL_law 307 = .ok (.ireturn, 1) := by decide +kernel
theorem dL_law_308 : decode cL_law 308 = .ok (.aload_n 1, 1) := by decide +kernel
theorem dL_law_309 : decode cL_law 309 = .ok (.aload_n 0, 1) := by decide +kernel
theorem dL_law_310 : decode cL_law 310 = .ok (.iload_n 3, 1) := by decide +kernel
theorem dL_law_311 : decode cL_law 311 = .ok (.iconst 1, 1) := by decide +kernel
theorem dL_law_312 : decode cL_law 312 = .ok (.iadd, 1) := by decide +kernel
theorem dL_law_313 : decode cL_law 313 = .ok (.iaload, 1) := by decide +kernel
theorem dL_law_314 : decode cL_law 314 = .ok (.aload_n 0, 1) := by decide +kernel
theorem dL_law_315 : decode cL_law 315 = .ok (.iload_n 3, 1) := by decide +kernel
theorem dL_law_316 : decode cL_law 316 = .ok (.iconst 2, 1) := by decide +kernel
theorem dL_law_317 : decode cL_law 317 = .ok (.iadd, 1) := by decide +kernel
theorem dL_law_318 : decode cL_law 318 = .ok (.iaload, 1) := by decide +kernel
theorem dL_law_319 : decode cL_law 319 = .ok (.invokevirtual 41, 3) := by decide +kernel
theorem dL_law_322 : decode cL_law 322 = .ok (.aload_n 2, 1) := by decide +kernel
theorem dL_law_323 : decode cL_law 323 = .ok (.aload_n 0, 1) := by decide +kernel
theorem dL_law_324 : decode cL_law 324 = .ok (.iload_n 3, 1) := by decide +kernel
theorem dL_law_325 : decode cL_law 325 = .ok (.iconst 1, 1) := by decide +kernel
theorem dL_law_326 : decode cL_law 326 = .ok (.iadd, 1) := by decide +kernel
theorem dL_law_327 : decode cL_law 327 = .ok (.iaload, 1) := by decide +kernel
theorem dL_law_328 : decode cL_law 328 = .ok (.aload_n 0, 1) := by decide +kernel
theorem dL_law_329 : decode cL_law 329 = .ok (.iload_n 3, 1) := by decide +kernel
theorem dL_law_330 : decode cL_law 330 = .ok (.iconst 2, 1) := by decide +kernel
theorem dL_law_331 : decode cL_law 331 = .ok (.iadd, 1) := by decide +kernel
theorem dL_law_332 : decode cL_law 332 = .ok (.iaload, 1) := by decide +kernel
theorem dL_law_333 : decode cL_law 333 = .ok (.invokevirtual 44, 3) := by decide +kernel
theorem dL_law_336 : decode cL_law 336 = .ok (.if_icmp .eq 474, 3) := by decide +kernel
theorem dL_law_339 : decode cL_law 339 = .ok (.iconst 0, 1) := by decide +kernel
theorem dL_law_340 : decode cL_law 340 = .ok (.ireturn, 1) := by decide +kernel
theorem dL_law_341 : decode cL_law 341 = .ok (.aload_n 1, 1) := by decide +kernel
theorem dL_law_342 : decode cL_law 342 = .ok (.aload_n 0, 1) := by decide +kernel
theorem dL_law_343 : decode cL_law 343 = .ok (.iload_n 3, 1) := by decide +kernel
theorem dL_law_344 : decode cL_law 344 = .ok (.iconst 1, 1) := by decide +kernel
theorem dL_law_345 : decode cL_law 345 = .ok (.iadd, 1) := by decide +kernel
theorem dL_law_346 : decode cL_law 346 = .ok (.iaload, 1) := by decide +kernel
theorem dL_law_347 : decode cL_law 347 = .ok (.aload_n 0, 1) := by decide +kernel
theorem dL_law_348 : decode cL_law 348 = .ok (.iload_n 3, 1) := by decide +kernel
theorem dL_law_349 : decode cL_law 349 = .ok (.iconst 2, 1) := by decide +kernel
theorem dL_law_350 : decode cL_law 350 = .ok (.iadd, 1) := by decide +kernel
theorem dL_law_351 : decode cL_law 351 = .ok (.iaload, 1) := by decide +kernel
theorem dL_law_352 : decode cL_law 352 = .ok (.aload_n 0, 1) := by decide +kernel
theorem dL_law_353 : decode cL_law 353 = .ok (.iload_n 3, 1) := by decide +kernel
theorem dL_law_354 : decode cL_law 354 = .ok (.iconst 3, 1) := by decide +kernel
theorem dL_law_355 : decode cL_law 355 = .ok (.iadd, 1) := by decide +kernel
theorem dL_law_356 : decode cL_law 356 = .ok (.iaload, 1) := by decide +kernel
theorem dL_law_357 : decode cL_law 357 = .ok (.invokevirtual 45, 3) := by decide +kernel
theorem dL_law_360 : decode cL_law 360 = .ok (.aload_n 2, 1) := by decide +kernel
theorem dL_law_361 : decode cL_law 361 = .ok (.aload_n 0, 1) := by decide +kernel
theorem dL_law_362 : decode cL_law 362 = .ok (.iload_n 3, 1) := by decide +kernel
theorem dL_law_363 : decode cL_law 363 = .ok (.iconst 1, 1) := by decide +kernel
theorem dL_law_364 : decode cL_law 364 = .ok (.iadd, 1) := by decide +kernel
theorem dL_law_365 : decode cL_law 365 = .ok (.iaload, 1) := by decide +kernel
theorem dL_law_366 : decode cL_law 366 = .ok (.aload_n 0, 1) := by decide +kernel
theorem dL_law_367 : decode cL_law 367 = .ok (.iload_n 3, 1) := by decide +kernel
theorem dL_law_368 : decode cL_law 368 = .ok (.iconst 2, 1) := by decide +kernel
theorem dL_law_369 : decode cL_law 369 = .ok (.iadd, 1) := by decide +kernel
theorem dL_law_370 : decode cL_law 370 = .ok (.iaload, 1) := by decide +kernel
theorem dL_law_371 : decode cL_law 371 = .ok (.aload_n 0, 1) := by decide +kernel
theorem dL_law_372 : decode cL_law 372 = .ok (.iload_n 3, 1) := by decide +kernel
theorem dL_law_373 : decode cL_law 373 = .ok (.iconst 3, 1) := by decide +kernel
theorem dL_law_374 : decode cL_law 374 = .ok (.iadd, 1) := by decide +kernel
theorem dL_law_375 : decode cL_law 375 = .ok (.iaload, 1) := by decide +kernel
theorem dL_law_376 : decode cL_law 376 = .ok (.invokevirtual 48, 3) := by decide +kernel
theorem dL_law_379 : decode cL_law 379 = .ok (.if_icmp .eq 431, 3) := by decide +kernel
theorem dL_law_382 : decode cL_law 382 = .ok (.iconst 0, 1) := by decide +kernel
theorem dL_law_383 : decode cL_law 383 = .ok (.ireturn, 1) := by decide +kernel
theorem dL_law_384 : decode cL_law 384 = .ok (.aload_n 1, 1) := by decide +kernel
theorem dL_law_385 : decode cL_law 385 = .ok (.invokevirtual 49, 3) := by decide +kernel
theorem dL_law_388 : decode cL_law 388 = .ok (.aload_n 2, 1) := by decide +kernel
theorem dL_law_389 : decode cL_law 389 = .ok (.invokevirtual 52, 3) := by decide +kernel
theorem dL_law_392 : decode cL_law 392 = .ok (.if_icmp .eq 418, 3) := by decide +kernel
theorem dL_law_395 : decode cL_law 395 = .ok (.iconst 0, 1) := by decide +kernel
theorem dL_law_396 : decode cL_law 396 = .ok (.ireturn, 1) := by decide +kernel
theorem dL_law_397 : decode cL_law 397 = .ok (.aload_n 1, 1) := by decide +kernel
theorem dL_law_398 : decode cL_law 398 = .ok (.aload_n 0, 1) := by decide +kernel
theorem dL_law_399 : decode cL_law 399 = .ok (.iload_n 3, 1) := by decide +kernel
theorem dL_law_400 : decode cL_law 400 = .ok (.iconst 1, 1) := by decide +kernel
theorem dL_law_401 : decode cL_law 401 = .ok (.iadd, 1) := by decide +kernel
theorem dL_law_402 : decode cL_law 402 = .ok (.iaload, 1) := by decide +kernel
theorem dL_law_403 : decode cL_law 403 = .ok (.invokevirtual 53, 3) := by decide +kernel
theorem dL_law_406 : decode cL_law 406 = .ok (.aload_n 2, 1) := by decide +kernel
theorem dL_law_407 : decode cL_law 407 = .ok (.aload_n 0, 1) := by decide +kernel
theorem dL_law_408 : decode cL_law 408 = .ok (.iload_n 3, 1) := by decide +kernel
theorem dL_law_409 : decode cL_law 409 = .ok (.iconst 1, 1) := by decide +kernel
theorem dL_law_410 : decode cL_law 410 = .ok (.iadd, 1) := by decide +kernel
theorem dL_law_411 : decode cL_law 411 = .ok (.iaload, 1) := by decide +kernel
theorem dL_law_412 : decode cL_law 412 = .ok (.invokevirtual 56, 3) := by decide +kernel
theorem dL_law_415 : decode cL_law 415 = .ok (.if_icmp .eq 395, 3) := by decide +kernel
theorem dL_law_418 : decode cL_law 418 = .ok (.iconst 0, 1) := by decide +kernel
theorem dL_law_419 : decode cL_law 419 = .ok (.ireturn, 1) := by decide +kernel
theorem dL_law_420 : decode cL_law 420 = .ok (.aload_n 1, 1) := by decide +kernel
theorem dL_law_421 : decode cL_law 421 = .ok (.invokevirtual 57, 3) := by decide +kernel
theorem dL_law_424 : decode cL_law 424 = .ok (.aload_n 2, 1) := by decide +kernel
theorem dL_law_425 : decode cL_law 425 = .ok (.invokevirtual 60, 3) := by decide +kernel
theorem dL_law_428 : decode cL_law 428 = .ok (.if_icmp .eq 382, 3) := by decide +kernel
theorem dL_law_431 : decode cL_law 431 = .ok (.iconst 0, 1) := by decide +kernel
theorem dL_law_432 : decode cL_law 432 = .ok (.ireturn, 1) := by decide +kernel
theorem dL_law_433 : decode cL_law 433 = .ok (.aload_n 1, 1) := by decide +kernel
theorem dL_law_434 : decode cL_law 434 = .ok (.aload_n 0, 1) := by decide +kernel
theorem dL_law_435 : decode cL_law 435 = .ok (.iload_n 3, 1) := by decide +kernel
theorem dL_law_436 : decode cL_law 436 = .ok (.iconst 1, 1) := by decide +kernel
theorem dL_law_437 : decode cL_law 437 = .ok (.iadd, 1) := by decide +kernel
theorem dL_law_438 : decode cL_law 438 = .ok (.iaload, 1) := by decide +kernel
theorem dL_law_439 : decode cL_law 439 = .ok (.invokevirtual 61, 3) := by decide +kernel
theorem dL_law_442 : decode cL_law 442 = .ok (.aload_n 2, 1) := by decide +kernel
theorem dL_law_443 : decode cL_law 443 = .ok (.aload_n 0, 1) := by decide +kernel
theorem dL_law_444 : decode cL_law 444 = .ok (.iload_n 3, 1) := by decide +kernel
theorem dL_law_445 : decode cL_law 445 = .ok (.iconst 1, 1) := by decide +kernel
theorem dL_law_446 : decode cL_law 446 = .ok (.iadd, 1) := by decide +kernel
theorem dL_law_447 : decode cL_law 447 = .ok (.iaload, 1) := by decide +kernel
theorem dL_law_448 : decode cL_law 448 = .ok (.invokevirtual 64, 3) := by decide +kernel
theorem dL_law_451 : decode cL_law 451 = .ok (.if_icmp .eq 359, 3) := by decide +kernel
theorem dL_law_454 : decode cL_law 454 = .ok (.iconst 0, 1) := by decide +kernel
theorem dL_law_455 : decode cL_law 455 = .ok (.ireturn, 1) := by decide +kernel
theorem dL_law_456 : decode cL_law 456 = .ok (.aload_n 1, 1) := by decide +kernel
theorem dL_law_457 : decode cL_law 457 = .ok (.aload_n 0, 1) := by decide +kernel
theorem dL_law_458 : decode cL_law 458 = .ok (.iload_n 3, 1) := by decide +kernel
theorem dL_law_459 : decode cL_law 459 = .ok (.iconst 1, 1) := by decide +kernel
theorem dL_law_460 : decode cL_law 460 = .ok (.iadd, 1) := by decide +kernel
theorem dL_law_461 : decode cL_law 461 = .ok (.iaload, 1) := by decide +kernel
theorem dL_law_462 : decode cL_law 462 = .ok (.aload_n 0, 1) := by decide +kernel
theorem dL_law_463 : decode cL_law 463 = .ok (.iload_n 3, 1) := by decide +kernel
theorem dL_law_464 : decode cL_law 464 = .ok (.iconst 2, 1) := by decide +kernel
theorem dL_law_465 : decode cL_law 465 = .ok (.iadd, 1) := by decide +kernel
theorem dL_law_466 : decode cL_law 466 = .ok (.iaload, 1) := by decide +kernel
theorem dL_law_467 : decode cL_law 467 = .ok (.aload_n 0, 1) := by decide +kernel
theorem dL_law_468 : decode cL_law 468 = .ok (.iload_n 3, 1) := by decide +kernel
theorem dL_law_469 : decode cL_law 469 = .ok (.iconst 3, 1) := by decide +kernel
theorem dL_law_470 : decode cL_law 470 = .ok (.iadd, 1) := by decide +kernel
theorem dL_law_471 : decode cL_law 471 = .ok (.iaload, 1) := by decide +kernel
theorem dL_law_472 : decode cL_law 472 = .ok (.invokevirtual 65, 3) := by decide +kernel
theorem dL_law_475 : decode cL_law 475 = .ok (.aload_n 2, 1) := by decide +kernel
theorem dL_law_476 : decode cL_law 476 = .ok (.aload_n 0, 1) := by decide +kernel
theorem dL_law_477 : decode cL_law 477 = .ok (.iload_n 3, 1) := by decide +kernel
theorem dL_law_478 : decode cL_law 478 = .ok (.iconst 1, 1) := by decide +kernel
theorem dL_law_479 : decode cL_law 479 = .ok (.iadd, 1) := by decide +kernel
theorem dL_law_480 : decode cL_law 480 = .ok (.iaload, 1) := by decide +kernel
theorem dL_law_481 : decode cL_law 481 = .ok (.aload_n 0, 1) := by decide +kernel
theorem dL_law_482 : decode cL_law 482 = .ok (.iload_n 3, 1) := by decide +kernel
theorem dL_law_483 : decode cL_law 483 = .ok (.iconst 2, 1) := by decide +kernel
theorem dL_law_484 : decode cL_law 484 = .ok (.iadd, 1) := by decide +kernel
theorem dL_law_485 : decode cL_law 485 = .ok (.iaload, 1) := by decide +kernel
theorem dL_law_486 : decode cL_law 486 = .ok (.aload_n 0, 1) := by decide +kernel
theorem dL_law_487 : decode cL_law 487 = .ok (.iload_n 3, 1) := by decide +kernel
theorem dL_law_488 : decode cL_law 488 = .ok (.iconst 3, 1) := by decide +kernel
theorem dL_law_489 : decode cL_law 489 = .ok (.iadd, 1) := by decide +kernel
theorem dL_law_490 : decode cL_law 490 = .ok (.iaload, 1) := by decide +kernel
theorem dL_law_491 : decode cL_law 491 = .ok (.invokevirtual 68, 3) := by decide +kernel
theorem dL_law_494 : decode cL_law 494 = .ok (.if_icmp .eq 316, 3) := by decide +kernel
theorem dL_law_497 : decode cL_law 497 = .ok (.iconst 0, 1) := by decide +kernel
theorem dL_law_498 : decode cL_law 498 = .ok (.ireturn, 1) := by decide +kernel
theorem dL_law_499 : decode cL_law 499 = .ok (.aload_n 1, 1) := by decide +kernel
theorem dL_law_500 : decode cL_law 500 = .ok (.aload_n 0, 1) := by decide +kernel
theorem dL_law_501 : decode cL_law 501 = .ok (.iload_n 3, 1) := by decide +kernel
theorem dL_law_502 : decode cL_law 502 = .ok (.iconst 1, 1) := by decide +kernel
theorem dL_law_503 : decode cL_law 503 = .ok (.iadd, 1) := by decide +kernel
theorem dL_law_504 : decode cL_law 504 = .ok (.iaload, 1) := by decide +kernel
theorem dL_law_505 : decode cL_law 505 = .ok (.aload_n 0, 1) := by decide +kernel
theorem dL_law_506 : decode cL_law 506 = .ok (.iload_n 3, 1) := by decide +kernel
theorem dL_law_507 : decode cL_law 507 = .ok (.iconst 2, 1) := by decide +kernel
theorem dL_law_508 : decode cL_law 508 = .ok (.iadd, 1) := by decide +kernel
theorem dL_law_509 : decode cL_law 509 = .ok (.iaload, 1) := by decide +kernel
theorem dL_law_510 : decode cL_law 510 = .ok (.invokevirtual 69, 3) := by decide +kernel
theorem dL_law_513 : decode cL_law 513 = .ok (.aload_n 2, 1) := by decide +kernel
theorem dL_law_514 : decode cL_law 514 = .ok (.aload_n 0, 1) := by decide +kernel
theorem dL_law_515 : decode cL_law 515 = .ok (.iload_n 3, 1) := by decide +kernel
theorem dL_law_516 : decode cL_law 516 = .ok (.iconst 1, 1) := by decide +kernel
theorem dL_law_517 : decode cL_law 517 = .ok (.iadd, 1) := by decide +kernel
theorem dL_law_518 : decode cL_law 518 = .ok (.iaload, 1) := by decide +kernel
theorem dL_law_519 : decode cL_law 519 = .ok (.aload_n 0, 1) := by decide +kernel
theorem dL_law_520 : decode cL_law 520 = .ok (.iload_n 3, 1) := by decide +kernel
theorem dL_law_521 : decode cL_law 521 = .ok (.iconst 2, 1) := by decide +kernel
theorem dL_law_522 : decode cL_law 522 = .ok (.iadd, 1) := by decide +kernel
theorem dL_law_523 : decode cL_law 523 = .ok (.iaload, 1) := by decide +kernel
theorem dL_law_524 : decode cL_law 524 = .ok (.invokevirtual 72, 3) := by decide +kernel
theorem dL_law_527 : decode cL_law 527 = .ok (.if_icmp .eq 283, 3) := by decide +kernel
theorem dL_law_530 : decode cL_law 530 = .ok (.iconst 0, 1) := by decide +kernel
theorem dL_law_531 : decode cL_law 531 = .ok (.ireturn, 1) := by decide +kernel
theorem dL_law_532 : decode cL_law 532 = .ok (.aload_n 1, 1) := by decide +kernel
theorem dL_law_533 : decode cL_law 533 = .ok (.aload_n 0, 1) := by decide +kernel
theorem dL_law_534 : decode cL_law 534 = .ok (.iload_n 3, 1) := by decide +kernel
theorem dL_law_535 : decode cL_law 535 = .ok (.iconst 1, 1) := by decide +kernel
theorem dL_law_536 : decode cL_law 536 = .ok (.iadd, 1) := by decide +kernel
theorem dL_law_537 : decode cL_law 537 = .ok (.iaload, 1) := by decide +kernel
theorem dL_law_538 : decode cL_law 538 = .ok (.aload_n 0, 1) := by decide +kernel
theorem dL_law_539 : decode cL_law 539 = .ok (.iload_n 3, 1) := by decide +kernel
theorem dL_law_540 : decode cL_law 540 = .ok (.iconst 2, 1) := by decide +kernel
theorem dL_law_541 : decode cL_law 541 = .ok (.iadd, 1) := by decide +kernel
theorem dL_law_542 : decode cL_law 542 = .ok (.iaload, 1) := by decide +kernel
theorem dL_law_543 : decode cL_law 543 = .ok (.aload_n 0, 1) := by decide +kernel
theorem dL_law_544 : decode cL_law 544 = .ok (.iload_n 3, 1) := by decide +kernel
theorem dL_law_545 : decode cL_law 545 = .ok (.iconst 3, 1) := by decide +kernel
theorem dL_law_546 : decode cL_law 546 = .ok (.iadd, 1) := by decide +kernel
theorem dL_law_547 : decode cL_law 547 = .ok (.iaload, 1) := by decide +kernel
theorem dL_law_548 : decode cL_law 548 = .ok (.aload_n 0, 1) := by decide +kernel
theorem dL_law_549 : decode cL_law 549 = .ok (.iload_n 3, 1) := by decide +kernel
theorem dL_law_550 : decode cL_law 550 = .ok (.iconst 4, 1) := by decide +kernel
theorem dL_law_551 : decode cL_law 551 = .ok (.iadd, 1) := by decide +kernel
theorem dL_law_552 : decode cL_law 552 = .ok (.iaload, 1) := by decide +kernel
theorem dL_law_553 : decode cL_law 553 = .ok (.aload_n 0, 1) := by decide +kernel
theorem dL_law_554 : decode cL_law 554 = .ok (.iload_n 3, 1) := by decide +kernel
theorem dL_law_555 : decode cL_law 555 = .ok (.iconst 5, 1) := by decide +kernel
theorem dL_law_556 : decode cL_law 556 = .ok (.iadd, 1) := by decide +kernel
theorem dL_law_557 : decode cL_law 557 = .ok (.iaload, 1) := by decide +kernel
theorem dL_law_558 : decode cL_law 558 = .ok (.invokevirtual 73, 3) := by decide +kernel
theorem dL_law_561 : decode cL_law 561 = .ok (.aload_n 2, 1) := by decide +kernel
theorem dL_law_562 : decode cL_law 562 = .ok (.aload_n 0, 1) := by decide +kernel
theorem dL_law_563 : decode cL_law 563 = .ok (.iload_n 3, 1) := by decide +kernel
theorem dL_law_564 : decode cL_law 564 = .ok (.iconst 1, 1) := by decide +kernel
theorem dL_law_565 : decode cL_law 565 = .ok (.iadd, 1) := by decide +kernel
theorem dL_law_566 : decode cL_law 566 = .ok (.iaload, 1) := by decide +kernel
theorem dL_law_567 : decode cL_law 567 = .ok (.aload_n 0, 1) := by decide +kernel
theorem dL_law_568 : decode cL_law 568 = .ok (.iload_n 3, 1) := by decide +kernel
theorem dL_law_569 : decode cL_law 569 = .ok (.iconst 2, 1) := by decide +kernel
theorem dL_law_570 : decode cL_law 570 = .ok (.iadd, 1) := by decide +kernel
theorem dL_law_571 : decode cL_law 571 = .ok (.iaload, 1) := by decide +kernel
theorem dL_law_572 : decode cL_law 572 = .ok (.aload_n 0, 1) := by decide +kernel
theorem dL_law_573 : decode cL_law 573 = .ok (.iload_n 3, 1) := by decide +kernel
theorem dL_law_574 : decode cL_law 574 = .ok (.iconst 3, 1) := by decide +kernel
theorem dL_law_575 : decode cL_law 575 = .ok (.iadd, 1) := by decide +kernel
theorem dL_law_576 : decode cL_law 576 = .ok (.iaload, 1) := by decide +kernel
theorem dL_law_577 : decode cL_law 577 = .ok (.aload_n 0, 1) := by decide +kernel
theorem dL_law_578 : decode cL_law 578 = .ok (.iload_n 3, 1) := by decide +kernel
theorem dL_law_579 : decode cL_law 579 = .ok (.iconst 4, 1) := by decide +kernel
theorem dL_law_580 : decode cL_law 580 = .ok (.iadd, 1) := by decide +kernel
theorem dL_law_581 : decode cL_law 581 = .ok (.iaload, 1) := by decide +kernel
theorem dL_law_582 : decode cL_law 582 = .ok (.aload_n 0, 1) := by decide +kernel
theorem dL_law_583 : decode cL_law 583 = .ok (.iload_n 3, 1) := by decide +kernel
theorem dL_law_584 : decode cL_law 584 = .ok (.iconst 5, 1) := by decide +kernel
theorem dL_law_585 : decode cL_law 585 = .ok (.iadd, 1) := by decide +kernel
theorem dL_law_586 : decode cL_law 586 = .ok (.iaload, 1) := by decide +kernel
theorem dL_law_587 : decode cL_law 587 = .ok (.invokevirtual 77, 3) := by decide +kernel
theorem dL_law_590 : decode cL_law 590 = .ok (.if_icmp .eq 220, 3) := by decide +kernel
theorem dL_law_593 : decode cL_law 593 = .ok (.iconst 0, 1) := by decide +kernel
theorem dL_law_594 : decode cL_law 594 = .ok (.ireturn, 1) := by decide +kernel
theorem dL_law_595 : decode cL_law 595 = .ok (.aload_n 1, 1) := by decide +kernel
theorem dL_law_596 : decode cL_law 596 = .ok (.aload_n 0, 1) := by decide +kernel
theorem dL_law_597 : decode cL_law 597 = .ok (.iload_n 3, 1) := by decide +kernel
theorem dL_law_598 : decode cL_law 598 = .ok (.iconst 1, 1) := by decide +kernel
theorem dL_law_599 : decode cL_law 599 = .ok (.iadd, 1) := by decide +kernel
theorem dL_law_600 : decode cL_law 600 = .ok (.iaload, 1) := by decide +kernel
theorem dL_law_601 : decode cL_law 601 = .ok (.aload_n 0, 1) := by decide +kernel
theorem dL_law_602 : decode cL_law 602 = .ok (.iload_n 3, 1) := by decide +kernel
theorem dL_law_603 : decode cL_law 603 = .ok (.iconst 2, 1) := by decide +kernel
theorem dL_law_604 : decode cL_law 604 = .ok (.iadd, 1) := by decide +kernel
theorem dL_law_605 : decode cL_law 605 = .ok (.iaload, 1) := by decide +kernel
theorem dL_law_606 : decode cL_law 606 = .ok (.aload_n 0, 1) := by decide +kernel
theorem dL_law_607 : decode cL_law 607 = .ok (.iload_n 3, 1) := by decide +kernel
theorem dL_law_608 : decode cL_law 608 = .ok (.iconst 3, 1) := by decide +kernel
theorem dL_law_609 : decode cL_law 609 = .ok (.iadd, 1) := by decide +kernel
theorem dL_law_610 : decode cL_law 610 = .ok (.iaload, 1) := by decide +kernel
theorem dL_law_611 : decode cL_law 611 = .ok (.aload_n 0, 1) := by decide +kernel
theorem dL_law_612 : decode cL_law 612 = .ok (.iload_n 3, 1) := by decide +kernel
theorem dL_law_613 : decode cL_law 613 = .ok (.iconst 4, 1) := by decide +kernel
theorem dL_law_614 : decode cL_law 614 = .ok (.iadd, 1) := by decide +kernel
theorem dL_law_615 : decode cL_law 615 = .ok (.iaload, 1) := by decide +kernel
theorem dL_law_616 : decode cL_law 616 = .ok (.invokevirtual 78, 3) := by decide +kernel
theorem dL_law_619 : decode cL_law 619 = .ok (.aload_n 2, 1) := by decide +kernel
theorem dL_law_620 : decode cL_law 620 = .ok (.aload_n 0, 1) := by decide +kernel
theorem dL_law_621 : decode cL_law 621 = .ok (.iload_n 3, 1) := by decide +kernel
theorem dL_law_622 : decode cL_law 622 = .ok (.iconst 1, 1) := by decide +kernel
theorem dL_law_623 : decode cL_law 623 = .ok (.iadd, 1) := by decide +kernel
theorem dL_law_624 : decode cL_law 624 = .ok (.iaload, 1) := by decide +kernel
theorem dL_law_625 : decode cL_law 625 = .ok (.aload_n 0, 1) := by decide +kernel
theorem dL_law_626 : decode cL_law 626 = .ok (.iload_n 3, 1) := by decide +kernel
theorem dL_law_627 : decode cL_law 627 = .ok (.iconst 2, 1) := by decide +kernel
theorem dL_law_628 : decode cL_law 628 = .ok (.iadd, 1) := by decide +kernel
theorem dL_law_629 : decode cL_law 629 = .ok (.iaload, 1) := by decide +kernel
theorem dL_law_630 : decode cL_law 630 = .ok (.aload_n 0, 1) := by decide +kernel
theorem dL_law_631 : decode cL_law 631 = .ok (.iload_n 3, 1) := by decide +kernel
theorem dL_law_632 : decode cL_law 632 = .ok (.iconst 3, 1) := by decide +kernel
theorem dL_law_633 : decode cL_law 633 = .ok (.iadd, 1) := by decide +kernel
theorem dL_law_634 : decode cL_law 634 = .ok (.iaload, 1) := by decide +kernel
theorem dL_law_635 : decode cL_law 635 = .ok (.aload_n 0, 1) := by decide +kernel
theorem dL_law_636 : decode cL_law 636 = .ok (.iload_n 3, 1) := by decide +kernel
theorem dL_law_637 : decode cL_law 637 = .ok (.iconst 4, 1) := by decide +kernel
theorem dL_law_638 : decode cL_law 638 = .ok (.iadd, 1) := by decide +kernel
theorem dL_law_639 : decode cL_law 639 = .ok (.iaload, 1) := by decide +kernel
theorem dL_law_640 : decode cL_law 640 = .ok (.invokevirtual 82, 3) := by decide +kernel
theorem dL_law_643 : decode cL_law 643 = .ok (.if_icmp .eq 167, 3) := by decide +kernel
theorem dL_law_646 : decode cL_law 646 = .ok (.iconst 0, 1) := by decide +kernel
theorem dL_law_647 : decode cL_law 647 = .ok (.ireturn, 1) := by decide +kernel
theorem dL_law_648 : decode cL_law 648 = .ok (.aload_n 1, 1) := by decide +kernel
theorem dL_law_649 : decode cL_law 649 = .ok (.invokevirtual 83, 3) := by decide +kernel
theorem dL_law_652 : decode cL_law 652 = .ok (.aload_n 2, 1) := by decide +kernel
theorem dL_law_653 : decode cL_law 653 = .ok (.invokevirtual 86, 3) := by decide +kernel
theorem dL_law_656 : decode cL_law 656 = .ok (.if_icmp .eq 154, 3) := by decide +kernel
theorem dL_law_659 : decode cL_law 659 = .ok (.iconst 0, 1) := by decide +kernel
theorem dL_law_660 : decode cL_law 660 = .ok (.ireturn, 1) := by decide +kernel
theorem dL_law_661 : decode cL_law 661 = .ok (.aload_n 1, 1) := by decide +kernel
theorem dL_law_662 : decode cL_law 662 = .ok (.aload_n 0, 1) := by decide +kernel
theorem dL_law_663 : decode cL_law 663 = .ok (.iload_n 3, 1) := by decide +kernel
theorem dL_law_664 : decode cL_law 664 = .ok (.iconst 1, 1) := by decide +kernel
theorem dL_law_665 : decode cL_law 665 = .ok (.iadd, 1) := by decide +kernel
theorem dL_law_666 : decode cL_law 666 = .ok (.iaload, 1) := by decide +kernel
theorem dL_law_667 : decode cL_law 667 = .ok (.invokevirtual 87, 3) := by decide +kernel
theorem dL_law_670 : decode cL_law 670 = .ok (.aload_n 2, 1) := by decide +kernel
theorem dL_law_671 : decode cL_law 671 = .ok (.aload_n 0, 1) := by decide +kernel
theorem dL_law_672 : decode cL_law 672 = .ok (.iload_n 3, 1) := by decide +kernel
theorem dL_law_673 : decode cL_law 673 = .ok (.iconst 1, 1) := by decide +kernel
theorem dL_law_674 : decode cL_law 674 = .ok (.iadd, 1) := by decide +kernel
theorem dL_law_675 : decode cL_law 675 = .ok (.iaload, 1) := by decide +kernel
theorem dL_law_676 : decode cL_law 676 = .ok (.invokevirtual 90, 3) := by decide +kernel
theorem dL_law_679 : decode cL_law 679 = .ok (.if_icmp .eq 131, 3) := by decide +kernel
theorem dL_law_682 : decode cL_law 682 = .ok (.iconst 0, 1) := by decide +kernel
theorem dL_law_683 : decode cL_law 683 = .ok (.ireturn, 1) := by decide +kernel
theorem dL_law_684 : decode cL_law 684 = .ok (.aload_n 1, 1) := by decide +kernel
theorem dL_law_685 : decode cL_law 685 = .ok (.aload_n 0, 1) := by decide +kernel
theorem dL_law_686 : decode cL_law 686 = .ok (.iload_n 3, 1) := by decide +kernel
theorem dL_law_687 : decode cL_law 687 = .ok (.iconst 1, 1) := by decide +kernel
theorem dL_law_688 : decode cL_law 688 = .ok (.iadd, 1) := by decide +kernel
theorem dL_law_689 : decode cL_law 689 = .ok (.iaload, 1) := by decide +kernel
theorem dL_law_690 : decode cL_law 690 = .ok (.aload_n 0, 1) := by decide +kernel
theorem dL_law_691 : decode cL_law 691 = .ok (.iload_n 3, 1) := by decide +kernel
theorem dL_law_692 : decode cL_law 692 = .ok (.iconst 2, 1) := by decide +kernel
theorem dL_law_693 : decode cL_law 693 = .ok (.iadd, 1) := by decide +kernel
theorem dL_law_694 : decode cL_law 694 = .ok (.iaload, 1) := by decide +kernel
theorem dL_law_695 : decode cL_law 695 = .ok (.aload_n 0, 1) := by decide +kernel
theorem dL_law_696 : decode cL_law 696 = .ok (.iload_n 3, 1) := by decide +kernel
theorem dL_law_697 : decode cL_law 697 = .ok (.iconst 3, 1) := by decide +kernel
theorem dL_law_698 : decode cL_law 698 = .ok (.iadd, 1) := by decide +kernel
theorem dL_law_699 : decode cL_law 699 = .ok (.iaload, 1) := by decide +kernel
theorem dL_law_700 : decode cL_law 700 = .ok (.invokevirtual 91, 3) := by decide +kernel
theorem dL_law_703 : decode cL_law 703 = .ok (.aload_n 2, 1) := by decide +kernel
theorem dL_law_704 : decode cL_law 704 = .ok (.aload_n 0, 1) := by decide +kernel
theorem dL_law_705 : decode cL_law 705 = .ok (.iload_n 3, 1) := by decide +kernel
theorem dL_law_706 : decode cL_law 706 = .ok (.iconst 1, 1) := by decide +kernel
theorem dL_law_707 : decode cL_law 707 = .ok (.iadd, 1) := by decide +kernel
theorem dL_law_708 : decode cL_law 708 = .ok (.iaload, 1) := by decide +kernel
theorem dL_law_709 : decode cL_law 709 = .ok (.aload_n 0, 1) := by decide +kernel
theorem dL_law_710 : decode cL_law 710 = .ok (.iload_n 3, 1) := by decide +kernel
theorem dL_law_711 : decode cL_law 711 = .ok (.iconst 2, 1) := by decide +kernel
theorem dL_law_712 : decode cL_law 712 = .ok (.iadd, 1) := by decide +kernel
theorem dL_law_713 : decode cL_law 713 = .ok (.iaload, 1) := by decide +kernel
theorem dL_law_714 : decode cL_law 714 = .ok (.aload_n 0, 1) := by decide +kernel
theorem dL_law_715 : decode cL_law 715 = .ok (.iload_n 3, 1) := by decide +kernel
theorem dL_law_716 : decode cL_law 716 = .ok (.iconst 3, 1) := by decide +kernel
theorem dL_law_717 : decode cL_law 717 = .ok (.iadd, 1) := by decide +kernel
theorem dL_law_718 : decode cL_law 718 = .ok (.iaload, 1) := by decide +kernel
theorem dL_law_719 : decode cL_law 719 = .ok (.invokevirtual 94, 3) := by decide +kernel
theorem dL_law_722 : decode cL_law 722 = .ok (.if_icmp .eq 88, 3) := by decide +kernel
theorem dL_law_725 : decode cL_law 725 = .ok (.iconst 0, 1) := by decide +kernel
theorem dL_law_726 : decode cL_law 726 = .ok (.ireturn, 1) := by decide +kernel
theorem dL_law_727 : decode cL_law 727 = .ok (.aload_n 1, 1) := by decide +kernel
theorem dL_law_728 : decode cL_law 728 = .ok (.aload_n 0, 1) := by decide +kernel
theorem dL_law_729 : decode cL_law 729 = .ok (.iload_n 3, 1) := by decide +kernel
theorem dL_law_730 : decode cL_law 730 = .ok (.iconst 1, 1) := by decide +kernel
theorem dL_law_731 : decode cL_law 731 = .ok (.iadd, 1) := by decide +kernel
theorem dL_law_732 : decode cL_law 732 = .ok (.iaload, 1) := by decide +kernel
theorem dL_law_733 : decode cL_law 733 = .ok (.invokevirtual 95, 3) := by decide +kernel
theorem dL_law_736 : decode cL_law 736 = .ok (.aload_n 2, 1) := by decide +kernel
theorem dL_law_737 : decode cL_law 737 = .ok (.aload_n 0, 1) := by decide +kernel
theorem dL_law_738 : decode cL_law 738 = .ok (.iload_n 3, 1) := by decide +kernel
theorem dL_law_739 : decode cL_law 739 = .ok (.iconst 1, 1) := by decide +kernel
theorem dL_law_740 : decode cL_law 740 = .ok (.iadd, 1) := by decide +kernel
theorem dL_law_741 : decode cL_law 741 = .ok (.iaload, 1) := by decide +kernel
theorem dL_law_742 : decode cL_law 742 = .ok (.invokevirtual 98, 3) := by decide +kernel
theorem dL_law_745 : decode cL_law 745 = .ok (.if_icmp .eq 65, 3) := by decide +kernel
theorem dL_law_748 : decode cL_law 748 = .ok (.iconst 0, 1) := by decide +kernel
theorem dL_law_749 : decode cL_law 749 = .ok (.ireturn, 1) := by decide +kernel
theorem dL_law_750 : decode cL_law 750 = .ok (.aload_n 1, 1) := by decide +kernel
theorem dL_law_751 : decode cL_law 751 = .ok (.aload_n 0, 1) := by decide +kernel
theorem dL_law_752 : decode cL_law 752 = .ok (.iload_n 3, 1) := by decide +kernel
theorem dL_law_753 : decode cL_law 753 = .ok (.iconst 1, 1) := by decide +kernel
theorem dL_law_754 : decode cL_law 754 = .ok (.iadd, 1) := by decide +kernel
theorem dL_law_755 : decode cL_law 755 = .ok (.iaload, 1) := by decide +kernel
theorem dL_law_756 : decode cL_law 756 = .ok (.invokevirtual 99, 3) := by decide +kernel
theorem dL_law_759 : decode cL_law 759 = .ok (.aload_n 2, 1) := by decide +kernel
theorem dL_law_760 : decode cL_law 760 = .ok (.aload_n 0, 1) := by decide +kernel
theorem dL_law_761 : decode cL_law 761 = .ok (.iload_n 3, 1) := by decide +kernel
theorem dL_law_762 : decode cL_law 762 = .ok (.iconst 1, 1) := by decide +kernel
theorem dL_law_763 : decode cL_law 763 = .ok (.iadd, 1) := by decide +kernel
theorem dL_law_764 : decode cL_law 764 = .ok (.iaload, 1) := by decide +kernel
theorem dL_law_765 : decode cL_law 765 = .ok (.invokevirtual 102, 3) := by decide +kernel
theorem dL_law_768 : decode cL_law 768 = .ok (.if_icmp .eq 42, 3) := by decide +kernel
theorem dL_law_771 : decode cL_law 771 = .ok (.iconst 0, 1) := by decide +kernel
theorem dL_law_772 : decode cL_law 772 = .ok (.ireturn, 1) := by decide +kernel
theorem dL_law_773 : decode cL_law 773 = .ok (.aload_n 1, 1) := by decide +kernel
theorem dL_law_774 : decode cL_law 774 = .ok (.aload_n 0, 1) := by decide +kernel
theorem dL_law_775 : decode cL_law 775 = .ok (.iload_n 3, 1) := by decide +kernel
theorem dL_law_776 : decode cL_law 776 = .ok (.iconst 1, 1) := by decide +kernel
theorem dL_law_777 : decode cL_law 777 = .ok (.iadd, 1) := by decide +kernel
theorem dL_law_778 : decode cL_law 778 = .ok (.iaload, 1) := by decide +kernel
theorem dL_law_779 : decode cL_law 779 = .ok (.invokevirtual 103, 3) := by decide +kernel
theorem dL_law_782 : decode cL_law 782 = .ok (.aload_n 2, 1) := by decide +kernel
theorem dL_law_783 : decode cL_law 783 = .ok (.aload_n 0, 1) := by decide +kernel
theorem dL_law_784 : decode cL_law 784 = .ok (.iload_n 3, 1) := by decide +kernel
theorem dL_law_785 : decode cL_law 785 = .ok (.iconst 1, 1) := by decide +kernel
theorem dL_law_786 : decode cL_law 786 = .ok (.iadd, 1) := by decide +kernel
theorem dL_law_787 : decode cL_law 787 = .ok (.iaload, 1) := by decide +kernel
theorem dL_law_788 : decode cL_law 788 = .ok (.invokevirtual 106, 3) := by decide +kernel
theorem dL_law_791 : decode cL_law 791 = .ok (.if_icmp .eq 19, 3) := by decide +kernel
theorem dL_law_794 : decode cL_law 794 = .ok (.iconst 0, 1) := by decide +kernel
theorem dL_law_795 : decode cL_law 795 = .ok (.ireturn, 1) := by decide +kernel
theorem dL_law_796 : decode cL_law 796 = .ok (.aload_n 1, 1) := by decide +kernel
theorem dL_law_797 : decode cL_law 797 = .ok (.invokevirtual 107, 3) := by decide +kernel
theorem dL_law_800 : decode cL_law 800 = .ok (.aload_n 2, 1) := by decide +kernel
theorem dL_law_801 : decode cL_law 801 = .ok (.invokevirtual 111, 3) := by decide +kernel
theorem dL_law_804 : decode cL_law 804 = .ok (.lcmp, 1) := by decide +kernel
theorem dL_law_805 : decode cL_law 805 = .ok (.ifCond .eq 5, 3) := by decide +kernel
theorem dL_law_808 : decode cL_law 808 = .ok (.iconst 0, 1) := by decide +kernel
theorem dL_law_809 : decode cL_law 809 = .ok (.ireturn, 1) := by decide +kernel
theorem dL_law_810 : decode cL_law 810 = .ok (.iinc 3 6, 3) := by decide +kernel
theorem dL_law_813 : decode cL_law 813 = .ok (.goto (-795), 3) := by decide +kernel
theorem dL_law_816 : decode cL_law 816 = .ok (.iconst 1, 1) := by decide +kernel
theorem dL_law_817 : decode cL_law 817 = .ok (.ireturn, 1) := by decide +kernel
end
section
/-! a method's words: its own code, and the words of all -/
def wm (y : MethodName) (cc : ByteArray) (n : Nat) (ret : Option FieldType) : List Cond := Cond.code y cc n ret :: AL
theorem gd_wm {y : MethodName} {cc : ByteArray} {n : Nat} {ret : Option FieldType} {big : List Cond} (hb : ∀ w ∈ AL, w ∈ big) (h : Cond.code y cc n ret ∈ AL) : GoodIn big (wm y cc n ret) := fun w hw => by
  rcases List.mem_cons.mp hw with e | e
  · exact ⟨hb _ (by rw [e]; exact h), (AL_good _ (by rw [e]; exact h)).2⟩
  · exact ⟨hb _ e, (AL_good _ e).2⟩
theorem gd_V {own C : String} {idx : Nat} {y : MethodName} {cc : ByteArray} {n : Nat} {ret : Option FieldType} (h1 : Cond.methodLink own idx y ∈ AL) (h2 : Cond.instanceMethod y ∈ AL) (h3 : Cond.selects C y y ∈ AL) (h4 : Cond.initialized C ∈ AL) (h5 : Cond.code y cc n ret ∈ AL) : GoodIn AL (wsV own idx C y (wm y cc n ret)) := by
  unfold wsV
  refine goodIn_app (fun w hw => ?_) (gd_wm (fun _ h => h) h5)
  have h : w ∈ AL := by
    simp only [List.mem_cons, List.not_mem_nil, or_false] at hw
    rcases hw with rfl | rfl | rfl | rfl
    · exact h1
    · exact h2
    · exact h3
    · exact h4
  exact AL_good _ h
theorem gd_S {own : String} {idx : Nat} {y : MethodName} {cc : ByteArray} {n : Nat} {ret : Option FieldType} (h1 : Cond.methodLink own idx y ∈ AL) (h2 : Cond.static y ∈ AL) (h4 : Cond.initialized y.cls ∈ AL) (h5 : Cond.code y cc n ret ∈ AL) : GoodIn AL (va_wsS own idx y (wm y cc n ret)) := by
  unfold va_wsS
  refine goodIn_app (fun w hw => ?_) (gd_wm (fun _ h => h) h5)
  have h : w ∈ AL := by
    simp only [List.mem_cons, List.not_mem_nil, or_false] at hw
    rcases hw with rfl | rfl | rfl
    · exact h1
    · exact h2
    · exact h4
  exact AL_good _ h
/-! reading a finished tree: what an answer's text says at a branch, a name -/
theorem it_t {α : Sort _} {c : Prop} {i : Decidable c} {a b T : α} (h : c) (e : (@ite α c i a b) = T) : a = T := by rw [if_pos h] at e; exact e
theorem it_f {α : Sort _} {c : Prop} {i : Decidable c} {a b T : α} (h : ¬ c) (e : (@ite α c i a b) = T) : b = T := by rw [if_neg h] at e; exact e
def nm {α β : Type} (v : α) (k : α → β) : β := k v
theorem nm_u {α β : Type} {v x : α} {k : α → β} {T : β} (e : x = v) (h : nm v k = T) : k x = T := by subst e; exact h
def vs (V : Nat → Nat → Int32) (k j : Nat) (x : Int32) : Nat → Nat → Int32 := fun a b => if a = k ∧ b = j then x else V a b
theorem bo_nar {v : Int32} (h : v = 0 ∨ v = 1) : narrow .boolean (.int v) = .int v := by rcases h with rfl | rfl <;> rfl
theorem bo_fit {v : Int32} (h : v = 0 ∨ v = 1) : fits .boolean (.int v) = true := by rcases h with rfl | rfl <;> rfl
theorem setmap {α : Type} {n k : Nat} (f f' : Nat → α) (hk : k < n) (h : ∀ j, j ≠ k → f' j = f j) : ((List.range n).map f).set k (f' k) = (List.range n).map f' := by
  apply List.ext_getElem?
  intro i
  by_cases hi : i = k
  · subst hi
    rw [List.getElem?_set_self (by simpa using hk)]
    simp [hk]
  · rw [List.getElem?_set_ne (Ne.symm hi)]
    by_cases hn : i < n
    · simp [hn, h i hi]
    · simp [hn]
/-! the worlds -/
def ty3 (cI cZ cO : ClassId) : List (ClassId × FieldType) := [(cI, .int), (cZ, .boolean), (cO, .object "WindFrontiers$Strand")]
def wSt (sk : Nat → Nat) (V : Nat → Nat → Int32) (k : Nat) : Nat × va_E := (sk (20 + 2 * k), .inr (4, [.int (V k 0), .int (V k 1), .int (V k 2), .int (V k 3), .int (V k 4), .ref (sk (21 + 2 * k))]))
def wHd (sk : Nat → Nat) (cI : ClassId) (Hd : Nat → Nat → Int32) (k : Nat) : Nat × va_E := (sk (21 + 2 * k), .inl (cI, 5, .inl (Hd k)))
def wSy (sk : Nat → Nat) (g : Nat → Int32) (q : Nat) : Nat × va_E := (sk (4 + q), .inr (3, [.ref (sk (20 + 2 * (11 * q + 10))), .ref (sk (7 + q)), .int (g (7 + q)), .int (g (10 + q))]))
def wBf (sk : Nat → Nat) (cO : ClassId) (q : Nat) : Nat × va_E := (sk (7 + q), .inl (cO, 10, .inr (.inr (.inr (.inr (fun i => some (sk (20 + 2 * (11 * q + i)))))))))
def wX (cI cO : ClassId) (sk : Nat → Nat) (g tb : Nat → Int32) (tr : Int64) : va_W := [
  (sk 0, .inr (6, [.ref (sk 1), .ref (sk 2), .ref (sk (4 + 0)), .ref (sk (20 + 2 * (11 * 0 + 10))), .ref (sk (4 + 1)), .ref (sk (4 + 2)), .ref (sk 10), .ref (sk 11)])),
  (sk 1, .inr (1, [.ref (sk 2), .ref (sk (20 + 2 * 33)), .int (g 0), .int (g 1), .int (g 2), .int (g 3), .int (g 4), .int (g 5)])),
  (sk 2, .inr (5, [.ref (sk 3), .int (g 6)])),
  (sk 3, .inl (cI, 150, .inl tb)),
  wSy sk g 0, wSy sk g 1, wSy sk g 2, wBf sk cO 0, wBf sk cO 1, wBf sk cO 2,
  (sk 10, .inr (2, [.int (g 13), .int (g 14), .int (g 15), .int (g 16), .int (g 17)])),
  (sk 11, .inr (0, [.long tr]))]
def WW (cI cO : ClassId) (sk : Nat → Nat) (g tb : Nat → Int32) (V Hd : Nat → Nat → Int32) (tr : Int64) : va_W := wX cI cO sk g tb tr ++ ((List.range 34).map (wSt sk V) ++ (List.range 34).map (wHd sk cI Hd))
def MW (cI cZ : ClassId) (mk : Nat → Nat) (mg st im ke se tx sh fa : Nat → Int32) (mt : Int64) : va_W := [
  (mk 0, .inr (7, [.int (mg 0), .int (mg 1), .ref (mk 1), .ref (mk 2), .ref (mk 3), .int (mg 2), .ref (mk 4), .long mt, .ref (mk 5), .int (mg 3), .int (mg 4), .int (mg 5), .int (mg 6), .int (mg 7), .int (mg 8), .int (mg 9), .int (mg 10), .int (mg 11), .ref (mk 6), .int (mg 12), .int (mg 13), .ref (mk 7)])),
  (mk 1, .inl (cI, 254, .inl st)), (mk 2, .inl (cI, 508, .inl im)), (mk 3, .inl (cZ, 2, .inl ke)), (mk 4, .inl (cI, 18, .inl se)), (mk 5, .inl (cI, 150, .inl tx)), (mk 6, .inl (cI, 20, .inl sh)), (mk 7, .inl (cI, 20, .inl fa))]
theorem WW_x (cI cO : ClassId) (sk : Nat → Nat) (g tb : Nat → Int32) (V Hd : Nat → Nat → Int32) (tr : Int64) {i : Nat} (hi : i < 12) : (WW cI cO sk g tb V Hd tr)[i]? = (wX cI cO sk g tb tr)[i]? := by
  unfold WW
  rw [List.getElem?_append_left (show i < (wX cI cO sk g tb tr).length from hi)]
theorem WW_st {cI cO : ClassId} {sk : Nat → Nat} {g tb : Nat → Int32} {V Hd : Nat → Nat → Int32} {tr : Int64} {k : Nat} (hk : k < 34) : (WW cI cO sk g tb V Hd tr)[12 + k]? = some (wSt sk V k) := by
  unfold WW
  rw [List.getElem?_append_right (show (wX cI cO sk g tb tr).length ≤ 12 + k from Nat.le_add_right 12 k), show 12 + k - (wX cI cO sk g tb tr).length = k from Nat.add_sub_cancel_left 12 k, List.getElem?_append_left (by simpa using hk)]
  simp [hk]
theorem WW_hd {cI cO : ClassId} {sk : Nat → Nat} {g tb : Nat → Int32} {V Hd : Nat → Nat → Int32} {tr : Int64} {k : Nat} (hk : k < 34) : (WW cI cO sk g tb V Hd tr)[46 + k]? = some (wHd sk cI Hd k) := by
  unfold WW
  rw [List.getElem?_append_right (show (wX cI cO sk g tb tr).length ≤ 46 + k by show 12 ≤ 46 + k; omega), show 46 + k - (wX cI cO sk g tb tr).length = 34 + k by show 46 + k - 12 = 34 + k; omega, List.getElem?_append_right (by simp), List.length_map, List.length_range, Nat.add_sub_cancel_left]
  simp [hk]
theorem WW_setX {cI cO : ClassId} {sk : Nat → Nat} {g tb g' tb' : Nat → Int32} {V Hd : Nat → Nat → Int32} {tr tr' : Int64} {i : Nat} (hi : i < 12) {x : Nat × va_E} (h : (wX cI cO sk g tb tr).set i x = wX cI cO sk g' tb' tr') : (WW cI cO sk g tb V Hd tr).set i x = WW cI cO sk g' tb' V Hd tr' := by
  unfold WW
  rw [List.set_append_left i x (show i < (wX cI cO sk g tb tr).length from hi), h]
theorem WW_setS {cI cO : ClassId} {sk : Nat → Nat} {g tb : Nat → Int32} {V V' Hd : Nat → Nat → Int32} {tr : Int64} {k : Nat} (hk : k < 34) (h : ∀ j, j ≠ k → V' j = V j) {x : Nat × va_E} (hx : x = wSt sk V' k) : (WW cI cO sk g tb V Hd tr).set (12 + k) x = WW cI cO sk g tb V' Hd tr := by
  unfold WW
  rw [List.set_append_right (12 + k) x (show (wX cI cO sk g tb tr).length ≤ 12 + k from Nat.le_add_right 12 k), show 12 + k - (wX cI cO sk g tb tr).length = k from Nat.add_sub_cancel_left 12 k, List.set_append_left k x (by simpa using hk), hx, setmap (wSt sk V) (wSt sk V') hk (fun j hj => by simp only [wSt, h j hj])]
theorem WW_setH {cI cO : ClassId} {sk : Nat → Nat} {g tb : Nat → Int32} {V Hd Hd' : Nat → Nat → Int32} {tr : Int64} {k : Nat} (hk : k < 34) (h : ∀ j, j ≠ k → Hd' j = Hd j) {x : Nat × va_E} (hx : x = wHd sk cI Hd' k) : (WW cI cO sk g tb V Hd tr).set (46 + k) x = WW cI cO sk g tb V Hd' tr := by
  unfold WW
  rw [List.set_append_right (46 + k) x (show (wX cI cO sk g tb tr).length ≤ 46 + k by show 12 ≤ 46 + k; omega), show 46 + k - (wX cI cO sk g tb tr).length = 34 + k by show 46 + k - 12 = 34 + k; omega, List.set_append_right (34 + k) x (by simp), List.length_map, List.length_range, Nat.add_sub_cancel_left, hx, setmap (wHd sk cI Hd) (wHd sk cI Hd') hk (fun j hj => by simp only [wHd, h j hj])]
theorem vs_ne {V : Nat → Nat → Int32} {k i j : Nat} {x : Int32} (h : j ≠ k) : vs V k i x j = V j := by
  funext b
  simp [vs, h]
theorem vs_eq {V : Nat → Nat → Int32} {k i : Nat} {x : Int32} : vs V k i x k = upd (V k) i x := by
  funext b
  simp [vs, upd]
theorem WW_sy {cI cO : ClassId} {sk : Nat → Nat} {g tb : Nat → Int32} {V Hd : Nat → Nat → Int32} {tr : Int64} {q : Nat} (hq : q < 3) : (WW cI cO sk g tb V Hd tr)[4 + q]? = some (wSy sk g q) := by
  rw [WW_x cI cO sk g tb V Hd tr (by omega)]
  rcases (show q = 0 ∨ q = 1 ∨ q = 2 by omega) with rfl | rfl | rfl <;> rfl
theorem WW_bf {cI cO : ClassId} {sk : Nat → Nat} {g tb : Nat → Int32} {V Hd : Nat → Nat → Int32} {tr : Int64} {q : Nat} (hq : q < 3) : (WW cI cO sk g tb V Hd tr)[7 + q]? = some (wBf sk cO q) := by
  rw [WW_x cI cO sk g tb V Hd tr (by omega)]
  rcases (show q = 0 ∨ q = 1 ∨ q = 2 by omega) with rfl | rfl | rfl <;> rfl
section STEP
variable {p : Program} {l : Launch} {e : Env} {R : Room} {s : State} {m : MethodId} {args : Array Value} {below : List Frame} {meth : Method} {c : Code} {H : Heap} {locs : List Loc} {cells slots : Nat} {Q : State → Prop}
variable {cc : ByteArray} {pc nL : Nat} {ls : Array Slot} {rest : List Value} {D : va_G} {A : Nat → Prop} {H0 : Heap} {own : String}
variable {cI cZ cO : ClassId} {sk mk : Nat → Nat} {g tb : Nat → Int32} {V Hd : Nat → Nat → Int32} {tr : Int64} {mg st im ke se tx sh fa : Nat → Int32} {mt : Int64}
theorem gX6_reader (C : CallFix p m c cc nL s args AL own) (hK : va_K D vwCl (ty3 cI cZ cO) s) (hP : va_P D vwCl (WW cI cO sk g tb V Hd tr) H) {idx : Nat} (hl : Cond.fieldLink own idx "WindFrontiers" "reader" "LWindFrontiers$Reader;" ∈ AL) (hdg : decode cc pc = .ok (.getfield idx, 3)) (kk : W p l e R s m args below meth c H locs cells slots Q (F0 m (pc + 3) ls (.ref (sk 1) :: rest))) : W p l e R s m args below meth c H locs cells slots Q (F0 m pc ls (.ref (sk 0) :: rest)) :=
  va_get (D := D) (ci := 6) (C := RX6) (T := TX6) (N := 8) C.1 C.2.1 C.2.2.2.2 inA6 C.2.2.2.1 hK hP 0 ((WW_x cI cO sk g tb V Hd tr (show 0 < 12 by decide)).trans rfl) rfl 0 (by decide) (C.2.2.2.2 _ hl) (fun _ h => h) rfl hdg kk
theorem gX6_text (C : CallFix p m c cc nL s args AL own) (hK : va_K D vwCl (ty3 cI cZ cO) s) (hP : va_P D vwCl (WW cI cO sk g tb V Hd tr) H) {idx : Nat} (hl : Cond.fieldLink own idx "WindFrontiers" "text" "LWindFrontiers$Text;" ∈ AL) (hdg : decode cc pc = .ok (.getfield idx, 3)) (kk : W p l e R s m args below meth c H locs cells slots Q (F0 m (pc + 3) ls (.ref (sk 2) :: rest))) : W p l e R s m args below meth c H locs cells slots Q (F0 m pc ls (.ref (sk 0) :: rest)) :=
  va_get (D := D) (ci := 6) (C := RX6) (T := TX6) (N := 8) C.1 C.2.1 C.2.2.2.2 inA6 C.2.2.2.1 hK hP 0 ((WW_x cI cO sk g tb V Hd tr (show 0 < 12 by decide)).trans rfl) rfl 1 (by decide) (C.2.2.2.2 _ hl) (fun _ h => h) rfl hdg kk
theorem gX6_story (C : CallFix p m c cc nL s args AL own) (hK : va_K D vwCl (ty3 cI cZ cO) s) (hP : va_P D vwCl (WW cI cO sk g tb V Hd tr) H) {idx : Nat} (hl : Cond.fieldLink own idx "WindFrontiers" "story" "LWindFrontiers$Story;" ∈ AL) (hdg : decode cc pc = .ok (.getfield idx, 3)) (kk : W p l e R s m args below meth c H locs cells slots Q (F0 m (pc + 3) ls (.ref (sk (4 + 0)) :: rest))) : W p l e R s m args below meth c H locs cells slots Q (F0 m pc ls (.ref (sk 0) :: rest)) :=
  va_get (D := D) (ci := 6) (C := RX6) (T := TX6) (N := 8) C.1 C.2.1 C.2.2.2.2 inA6 C.2.2.2.1 hK hP 0 ((WW_x cI cO sk g tb V Hd tr (show 0 < 12 by decide)).trans rfl) rfl 2 (by decide) (C.2.2.2.2 _ hl) (fun _ h => h) rfl hdg kk
theorem gX6_shore (C : CallFix p m c cc nL s args AL own) (hK : va_K D vwCl (ty3 cI cZ cO) s) (hP : va_P D vwCl (WW cI cO sk g tb V Hd tr) H) {idx : Nat} (hl : Cond.fieldLink own idx "WindFrontiers" "shore" "LWindFrontiers$Strand;" ∈ AL) (hdg : decode cc pc = .ok (.getfield idx, 3)) (kk : W p l e R s m args below meth c H locs cells slots Q (F0 m (pc + 3) ls (.ref (sk (20 + 2 * (11 * 0 + 10))) :: rest))) : W p l e R s m args below meth c H locs cells slots Q (F0 m pc ls (.ref (sk 0) :: rest)) :=
  va_get (D := D) (ci := 6) (C := RX6) (T := TX6) (N := 8) C.1 C.2.1 C.2.2.2.2 inA6 C.2.2.2.1 hK hP 0 ((WW_x cI cO sk g tb V Hd tr (show 0 < 12 by decide)).trans rfl) rfl 3 (by decide) (C.2.2.2.2 _ hl) (fun _ h => h) rfl hdg kk
theorem gX6_firstImage (C : CallFix p m c cc nL s args AL own) (hK : va_K D vwCl (ty3 cI cZ cO) s) (hP : va_P D vwCl (WW cI cO sk g tb V Hd tr) H) {idx : Nat} (hl : Cond.fieldLink own idx "WindFrontiers" "firstImage" "LWindFrontiers$Story;" ∈ AL) (hdg : decode cc pc = .ok (.getfield idx, 3)) (kk : W p l e R s m args below meth c H locs cells slots Q (F0 m (pc + 3) ls (.ref (sk (4 + 1)) :: rest))) : W p l e R s m args below meth c H locs cells slots Q (F0 m pc ls (.ref (sk 0) :: rest)) :=
  va_get (D := D) (ci := 6) (C := RX6) (T := TX6) (N := 8) C.1 C.2.1 C.2.2.2.2 inA6 C.2.2.2.1 hK hP 0 ((WW_x cI cO sk g tb V Hd tr (show 0 < 12 by decide)).trans rfl) rfl 4 (by decide) (C.2.2.2.2 _ hl) (fun _ h => h) rfl hdg kk
theorem gX6_secondImage (C : CallFix p m c cc nL s args AL own) (hK : va_K D vwCl (ty3 cI cZ cO) s) (hP : va_P D vwCl (WW cI cO sk g tb V Hd tr) H) {idx : Nat} (hl : Cond.fieldLink own idx "WindFrontiers" "secondImage" "LWindFrontiers$Story;" ∈ AL) (hdg : decode cc pc = .ok (.getfield idx, 3)) (kk : W p l e R s m args below meth c H locs cells slots Q (F0 m (pc + 3) ls (.ref (sk (4 + 2)) :: rest))) : W p l e R s m args below meth c H locs cells slots Q (F0 m pc ls (.ref (sk 0) :: rest)) :=
  va_get (D := D) (ci := 6) (C := RX6) (T := TX6) (N := 8) C.1 C.2.1 C.2.2.2.2 inA6 C.2.2.2.1 hK hP 0 ((WW_x cI cO sk g tb V Hd tr (show 0 < 12 by decide)).trans rfl) rfl 5 (by decide) (C.2.2.2.2 _ hl) (fun _ h => h) rfl hdg kk
theorem gX6_seen (C : CallFix p m c cc nL s args AL own) (hK : va_K D vwCl (ty3 cI cZ cO) s) (hP : va_P D vwCl (WW cI cO sk g tb V Hd tr) H) {idx : Nat} (hl : Cond.fieldLink own idx "WindFrontiers" "seen" "LWindFrontiers$Seen;" ∈ AL) (hdg : decode cc pc = .ok (.getfield idx, 3)) (kk : W p l e R s m args below meth c H locs cells slots Q (F0 m (pc + 3) ls (.ref (sk 10) :: rest))) : W p l e R s m args below meth c H locs cells slots Q (F0 m pc ls (.ref (sk 0) :: rest)) :=
  va_get (D := D) (ci := 6) (C := RX6) (T := TX6) (N := 8) C.1 C.2.1 C.2.2.2.2 inA6 C.2.2.2.1 hK hP 0 ((WW_x cI cO sk g tb V Hd tr (show 0 < 12 by decide)).trans rfl) rfl 6 (by decide) (C.2.2.2.2 _ hl) (fun _ h => h) rfl hdg kk
theorem gX6_marks (C : CallFix p m c cc nL s args AL own) (hK : va_K D vwCl (ty3 cI cZ cO) s) (hP : va_P D vwCl (WW cI cO sk g tb V Hd tr) H) {idx : Nat} (hl : Cond.fieldLink own idx "WindFrontiers" "marks" "LWindFrontiers$Marks;" ∈ AL) (hdg : decode cc pc = .ok (.getfield idx, 3)) (kk : W p l e R s m args below meth c H locs cells slots Q (F0 m (pc + 3) ls (.ref (sk 11) :: rest))) : W p l e R s m args below meth c H locs cells slots Q (F0 m pc ls (.ref (sk 0) :: rest)) :=
  va_get (D := D) (ci := 6) (C := RX6) (T := TX6) (N := 8) C.1 C.2.1 C.2.2.2.2 inA6 C.2.2.2.1 hK hP 0 ((WW_x cI cO sk g tb V Hd tr (show 0 < 12 by decide)).trans rfl) rfl 7 (by decide) (C.2.2.2.2 _ hl) (fun _ h => h) rfl hdg kk
theorem gX1_text (C : CallFix p m c cc nL s args AL own) (hK : va_K D vwCl (ty3 cI cZ cO) s) (hP : va_P D vwCl (WW cI cO sk g tb V Hd tr) H) {idx : Nat} (hl : Cond.fieldLink own idx "WindFrontiers$Reader" "text" "LWindFrontiers$Text;" ∈ AL) (hdg : decode cc pc = .ok (.getfield idx, 3)) (kk : W p l e R s m args below meth c H locs cells slots Q (F0 m (pc + 3) ls (.ref (sk 2) :: rest))) : W p l e R s m args below meth c H locs cells slots Q (F0 m pc ls (.ref (sk 1) :: rest)) :=
  va_get (D := D) (ci := 1) (C := RX1) (T := TX1) (N := 8) C.1 C.2.1 C.2.2.2.2 inA1 C.2.2.2.1 hK hP 1 ((WW_x cI cO sk g tb V Hd tr (show 1 < 12 by decide)).trans rfl) rfl 0 (by decide) (C.2.2.2.2 _ hl) (fun _ h => h) rfl hdg kk
theorem gX1_draft (C : CallFix p m c cc nL s args AL own) (hK : va_K D vwCl (ty3 cI cZ cO) s) (hP : va_P D vwCl (WW cI cO sk g tb V Hd tr) H) {idx : Nat} (hl : Cond.fieldLink own idx "WindFrontiers$Reader" "draft" "LWindFrontiers$Strand;" ∈ AL) (hdg : decode cc pc = .ok (.getfield idx, 3)) (kk : W p l e R s m args below meth c H locs cells slots Q (F0 m (pc + 3) ls (.ref (sk (20 + 2 * 33)) :: rest))) : W p l e R s m args below meth c H locs cells slots Q (F0 m pc ls (.ref (sk 1) :: rest)) :=
  va_get (D := D) (ci := 1) (C := RX1) (T := TX1) (N := 8) C.1 C.2.1 C.2.2.2.2 inA1 C.2.2.2.1 hK hP 1 ((WW_x cI cO sk g tb V Hd tr (show 1 < 12 by decide)).trans rfl) rfl 1 (by decide) (C.2.2.2.2 _ hl) (fun _ h => h) rfl hdg kk
theorem gX1_place (C : CallFix p m c cc nL s args AL own) (hK : va_K D vwCl (ty3 cI cZ cO) s) (hP : va_P D vwCl (WW cI cO sk g tb V Hd tr) H) {idx : Nat} (hl : Cond.fieldLink own idx "WindFrontiers$Reader" "place" "I" ∈ AL) (hdg : decode cc pc = .ok (.getfield idx, 3)) (kk : W p l e R s m args below meth c H locs cells slots Q (F0 m (pc + 3) ls (.int (g 0) :: rest))) : W p l e R s m args below meth c H locs cells slots Q (F0 m pc ls (.ref (sk 1) :: rest)) :=
  va_get (D := D) (ci := 1) (C := RX1) (T := TX1) (N := 8) C.1 C.2.1 C.2.2.2.2 inA1 C.2.2.2.1 hK hP 1 ((WW_x cI cO sk g tb V Hd tr (show 1 < 12 by decide)).trans rfl) rfl 2 (by decide) (C.2.2.2.2 _ hl) (fun _ h => h) rfl hdg kk
theorem gX1_start (C : CallFix p m c cc nL s args AL own) (hK : va_K D vwCl (ty3 cI cZ cO) s) (hP : va_P D vwCl (WW cI cO sk g tb V Hd tr) H) {idx : Nat} (hl : Cond.fieldLink own idx "WindFrontiers$Reader" "start" "I" ∈ AL) (hdg : decode cc pc = .ok (.getfield idx, 3)) (kk : W p l e R s m args below meth c H locs cells slots Q (F0 m (pc + 3) ls (.int (g 1) :: rest))) : W p l e R s m args below meth c H locs cells slots Q (F0 m pc ls (.ref (sk 1) :: rest)) :=
  va_get (D := D) (ci := 1) (C := RX1) (T := TX1) (N := 8) C.1 C.2.1 C.2.2.2.2 inA1 C.2.2.2.1 hK hP 1 ((WW_x cI cO sk g tb V Hd tr (show 1 < 12 by decide)).trans rfl) rfl 3 (by decide) (C.2.2.2.2 _ hl) (fun _ h => h) rfl hdg kk
theorem gX1_token (C : CallFix p m c cc nL s args AL own) (hK : va_K D vwCl (ty3 cI cZ cO) s) (hP : va_P D vwCl (WW cI cO sk g tb V Hd tr) H) {idx : Nat} (hl : Cond.fieldLink own idx "WindFrontiers$Reader" "token" "I" ∈ AL) (hdg : decode cc pc = .ok (.getfield idx, 3)) (kk : W p l e R s m args below meth c H locs cells slots Q (F0 m (pc + 3) ls (.int (g 2) :: rest))) : W p l e R s m args below meth c H locs cells slots Q (F0 m pc ls (.ref (sk 1) :: rest)) :=
  va_get (D := D) (ci := 1) (C := RX1) (T := TX1) (N := 8) C.1 C.2.1 C.2.2.2.2 inA1 C.2.2.2.1 hK hP 1 ((WW_x cI cO sk g tb V Hd tr (show 1 < 12 by decide)).trans rfl) rfl 4 (by decide) (C.2.2.2.2 _ hl) (fun _ h => h) rfl hdg kk
theorem gX1_value (C : CallFix p m c cc nL s args AL own) (hK : va_K D vwCl (ty3 cI cZ cO) s) (hP : va_P D vwCl (WW cI cO sk g tb V Hd tr) H) {idx : Nat} (hl : Cond.fieldLink own idx "WindFrontiers$Reader" "value" "I" ∈ AL) (hdg : decode cc pc = .ok (.getfield idx, 3)) (kk : W p l e R s m args below meth c H locs cells slots Q (F0 m (pc + 3) ls (.int (g 3) :: rest))) : W p l e R s m args below meth c H locs cells slots Q (F0 m pc ls (.ref (sk 1) :: rest)) :=
  va_get (D := D) (ci := 1) (C := RX1) (T := TX1) (N := 8) C.1 C.2.1 C.2.2.2.2 inA1 C.2.2.2.1 hK hP 1 ((WW_x cI cO sk g tb V Hd tr (show 1 < 12 by decide)).trans rfl) rfl 5 (by decide) (C.2.2.2.2 _ hl) (fun _ h => h) rfl hdg kk
theorem gX1_items (C : CallFix p m c cc nL s args AL own) (hK : va_K D vwCl (ty3 cI cZ cO) s) (hP : va_P D vwCl (WW cI cO sk g tb V Hd tr) H) {idx : Nat} (hl : Cond.fieldLink own idx "WindFrontiers$Reader" "items" "I" ∈ AL) (hdg : decode cc pc = .ok (.getfield idx, 3)) (kk : W p l e R s m args below meth c H locs cells slots Q (F0 m (pc + 3) ls (.int (g 4) :: rest))) : W p l e R s m args below meth c H locs cells slots Q (F0 m pc ls (.ref (sk 1) :: rest)) :=
  va_get (D := D) (ci := 1) (C := RX1) (T := TX1) (N := 8) C.1 C.2.1 C.2.2.2.2 inA1 C.2.2.2.1 hK hP 1 ((WW_x cI cO sk g tb V Hd tr (show 1 < 12 by decide)).trans rfl) rfl 6 (by decide) (C.2.2.2.2 _ hl) (fun _ h => h) rfl hdg kk
theorem gX1_windTold (C : CallFix p m c cc nL s args AL own) (hK : va_K D vwCl (ty3 cI cZ cO) s) (hP : va_P D vwCl (WW cI cO sk g tb V Hd tr) H) {idx : Nat} (hl : Cond.fieldLink own idx "WindFrontiers$Reader" "windTold" "Z" ∈ AL) (hdg : decode cc pc = .ok (.getfield idx, 3)) (kk : W p l e R s m args below meth c H locs cells slots Q (F0 m (pc + 3) ls (.int (g 5) :: rest))) : W p l e R s m args below meth c H locs cells slots Q (F0 m pc ls (.ref (sk 1) :: rest)) :=
  va_get (D := D) (ci := 1) (C := RX1) (T := TX1) (N := 8) C.1 C.2.1 C.2.2.2.2 inA1 C.2.2.2.1 hK hP 1 ((WW_x cI cO sk g tb V Hd tr (show 1 < 12 by decide)).trans rfl) rfl 7 (by decide) (C.2.2.2.2 _ hl) (fun _ h => h) rfl hdg kk
theorem gX5_bytes (C : CallFix p m c cc nL s args AL own) (hK : va_K D vwCl (ty3 cI cZ cO) s) (hP : va_P D vwCl (WW cI cO sk g tb V Hd tr) H) {idx : Nat} (hl : Cond.fieldLink own idx "WindFrontiers$Text" "bytes" "[I" ∈ AL) (hdg : decode cc pc = .ok (.getfield idx, 3)) (kk : W p l e R s m args below meth c H locs cells slots Q (F0 m (pc + 3) ls (.ref (sk 3) :: rest))) : W p l e R s m args below meth c H locs cells slots Q (F0 m pc ls (.ref (sk 2) :: rest)) :=
  va_get (D := D) (ci := 5) (C := RX5) (T := TX5) (N := 2) C.1 C.2.1 C.2.2.2.2 inA5 C.2.2.2.1 hK hP 2 ((WW_x cI cO sk g tb V Hd tr (show 2 < 12 by decide)).trans rfl) rfl 0 (by decide) (C.2.2.2.2 _ hl) (fun _ h => h) rfl hdg kk
theorem gX5_length (C : CallFix p m c cc nL s args AL own) (hK : va_K D vwCl (ty3 cI cZ cO) s) (hP : va_P D vwCl (WW cI cO sk g tb V Hd tr) H) {idx : Nat} (hl : Cond.fieldLink own idx "WindFrontiers$Text" "length" "I" ∈ AL) (hdg : decode cc pc = .ok (.getfield idx, 3)) (kk : W p l e R s m args below meth c H locs cells slots Q (F0 m (pc + 3) ls (.int (g 6) :: rest))) : W p l e R s m args below meth c H locs cells slots Q (F0 m pc ls (.ref (sk 2) :: rest)) :=
  va_get (D := D) (ci := 5) (C := RX5) (T := TX5) (N := 2) C.1 C.2.1 C.2.2.2.2 inA5 C.2.2.2.1 hK hP 2 ((WW_x cI cO sk g tb V Hd tr (show 2 < 12 by decide)).trans rfl) rfl 1 (by decide) (C.2.2.2.2 _ hl) (fun _ h => h) rfl hdg kk
theorem gX2_much (C : CallFix p m c cc nL s args AL own) (hK : va_K D vwCl (ty3 cI cZ cO) s) (hP : va_P D vwCl (WW cI cO sk g tb V Hd tr) H) {idx : Nat} (hl : Cond.fieldLink own idx "WindFrontiers$Seen" "much" "I" ∈ AL) (hdg : decode cc pc = .ok (.getfield idx, 3)) (kk : W p l e R s m args below meth c H locs cells slots Q (F0 m (pc + 3) ls (.int (g 13) :: rest))) : W p l e R s m args below meth c H locs cells slots Q (F0 m pc ls (.ref (sk 10) :: rest)) :=
  va_get (D := D) (ci := 2) (C := RX2) (T := TX2) (N := 5) C.1 C.2.1 C.2.2.2.2 inA2 C.2.2.2.1 hK hP 10 ((WW_x cI cO sk g tb V Hd tr (show 10 < 12 by decide)).trans rfl) rfl 0 (by decide) (C.2.2.2.2 _ hl) (fun _ h => h) rfl hdg kk
theorem gX2_stillByLeft (C : CallFix p m c cc nL s args AL own) (hK : va_K D vwCl (ty3 cI cZ cO) s) (hP : va_P D vwCl (WW cI cO sk g tb V Hd tr) H) {idx : Nat} (hl : Cond.fieldLink own idx "WindFrontiers$Seen" "stillByLeft" "I" ∈ AL) (hdg : decode cc pc = .ok (.getfield idx, 3)) (kk : W p l e R s m args below meth c H locs cells slots Q (F0 m (pc + 3) ls (.int (g 14) :: rest))) : W p l e R s m args below meth c H locs cells slots Q (F0 m pc ls (.ref (sk 10) :: rest)) :=
  va_get (D := D) (ci := 2) (C := RX2) (T := TX2) (N := 5) C.1 C.2.1 C.2.2.2.2 inA2 C.2.2.2.1 hK hP 10 ((WW_x cI cO sk g tb V Hd tr (show 10 < 12 by decide)).trans rfl) rfl 1 (by decide) (C.2.2.2.2 _ hl) (fun _ h => h) rfl hdg kk
theorem gX2_stillByRight (C : CallFix p m c cc nL s args AL own) (hK : va_K D vwCl (ty3 cI cZ cO) s) (hP : va_P D vwCl (WW cI cO sk g tb V Hd tr) H) {idx : Nat} (hl : Cond.fieldLink own idx "WindFrontiers$Seen" "stillByRight" "I" ∈ AL) (hdg : decode cc pc = .ok (.getfield idx, 3)) (kk : W p l e R s m args below meth c H locs cells slots Q (F0 m (pc + 3) ls (.int (g 15) :: rest))) : W p l e R s m args below meth c H locs cells slots Q (F0 m pc ls (.ref (sk 10) :: rest)) :=
  va_get (D := D) (ci := 2) (C := RX2) (T := TX2) (N := 5) C.1 C.2.1 C.2.2.2.2 inA2 C.2.2.2.1 hK hP 10 ((WW_x cI cO sk g tb V Hd tr (show 10 < 12 by decide)).trans rfl) rfl 2 (by decide) (C.2.2.2.2 _ hl) (fun _ h => h) rfl hdg kk
theorem gX2_openByLeft (C : CallFix p m c cc nL s args AL own) (hK : va_K D vwCl (ty3 cI cZ cO) s) (hP : va_P D vwCl (WW cI cO sk g tb V Hd tr) H) {idx : Nat} (hl : Cond.fieldLink own idx "WindFrontiers$Seen" "openByLeft" "I" ∈ AL) (hdg : decode cc pc = .ok (.getfield idx, 3)) (kk : W p l e R s m args below meth c H locs cells slots Q (F0 m (pc + 3) ls (.int (g 16) :: rest))) : W p l e R s m args below meth c H locs cells slots Q (F0 m pc ls (.ref (sk 10) :: rest)) :=
  va_get (D := D) (ci := 2) (C := RX2) (T := TX2) (N := 5) C.1 C.2.1 C.2.2.2.2 inA2 C.2.2.2.1 hK hP 10 ((WW_x cI cO sk g tb V Hd tr (show 10 < 12 by decide)).trans rfl) rfl 3 (by decide) (C.2.2.2.2 _ hl) (fun _ h => h) rfl hdg kk
theorem gX2_openByRight (C : CallFix p m c cc nL s args AL own) (hK : va_K D vwCl (ty3 cI cZ cO) s) (hP : va_P D vwCl (WW cI cO sk g tb V Hd tr) H) {idx : Nat} (hl : Cond.fieldLink own idx "WindFrontiers$Seen" "openByRight" "I" ∈ AL) (hdg : decode cc pc = .ok (.getfield idx, 3)) (kk : W p l e R s m args below meth c H locs cells slots Q (F0 m (pc + 3) ls (.int (g 17) :: rest))) : W p l e R s m args below meth c H locs cells slots Q (F0 m pc ls (.ref (sk 10) :: rest)) :=
  va_get (D := D) (ci := 2) (C := RX2) (T := TX2) (N := 5) C.1 C.2.1 C.2.2.2.2 inA2 C.2.2.2.1 hK hP 10 ((WW_x cI cO sk g tb V Hd tr (show 10 < 12 by decide)).trans rfl) rfl 4 (by decide) (C.2.2.2.2 _ hl) (fun _ h => h) rfl hdg kk
theorem gX0_sum (C : CallFix p m c cc nL s args AL own) (hK : va_K D vwCl (ty3 cI cZ cO) s) (hP : va_P D vwCl (WW cI cO sk g tb V Hd tr) H) {idx : Nat} (hl : Cond.fieldLink own idx "WindFrontiers$Marks" "sum" "J" ∈ AL) (hdg : decode cc pc = .ok (.getfield idx, 3)) (kk : W p l e R s m args below meth c H locs cells slots Q (F0 m (pc + 3) ls (.long tr :: rest))) : W p l e R s m args below meth c H locs cells slots Q (F0 m pc ls (.ref (sk 11) :: rest)) :=
  va_get (D := D) (ci := 0) (C := RX0) (T := TX0) (N := 1) C.1 C.2.1 C.2.2.2.2 inA0 C.2.2.2.1 hK hP 11 ((WW_x cI cO sk g tb V Hd tr (show 11 < 12 by decide)).trans rfl) rfl 0 (by decide) (C.2.2.2.2 _ hl) (fun _ h => h) rfl hdg kk
theorem pX1_place (C : CallFix p m c cc nL s args AL own) (hK : va_K D vwCl (ty3 cI cZ cO) s) (hP : va_P D vwCl (WW cI cO sk g tb V Hd tr) H) (hD : va_D A (WW cI cO sk g tb V Hd tr)) (hS : va_S A H0 H locs) {idx : Nat} {x : Int32} (hl : Cond.fieldLink own idx "WindFrontiers$Reader" "place" "I" ∈ AL) (hdg : decode cc pc = .ok (.putfield idx, 3)) (kk : ∀ (H : Heap) (locs : List Loc), va_P D vwCl (WW cI cO sk (upd g 0 x) tb V Hd tr) H → va_D A (WW cI cO sk (upd g 0 x) tb V Hd tr) → va_S A H0 H locs → W p l e R s m args below meth c H locs cells slots Q (F0 m (pc + 3) ls rest)) : W p l e R s m args below meth c H locs cells slots Q (F0 m pc ls (.int x :: .ref (sk 1) :: rest)) := by
  refine va_put (D := D) (ci := 1) (v := .int x) (ty := .int) (C := RX1) (T := TX1) (N := 8) C.1 C.2.1 C.2.2.2.2 inA1 tyX1 tyX1_ok nmX1 C.2.2.2.1 hK hP hD hS 1 ((WW_x cI cO sk g tb V Hd tr (show 1 < 12 by decide)).trans rfl) rfl 2 (by decide) (C.2.2.2.2 _ hl) (fun _ h => h) rfl (by decide +kernel) rfl rfl (Nat.le_of_ble_eq_true rfl) hdg (fun H1 locs1 h1 h2 h3 => ?_)
  have e := WW_setX (V := V) (Hd := Hd) (tr := tr) (g := g) (tb := tb) (sk := sk) (cI := cI) (cO := cO) (show 1 < 12 by decide) (show (wX cI cO sk g tb tr).set 1 (sk 1, .inr (1, [.ref (sk 2), .ref (sk (20 + 2 * 33)), .int x, .int (g 1), .int (g 2), .int (g 3), .int (g 4), .int (g 5)])) = wX cI cO sk (upd g 0 x) tb tr from rfl)
  exact kk H1 locs1 (e ▸ h1) (e ▸ h2) h3
theorem pX1_start (C : CallFix p m c cc nL s args AL own) (hK : va_K D vwCl (ty3 cI cZ cO) s) (hP : va_P D vwCl (WW cI cO sk g tb V Hd tr) H) (hD : va_D A (WW cI cO sk g tb V Hd tr)) (hS : va_S A H0 H locs) {idx : Nat} {x : Int32} (hl : Cond.fieldLink own idx "WindFrontiers$Reader" "start" "I" ∈ AL) (hdg : decode cc pc = .ok (.putfield idx, 3)) (kk : ∀ (H : Heap) (locs : List Loc), va_P D vwCl (WW cI cO sk (upd g 1 x) tb V Hd tr) H → va_D A (WW cI cO sk (upd g 1 x) tb V Hd tr) → va_S A H0 H locs → W p l e R s m args below meth c H locs cells slots Q (F0 m (pc + 3) ls rest)) : W p l e R s m args below meth c H locs cells slots Q (F0 m pc ls (.int x :: .ref (sk 1) :: rest)) := by
  refine va_put (D := D) (ci := 1) (v := .int x) (ty := .int) (C := RX1) (T := TX1) (N := 8) C.1 C.2.1 C.2.2.2.2 inA1 tyX1 tyX1_ok nmX1 C.2.2.2.1 hK hP hD hS 1 ((WW_x cI cO sk g tb V Hd tr (show 1 < 12 by decide)).trans rfl) rfl 3 (by decide) (C.2.2.2.2 _ hl) (fun _ h => h) rfl (by decide +kernel) rfl rfl (Nat.le_of_ble_eq_true rfl) hdg (fun H1 locs1 h1 h2 h3 => ?_)
  have e := WW_setX (V := V) (Hd := Hd) (tr := tr) (g := g) (tb := tb) (sk := sk) (cI := cI) (cO := cO) (show 1 < 12 by decide) (show (wX cI cO sk g tb tr).set 1 (sk 1, .inr (1, [.ref (sk 2), .ref (sk (20 + 2 * 33)), .int (g 0), .int x, .int (g 2), .int (g 3), .int (g 4), .int (g 5)])) = wX cI cO sk (upd g 1 x) tb tr from rfl)
  exact kk H1 locs1 (e ▸ h1) (e ▸ h2) h3
theorem pX1_token (C : CallFix p m c cc nL s args AL own) (hK : va_K D vwCl (ty3 cI cZ cO) s) (hP : va_P D vwCl (WW cI cO sk g tb V Hd tr) H) (hD : va_D A (WW cI cO sk g tb V Hd tr)) (hS : va_S A H0 H locs) {idx : Nat} {x : Int32} (hl : Cond.fieldLink own idx "WindFrontiers$Reader" "token" "I" ∈ AL) (hdg : decode cc pc = .ok (.putfield idx, 3)) (kk : ∀ (H : Heap) (locs : List Loc), va_P D vwCl (WW cI cO sk (upd g 2 x) tb V Hd tr) H → va_D A (WW cI cO sk (upd g 2 x) tb V Hd tr) → va_S A H0 H locs → W p l e R s m args below meth c H locs cells slots Q (F0 m (pc + 3) ls rest)) : W p l e R s m args below meth c H locs cells slots Q (F0 m pc ls (.int x :: .ref (sk 1) :: rest)) := by
  refine va_put (D := D) (ci := 1) (v := .int x) (ty := .int) (C := RX1) (T := TX1) (N := 8) C.1 C.2.1 C.2.2.2.2 inA1 tyX1 tyX1_ok nmX1 C.2.2.2.1 hK hP hD hS 1 ((WW_x cI cO sk g tb V Hd tr (show 1 < 12 by decide)).trans rfl) rfl 4 (by decide) (C.2.2.2.2 _ hl) (fun _ h => h) rfl (by decide +kernel) rfl rfl (Nat.le_of_ble_eq_true rfl) hdg (fun H1 locs1 h1 h2 h3 => ?_)
  have e := WW_setX (V := V) (Hd := Hd) (tr := tr) (g := g) (tb := tb) (sk := sk) (cI := cI) (cO := cO) (show 1 < 12 by decide) (show (wX cI cO sk g tb tr).set 1 (sk 1, .inr (1, [.ref (sk 2), .ref (sk (20 + 2 * 33)), .int (g 0), .int (g 1), .int x, .int (g 3), .int (g 4), .int (g 5)])) = wX cI cO sk (upd g 2 x) tb tr from rfl)
  exact kk H1 locs1 (e ▸ h1) (e ▸ h2) h3
theorem pX1_value (C : CallFix p m c cc nL s args AL own) (hK : va_K D vwCl (ty3 cI cZ cO) s) (hP : va_P D vwCl (WW cI cO sk g tb V Hd tr) H) (hD : va_D A (WW cI cO sk g tb V Hd tr)) (hS : va_S A H0 H locs) {idx : Nat} {x : Int32} (hl : Cond.fieldLink own idx "WindFrontiers$Reader" "value" "I" ∈ AL) (hdg : decode cc pc = .ok (.putfield idx, 3)) (kk : ∀ (H : Heap) (locs : List Loc), va_P D vwCl (WW cI cO sk (upd g 3 x) tb V Hd tr) H → va_D A (WW cI cO sk (upd g 3 x) tb V Hd tr) → va_S A H0 H locs → W p l e R s m args below meth c H locs cells slots Q (F0 m (pc + 3) ls rest)) : W p l e R s m args below meth c H locs cells slots Q (F0 m pc ls (.int x :: .ref (sk 1) :: rest)) := by
  refine va_put (D := D) (ci := 1) (v := .int x) (ty := .int) (C := RX1) (T := TX1) (N := 8) C.1 C.2.1 C.2.2.2.2 inA1 tyX1 tyX1_ok nmX1 C.2.2.2.1 hK hP hD hS 1 ((WW_x cI cO sk g tb V Hd tr (show 1 < 12 by decide)).trans rfl) rfl 5 (by decide) (C.2.2.2.2 _ hl) (fun _ h => h) rfl (by decide +kernel) rfl rfl (Nat.le_of_ble_eq_true rfl) hdg (fun H1 locs1 h1 h2 h3 => ?_)
  have e := WW_setX (V := V) (Hd := Hd) (tr := tr) (g := g) (tb := tb) (sk := sk) (cI := cI) (cO := cO) (show 1 < 12 by decide) (show (wX cI cO sk g tb tr).set 1 (sk 1, .inr (1, [.ref (sk 2), .ref (sk (20 + 2 * 33)), .int (g 0), .int (g 1), .int (g 2), .int x, .int (g 4), .int (g 5)])) = wX cI cO sk (upd g 3 x) tb tr from rfl)
  exact kk H1 locs1 (e ▸ h1) (e ▸ h2) h3
theorem pX1_items (C : CallFix p m c cc nL s args AL own) (hK : va_K D vwCl (ty3 cI cZ cO) s) (hP : va_P D vwCl (WW cI cO sk g tb V Hd tr) H) (hD : va_D A (WW cI cO sk g tb V Hd tr)) (hS : va_S A H0 H locs) {idx : Nat} {x : Int32} (hl : Cond.fieldLink own idx "WindFrontiers$Reader" "items" "I" ∈ AL) (hdg : decode cc pc = .ok (.putfield idx, 3)) (kk : ∀ (H : Heap) (locs : List Loc), va_P D vwCl (WW cI cO sk (upd g 4 x) tb V Hd tr) H → va_D A (WW cI cO sk (upd g 4 x) tb V Hd tr) → va_S A H0 H locs → W p l e R s m args below meth c H locs cells slots Q (F0 m (pc + 3) ls rest)) : W p l e R s m args below meth c H locs cells slots Q (F0 m pc ls (.int x :: .ref (sk 1) :: rest)) := by
  refine va_put (D := D) (ci := 1) (v := .int x) (ty := .int) (C := RX1) (T := TX1) (N := 8) C.1 C.2.1 C.2.2.2.2 inA1 tyX1 tyX1_ok nmX1 C.2.2.2.1 hK hP hD hS 1 ((WW_x cI cO sk g tb V Hd tr (show 1 < 12 by decide)).trans rfl) rfl 6 (by decide) (C.2.2.2.2 _ hl) (fun _ h => h) rfl (by decide +kernel) rfl rfl (Nat.le_of_ble_eq_true rfl) hdg (fun H1 locs1 h1 h2 h3 => ?_)
  have e := WW_setX (V := V) (Hd := Hd) (tr := tr) (g := g) (tb := tb) (sk := sk) (cI := cI) (cO := cO) (show 1 < 12 by decide) (show (wX cI cO sk g tb tr).set 1 (sk 1, .inr (1, [.ref (sk 2), .ref (sk (20 + 2 * 33)), .int (g 0), .int (g 1), .int (g 2), .int (g 3), .int x, .int (g 5)])) = wX cI cO sk (upd g 4 x) tb tr from rfl)
  exact kk H1 locs1 (e ▸ h1) (e ▸ h2) h3
theorem pX1_windTold (C : CallFix p m c cc nL s args AL own) (hK : va_K D vwCl (ty3 cI cZ cO) s) (hP : va_P D vwCl (WW cI cO sk g tb V Hd tr) H) (hD : va_D A (WW cI cO sk g tb V Hd tr)) (hS : va_S A H0 H locs) {idx : Nat} {x : Int32} (hb : x = 0 ∨ x = 1) (hl : Cond.fieldLink own idx "WindFrontiers$Reader" "windTold" "Z" ∈ AL) (hdg : decode cc pc = .ok (.putfield idx, 3)) (kk : ∀ (H : Heap) (locs : List Loc), va_P D vwCl (WW cI cO sk (upd g 5 x) tb V Hd tr) H → va_D A (WW cI cO sk (upd g 5 x) tb V Hd tr) → va_S A H0 H locs → W p l e R s m args below meth c H locs cells slots Q (F0 m (pc + 3) ls rest)) : W p l e R s m args below meth c H locs cells slots Q (F0 m pc ls (.int x :: .ref (sk 1) :: rest)) := by
  refine va_put (D := D) (ci := 1) (v := .int x) (ty := .boolean) (C := RX1) (T := TX1) (N := 8) C.1 C.2.1 C.2.2.2.2 inA1 tyX1 tyX1_ok nmX1 C.2.2.2.1 hK hP hD hS 1 ((WW_x cI cO sk g tb V Hd tr (show 1 < 12 by decide)).trans rfl) rfl 7 (by decide) (C.2.2.2.2 _ hl) (fun _ h => h) rfl (by decide +kernel) (bo_nar hb) (bo_fit hb) (Nat.le_of_ble_eq_true rfl) hdg (fun H1 locs1 h1 h2 h3 => ?_)
  have e := WW_setX (V := V) (Hd := Hd) (tr := tr) (g := g) (tb := tb) (sk := sk) (cI := cI) (cO := cO) (show 1 < 12 by decide) (show (wX cI cO sk g tb tr).set 1 (sk 1, .inr (1, [.ref (sk 2), .ref (sk (20 + 2 * 33)), .int (g 0), .int (g 1), .int (g 2), .int (g 3), .int (g 4), .int x])) = wX cI cO sk (upd g 5 x) tb tr from rfl)
  exact kk H1 locs1 (e ▸ h1) (e ▸ h2) h3
theorem pX5_length (C : CallFix p m c cc nL s args AL own) (hK : va_K D vwCl (ty3 cI cZ cO) s) (hP : va_P D vwCl (WW cI cO sk g tb V Hd tr) H) (hD : va_D A (WW cI cO sk g tb V Hd tr)) (hS : va_S A H0 H locs) {idx : Nat} {x : Int32} (hl : Cond.fieldLink own idx "WindFrontiers$Text" "length" "I" ∈ AL) (hdg : decode cc pc = .ok (.putfield idx, 3)) (kk : ∀ (H : Heap) (locs : List Loc), va_P D vwCl (WW cI cO sk (upd g 6 x) tb V Hd tr) H → va_D A (WW cI cO sk (upd g 6 x) tb V Hd tr) → va_S A H0 H locs → W p l e R s m args below meth c H locs cells slots Q (F0 m (pc + 3) ls rest)) : W p l e R s m args below meth c H locs cells slots Q (F0 m pc ls (.int x :: .ref (sk 2) :: rest)) := by
  refine va_put (D := D) (ci := 5) (v := .int x) (ty := .int) (C := RX5) (T := TX5) (N := 2) C.1 C.2.1 C.2.2.2.2 inA5 tyX5 tyX5_ok nmX5 C.2.2.2.1 hK hP hD hS 2 ((WW_x cI cO sk g tb V Hd tr (show 2 < 12 by decide)).trans rfl) rfl 1 (by decide) (C.2.2.2.2 _ hl) (fun _ h => h) rfl (by decide +kernel) rfl rfl (Nat.le_of_ble_eq_true rfl) hdg (fun H1 locs1 h1 h2 h3 => ?_)
  have e := WW_setX (V := V) (Hd := Hd) (tr := tr) (g := g) (tb := tb) (sk := sk) (cI := cI) (cO := cO) (show 2 < 12 by decide) (show (wX cI cO sk g tb tr).set 2 (sk 2, .inr (5, [.ref (sk 3), .int x])) = wX cI cO sk (upd g 6 x) tb tr from rfl)
  exact kk H1 locs1 (e ▸ h1) (e ▸ h2) h3
theorem pX2_much (C : CallFix p m c cc nL s args AL own) (hK : va_K D vwCl (ty3 cI cZ cO) s) (hP : va_P D vwCl (WW cI cO sk g tb V Hd tr) H) (hD : va_D A (WW cI cO sk g tb V Hd tr)) (hS : va_S A H0 H locs) {idx : Nat} {x : Int32} (hl : Cond.fieldLink own idx "WindFrontiers$Seen" "much" "I" ∈ AL) (hdg : decode cc pc = .ok (.putfield idx, 3)) (kk : ∀ (H : Heap) (locs : List Loc), va_P D vwCl (WW cI cO sk (upd g 13 x) tb V Hd tr) H → va_D A (WW cI cO sk (upd g 13 x) tb V Hd tr) → va_S A H0 H locs → W p l e R s m args below meth c H locs cells slots Q (F0 m (pc + 3) ls rest)) : W p l e R s m args below meth c H locs cells slots Q (F0 m pc ls (.int x :: .ref (sk 10) :: rest)) := by
  refine va_put (D := D) (ci := 2) (v := .int x) (ty := .int) (C := RX2) (T := TX2) (N := 5) C.1 C.2.1 C.2.2.2.2 inA2 tyX2 tyX2_ok nmX2 C.2.2.2.1 hK hP hD hS 10 ((WW_x cI cO sk g tb V Hd tr (show 10 < 12 by decide)).trans rfl) rfl 0 (by decide) (C.2.2.2.2 _ hl) (fun _ h => h) rfl (by decide +kernel) rfl rfl (Nat.le_of_ble_eq_true rfl) hdg (fun H1 locs1 h1 h2 h3 => ?_)
  have e := WW_setX (V := V) (Hd := Hd) (tr := tr) (g := g) (tb := tb) (sk := sk) (cI := cI) (cO := cO) (show 10 < 12 by decide) (show (wX cI cO sk g tb tr).set 10 (sk 10, .inr (2, [.int x, .int (g 14), .int (g 15), .int (g 16), .int (g 17)])) = wX cI cO sk (upd g 13 x) tb tr from rfl)
  exact kk H1 locs1 (e ▸ h1) (e ▸ h2) h3
theorem pX2_stillByLeft (C : CallFix p m c cc nL s args AL own) (hK : va_K D vwCl (ty3 cI cZ cO) s) (hP : va_P D vwCl (WW cI cO sk g tb V Hd tr) H) (hD : va_D A (WW cI cO sk g tb V Hd tr)) (hS : va_S A H0 H locs) {idx : Nat} {x : Int32} (hl : Cond.fieldLink own idx "WindFrontiers$Seen" "stillByLeft" "I" ∈ AL) (hdg : decode cc pc = .ok (.putfield idx, 3)) (kk : ∀ (H : Heap) (locs : List Loc), va_P D vwCl (WW cI cO sk (upd g 14 x) tb V Hd tr) H → va_D A (WW cI cO sk (upd g 14 x) tb V Hd tr) → va_S A H0 H locs → W p l e R s m args below meth c H locs cells slots Q (F0 m (pc + 3) ls rest)) : W p l e R s m args below meth c H locs cells slots Q (F0 m pc ls (.int x :: .ref (sk 10) :: rest)) := by
  refine va_put (D := D) (ci := 2) (v := .int x) (ty := .int) (C := RX2) (T := TX2) (N := 5) C.1 C.2.1 C.2.2.2.2 inA2 tyX2 tyX2_ok nmX2 C.2.2.2.1 hK hP hD hS 10 ((WW_x cI cO sk g tb V Hd tr (show 10 < 12 by decide)).trans rfl) rfl 1 (by decide) (C.2.2.2.2 _ hl) (fun _ h => h) rfl (by decide +kernel) rfl rfl (Nat.le_of_ble_eq_true rfl) hdg (fun H1 locs1 h1 h2 h3 => ?_)
  have e := WW_setX (V := V) (Hd := Hd) (tr := tr) (g := g) (tb := tb) (sk := sk) (cI := cI) (cO := cO) (show 10 < 12 by decide) (show (wX cI cO sk g tb tr).set 10 (sk 10, .inr (2, [.int (g 13), .int x, .int (g 15), .int (g 16), .int (g 17)])) = wX cI cO sk (upd g 14 x) tb tr from rfl)
  exact kk H1 locs1 (e ▸ h1) (e ▸ h2) h3
theorem pX2_stillByRight (C : CallFix p m c cc nL s args AL own) (hK : va_K D vwCl (ty3 cI cZ cO) s) (hP : va_P D vwCl (WW cI cO sk g tb V Hd tr) H) (hD : va_D A (WW cI cO sk g tb V Hd tr)) (hS : va_S A H0 H locs) {idx : Nat} {x : Int32} (hl : Cond.fieldLink own idx "WindFrontiers$Seen" "stillByRight" "I" ∈ AL) (hdg : decode cc pc = .ok (.putfield idx, 3)) (kk : ∀ (H : Heap) (locs : List Loc), va_P D vwCl (WW cI cO sk (upd g 15 x) tb V Hd tr) H → va_D A (WW cI cO sk (upd g 15 x) tb V Hd tr) → va_S A H0 H locs → W p l e R s m args below meth c H locs cells slots Q (F0 m (pc + 3) ls rest)) : W p l e R s m args below meth c H locs cells slots Q (F0 m pc ls (.int x :: .ref (sk 10) :: rest)) := by
  refine va_put (D := D) (ci := 2) (v := .int x) (ty := .int) (C := RX2) (T := TX2) (N := 5) C.1 C.2.1 C.2.2.2.2 inA2 tyX2 tyX2_ok nmX2 C.2.2.2.1 hK hP hD hS 10 ((WW_x cI cO sk g tb V Hd tr (show 10 < 12 by decide)).trans rfl) rfl 2 (by decide) (C.2.2.2.2 _ hl) (fun _ h => h) rfl (by decide +kernel) rfl rfl (Nat.le_of_ble_eq_true rfl) hdg (fun H1 locs1 h1 h2 h3 => ?_)
  have e := WW_setX (V := V) (Hd := Hd) (tr := tr) (g := g) (tb := tb) (sk := sk) (cI := cI) (cO := cO) (show 10 < 12 by decide) (show (wX cI cO sk g tb tr).set 10 (sk 10, .inr (2, [.int (g 13), .int (g 14), .int x, .int (g 16), .int (g 17)])) = wX cI cO sk (upd g 15 x) tb tr from rfl)
  exact kk H1 locs1 (e ▸ h1) (e ▸ h2) h3
theorem pX2_openByLeft (C : CallFix p m c cc nL s args AL own) (hK : va_K D vwCl (ty3 cI cZ cO) s) (hP : va_P D vwCl (WW cI cO sk g tb V Hd tr) H) (hD : va_D A (WW cI cO sk g tb V Hd tr)) (hS : va_S A H0 H locs) {idx : Nat} {x : Int32} (hl : Cond.fieldLink own idx "WindFrontiers$Seen" "openByLeft" "I" ∈ AL) (hdg : decode cc pc = .ok (.putfield idx, 3)) (kk : ∀ (H : Heap) (locs : List Loc), va_P D vwCl (WW cI cO sk (upd g 16 x) tb V Hd tr) H → va_D A (WW cI cO sk (upd g 16 x) tb V Hd tr) → va_S A H0 H locs → W p l e R s m args below meth c H locs cells slots Q (F0 m (pc + 3) ls rest)) : W p l e R s m args below meth c H locs cells slots Q (F0 m pc ls (.int x :: .ref (sk 10) :: rest)) := by
  refine va_put (D := D) (ci := 2) (v := .int x) (ty := .int) (C := RX2) (T := TX2) (N := 5) C.1 C.2.1 C.2.2.2.2 inA2 tyX2 tyX2_ok nmX2 C.2.2.2.1 hK hP hD hS 10 ((WW_x cI cO sk g tb V Hd tr (show 10 < 12 by decide)).trans rfl) rfl 3 (by decide) (C.2.2.2.2 _ hl) (fun _ h => h) rfl (by decide +kernel) rfl rfl (Nat.le_of_ble_eq_true rfl) hdg (fun H1 locs1 h1 h2 h3 => ?_)
  have e := WW_setX (V := V) (Hd := Hd) (tr := tr) (g := g) (tb := tb) (sk := sk) (cI := cI) (cO := cO) (show 10 < 12 by decide) (show (wX cI cO sk g tb tr).set 10 (sk 10, .inr (2, [.int (g 13), .int (g 14), .int (g 15), .int x, .int (g 17)])) = wX cI cO sk (upd g 16 x) tb tr from rfl)
  exact kk H1 locs1 (e ▸ h1) (e ▸ h2) h3
theorem pX2_openByRight (C : CallFix p m c cc nL s args AL own) (hK : va_K D vwCl (ty3 cI cZ cO) s) (hP : va_P D vwCl (WW cI cO sk g tb V Hd tr) H) (hD : va_D A (WW cI cO sk g tb V Hd tr)) (hS : va_S A H0 H locs) {idx : Nat} {x : Int32} (hl : Cond.fieldLink own idx "WindFrontiers$Seen" "openByRight" "I" ∈ AL) (hdg : decode cc pc = .ok (.putfield idx, 3)) (kk : ∀ (H : Heap) (locs : List Loc), va_P D vwCl (WW cI cO sk (upd g 17 x) tb V Hd tr) H → va_D A (WW cI cO sk (upd g 17 x) tb V Hd tr) → va_S A H0 H locs → W p l e R s m args below meth c H locs cells slots Q (F0 m (pc + 3) ls rest)) : W p l e R s m args below meth c H locs cells slots Q (F0 m pc ls (.int x :: .ref (sk 10) :: rest)) := by
  refine va_put (D := D) (ci := 2) (v := .int x) (ty := .int) (C := RX2) (T := TX2) (N := 5) C.1 C.2.1 C.2.2.2.2 inA2 tyX2 tyX2_ok nmX2 C.2.2.2.1 hK hP hD hS 10 ((WW_x cI cO sk g tb V Hd tr (show 10 < 12 by decide)).trans rfl) rfl 4 (by decide) (C.2.2.2.2 _ hl) (fun _ h => h) rfl (by decide +kernel) rfl rfl (Nat.le_of_ble_eq_true rfl) hdg (fun H1 locs1 h1 h2 h3 => ?_)
  have e := WW_setX (V := V) (Hd := Hd) (tr := tr) (g := g) (tb := tb) (sk := sk) (cI := cI) (cO := cO) (show 10 < 12 by decide) (show (wX cI cO sk g tb tr).set 10 (sk 10, .inr (2, [.int (g 13), .int (g 14), .int (g 15), .int (g 16), .int x])) = wX cI cO sk (upd g 17 x) tb tr from rfl)
  exact kk H1 locs1 (e ▸ h1) (e ▸ h2) h3
theorem pX0_sum (C : CallFix p m c cc nL s args AL own) (hK : va_K D vwCl (ty3 cI cZ cO) s) (hP : va_P D vwCl (WW cI cO sk g tb V Hd tr) H) (hD : va_D A (WW cI cO sk g tb V Hd tr)) (hS : va_S A H0 H locs) {idx : Nat} {x : Int64} (hl : Cond.fieldLink own idx "WindFrontiers$Marks" "sum" "J" ∈ AL) (hdg : decode cc pc = .ok (.putfield idx, 3)) (kk : ∀ (H : Heap) (locs : List Loc), va_P D vwCl (WW cI cO sk g tb V Hd x) H → va_D A (WW cI cO sk g tb V Hd x) → va_S A H0 H locs → W p l e R s m args below meth c H locs cells slots Q (F0 m (pc + 3) ls rest)) : W p l e R s m args below meth c H locs cells slots Q (F0 m pc ls (.long x :: .ref (sk 11) :: rest)) := by
  refine va_put (D := D) (ci := 0) (v := .long x) (ty := .long) (C := RX0) (T := TX0) (N := 1) C.1 C.2.1 C.2.2.2.2 inA0 tyX0 tyX0_ok nmX0 C.2.2.2.1 hK hP hD hS 11 ((WW_x cI cO sk g tb V Hd tr (show 11 < 12 by decide)).trans rfl) rfl 0 (by decide) (C.2.2.2.2 _ hl) (fun _ h => h) rfl (by decide +kernel) rfl rfl (Nat.le_of_ble_eq_true rfl) hdg (fun H1 locs1 h1 h2 h3 => ?_)
  have e := WW_setX (V := V) (Hd := Hd) (tr := tr) (g := g) (tb := tb) (sk := sk) (cI := cI) (cO := cO) (show 11 < 12 by decide) (show (wX cI cO sk g tb tr).set 11 (sk 11, .inr (0, [.long x])) = wX cI cO sk g tb x from rfl)
  exact kk H1 locs1 (e ▸ h1) (e ▸ h2) h3
theorem gX4_wide (C : CallFix p m c cc nL s args AL own) (hK : va_K D vwCl (ty3 cI cZ cO) s) (hP : va_P D vwCl (WW cI cO sk g tb V Hd tr) H) {k : Nat} (hk : k < 34) {idx : Nat} (hl : Cond.fieldLink own idx "WindFrontiers$Strand" "wide" "I" ∈ AL) (hdg : decode cc pc = .ok (.getfield idx, 3)) (kk : W p l e R s m args below meth c H locs cells slots Q (F0 m (pc + 3) ls (.int (V k 0) :: rest))) : W p l e R s m args below meth c H locs cells slots Q (F0 m pc ls (.ref (sk (20 + 2 * k)) :: rest)) :=
  va_get (D := D) (ci := 4) (C := RX4) (T := TX4) (N := 6) C.1 C.2.1 C.2.2.2.2 inA4 C.2.2.2.1 hK hP (12 + k) (WW_st hk) rfl 0 (by decide) (C.2.2.2.2 _ hl) (fun _ h => h) rfl hdg kk
theorem gX4_rows (C : CallFix p m c cc nL s args AL own) (hK : va_K D vwCl (ty3 cI cZ cO) s) (hP : va_P D vwCl (WW cI cO sk g tb V Hd tr) H) {k : Nat} (hk : k < 34) {idx : Nat} (hl : Cond.fieldLink own idx "WindFrontiers$Strand" "rows" "I" ∈ AL) (hdg : decode cc pc = .ok (.getfield idx, 3)) (kk : W p l e R s m args below meth c H locs cells slots Q (F0 m (pc + 3) ls (.int (V k 1) :: rest))) : W p l e R s m args below meth c H locs cells slots Q (F0 m pc ls (.ref (sk (20 + 2 * k)) :: rest)) :=
  va_get (D := D) (ci := 4) (C := RX4) (T := TX4) (N := 6) C.1 C.2.1 C.2.2.2.2 inA4 C.2.2.2.1 hK hP (12 + k) (WW_st hk) rfl 1 (by decide) (C.2.2.2.2 _ hl) (fun _ h => h) rfl hdg kk
theorem gX4_cloth (C : CallFix p m c cc nL s args AL own) (hK : va_K D vwCl (ty3 cI cZ cO) s) (hP : va_P D vwCl (WW cI cO sk g tb V Hd tr) H) {k : Nat} (hk : k < 34) {idx : Nat} (hl : Cond.fieldLink own idx "WindFrontiers$Strand" "cloth" "I" ∈ AL) (hdg : decode cc pc = .ok (.getfield idx, 3)) (kk : W p l e R s m args below meth c H locs cells slots Q (F0 m (pc + 3) ls (.int (V k 2) :: rest))) : W p l e R s m args below meth c H locs cells slots Q (F0 m pc ls (.ref (sk (20 + 2 * k)) :: rest)) :=
  va_get (D := D) (ci := 4) (C := RX4) (T := TX4) (N := 6) C.1 C.2.1 C.2.2.2.2 inA4 C.2.2.2.1 hK hP (12 + k) (WW_st hk) rfl 2 (by decide) (C.2.2.2.2 _ hl) (fun _ h => h) rfl hdg kk
theorem gX4_wind (C : CallFix p m c cc nL s args AL own) (hK : va_K D vwCl (ty3 cI cZ cO) s) (hP : va_P D vwCl (WW cI cO sk g tb V Hd tr) H) {k : Nat} (hk : k < 34) {idx : Nat} (hl : Cond.fieldLink own idx "WindFrontiers$Strand" "wind" "I" ∈ AL) (hdg : decode cc pc = .ok (.getfield idx, 3)) (kk : W p l e R s m args below meth c H locs cells slots Q (F0 m (pc + 3) ls (.int (V k 3) :: rest))) : W p l e R s m args below meth c H locs cells slots Q (F0 m pc ls (.ref (sk (20 + 2 * k)) :: rest)) :=
  va_get (D := D) (ci := 4) (C := RX4) (T := TX4) (N := 6) C.1 C.2.1 C.2.2.2.2 inA4 C.2.2.2.1 hK hP (12 + k) (WW_st hk) rfl 3 (by decide) (C.2.2.2.2 _ hl) (fun _ h => h) rfl hdg kk
theorem gX4_tide (C : CallFix p m c cc nL s args AL own) (hK : va_K D vwCl (ty3 cI cZ cO) s) (hP : va_P D vwCl (WW cI cO sk g tb V Hd tr) H) {k : Nat} (hk : k < 34) {idx : Nat} (hl : Cond.fieldLink own idx "WindFrontiers$Strand" "tide" "I" ∈ AL) (hdg : decode cc pc = .ok (.getfield idx, 3)) (kk : W p l e R s m args below meth c H locs cells slots Q (F0 m (pc + 3) ls (.int (V k 4) :: rest))) : W p l e R s m args below meth c H locs cells slots Q (F0 m pc ls (.ref (sk (20 + 2 * k)) :: rest)) :=
  va_get (D := D) (ci := 4) (C := RX4) (T := TX4) (N := 6) C.1 C.2.1 C.2.2.2.2 inA4 C.2.2.2.1 hK hP (12 + k) (WW_st hk) rfl 4 (by decide) (C.2.2.2.2 _ hl) (fun _ h => h) rfl hdg kk
theorem gX4_held (C : CallFix p m c cc nL s args AL own) (hK : va_K D vwCl (ty3 cI cZ cO) s) (hP : va_P D vwCl (WW cI cO sk g tb V Hd tr) H) {k : Nat} (hk : k < 34) {idx : Nat} (hl : Cond.fieldLink own idx "WindFrontiers$Strand" "held" "[I" ∈ AL) (hdg : decode cc pc = .ok (.getfield idx, 3)) (kk : W p l e R s m args below meth c H locs cells slots Q (F0 m (pc + 3) ls (.ref (sk (21 + 2 * k)) :: rest))) : W p l e R s m args below meth c H locs cells slots Q (F0 m pc ls (.ref (sk (20 + 2 * k)) :: rest)) :=
  va_get (D := D) (ci := 4) (C := RX4) (T := TX4) (N := 6) C.1 C.2.1 C.2.2.2.2 inA4 C.2.2.2.1 hK hP (12 + k) (WW_st hk) rfl 5 (by decide) (C.2.2.2.2 _ hl) (fun _ h => h) rfl hdg kk
theorem pX4_wide (C : CallFix p m c cc nL s args AL own) (hK : va_K D vwCl (ty3 cI cZ cO) s) (hP : va_P D vwCl (WW cI cO sk g tb V Hd tr) H) (hD : va_D A (WW cI cO sk g tb V Hd tr)) (hS : va_S A H0 H locs) {k : Nat} (hk : k < 34) {idx : Nat} {x : Int32} (hl : Cond.fieldLink own idx "WindFrontiers$Strand" "wide" "I" ∈ AL) (hdg : decode cc pc = .ok (.putfield idx, 3)) (kk : ∀ (H : Heap) (locs : List Loc), va_P D vwCl (WW cI cO sk g tb (vs V k 0 x) Hd tr) H → va_D A (WW cI cO sk g tb (vs V k 0 x) Hd tr) → va_S A H0 H locs → W p l e R s m args below meth c H locs cells slots Q (F0 m (pc + 3) ls rest)) : W p l e R s m args below meth c H locs cells slots Q (F0 m pc ls (.int x :: .ref (sk (20 + 2 * k)) :: rest)) := by
  refine va_put (D := D) (ci := 4) (v := .int x) (ty := .int) (C := RX4) (T := TX4) (N := 6) C.1 C.2.1 C.2.2.2.2 inA4 tyX4 tyX4_ok nmX4 C.2.2.2.1 hK hP hD hS (12 + k) (WW_st hk) rfl 0 (by decide) (C.2.2.2.2 _ hl) (fun _ h => h) rfl (by decide +kernel) rfl rfl (Nat.le_of_ble_eq_true rfl) hdg (fun H1 locs1 h1 h2 h3 => ?_)
  have e := WW_setS (V := V) (V' := vs V k 0 x) (Hd := Hd) (tr := tr) (g := g) (tb := tb) (sk := sk) (cI := cI) (cO := cO) hk (fun j hj => vs_ne hj) (x := (sk (20 + 2 * k), .inr (4, [.int x, .int (V k 1), .int (V k 2), .int (V k 3), .int (V k 4), .ref (sk (21 + 2 * k))]))) (by simp [wSt, vs])
  exact kk H1 locs1 (e ▸ h1) (e ▸ h2) h3
theorem pX4_rows (C : CallFix p m c cc nL s args AL own) (hK : va_K D vwCl (ty3 cI cZ cO) s) (hP : va_P D vwCl (WW cI cO sk g tb V Hd tr) H) (hD : va_D A (WW cI cO sk g tb V Hd tr)) (hS : va_S A H0 H locs) {k : Nat} (hk : k < 34) {idx : Nat} {x : Int32} (hl : Cond.fieldLink own idx "WindFrontiers$Strand" "rows" "I" ∈ AL) (hdg : decode cc pc = .ok (.putfield idx, 3)) (kk : ∀ (H : Heap) (locs : List Loc), va_P D vwCl (WW cI cO sk g tb (vs V k 1 x) Hd tr) H → va_D A (WW cI cO sk g tb (vs V k 1 x) Hd tr) → va_S A H0 H locs → W p l e R s m args below meth c H locs cells slots Q (F0 m (pc + 3) ls rest)) : W p l e R s m args below meth c H locs cells slots Q (F0 m pc ls (.int x :: .ref (sk (20 + 2 * k)) :: rest)) := by
  refine va_put (D := D) (ci := 4) (v := .int x) (ty := .int) (C := RX4) (T := TX4) (N := 6) C.1 C.2.1 C.2.2.2.2 inA4 tyX4 tyX4_ok nmX4 C.2.2.2.1 hK hP hD hS (12 + k) (WW_st hk) rfl 1 (by decide) (C.2.2.2.2 _ hl) (fun _ h => h) rfl (by decide +kernel) rfl rfl (Nat.le_of_ble_eq_true rfl) hdg (fun H1 locs1 h1 h2 h3 => ?_)
  have e := WW_setS (V := V) (V' := vs V k 1 x) (Hd := Hd) (tr := tr) (g := g) (tb := tb) (sk := sk) (cI := cI) (cO := cO) hk (fun j hj => vs_ne hj) (x := (sk (20 + 2 * k), .inr (4, [.int (V k 0), .int x, .int (V k 2), .int (V k 3), .int (V k 4), .ref (sk (21 + 2 * k))]))) (by simp [wSt, vs])
  exact kk H1 locs1 (e ▸ h1) (e ▸ h2) h3
theorem pX4_cloth (C : CallFix p m c cc nL s args AL own) (hK : va_K D vwCl (ty3 cI cZ cO) s) (hP : va_P D vwCl (WW cI cO sk g tb V Hd tr) H) (hD : va_D A (WW cI cO sk g tb V Hd tr)) (hS : va_S A H0 H locs) {k : Nat} (hk : k < 34) {idx : Nat} {x : Int32} (hl : Cond.fieldLink own idx "WindFrontiers$Strand" "cloth" "I" ∈ AL) (hdg : decode cc pc = .ok (.putfield idx, 3)) (kk : ∀ (H : Heap) (locs : List Loc), va_P D vwCl (WW cI cO sk g tb (vs V k 2 x) Hd tr) H → va_D A (WW cI cO sk g tb (vs V k 2 x) Hd tr) → va_S A H0 H locs → W p l e R s m args below meth c H locs cells slots Q (F0 m (pc + 3) ls rest)) : W p l e R s m args below meth c H locs cells slots Q (F0 m pc ls (.int x :: .ref (sk (20 + 2 * k)) :: rest)) := by
  refine va_put (D := D) (ci := 4) (v := .int x) (ty := .int) (C := RX4) (T := TX4) (N := 6) C.1 C.2.1 C.2.2.2.2 inA4 tyX4 tyX4_ok nmX4 C.2.2.2.1 hK hP hD hS (12 + k) (WW_st hk) rfl 2 (by decide) (C.2.2.2.2 _ hl) (fun _ h => h) rfl (by decide +kernel) rfl rfl (Nat.le_of_ble_eq_true rfl) hdg (fun H1 locs1 h1 h2 h3 => ?_)
  have e := WW_setS (V := V) (V' := vs V k 2 x) (Hd := Hd) (tr := tr) (g := g) (tb := tb) (sk := sk) (cI := cI) (cO := cO) hk (fun j hj => vs_ne hj) (x := (sk (20 + 2 * k), .inr (4, [.int (V k 0), .int (V k 1), .int x, .int (V k 3), .int (V k 4), .ref (sk (21 + 2 * k))]))) (by simp [wSt, vs])
  exact kk H1 locs1 (e ▸ h1) (e ▸ h2) h3
theorem pX4_wind (C : CallFix p m c cc nL s args AL own) (hK : va_K D vwCl (ty3 cI cZ cO) s) (hP : va_P D vwCl (WW cI cO sk g tb V Hd tr) H) (hD : va_D A (WW cI cO sk g tb V Hd tr)) (hS : va_S A H0 H locs) {k : Nat} (hk : k < 34) {idx : Nat} {x : Int32} (hl : Cond.fieldLink own idx "WindFrontiers$Strand" "wind" "I" ∈ AL) (hdg : decode cc pc = .ok (.putfield idx, 3)) (kk : ∀ (H : Heap) (locs : List Loc), va_P D vwCl (WW cI cO sk g tb (vs V k 3 x) Hd tr) H → va_D A (WW cI cO sk g tb (vs V k 3 x) Hd tr) → va_S A H0 H locs → W p l e R s m args below meth c H locs cells slots Q (F0 m (pc + 3) ls rest)) : W p l e R s m args below meth c H locs cells slots Q (F0 m pc ls (.int x :: .ref (sk (20 + 2 * k)) :: rest)) := by
  refine va_put (D := D) (ci := 4) (v := .int x) (ty := .int) (C := RX4) (T := TX4) (N := 6) C.1 C.2.1 C.2.2.2.2 inA4 tyX4 tyX4_ok nmX4 C.2.2.2.1 hK hP hD hS (12 + k) (WW_st hk) rfl 3 (by decide) (C.2.2.2.2 _ hl) (fun _ h => h) rfl (by decide +kernel) rfl rfl (Nat.le_of_ble_eq_true rfl) hdg (fun H1 locs1 h1 h2 h3 => ?_)
  have e := WW_setS (V := V) (V' := vs V k 3 x) (Hd := Hd) (tr := tr) (g := g) (tb := tb) (sk := sk) (cI := cI) (cO := cO) hk (fun j hj => vs_ne hj) (x := (sk (20 + 2 * k), .inr (4, [.int (V k 0), .int (V k 1), .int (V k 2), .int x, .int (V k 4), .ref (sk (21 + 2 * k))]))) (by simp [wSt, vs])
  exact kk H1 locs1 (e ▸ h1) (e ▸ h2) h3
theorem pX4_tide (C : CallFix p m c cc nL s args AL own) (hK : va_K D vwCl (ty3 cI cZ cO) s) (hP : va_P D vwCl (WW cI cO sk g tb V Hd tr) H) (hD : va_D A (WW cI cO sk g tb V Hd tr)) (hS : va_S A H0 H locs) {k : Nat} (hk : k < 34) {idx : Nat} {x : Int32} (hl : Cond.fieldLink own idx "WindFrontiers$Strand" "tide" "I" ∈ AL) (hdg : decode cc pc = .ok (.putfield idx, 3)) (kk : ∀ (H : Heap) (locs : List Loc), va_P D vwCl (WW cI cO sk g tb (vs V k 4 x) Hd tr) H → va_D A (WW cI cO sk g tb (vs V k 4 x) Hd tr) → va_S A H0 H locs → W p l e R s m args below meth c H locs cells slots Q (F0 m (pc + 3) ls rest)) : W p l e R s m args below meth c H locs cells slots Q (F0 m pc ls (.int x :: .ref (sk (20 + 2 * k)) :: rest)) := by
  refine va_put (D := D) (ci := 4) (v := .int x) (ty := .int) (C := RX4) (T := TX4) (N := 6) C.1 C.2.1 C.2.2.2.2 inA4 tyX4 tyX4_ok nmX4 C.2.2.2.1 hK hP hD hS (12 + k) (WW_st hk) rfl 4 (by decide) (C.2.2.2.2 _ hl) (fun _ h => h) rfl (by decide +kernel) rfl rfl (Nat.le_of_ble_eq_true rfl) hdg (fun H1 locs1 h1 h2 h3 => ?_)
  have e := WW_setS (V := V) (V' := vs V k 4 x) (Hd := Hd) (tr := tr) (g := g) (tb := tb) (sk := sk) (cI := cI) (cO := cO) hk (fun j hj => vs_ne hj) (x := (sk (20 + 2 * k), .inr (4, [.int (V k 0), .int (V k 1), .int (V k 2), .int (V k 3), .int x, .ref (sk (21 + 2 * k))]))) (by simp [wSt, vs])
  exact kk H1 locs1 (e ▸ h1) (e ▸ h2) h3
theorem gX3_present (C : CallFix p m c cc nL s args AL own) (hK : va_K D vwCl (ty3 cI cZ cO) s) (hP : va_P D vwCl (WW cI cO sk g tb V Hd tr) H) {q : Nat} (hq : q < 3) {idx : Nat} (hl : Cond.fieldLink own idx "WindFrontiers$Story" "present" "LWindFrontiers$Strand;" ∈ AL) (hdg : decode cc pc = .ok (.getfield idx, 3)) (kk : W p l e R s m args below meth c H locs cells slots Q (F0 m (pc + 3) ls (.ref (sk (20 + 2 * (11 * q + 10))) :: rest))) : W p l e R s m args below meth c H locs cells slots Q (F0 m pc ls (.ref (sk (4 + q)) :: rest)) :=
  va_get (D := D) (ci := 3) (C := RX3) (T := TX3) (N := 4) C.1 C.2.1 C.2.2.2.2 inA3 C.2.2.2.1 hK hP (4 + q) (WW_sy hq) rfl 0 (by decide) (C.2.2.2.2 _ hl) (fun _ h => h) rfl hdg kk
theorem gX3_before (C : CallFix p m c cc nL s args AL own) (hK : va_K D vwCl (ty3 cI cZ cO) s) (hP : va_P D vwCl (WW cI cO sk g tb V Hd tr) H) {q : Nat} (hq : q < 3) {idx : Nat} (hl : Cond.fieldLink own idx "WindFrontiers$Story" "before" "[LWindFrontiers$Strand;" ∈ AL) (hdg : decode cc pc = .ok (.getfield idx, 3)) (kk : W p l e R s m args below meth c H locs cells slots Q (F0 m (pc + 3) ls (.ref (sk (7 + q)) :: rest))) : W p l e R s m args below meth c H locs cells slots Q (F0 m pc ls (.ref (sk (4 + q)) :: rest)) :=
  va_get (D := D) (ci := 3) (C := RX3) (T := TX3) (N := 4) C.1 C.2.1 C.2.2.2.2 inA3 C.2.2.2.1 hK hP (4 + q) (WW_sy hq) rfl 1 (by decide) (C.2.2.2.2 _ hl) (fun _ h => h) rfl hdg kk
theorem gX3_undoable (C : CallFix p m c cc nL s args AL own) (hK : va_K D vwCl (ty3 cI cZ cO) s) (hP : va_P D vwCl (WW cI cO sk g tb V Hd tr) H) {q : Nat} (hq : q < 3) {idx : Nat} (hl : Cond.fieldLink own idx "WindFrontiers$Story" "undoable" "I" ∈ AL) (hdg : decode cc pc = .ok (.getfield idx, 3)) (kk : W p l e R s m args below meth c H locs cells slots Q (F0 m (pc + 3) ls (.int (g (7 + q)) :: rest))) : W p l e R s m args below meth c H locs cells slots Q (F0 m pc ls (.ref (sk (4 + q)) :: rest)) :=
  va_get (D := D) (ci := 3) (C := RX3) (T := TX3) (N := 4) C.1 C.2.1 C.2.2.2.2 inA3 C.2.2.2.1 hK hP (4 + q) (WW_sy hq) rfl 2 (by decide) (C.2.2.2.2 _ hl) (fun _ h => h) rfl hdg kk
theorem gX3_kept (C : CallFix p m c cc nL s args AL own) (hK : va_K D vwCl (ty3 cI cZ cO) s) (hP : va_P D vwCl (WW cI cO sk g tb V Hd tr) H) {q : Nat} (hq : q < 3) {idx : Nat} (hl : Cond.fieldLink own idx "WindFrontiers$Story" "kept" "Z" ∈ AL) (hdg : decode cc pc = .ok (.getfield idx, 3)) (kk : W p l e R s m args below meth c H locs cells slots Q (F0 m (pc + 3) ls (.int (g (10 + q)) :: rest))) : W p l e R s m args below meth c H locs cells slots Q (F0 m pc ls (.ref (sk (4 + q)) :: rest)) :=
  va_get (D := D) (ci := 3) (C := RX3) (T := TX3) (N := 4) C.1 C.2.1 C.2.2.2.2 inA3 C.2.2.2.1 hK hP (4 + q) (WW_sy hq) rfl 3 (by decide) (C.2.2.2.2 _ hl) (fun _ h => h) rfl hdg kk
theorem pX3_undoable (C : CallFix p m c cc nL s args AL own) (hK : va_K D vwCl (ty3 cI cZ cO) s) (hP : va_P D vwCl (WW cI cO sk g tb V Hd tr) H) (hD : va_D A (WW cI cO sk g tb V Hd tr)) (hS : va_S A H0 H locs) {q : Nat} (hq : q < 3) {idx : Nat} {x : Int32} (hl : Cond.fieldLink own idx "WindFrontiers$Story" "undoable" "I" ∈ AL) (hdg : decode cc pc = .ok (.putfield idx, 3)) (kk : ∀ (H : Heap) (locs : List Loc), va_P D vwCl (WW cI cO sk (upd g (7 + q) x) tb V Hd tr) H → va_D A (WW cI cO sk (upd g (7 + q) x) tb V Hd tr) → va_S A H0 H locs → W p l e R s m args below meth c H locs cells slots Q (F0 m (pc + 3) ls rest)) : W p l e R s m args below meth c H locs cells slots Q (F0 m pc ls (.int x :: .ref (sk (4 + q)) :: rest)) := by
  refine va_put (D := D) (ci := 3) (v := .int x) (ty := .int) (C := RX3) (T := TX3) (N := 4) C.1 C.2.1 C.2.2.2.2 inA3 tyX3 tyX3_ok nmX3 C.2.2.2.1 hK hP hD hS (4 + q) (WW_sy hq) rfl 2 (by decide) (C.2.2.2.2 _ hl) (fun _ h => h) rfl (by decide +kernel) rfl rfl (Nat.le_of_ble_eq_true rfl) hdg (fun H1 locs1 h1 h2 h3 => ?_)
  have e : (WW cI cO sk g tb V Hd tr).set (4 + q) (sk (4 + q), .inr (3, [.ref (sk (20 + 2 * (11 * q + 10))), .ref (sk (7 + q)), .int x, .int (g (10 + q))])) = WW cI cO sk (upd g (7 + q) x) tb V Hd tr := by
    rcases (show q = 0 ∨ q = 1 ∨ q = 2 by omega) with rfl | rfl | rfl
    · exact WW_setX (show 4 < 12 by decide) rfl
    · exact WW_setX (show 5 < 12 by decide) rfl
    · exact WW_setX (show 6 < 12 by decide) rfl
  exact kk H1 locs1 (e ▸ h1) (e ▸ h2) h3
theorem pX3_kept (C : CallFix p m c cc nL s args AL own) (hK : va_K D vwCl (ty3 cI cZ cO) s) (hP : va_P D vwCl (WW cI cO sk g tb V Hd tr) H) (hD : va_D A (WW cI cO sk g tb V Hd tr)) (hS : va_S A H0 H locs) {q : Nat} (hq : q < 3) {idx : Nat} {x : Int32} (hb : x = 0 ∨ x = 1) (hl : Cond.fieldLink own idx "WindFrontiers$Story" "kept" "Z" ∈ AL) (hdg : decode cc pc = .ok (.putfield idx, 3)) (kk : ∀ (H : Heap) (locs : List Loc), va_P D vwCl (WW cI cO sk (upd g (10 + q) x) tb V Hd tr) H → va_D A (WW cI cO sk (upd g (10 + q) x) tb V Hd tr) → va_S A H0 H locs → W p l e R s m args below meth c H locs cells slots Q (F0 m (pc + 3) ls rest)) : W p l e R s m args below meth c H locs cells slots Q (F0 m pc ls (.int x :: .ref (sk (4 + q)) :: rest)) := by
  refine va_put (D := D) (ci := 3) (v := .int x) (ty := .boolean) (C := RX3) (T := TX3) (N := 4) C.1 C.2.1 C.2.2.2.2 inA3 tyX3 tyX3_ok nmX3 C.2.2.2.1 hK hP hD hS (4 + q) (WW_sy hq) rfl 3 (by decide) (C.2.2.2.2 _ hl) (fun _ h => h) rfl (by decide +kernel) (bo_nar hb) (bo_fit hb) (Nat.le_of_ble_eq_true rfl) hdg (fun H1 locs1 h1 h2 h3 => ?_)
  have e : (WW cI cO sk g tb V Hd tr).set (4 + q) (sk (4 + q), .inr (3, [.ref (sk (20 + 2 * (11 * q + 10))), .ref (sk (7 + q)), .int (g (7 + q)), .int x])) = WW cI cO sk (upd g (10 + q) x) tb V Hd tr := by
    rcases (show q = 0 ∨ q = 1 ∨ q = 2 by omega) with rfl | rfl | rfl
    · exact WW_setX (show 4 < 12 by decide) rfl
    · exact WW_setX (show 5 < 12 by decide) rfl
    · exact WW_setX (show 6 < 12 by decide) rfl
  exact kk H1 locs1 (e ▸ h1) (e ▸ h2) h3
theorem aX_held (C : CallFix p m c cc nL s args AL own) (hK : va_K D vwCl (ty3 cI cZ cO) s) (hP : va_P D vwCl (WW cI cO sk g tb V Hd tr) H) {k : Nat} (hk : k < 34) {i : Int32} (hin : vp_in i 5) (hdg : decode cc pc = .ok (.iaload, 1)) (kk : W p l e R s m args below meth c H locs cells slots Q (F0 m (pc + 1) ls (.int (Hd k i.toNatClampNeg) :: rest))) : W p l e R s m args below meth c H locs cells slots Q (F0 m pc ls (.int i :: .ref (sk (21 + 2 * k)) :: rest)) :=
  va_iald C.1 C.2.1 hK hP (46 + k) 0 (WW_hd hk) rfl hin hdg kk
theorem sX_held (C : CallFix p m c cc nL s args AL own) (hK : va_K D vwCl (ty3 cI cZ cO) s) (hP : va_P D vwCl (WW cI cO sk g tb V Hd tr) H) (hD : va_D A (WW cI cO sk g tb V Hd tr)) (hS : va_S A H0 H locs) {k : Nat} (hk : k < 34) {i x : Int32} (hin : vp_in i 5) (hdg : decode cc pc = .ok (.iastore, 1)) (kk : ∀ (H : Heap) (locs : List Loc), va_P D vwCl (WW cI cO sk g tb V (vs Hd k i.toNatClampNeg x) tr) H → va_D A (WW cI cO sk g tb V (vs Hd k i.toNatClampNeg x) tr) → va_S A H0 H locs → W p l e R s m args below meth c H locs cells slots Q (F0 m (pc + 1) ls rest)) : W p l e R s m args below meth c H locs cells slots Q (F0 m pc ls (.int x :: .int i :: .ref (sk (21 + 2 * k)) :: rest)) := by
  refine va_iast C.1 C.2.1 hK hP hD hS (46 + k) 0 (WW_hd hk) rfl hin hdg (fun H1 locs1 h1 h2 h3 => ?_)
  have e := WW_setH (V := V) (Hd := Hd) (Hd' := vs Hd k i.toNatClampNeg x) (tr := tr) (g := g) (tb := tb) (sk := sk) (cI := cI) (cO := cO) hk (fun j hj => vs_ne hj) (x := (sk (21 + 2 * k), .inl (cI, 5, .inl (upd (Hd k) i.toNatClampNeg x)))) (by simp [wHd, vs_eq])
  exact kk H1 locs1 (e ▸ h1) (e ▸ h2) h3
theorem lX_held (C : CallFix p m c cc nL s args AL own) (hK : va_K D vwCl (ty3 cI cZ cO) s) (hP : va_P D vwCl (WW cI cO sk g tb V Hd tr) H) {k : Nat} (hk : k < 34) (hdg : decode cc pc = .ok (.arraylength, 1)) (kk : W p l e R s m args below meth c H locs cells slots Q (F0 m (pc + 1) ls (.int 5 :: rest))) : W p l e R s m args below meth c H locs cells slots Q (F0 m pc ls (.ref (sk (21 + 2 * k)) :: rest)) :=
  va_alen C.1 C.2.1 hK hP (46 + k) 0 (WW_hd hk) rfl rfl hdg kk
theorem lX_before (C : CallFix p m c cc nL s args AL own) (hK : va_K D vwCl (ty3 cI cZ cO) s) (hP : va_P D vwCl (WW cI cO sk g tb V Hd tr) H) {q : Nat} (hq : q < 3) (hdg : decode cc pc = .ok (.arraylength, 1)) (kk : W p l e R s m args below meth c H locs cells slots Q (F0 m (pc + 1) ls (.int 10 :: rest))) : W p l e R s m args below meth c H locs cells slots Q (F0 m pc ls (.ref (sk (7 + q)) :: rest)) :=
  va_alen C.1 C.2.1 hK hP (7 + q) 2 (WW_bf hq) rfl rfl hdg kk
theorem aX_before (C : CallFix p m c cc nL s args AL own) (hK : va_K D vwCl (ty3 cI cZ cO) s) (hP : va_P D vwCl (WW cI cO sk g tb V Hd tr) H) {q : Nat} (hq : q < 3) {i : Int32} (hin : vp_in i 10) (hdg : decode cc pc = .ok (.aaload, 1)) (kk : W p l e R s m args below meth c H locs cells slots Q (F0 m (pc + 1) ls (.ref (sk (20 + 2 * (11 * q + i.toNatClampNeg))) :: rest))) : W p l e R s m args below meth c H locs cells slots Q (F0 m pc ls (.int i :: .ref (sk (7 + q)) :: rest)) :=
  va_aldq C.1 C.2.1 hK hP (7 + q) 2 (WW_bf hq) rfl hin hdg kk
theorem aX_bytes (C : CallFix p m c cc nL s args AL own) (hK : va_K D vwCl (ty3 cI cZ cO) s) (hP : va_P D vwCl (WW cI cO sk g tb V Hd tr) H) {i : Int32} (hin : vp_in i 150) (hdg : decode cc pc = .ok (.iaload, 1)) (kk : W p l e R s m args below meth c H locs cells slots Q (F0 m (pc + 1) ls (.int (tb i.toNatClampNeg) :: rest))) : W p l e R s m args below meth c H locs cells slots Q (F0 m pc ls (.int i :: .ref (sk 3) :: rest)) :=
  va_iald C.1 C.2.1 hK hP 3 0 ((WW_x cI cO sk g tb V Hd tr (show 3 < 12 by decide)).trans rfl) rfl hin hdg kk
theorem sX_bytes (C : CallFix p m c cc nL s args AL own) (hK : va_K D vwCl (ty3 cI cZ cO) s) (hP : va_P D vwCl (WW cI cO sk g tb V Hd tr) H) (hD : va_D A (WW cI cO sk g tb V Hd tr)) (hS : va_S A H0 H locs) {i x : Int32} (hin : vp_in i 150) (hdg : decode cc pc = .ok (.iastore, 1)) (kk : ∀ (H : Heap) (locs : List Loc), va_P D vwCl (WW cI cO sk g (upd tb i.toNatClampNeg x) V Hd tr) H → va_D A (WW cI cO sk g (upd tb i.toNatClampNeg x) V Hd tr) → va_S A H0 H locs → W p l e R s m args below meth c H locs cells slots Q (F0 m (pc + 1) ls rest)) : W p l e R s m args below meth c H locs cells slots Q (F0 m pc ls (.int x :: .int i :: .ref (sk 3) :: rest)) := by
  refine va_iast C.1 C.2.1 hK hP hD hS 3 0 ((WW_x cI cO sk g tb V Hd tr (show 3 < 12 by decide)).trans rfl) rfl hin hdg (fun H1 locs1 h1 h2 h3 => ?_)
  have e : (WW cI cO sk g tb V Hd tr).set 3 (sk 3, .inl (cI, 150, .inl (upd tb i.toNatClampNeg x))) = WW cI cO sk g (upd tb i.toNatClampNeg x) V Hd tr := WW_setX (show 3 < 12 by decide) rfl
  exact kk H1 locs1 (e ▸ h1) (e ▸ h2) h3
theorem lX_bytes (C : CallFix p m c cc nL s args AL own) (hK : va_K D vwCl (ty3 cI cZ cO) s) (hP : va_P D vwCl (WW cI cO sk g tb V Hd tr) H) (hdg : decode cc pc = .ok (.arraylength, 1)) (kk : W p l e R s m args below meth c H locs cells slots Q (F0 m (pc + 1) ls (.int 150 :: rest))) : W p l e R s m args below meth c H locs cells slots Q (F0 m pc ls (.ref (sk 3) :: rest)) :=
  va_alen C.1 C.2.1 hK hP 3 0 ((WW_x cI cO sk g tb V Hd tr (show 3 < 12 by decide)).trans rfl) rfl rfl hdg kk
/-! receivers -/
theorem rX6_r (hK : va_K D vwCl (ty3 cI cZ cO) s) (hP : va_P D vwCl (WW cI cO sk g tb V Hd tr) H) : ∃ cell : Cell, H[sk 0]? = some cell ∧ cell.vm.isStatics = false ∧ s.vm.findClass RX6 = some cell.cls :=
  va_recv (q := (RX6, TX6, 8)) hK hP (ci := 6) rfl ((WW_x cI cO sk g tb V Hd tr (show 0 < 12 by decide)).trans rfl)
theorem rX1_r (hK : va_K D vwCl (ty3 cI cZ cO) s) (hP : va_P D vwCl (WW cI cO sk g tb V Hd tr) H) : ∃ cell : Cell, H[sk 1]? = some cell ∧ cell.vm.isStatics = false ∧ s.vm.findClass RX1 = some cell.cls :=
  va_recv (q := (RX1, TX1, 8)) hK hP (ci := 1) rfl ((WW_x cI cO sk g tb V Hd tr (show 1 < 12 by decide)).trans rfl)
theorem rX5_r (hK : va_K D vwCl (ty3 cI cZ cO) s) (hP : va_P D vwCl (WW cI cO sk g tb V Hd tr) H) : ∃ cell : Cell, H[sk 2]? = some cell ∧ cell.vm.isStatics = false ∧ s.vm.findClass RX5 = some cell.cls :=
  va_recv (q := (RX5, TX5, 2)) hK hP (ci := 5) rfl ((WW_x cI cO sk g tb V Hd tr (show 2 < 12 by decide)).trans rfl)
theorem rX2_r (hK : va_K D vwCl (ty3 cI cZ cO) s) (hP : va_P D vwCl (WW cI cO sk g tb V Hd tr) H) : ∃ cell : Cell, H[sk 10]? = some cell ∧ cell.vm.isStatics = false ∧ s.vm.findClass RX2 = some cell.cls :=
  va_recv (q := (RX2, TX2, 5)) hK hP (ci := 2) rfl ((WW_x cI cO sk g tb V Hd tr (show 10 < 12 by decide)).trans rfl)
theorem rX0_r (hK : va_K D vwCl (ty3 cI cZ cO) s) (hP : va_P D vwCl (WW cI cO sk g tb V Hd tr) H) : ∃ cell : Cell, H[sk 11]? = some cell ∧ cell.vm.isStatics = false ∧ s.vm.findClass RX0 = some cell.cls :=
  va_recv (q := (RX0, TX0, 1)) hK hP (ci := 0) rfl ((WW_x cI cO sk g tb V Hd tr (show 11 < 12 by decide)).trans rfl)
theorem rX4_r (hK : va_K D vwCl (ty3 cI cZ cO) s) (hP : va_P D vwCl (WW cI cO sk g tb V Hd tr) H) {k : Nat} (hk : k < 34) : ∃ cell : Cell, H[sk (20 + 2 * k)]? = some cell ∧ cell.vm.isStatics = false ∧ s.vm.findClass RX4 = some cell.cls :=
  va_recv (q := (RX4, TX4, 6)) hK hP (ci := 4) rfl (WW_st hk)
theorem rX3_r (hK : va_K D vwCl (ty3 cI cZ cO) s) (hP : va_P D vwCl (WW cI cO sk g tb V Hd tr) H) {q : Nat} (hq : q < 3) : ∃ cell : Cell, H[sk (4 + q)]? = some cell ∧ cell.vm.isStatics = false ∧ s.vm.findClass RX3 = some cell.cls :=
  va_recv (q := (RX3, TX3, 4)) hK hP (ci := 3) rfl (WW_sy hq)
theorem rX7_r (hK : va_K D vwCl (ty3 cI cZ cO) s) (hP : va_P D vwCl (MW cI cZ mk mg st im ke se tx sh fa mt) H) : ∃ cell : Cell, H[mk 0]? = some cell ∧ cell.vm.isStatics = false ∧ s.vm.findClass RX7 = some cell.cls :=
  va_recv (q := (RX7, TX7, 22)) hK hP (ci := 7) rfl (q0 := 0) rfl
/-! the reference -/
theorem gX7_wide (C : CallFix p m c cc nL s args AL own) (hK : va_K D vwCl (ty3 cI cZ cO) s) (hP : va_P D vwCl (MW cI cZ mk mg st im ke se tx sh fa mt) H) {idx : Nat} (hl : Cond.fieldLink own idx "WindFrontiersModel" "wide" "I" ∈ AL) (hdg : decode cc pc = .ok (.getfield idx, 3)) (kk : W p l e R s m args below meth c H locs cells slots Q (F0 m (pc + 3) ls (.int (mg 0) :: rest))) : W p l e R s m args below meth c H locs cells slots Q (F0 m pc ls (.ref (mk 0) :: rest)) :=
  va_get (D := D) (ci := 7) (C := RX7) (T := TX7) (N := 22) C.1 C.2.1 C.2.2.2.2 inA7 C.2.2.2.1 hK hP 0 rfl rfl 0 (by decide) (C.2.2.2.2 _ hl) (fun _ h => h) rfl hdg kk
theorem pX7_wide (C : CallFix p m c cc nL s args AL own) (hK : va_K D vwCl (ty3 cI cZ cO) s) (hP : va_P D vwCl (MW cI cZ mk mg st im ke se tx sh fa mt) H) (hD : va_D A (MW cI cZ mk mg st im ke se tx sh fa mt)) (hS : va_S A H0 H locs) {idx : Nat} {x : Int32} (hl : Cond.fieldLink own idx "WindFrontiersModel" "wide" "I" ∈ AL) (hdg : decode cc pc = .ok (.putfield idx, 3)) (kk : ∀ (H : Heap) (locs : List Loc), va_P D vwCl (MW cI cZ mk (upd mg 0 x) st im ke se tx sh fa mt) H → va_D A (MW cI cZ mk (upd mg 0 x) st im ke se tx sh fa mt) → va_S A H0 H locs → W p l e R s m args below meth c H locs cells slots Q (F0 m (pc + 3) ls rest)) : W p l e R s m args below meth c H locs cells slots Q (F0 m pc ls (.int x :: .ref (mk 0) :: rest)) := by
  refine va_put (D := D) (ci := 7) (v := .int x) (ty := .int) (C := RX7) (T := TX7) (N := 22) C.1 C.2.1 C.2.2.2.2 inA7 tyX7 tyX7_ok nmX7 C.2.2.2.1 hK hP hD hS 0 rfl rfl 0 (by decide) (C.2.2.2.2 _ hl) (fun _ h => h) rfl (by decide +kernel) rfl rfl (Nat.le_of_ble_eq_true rfl) hdg (fun H1 locs1 h1 h2 h3 => ?_)
  exact kk H1 locs1 h1 h2 h3
theorem gX7_rows (C : CallFix p m c cc nL s args AL own) (hK : va_K D vwCl (ty3 cI cZ cO) s) (hP : va_P D vwCl (MW cI cZ mk mg st im ke se tx sh fa mt) H) {idx : Nat} (hl : Cond.fieldLink own idx "WindFrontiersModel" "rows" "I" ∈ AL) (hdg : decode cc pc = .ok (.getfield idx, 3)) (kk : W p l e R s m args below meth c H locs cells slots Q (F0 m (pc + 3) ls (.int (mg 1) :: rest))) : W p l e R s m args below meth c H locs cells slots Q (F0 m pc ls (.ref (mk 0) :: rest)) :=
  va_get (D := D) (ci := 7) (C := RX7) (T := TX7) (N := 22) C.1 C.2.1 C.2.2.2.2 inA7 C.2.2.2.1 hK hP 0 rfl rfl 1 (by decide) (C.2.2.2.2 _ hl) (fun _ h => h) rfl hdg kk
theorem pX7_rows (C : CallFix p m c cc nL s args AL own) (hK : va_K D vwCl (ty3 cI cZ cO) s) (hP : va_P D vwCl (MW cI cZ mk mg st im ke se tx sh fa mt) H) (hD : va_D A (MW cI cZ mk mg st im ke se tx sh fa mt)) (hS : va_S A H0 H locs) {idx : Nat} {x : Int32} (hl : Cond.fieldLink own idx "WindFrontiersModel" "rows" "I" ∈ AL) (hdg : decode cc pc = .ok (.putfield idx, 3)) (kk : ∀ (H : Heap) (locs : List Loc), va_P D vwCl (MW cI cZ mk (upd mg 1 x) st im ke se tx sh fa mt) H → va_D A (MW cI cZ mk (upd mg 1 x) st im ke se tx sh fa mt) → va_S A H0 H locs → W p l e R s m args below meth c H locs cells slots Q (F0 m (pc + 3) ls rest)) : W p l e R s m args below meth c H locs cells slots Q (F0 m pc ls (.int x :: .ref (mk 0) :: rest)) := by
  refine va_put (D := D) (ci := 7) (v := .int x) (ty := .int) (C := RX7) (T := TX7) (N := 22) C.1 C.2.1 C.2.2.2.2 inA7 tyX7 tyX7_ok nmX7 C.2.2.2.1 hK hP hD hS 0 rfl rfl 1 (by decide) (C.2.2.2.2 _ hl) (fun _ h => h) rfl (by decide +kernel) rfl rfl (Nat.le_of_ble_eq_true rfl) hdg (fun H1 locs1 h1 h2 h3 => ?_)
  exact kk H1 locs1 h1 h2 h3
theorem gX7_st (C : CallFix p m c cc nL s args AL own) (hK : va_K D vwCl (ty3 cI cZ cO) s) (hP : va_P D vwCl (MW cI cZ mk mg st im ke se tx sh fa mt) H) {idx : Nat} (hl : Cond.fieldLink own idx "WindFrontiersModel" "st" "[I" ∈ AL) (hdg : decode cc pc = .ok (.getfield idx, 3)) (kk : W p l e R s m args below meth c H locs cells slots Q (F0 m (pc + 3) ls (.ref (mk 1) :: rest))) : W p l e R s m args below meth c H locs cells slots Q (F0 m pc ls (.ref (mk 0) :: rest)) :=
  va_get (D := D) (ci := 7) (C := RX7) (T := TX7) (N := 22) C.1 C.2.1 C.2.2.2.2 inA7 C.2.2.2.1 hK hP 0 rfl rfl 2 (by decide) (C.2.2.2.2 _ hl) (fun _ h => h) rfl hdg kk
theorem gX7_images (C : CallFix p m c cc nL s args AL own) (hK : va_K D vwCl (ty3 cI cZ cO) s) (hP : va_P D vwCl (MW cI cZ mk mg st im ke se tx sh fa mt) H) {idx : Nat} (hl : Cond.fieldLink own idx "WindFrontiersModel" "images" "[I" ∈ AL) (hdg : decode cc pc = .ok (.getfield idx, 3)) (kk : W p l e R s m args below meth c H locs cells slots Q (F0 m (pc + 3) ls (.ref (mk 2) :: rest))) : W p l e R s m args below meth c H locs cells slots Q (F0 m pc ls (.ref (mk 0) :: rest)) :=
  va_get (D := D) (ci := 7) (C := RX7) (T := TX7) (N := 22) C.1 C.2.1 C.2.2.2.2 inA7 C.2.2.2.1 hK hP 0 rfl rfl 3 (by decide) (C.2.2.2.2 _ hl) (fun _ h => h) rfl hdg kk
theorem gX7_isKept (C : CallFix p m c cc nL s args AL own) (hK : va_K D vwCl (ty3 cI cZ cO) s) (hP : va_P D vwCl (MW cI cZ mk mg st im ke se tx sh fa mt) H) {idx : Nat} (hl : Cond.fieldLink own idx "WindFrontiersModel" "isKept" "[Z" ∈ AL) (hdg : decode cc pc = .ok (.getfield idx, 3)) (kk : W p l e R s m args below meth c H locs cells slots Q (F0 m (pc + 3) ls (.ref (mk 3) :: rest))) : W p l e R s m args below meth c H locs cells slots Q (F0 m pc ls (.ref (mk 0) :: rest)) :=
  va_get (D := D) (ci := 7) (C := RX7) (T := TX7) (N := 22) C.1 C.2.1 C.2.2.2.2 inA7 C.2.2.2.1 hK hP 0 rfl rfl 4 (by decide) (C.2.2.2.2 _ hl) (fun _ h => h) rfl hdg kk
theorem gX7_seenMany (C : CallFix p m c cc nL s args AL own) (hK : va_K D vwCl (ty3 cI cZ cO) s) (hP : va_P D vwCl (MW cI cZ mk mg st im ke se tx sh fa mt) H) {idx : Nat} (hl : Cond.fieldLink own idx "WindFrontiersModel" "seenMany" "I" ∈ AL) (hdg : decode cc pc = .ok (.getfield idx, 3)) (kk : W p l e R s m args below meth c H locs cells slots Q (F0 m (pc + 3) ls (.int (mg 2) :: rest))) : W p l e R s m args below meth c H locs cells slots Q (F0 m pc ls (.ref (mk 0) :: rest)) :=
  va_get (D := D) (ci := 7) (C := RX7) (T := TX7) (N := 22) C.1 C.2.1 C.2.2.2.2 inA7 C.2.2.2.1 hK hP 0 rfl rfl 5 (by decide) (C.2.2.2.2 _ hl) (fun _ h => h) rfl hdg kk
theorem pX7_seenMany (C : CallFix p m c cc nL s args AL own) (hK : va_K D vwCl (ty3 cI cZ cO) s) (hP : va_P D vwCl (MW cI cZ mk mg st im ke se tx sh fa mt) H) (hD : va_D A (MW cI cZ mk mg st im ke se tx sh fa mt)) (hS : va_S A H0 H locs) {idx : Nat} {x : Int32} (hl : Cond.fieldLink own idx "WindFrontiersModel" "seenMany" "I" ∈ AL) (hdg : decode cc pc = .ok (.putfield idx, 3)) (kk : ∀ (H : Heap) (locs : List Loc), va_P D vwCl (MW cI cZ mk (upd mg 2 x) st im ke se tx sh fa mt) H → va_D A (MW cI cZ mk (upd mg 2 x) st im ke se tx sh fa mt) → va_S A H0 H locs → W p l e R s m args below meth c H locs cells slots Q (F0 m (pc + 3) ls rest)) : W p l e R s m args below meth c H locs cells slots Q (F0 m pc ls (.int x :: .ref (mk 0) :: rest)) := by
  refine va_put (D := D) (ci := 7) (v := .int x) (ty := .int) (C := RX7) (T := TX7) (N := 22) C.1 C.2.1 C.2.2.2.2 inA7 tyX7 tyX7_ok nmX7 C.2.2.2.1 hK hP hD hS 0 rfl rfl 5 (by decide) (C.2.2.2.2 _ hl) (fun _ h => h) rfl (by decide +kernel) rfl rfl (Nat.le_of_ble_eq_true rfl) hdg (fun H1 locs1 h1 h2 h3 => ?_)
  exact kk H1 locs1 h1 h2 h3
theorem gX7_seen (C : CallFix p m c cc nL s args AL own) (hK : va_K D vwCl (ty3 cI cZ cO) s) (hP : va_P D vwCl (MW cI cZ mk mg st im ke se tx sh fa mt) H) {idx : Nat} (hl : Cond.fieldLink own idx "WindFrontiersModel" "seen" "[I" ∈ AL) (hdg : decode cc pc = .ok (.getfield idx, 3)) (kk : W p l e R s m args below meth c H locs cells slots Q (F0 m (pc + 3) ls (.ref (mk 4) :: rest))) : W p l e R s m args below meth c H locs cells slots Q (F0 m pc ls (.ref (mk 0) :: rest)) :=
  va_get (D := D) (ci := 7) (C := RX7) (T := TX7) (N := 22) C.1 C.2.1 C.2.2.2.2 inA7 C.2.2.2.1 hK hP 0 rfl rfl 6 (by decide) (C.2.2.2.2 _ hl) (fun _ h => h) rfl hdg kk
theorem gX7_trace (C : CallFix p m c cc nL s args AL own) (hK : va_K D vwCl (ty3 cI cZ cO) s) (hP : va_P D vwCl (MW cI cZ mk mg st im ke se tx sh fa mt) H) {idx : Nat} (hl : Cond.fieldLink own idx "WindFrontiersModel" "trace" "J" ∈ AL) (hdg : decode cc pc = .ok (.getfield idx, 3)) (kk : W p l e R s m args below meth c H locs cells slots Q (F0 m (pc + 3) ls (.long mt :: rest))) : W p l e R s m args below meth c H locs cells slots Q (F0 m pc ls (.ref (mk 0) :: rest)) :=
  va_get (D := D) (ci := 7) (C := RX7) (T := TX7) (N := 22) C.1 C.2.1 C.2.2.2.2 inA7 C.2.2.2.1 hK hP 0 rfl rfl 7 (by decide) (C.2.2.2.2 _ hl) (fun _ h => h) rfl hdg kk
theorem pX7_trace (C : CallFix p m c cc nL s args AL own) (hK : va_K D vwCl (ty3 cI cZ cO) s) (hP : va_P D vwCl (MW cI cZ mk mg st im ke se tx sh fa mt) H) (hD : va_D A (MW cI cZ mk mg st im ke se tx sh fa mt)) (hS : va_S A H0 H locs) {idx : Nat} {x : Int64} (hl : Cond.fieldLink own idx "WindFrontiersModel" "trace" "J" ∈ AL) (hdg : decode cc pc = .ok (.putfield idx, 3)) (kk : ∀ (H : Heap) (locs : List Loc), va_P D vwCl (MW cI cZ mk mg st im ke se tx sh fa x) H → va_D A (MW cI cZ mk mg st im ke se tx sh fa x) → va_S A H0 H locs → W p l e R s m args below meth c H locs cells slots Q (F0 m (pc + 3) ls rest)) : W p l e R s m args below meth c H locs cells slots Q (F0 m pc ls (.long x :: .ref (mk 0) :: rest)) := by
  refine va_put (D := D) (ci := 7) (v := .long x) (ty := .long) (C := RX7) (T := TX7) (N := 22) C.1 C.2.1 C.2.2.2.2 inA7 tyX7 tyX7_ok nmX7 C.2.2.2.1 hK hP hD hS 0 rfl rfl 7 (by decide) (C.2.2.2.2 _ hl) (fun _ h => h) rfl (by decide +kernel) rfl rfl (Nat.le_of_ble_eq_true rfl) hdg (fun H1 locs1 h1 h2 h3 => ?_)
  exact kk H1 locs1 h1 h2 h3
theorem gX7_text (C : CallFix p m c cc nL s args AL own) (hK : va_K D vwCl (ty3 cI cZ cO) s) (hP : va_P D vwCl (MW cI cZ mk mg st im ke se tx sh fa mt) H) {idx : Nat} (hl : Cond.fieldLink own idx "WindFrontiersModel" "text" "[I" ∈ AL) (hdg : decode cc pc = .ok (.getfield idx, 3)) (kk : W p l e R s m args below meth c H locs cells slots Q (F0 m (pc + 3) ls (.ref (mk 5) :: rest))) : W p l e R s m args below meth c H locs cells slots Q (F0 m pc ls (.ref (mk 0) :: rest)) :=
  va_get (D := D) (ci := 7) (C := RX7) (T := TX7) (N := 22) C.1 C.2.1 C.2.2.2.2 inA7 C.2.2.2.1 hK hP 0 rfl rfl 8 (by decide) (C.2.2.2.2 _ hl) (fun _ h => h) rfl hdg kk
theorem gX7_texted (C : CallFix p m c cc nL s args AL own) (hK : va_K D vwCl (ty3 cI cZ cO) s) (hP : va_P D vwCl (MW cI cZ mk mg st im ke se tx sh fa mt) H) {idx : Nat} (hl : Cond.fieldLink own idx "WindFrontiersModel" "texted" "I" ∈ AL) (hdg : decode cc pc = .ok (.getfield idx, 3)) (kk : W p l e R s m args below meth c H locs cells slots Q (F0 m (pc + 3) ls (.int (mg 3) :: rest))) : W p l e R s m args below meth c H locs cells slots Q (F0 m pc ls (.ref (mk 0) :: rest)) :=
  va_get (D := D) (ci := 7) (C := RX7) (T := TX7) (N := 22) C.1 C.2.1 C.2.2.2.2 inA7 C.2.2.2.1 hK hP 0 rfl rfl 9 (by decide) (C.2.2.2.2 _ hl) (fun _ h => h) rfl hdg kk
theorem pX7_texted (C : CallFix p m c cc nL s args AL own) (hK : va_K D vwCl (ty3 cI cZ cO) s) (hP : va_P D vwCl (MW cI cZ mk mg st im ke se tx sh fa mt) H) (hD : va_D A (MW cI cZ mk mg st im ke se tx sh fa mt)) (hS : va_S A H0 H locs) {idx : Nat} {x : Int32} (hl : Cond.fieldLink own idx "WindFrontiersModel" "texted" "I" ∈ AL) (hdg : decode cc pc = .ok (.putfield idx, 3)) (kk : ∀ (H : Heap) (locs : List Loc), va_P D vwCl (MW cI cZ mk (upd mg 3 x) st im ke se tx sh fa mt) H → va_D A (MW cI cZ mk (upd mg 3 x) st im ke se tx sh fa mt) → va_S A H0 H locs → W p l e R s m args below meth c H locs cells slots Q (F0 m (pc + 3) ls rest)) : W p l e R s m args below meth c H locs cells slots Q (F0 m pc ls (.int x :: .ref (mk 0) :: rest)) := by
  refine va_put (D := D) (ci := 7) (v := .int x) (ty := .int) (C := RX7) (T := TX7) (N := 22) C.1 C.2.1 C.2.2.2.2 inA7 tyX7 tyX7_ok nmX7 C.2.2.2.1 hK hP hD hS 0 rfl rfl 9 (by decide) (C.2.2.2.2 _ hl) (fun _ h => h) rfl (by decide +kernel) rfl rfl (Nat.le_of_ble_eq_true rfl) hdg (fun H1 locs1 h1 h2 h3 => ?_)
  exact kk H1 locs1 h1 h2 h3
theorem gX7_cursor (C : CallFix p m c cc nL s args AL own) (hK : va_K D vwCl (ty3 cI cZ cO) s) (hP : va_P D vwCl (MW cI cZ mk mg st im ke se tx sh fa mt) H) {idx : Nat} (hl : Cond.fieldLink own idx "WindFrontiersModel" "cursor" "I" ∈ AL) (hdg : decode cc pc = .ok (.getfield idx, 3)) (kk : W p l e R s m args below meth c H locs cells slots Q (F0 m (pc + 3) ls (.int (mg 4) :: rest))) : W p l e R s m args below meth c H locs cells slots Q (F0 m pc ls (.ref (mk 0) :: rest)) :=
  va_get (D := D) (ci := 7) (C := RX7) (T := TX7) (N := 22) C.1 C.2.1 C.2.2.2.2 inA7 C.2.2.2.1 hK hP 0 rfl rfl 10 (by decide) (C.2.2.2.2 _ hl) (fun _ h => h) rfl hdg kk
theorem pX7_cursor (C : CallFix p m c cc nL s args AL own) (hK : va_K D vwCl (ty3 cI cZ cO) s) (hP : va_P D vwCl (MW cI cZ mk mg st im ke se tx sh fa mt) H) (hD : va_D A (MW cI cZ mk mg st im ke se tx sh fa mt)) (hS : va_S A H0 H locs) {idx : Nat} {x : Int32} (hl : Cond.fieldLink own idx "WindFrontiersModel" "cursor" "I" ∈ AL) (hdg : decode cc pc = .ok (.putfield idx, 3)) (kk : ∀ (H : Heap) (locs : List Loc), va_P D vwCl (MW cI cZ mk (upd mg 4 x) st im ke se tx sh fa mt) H → va_D A (MW cI cZ mk (upd mg 4 x) st im ke se tx sh fa mt) → va_S A H0 H locs → W p l e R s m args below meth c H locs cells slots Q (F0 m (pc + 3) ls rest)) : W p l e R s m args below meth c H locs cells slots Q (F0 m pc ls (.int x :: .ref (mk 0) :: rest)) := by
  refine va_put (D := D) (ci := 7) (v := .int x) (ty := .int) (C := RX7) (T := TX7) (N := 22) C.1 C.2.1 C.2.2.2.2 inA7 tyX7 tyX7_ok nmX7 C.2.2.2.1 hK hP hD hS 0 rfl rfl 10 (by decide) (C.2.2.2.2 _ hl) (fun _ h => h) rfl (by decide +kernel) rfl rfl (Nat.le_of_ble_eq_true rfl) hdg (fun H1 locs1 h1 h2 h3 => ?_)
  exact kk H1 locs1 h1 h2 h3
theorem gX7_start (C : CallFix p m c cc nL s args AL own) (hK : va_K D vwCl (ty3 cI cZ cO) s) (hP : va_P D vwCl (MW cI cZ mk mg st im ke se tx sh fa mt) H) {idx : Nat} (hl : Cond.fieldLink own idx "WindFrontiersModel" "start" "I" ∈ AL) (hdg : decode cc pc = .ok (.getfield idx, 3)) (kk : W p l e R s m args below meth c H locs cells slots Q (F0 m (pc + 3) ls (.int (mg 5) :: rest))) : W p l e R s m args below meth c H locs cells slots Q (F0 m pc ls (.ref (mk 0) :: rest)) :=
  va_get (D := D) (ci := 7) (C := RX7) (T := TX7) (N := 22) C.1 C.2.1 C.2.2.2.2 inA7 C.2.2.2.1 hK hP 0 rfl rfl 11 (by decide) (C.2.2.2.2 _ hl) (fun _ h => h) rfl hdg kk
theorem pX7_start (C : CallFix p m c cc nL s args AL own) (hK : va_K D vwCl (ty3 cI cZ cO) s) (hP : va_P D vwCl (MW cI cZ mk mg st im ke se tx sh fa mt) H) (hD : va_D A (MW cI cZ mk mg st im ke se tx sh fa mt)) (hS : va_S A H0 H locs) {idx : Nat} {x : Int32} (hl : Cond.fieldLink own idx "WindFrontiersModel" "start" "I" ∈ AL) (hdg : decode cc pc = .ok (.putfield idx, 3)) (kk : ∀ (H : Heap) (locs : List Loc), va_P D vwCl (MW cI cZ mk (upd mg 5 x) st im ke se tx sh fa mt) H → va_D A (MW cI cZ mk (upd mg 5 x) st im ke se tx sh fa mt) → va_S A H0 H locs → W p l e R s m args below meth c H locs cells slots Q (F0 m (pc + 3) ls rest)) : W p l e R s m args below meth c H locs cells slots Q (F0 m pc ls (.int x :: .ref (mk 0) :: rest)) := by
  refine va_put (D := D) (ci := 7) (v := .int x) (ty := .int) (C := RX7) (T := TX7) (N := 22) C.1 C.2.1 C.2.2.2.2 inA7 tyX7 tyX7_ok nmX7 C.2.2.2.1 hK hP hD hS 0 rfl rfl 11 (by decide) (C.2.2.2.2 _ hl) (fun _ h => h) rfl (by decide +kernel) rfl rfl (Nat.le_of_ble_eq_true rfl) hdg (fun H1 locs1 h1 h2 h3 => ?_)
  exact kk H1 locs1 h1 h2 h3
theorem gX7_token (C : CallFix p m c cc nL s args AL own) (hK : va_K D vwCl (ty3 cI cZ cO) s) (hP : va_P D vwCl (MW cI cZ mk mg st im ke se tx sh fa mt) H) {idx : Nat} (hl : Cond.fieldLink own idx "WindFrontiersModel" "token" "I" ∈ AL) (hdg : decode cc pc = .ok (.getfield idx, 3)) (kk : W p l e R s m args below meth c H locs cells slots Q (F0 m (pc + 3) ls (.int (mg 6) :: rest))) : W p l e R s m args below meth c H locs cells slots Q (F0 m pc ls (.ref (mk 0) :: rest)) :=
  va_get (D := D) (ci := 7) (C := RX7) (T := TX7) (N := 22) C.1 C.2.1 C.2.2.2.2 inA7 C.2.2.2.1 hK hP 0 rfl rfl 12 (by decide) (C.2.2.2.2 _ hl) (fun _ h => h) rfl hdg kk
theorem pX7_token (C : CallFix p m c cc nL s args AL own) (hK : va_K D vwCl (ty3 cI cZ cO) s) (hP : va_P D vwCl (MW cI cZ mk mg st im ke se tx sh fa mt) H) (hD : va_D A (MW cI cZ mk mg st im ke se tx sh fa mt)) (hS : va_S A H0 H locs) {idx : Nat} {x : Int32} (hl : Cond.fieldLink own idx "WindFrontiersModel" "token" "I" ∈ AL) (hdg : decode cc pc = .ok (.putfield idx, 3)) (kk : ∀ (H : Heap) (locs : List Loc), va_P D vwCl (MW cI cZ mk (upd mg 6 x) st im ke se tx sh fa mt) H → va_D A (MW cI cZ mk (upd mg 6 x) st im ke se tx sh fa mt) → va_S A H0 H locs → W p l e R s m args below meth c H locs cells slots Q (F0 m (pc + 3) ls rest)) : W p l e R s m args below meth c H locs cells slots Q (F0 m pc ls (.int x :: .ref (mk 0) :: rest)) := by
  refine va_put (D := D) (ci := 7) (v := .int x) (ty := .int) (C := RX7) (T := TX7) (N := 22) C.1 C.2.1 C.2.2.2.2 inA7 tyX7 tyX7_ok nmX7 C.2.2.2.1 hK hP hD hS 0 rfl rfl 12 (by decide) (C.2.2.2.2 _ hl) (fun _ h => h) rfl (by decide +kernel) rfl rfl (Nat.le_of_ble_eq_true rfl) hdg (fun H1 locs1 h1 h2 h3 => ?_)
  exact kk H1 locs1 h1 h2 h3
theorem gX7_number (C : CallFix p m c cc nL s args AL own) (hK : va_K D vwCl (ty3 cI cZ cO) s) (hP : va_P D vwCl (MW cI cZ mk mg st im ke se tx sh fa mt) H) {idx : Nat} (hl : Cond.fieldLink own idx "WindFrontiersModel" "number" "I" ∈ AL) (hdg : decode cc pc = .ok (.getfield idx, 3)) (kk : W p l e R s m args below meth c H locs cells slots Q (F0 m (pc + 3) ls (.int (mg 7) :: rest))) : W p l e R s m args below meth c H locs cells slots Q (F0 m pc ls (.ref (mk 0) :: rest)) :=
  va_get (D := D) (ci := 7) (C := RX7) (T := TX7) (N := 22) C.1 C.2.1 C.2.2.2.2 inA7 C.2.2.2.1 hK hP 0 rfl rfl 13 (by decide) (C.2.2.2.2 _ hl) (fun _ h => h) rfl hdg kk
theorem pX7_number (C : CallFix p m c cc nL s args AL own) (hK : va_K D vwCl (ty3 cI cZ cO) s) (hP : va_P D vwCl (MW cI cZ mk mg st im ke se tx sh fa mt) H) (hD : va_D A (MW cI cZ mk mg st im ke se tx sh fa mt)) (hS : va_S A H0 H locs) {idx : Nat} {x : Int32} (hl : Cond.fieldLink own idx "WindFrontiersModel" "number" "I" ∈ AL) (hdg : decode cc pc = .ok (.putfield idx, 3)) (kk : ∀ (H : Heap) (locs : List Loc), va_P D vwCl (MW cI cZ mk (upd mg 7 x) st im ke se tx sh fa mt) H → va_D A (MW cI cZ mk (upd mg 7 x) st im ke se tx sh fa mt) → va_S A H0 H locs → W p l e R s m args below meth c H locs cells slots Q (F0 m (pc + 3) ls rest)) : W p l e R s m args below meth c H locs cells slots Q (F0 m pc ls (.int x :: .ref (mk 0) :: rest)) := by
  refine va_put (D := D) (ci := 7) (v := .int x) (ty := .int) (C := RX7) (T := TX7) (N := 22) C.1 C.2.1 C.2.2.2.2 inA7 tyX7 tyX7_ok nmX7 C.2.2.2.1 hK hP hD hS 0 rfl rfl 13 (by decide) (C.2.2.2.2 _ hl) (fun _ h => h) rfl (by decide +kernel) rfl rfl (Nat.le_of_ble_eq_true rfl) hdg (fun H1 locs1 h1 h2 h3 => ?_)
  exact kk H1 locs1 h1 h2 h3
theorem gX7_isWrong (C : CallFix p m c cc nL s args AL own) (hK : va_K D vwCl (ty3 cI cZ cO) s) (hP : va_P D vwCl (MW cI cZ mk mg st im ke se tx sh fa mt) H) {idx : Nat} (hl : Cond.fieldLink own idx "WindFrontiersModel" "isWrong" "Z" ∈ AL) (hdg : decode cc pc = .ok (.getfield idx, 3)) (kk : W p l e R s m args below meth c H locs cells slots Q (F0 m (pc + 3) ls (.int (mg 8) :: rest))) : W p l e R s m args below meth c H locs cells slots Q (F0 m pc ls (.ref (mk 0) :: rest)) :=
  va_get (D := D) (ci := 7) (C := RX7) (T := TX7) (N := 22) C.1 C.2.1 C.2.2.2.2 inA7 C.2.2.2.1 hK hP 0 rfl rfl 14 (by decide) (C.2.2.2.2 _ hl) (fun _ h => h) rfl hdg kk
theorem pX7_isWrong (C : CallFix p m c cc nL s args AL own) (hK : va_K D vwCl (ty3 cI cZ cO) s) (hP : va_P D vwCl (MW cI cZ mk mg st im ke se tx sh fa mt) H) (hD : va_D A (MW cI cZ mk mg st im ke se tx sh fa mt)) (hS : va_S A H0 H locs) {idx : Nat} {x : Int32} (hb : x = 0 ∨ x = 1) (hl : Cond.fieldLink own idx "WindFrontiersModel" "isWrong" "Z" ∈ AL) (hdg : decode cc pc = .ok (.putfield idx, 3)) (kk : ∀ (H : Heap) (locs : List Loc), va_P D vwCl (MW cI cZ mk (upd mg 8 x) st im ke se tx sh fa mt) H → va_D A (MW cI cZ mk (upd mg 8 x) st im ke se tx sh fa mt) → va_S A H0 H locs → W p l e R s m args below meth c H locs cells slots Q (F0 m (pc + 3) ls rest)) : W p l e R s m args below meth c H locs cells slots Q (F0 m pc ls (.int x :: .ref (mk 0) :: rest)) := by
  refine va_put (D := D) (ci := 7) (v := .int x) (ty := .boolean) (C := RX7) (T := TX7) (N := 22) C.1 C.2.1 C.2.2.2.2 inA7 tyX7 tyX7_ok nmX7 C.2.2.2.1 hK hP hD hS 0 rfl rfl 14 (by decide) (C.2.2.2.2 _ hl) (fun _ h => h) rfl (by decide +kernel) (bo_nar hb) (bo_fit hb) (Nat.le_of_ble_eq_true rfl) hdg (fun H1 locs1 h1 h2 h3 => ?_)
  exact kk H1 locs1 h1 h2 h3
theorem gX7_items (C : CallFix p m c cc nL s args AL own) (hK : va_K D vwCl (ty3 cI cZ cO) s) (hP : va_P D vwCl (MW cI cZ mk mg st im ke se tx sh fa mt) H) {idx : Nat} (hl : Cond.fieldLink own idx "WindFrontiersModel" "items" "I" ∈ AL) (hdg : decode cc pc = .ok (.getfield idx, 3)) (kk : W p l e R s m args below meth c H locs cells slots Q (F0 m (pc + 3) ls (.int (mg 9) :: rest))) : W p l e R s m args below meth c H locs cells slots Q (F0 m pc ls (.ref (mk 0) :: rest)) :=
  va_get (D := D) (ci := 7) (C := RX7) (T := TX7) (N := 22) C.1 C.2.1 C.2.2.2.2 inA7 C.2.2.2.1 hK hP 0 rfl rfl 15 (by decide) (C.2.2.2.2 _ hl) (fun _ h => h) rfl hdg kk
theorem pX7_items (C : CallFix p m c cc nL s args AL own) (hK : va_K D vwCl (ty3 cI cZ cO) s) (hP : va_P D vwCl (MW cI cZ mk mg st im ke se tx sh fa mt) H) (hD : va_D A (MW cI cZ mk mg st im ke se tx sh fa mt)) (hS : va_S A H0 H locs) {idx : Nat} {x : Int32} (hl : Cond.fieldLink own idx "WindFrontiersModel" "items" "I" ∈ AL) (hdg : decode cc pc = .ok (.putfield idx, 3)) (kk : ∀ (H : Heap) (locs : List Loc), va_P D vwCl (MW cI cZ mk (upd mg 9 x) st im ke se tx sh fa mt) H → va_D A (MW cI cZ mk (upd mg 9 x) st im ke se tx sh fa mt) → va_S A H0 H locs → W p l e R s m args below meth c H locs cells slots Q (F0 m (pc + 3) ls rest)) : W p l e R s m args below meth c H locs cells slots Q (F0 m pc ls (.int x :: .ref (mk 0) :: rest)) := by
  refine va_put (D := D) (ci := 7) (v := .int x) (ty := .int) (C := RX7) (T := TX7) (N := 22) C.1 C.2.1 C.2.2.2.2 inA7 tyX7 tyX7_ok nmX7 C.2.2.2.1 hK hP hD hS 0 rfl rfl 15 (by decide) (C.2.2.2.2 _ hl) (fun _ h => h) rfl (by decide +kernel) rfl rfl (Nat.le_of_ble_eq_true rfl) hdg (fun H1 locs1 h1 h2 h3 => ?_)
  exact kk H1 locs1 h1 h2 h3
theorem gX7_saidWide (C : CallFix p m c cc nL s args AL own) (hK : va_K D vwCl (ty3 cI cZ cO) s) (hP : va_P D vwCl (MW cI cZ mk mg st im ke se tx sh fa mt) H) {idx : Nat} (hl : Cond.fieldLink own idx "WindFrontiersModel" "saidWide" "I" ∈ AL) (hdg : decode cc pc = .ok (.getfield idx, 3)) (kk : W p l e R s m args below meth c H locs cells slots Q (F0 m (pc + 3) ls (.int (mg 10) :: rest))) : W p l e R s m args below meth c H locs cells slots Q (F0 m pc ls (.ref (mk 0) :: rest)) :=
  va_get (D := D) (ci := 7) (C := RX7) (T := TX7) (N := 22) C.1 C.2.1 C.2.2.2.2 inA7 C.2.2.2.1 hK hP 0 rfl rfl 16 (by decide) (C.2.2.2.2 _ hl) (fun _ h => h) rfl hdg kk
theorem pX7_saidWide (C : CallFix p m c cc nL s args AL own) (hK : va_K D vwCl (ty3 cI cZ cO) s) (hP : va_P D vwCl (MW cI cZ mk mg st im ke se tx sh fa mt) H) (hD : va_D A (MW cI cZ mk mg st im ke se tx sh fa mt)) (hS : va_S A H0 H locs) {idx : Nat} {x : Int32} (hl : Cond.fieldLink own idx "WindFrontiersModel" "saidWide" "I" ∈ AL) (hdg : decode cc pc = .ok (.putfield idx, 3)) (kk : ∀ (H : Heap) (locs : List Loc), va_P D vwCl (MW cI cZ mk (upd mg 10 x) st im ke se tx sh fa mt) H → va_D A (MW cI cZ mk (upd mg 10 x) st im ke se tx sh fa mt) → va_S A H0 H locs → W p l e R s m args below meth c H locs cells slots Q (F0 m (pc + 3) ls rest)) : W p l e R s m args below meth c H locs cells slots Q (F0 m pc ls (.int x :: .ref (mk 0) :: rest)) := by
  refine va_put (D := D) (ci := 7) (v := .int x) (ty := .int) (C := RX7) (T := TX7) (N := 22) C.1 C.2.1 C.2.2.2.2 inA7 tyX7 tyX7_ok nmX7 C.2.2.2.1 hK hP hD hS 0 rfl rfl 16 (by decide) (C.2.2.2.2 _ hl) (fun _ h => h) rfl (by decide +kernel) rfl rfl (Nat.le_of_ble_eq_true rfl) hdg (fun H1 locs1 h1 h2 h3 => ?_)
  exact kk H1 locs1 h1 h2 h3
theorem gX7_saidRows (C : CallFix p m c cc nL s args AL own) (hK : va_K D vwCl (ty3 cI cZ cO) s) (hP : va_P D vwCl (MW cI cZ mk mg st im ke se tx sh fa mt) H) {idx : Nat} (hl : Cond.fieldLink own idx "WindFrontiersModel" "saidRows" "I" ∈ AL) (hdg : decode cc pc = .ok (.getfield idx, 3)) (kk : W p l e R s m args below meth c H locs cells slots Q (F0 m (pc + 3) ls (.int (mg 11) :: rest))) : W p l e R s m args below meth c H locs cells slots Q (F0 m pc ls (.ref (mk 0) :: rest)) :=
  va_get (D := D) (ci := 7) (C := RX7) (T := TX7) (N := 22) C.1 C.2.1 C.2.2.2.2 inA7 C.2.2.2.1 hK hP 0 rfl rfl 17 (by decide) (C.2.2.2.2 _ hl) (fun _ h => h) rfl hdg kk
theorem pX7_saidRows (C : CallFix p m c cc nL s args AL own) (hK : va_K D vwCl (ty3 cI cZ cO) s) (hP : va_P D vwCl (MW cI cZ mk mg st im ke se tx sh fa mt) H) (hD : va_D A (MW cI cZ mk mg st im ke se tx sh fa mt)) (hS : va_S A H0 H locs) {idx : Nat} {x : Int32} (hl : Cond.fieldLink own idx "WindFrontiersModel" "saidRows" "I" ∈ AL) (hdg : decode cc pc = .ok (.putfield idx, 3)) (kk : ∀ (H : Heap) (locs : List Loc), va_P D vwCl (MW cI cZ mk (upd mg 11 x) st im ke se tx sh fa mt) H → va_D A (MW cI cZ mk (upd mg 11 x) st im ke se tx sh fa mt) → va_S A H0 H locs → W p l e R s m args below meth c H locs cells slots Q (F0 m (pc + 3) ls rest)) : W p l e R s m args below meth c H locs cells slots Q (F0 m pc ls (.int x :: .ref (mk 0) :: rest)) := by
  refine va_put (D := D) (ci := 7) (v := .int x) (ty := .int) (C := RX7) (T := TX7) (N := 22) C.1 C.2.1 C.2.2.2.2 inA7 tyX7 tyX7_ok nmX7 C.2.2.2.1 hK hP hD hS 0 rfl rfl 17 (by decide) (C.2.2.2.2 _ hl) (fun _ h => h) rfl (by decide +kernel) rfl rfl (Nat.le_of_ble_eq_true rfl) hdg (fun H1 locs1 h1 h2 h3 => ?_)
  exact kk H1 locs1 h1 h2 h3
theorem gX7_saidHolder (C : CallFix p m c cc nL s args AL own) (hK : va_K D vwCl (ty3 cI cZ cO) s) (hP : va_P D vwCl (MW cI cZ mk mg st im ke se tx sh fa mt) H) {idx : Nat} (hl : Cond.fieldLink own idx "WindFrontiersModel" "saidHolder" "[I" ∈ AL) (hdg : decode cc pc = .ok (.getfield idx, 3)) (kk : W p l e R s m args below meth c H locs cells slots Q (F0 m (pc + 3) ls (.ref (mk 6) :: rest))) : W p l e R s m args below meth c H locs cells slots Q (F0 m pc ls (.ref (mk 0) :: rest)) :=
  va_get (D := D) (ci := 7) (C := RX7) (T := TX7) (N := 22) C.1 C.2.1 C.2.2.2.2 inA7 C.2.2.2.1 hK hP 0 rfl rfl 18 (by decide) (C.2.2.2.2 _ hl) (fun _ h => h) rfl hdg kk
theorem gX7_saidCloth (C : CallFix p m c cc nL s args AL own) (hK : va_K D vwCl (ty3 cI cZ cO) s) (hP : va_P D vwCl (MW cI cZ mk mg st im ke se tx sh fa mt) H) {idx : Nat} (hl : Cond.fieldLink own idx "WindFrontiersModel" "saidCloth" "I" ∈ AL) (hdg : decode cc pc = .ok (.getfield idx, 3)) (kk : W p l e R s m args below meth c H locs cells slots Q (F0 m (pc + 3) ls (.int (mg 12) :: rest))) : W p l e R s m args below meth c H locs cells slots Q (F0 m pc ls (.ref (mk 0) :: rest)) :=
  va_get (D := D) (ci := 7) (C := RX7) (T := TX7) (N := 22) C.1 C.2.1 C.2.2.2.2 inA7 C.2.2.2.1 hK hP 0 rfl rfl 19 (by decide) (C.2.2.2.2 _ hl) (fun _ h => h) rfl hdg kk
theorem pX7_saidCloth (C : CallFix p m c cc nL s args AL own) (hK : va_K D vwCl (ty3 cI cZ cO) s) (hP : va_P D vwCl (MW cI cZ mk mg st im ke se tx sh fa mt) H) (hD : va_D A (MW cI cZ mk mg st im ke se tx sh fa mt)) (hS : va_S A H0 H locs) {idx : Nat} {x : Int32} (hl : Cond.fieldLink own idx "WindFrontiersModel" "saidCloth" "I" ∈ AL) (hdg : decode cc pc = .ok (.putfield idx, 3)) (kk : ∀ (H : Heap) (locs : List Loc), va_P D vwCl (MW cI cZ mk (upd mg 12 x) st im ke se tx sh fa mt) H → va_D A (MW cI cZ mk (upd mg 12 x) st im ke se tx sh fa mt) → va_S A H0 H locs → W p l e R s m args below meth c H locs cells slots Q (F0 m (pc + 3) ls rest)) : W p l e R s m args below meth c H locs cells slots Q (F0 m pc ls (.int x :: .ref (mk 0) :: rest)) := by
  refine va_put (D := D) (ci := 7) (v := .int x) (ty := .int) (C := RX7) (T := TX7) (N := 22) C.1 C.2.1 C.2.2.2.2 inA7 tyX7 tyX7_ok nmX7 C.2.2.2.1 hK hP hD hS 0 rfl rfl 19 (by decide) (C.2.2.2.2 _ hl) (fun _ h => h) rfl (by decide +kernel) rfl rfl (Nat.le_of_ble_eq_true rfl) hdg (fun H1 locs1 h1 h2 h3 => ?_)
  exact kk H1 locs1 h1 h2 h3
theorem gX7_saidWind (C : CallFix p m c cc nL s args AL own) (hK : va_K D vwCl (ty3 cI cZ cO) s) (hP : va_P D vwCl (MW cI cZ mk mg st im ke se tx sh fa mt) H) {idx : Nat} (hl : Cond.fieldLink own idx "WindFrontiersModel" "saidWind" "I" ∈ AL) (hdg : decode cc pc = .ok (.getfield idx, 3)) (kk : W p l e R s m args below meth c H locs cells slots Q (F0 m (pc + 3) ls (.int (mg 13) :: rest))) : W p l e R s m args below meth c H locs cells slots Q (F0 m pc ls (.ref (mk 0) :: rest)) :=
  va_get (D := D) (ci := 7) (C := RX7) (T := TX7) (N := 22) C.1 C.2.1 C.2.2.2.2 inA7 C.2.2.2.1 hK hP 0 rfl rfl 20 (by decide) (C.2.2.2.2 _ hl) (fun _ h => h) rfl hdg kk
theorem pX7_saidWind (C : CallFix p m c cc nL s args AL own) (hK : va_K D vwCl (ty3 cI cZ cO) s) (hP : va_P D vwCl (MW cI cZ mk mg st im ke se tx sh fa mt) H) (hD : va_D A (MW cI cZ mk mg st im ke se tx sh fa mt)) (hS : va_S A H0 H locs) {idx : Nat} {x : Int32} (hl : Cond.fieldLink own idx "WindFrontiersModel" "saidWind" "I" ∈ AL) (hdg : decode cc pc = .ok (.putfield idx, 3)) (kk : ∀ (H : Heap) (locs : List Loc), va_P D vwCl (MW cI cZ mk (upd mg 13 x) st im ke se tx sh fa mt) H → va_D A (MW cI cZ mk (upd mg 13 x) st im ke se tx sh fa mt) → va_S A H0 H locs → W p l e R s m args below meth c H locs cells slots Q (F0 m (pc + 3) ls rest)) : W p l e R s m args below meth c H locs cells slots Q (F0 m pc ls (.int x :: .ref (mk 0) :: rest)) := by
  refine va_put (D := D) (ci := 7) (v := .int x) (ty := .int) (C := RX7) (T := TX7) (N := 22) C.1 C.2.1 C.2.2.2.2 inA7 tyX7 tyX7_ok nmX7 C.2.2.2.1 hK hP hD hS 0 rfl rfl 20 (by decide) (C.2.2.2.2 _ hl) (fun _ h => h) rfl (by decide +kernel) rfl rfl (Nat.le_of_ble_eq_true rfl) hdg (fun H1 locs1 h1 h2 h3 => ?_)
  exact kk H1 locs1 h1 h2 h3
theorem gX7_far (C : CallFix p m c cc nL s args AL own) (hK : va_K D vwCl (ty3 cI cZ cO) s) (hP : va_P D vwCl (MW cI cZ mk mg st im ke se tx sh fa mt) H) {idx : Nat} (hl : Cond.fieldLink own idx "WindFrontiersModel" "far" "[I" ∈ AL) (hdg : decode cc pc = .ok (.getfield idx, 3)) (kk : W p l e R s m args below meth c H locs cells slots Q (F0 m (pc + 3) ls (.ref (mk 7) :: rest))) : W p l e R s m args below meth c H locs cells slots Q (F0 m pc ls (.ref (mk 0) :: rest)) :=
  va_get (D := D) (ci := 7) (C := RX7) (T := TX7) (N := 22) C.1 C.2.1 C.2.2.2.2 inA7 C.2.2.2.1 hK hP 0 rfl rfl 21 (by decide) (C.2.2.2.2 _ hl) (fun _ h => h) rfl hdg kk
theorem aM_st (C : CallFix p m c cc nL s args AL own) (hK : va_K D vwCl (ty3 cI cZ cO) s) (hP : va_P D vwCl (MW cI cZ mk mg st im ke se tx sh fa mt) H) {i : Int32} (hin : vp_in i 254) (hdg : decode cc pc = .ok (.iaload, 1)) (kk : W p l e R s m args below meth c H locs cells slots Q (F0 m (pc + 1) ls (.int (st i.toNatClampNeg) :: rest))) : W p l e R s m args below meth c H locs cells slots Q (F0 m pc ls (.int i :: .ref (mk 1) :: rest)) :=
  va_iald C.1 C.2.1 hK hP 1 0 rfl rfl hin hdg kk
theorem sM_st (C : CallFix p m c cc nL s args AL own) (hK : va_K D vwCl (ty3 cI cZ cO) s) (hP : va_P D vwCl (MW cI cZ mk mg st im ke se tx sh fa mt) H) (hD : va_D A (MW cI cZ mk mg st im ke se tx sh fa mt)) (hS : va_S A H0 H locs) {i x : Int32} (hin : vp_in i 254) (hdg : decode cc pc = .ok (.iastore, 1)) (kk : ∀ (H : Heap) (locs : List Loc), va_P D vwCl (MW cI cZ mk mg (upd st i.toNatClampNeg x) im ke se tx sh fa mt) H → va_D A (MW cI cZ mk mg (upd st i.toNatClampNeg x) im ke se tx sh fa mt) → va_S A H0 H locs → W p l e R s m args below meth c H locs cells slots Q (F0 m (pc + 1) ls rest)) : W p l e R s m args below meth c H locs cells slots Q (F0 m pc ls (.int x :: .int i :: .ref (mk 1) :: rest)) := by
  refine va_iast C.1 C.2.1 hK hP hD hS 1 0 rfl rfl hin hdg (fun H1 locs1 h1 h2 h3 => ?_)
  exact kk H1 locs1 h1 h2 h3
theorem aM_images (C : CallFix p m c cc nL s args AL own) (hK : va_K D vwCl (ty3 cI cZ cO) s) (hP : va_P D vwCl (MW cI cZ mk mg st im ke se tx sh fa mt) H) {i : Int32} (hin : vp_in i 508) (hdg : decode cc pc = .ok (.iaload, 1)) (kk : W p l e R s m args below meth c H locs cells slots Q (F0 m (pc + 1) ls (.int (im i.toNatClampNeg) :: rest))) : W p l e R s m args below meth c H locs cells slots Q (F0 m pc ls (.int i :: .ref (mk 2) :: rest)) :=
  va_iald C.1 C.2.1 hK hP 2 0 rfl rfl hin hdg kk
theorem sM_images (C : CallFix p m c cc nL s args AL own) (hK : va_K D vwCl (ty3 cI cZ cO) s) (hP : va_P D vwCl (MW cI cZ mk mg st im ke se tx sh fa mt) H) (hD : va_D A (MW cI cZ mk mg st im ke se tx sh fa mt)) (hS : va_S A H0 H locs) {i x : Int32} (hin : vp_in i 508) (hdg : decode cc pc = .ok (.iastore, 1)) (kk : ∀ (H : Heap) (locs : List Loc), va_P D vwCl (MW cI cZ mk mg st (upd im i.toNatClampNeg x) ke se tx sh fa mt) H → va_D A (MW cI cZ mk mg st (upd im i.toNatClampNeg x) ke se tx sh fa mt) → va_S A H0 H locs → W p l e R s m args below meth c H locs cells slots Q (F0 m (pc + 1) ls rest)) : W p l e R s m args below meth c H locs cells slots Q (F0 m pc ls (.int x :: .int i :: .ref (mk 2) :: rest)) := by
  refine va_iast C.1 C.2.1 hK hP hD hS 2 0 rfl rfl hin hdg (fun H1 locs1 h1 h2 h3 => ?_)
  exact kk H1 locs1 h1 h2 h3
theorem aM_isKept (C : CallFix p m c cc nL s args AL own) (hK : va_K D vwCl (ty3 cI cZ cO) s) (hP : va_P D vwCl (MW cI cZ mk mg st im ke se tx sh fa mt) H) {i : Int32} (hin : vp_in i 2) (hdg : decode cc pc = .ok (.baload, 1)) (kk : W p l e R s m args below meth c H locs cells slots Q (F0 m (pc + 1) ls (.int (ke i.toNatClampNeg) :: rest))) : W p l e R s m args below meth c H locs cells slots Q (F0 m pc ls (.int i :: .ref (mk 3) :: rest)) :=
  va_zald C.1 C.2.1 hK hP 3 1 rfl rfl hin hdg kk
theorem sM_isKept (C : CallFix p m c cc nL s args AL own) (hK : va_K D vwCl (ty3 cI cZ cO) s) (hP : va_P D vwCl (MW cI cZ mk mg st im ke se tx sh fa mt) H) (hD : va_D A (MW cI cZ mk mg st im ke se tx sh fa mt)) (hS : va_S A H0 H locs) {i x : Int32} (hb : x = 0 ∨ x = 1) (hin : vp_in i 2) (hdg : decode cc pc = .ok (.bastore, 1)) (kk : ∀ (H : Heap) (locs : List Loc), va_P D vwCl (MW cI cZ mk mg st im (upd ke i.toNatClampNeg x) se tx sh fa mt) H → va_D A (MW cI cZ mk mg st im (upd ke i.toNatClampNeg x) se tx sh fa mt) → va_S A H0 H locs → W p l e R s m args below meth c H locs cells slots Q (F0 m (pc + 1) ls rest)) : W p l e R s m args below meth c H locs cells slots Q (F0 m pc ls (.int x :: .int i :: .ref (mk 3) :: rest)) := by
  refine va_zast C.1 C.2.1 hK hP hD hS 3 1 rfl rfl hin hdg (fun H1 locs1 h1 h2 h3 => ?_)
  have e : vp_nar .boolean x = x := by rcases hb with rfl | rfl <;> rfl
  rw [e] at h1 h2
  exact kk H1 locs1 h1 h2 h3
theorem aM_seen (C : CallFix p m c cc nL s args AL own) (hK : va_K D vwCl (ty3 cI cZ cO) s) (hP : va_P D vwCl (MW cI cZ mk mg st im ke se tx sh fa mt) H) {i : Int32} (hin : vp_in i 18) (hdg : decode cc pc = .ok (.iaload, 1)) (kk : W p l e R s m args below meth c H locs cells slots Q (F0 m (pc + 1) ls (.int (se i.toNatClampNeg) :: rest))) : W p l e R s m args below meth c H locs cells slots Q (F0 m pc ls (.int i :: .ref (mk 4) :: rest)) :=
  va_iald C.1 C.2.1 hK hP 4 0 rfl rfl hin hdg kk
theorem sM_seen (C : CallFix p m c cc nL s args AL own) (hK : va_K D vwCl (ty3 cI cZ cO) s) (hP : va_P D vwCl (MW cI cZ mk mg st im ke se tx sh fa mt) H) (hD : va_D A (MW cI cZ mk mg st im ke se tx sh fa mt)) (hS : va_S A H0 H locs) {i x : Int32} (hin : vp_in i 18) (hdg : decode cc pc = .ok (.iastore, 1)) (kk : ∀ (H : Heap) (locs : List Loc), va_P D vwCl (MW cI cZ mk mg st im ke (upd se i.toNatClampNeg x) tx sh fa mt) H → va_D A (MW cI cZ mk mg st im ke (upd se i.toNatClampNeg x) tx sh fa mt) → va_S A H0 H locs → W p l e R s m args below meth c H locs cells slots Q (F0 m (pc + 1) ls rest)) : W p l e R s m args below meth c H locs cells slots Q (F0 m pc ls (.int x :: .int i :: .ref (mk 4) :: rest)) := by
  refine va_iast C.1 C.2.1 hK hP hD hS 4 0 rfl rfl hin hdg (fun H1 locs1 h1 h2 h3 => ?_)
  exact kk H1 locs1 h1 h2 h3
theorem aM_text (C : CallFix p m c cc nL s args AL own) (hK : va_K D vwCl (ty3 cI cZ cO) s) (hP : va_P D vwCl (MW cI cZ mk mg st im ke se tx sh fa mt) H) {i : Int32} (hin : vp_in i 150) (hdg : decode cc pc = .ok (.iaload, 1)) (kk : W p l e R s m args below meth c H locs cells slots Q (F0 m (pc + 1) ls (.int (tx i.toNatClampNeg) :: rest))) : W p l e R s m args below meth c H locs cells slots Q (F0 m pc ls (.int i :: .ref (mk 5) :: rest)) :=
  va_iald C.1 C.2.1 hK hP 5 0 rfl rfl hin hdg kk
theorem sM_text (C : CallFix p m c cc nL s args AL own) (hK : va_K D vwCl (ty3 cI cZ cO) s) (hP : va_P D vwCl (MW cI cZ mk mg st im ke se tx sh fa mt) H) (hD : va_D A (MW cI cZ mk mg st im ke se tx sh fa mt)) (hS : va_S A H0 H locs) {i x : Int32} (hin : vp_in i 150) (hdg : decode cc pc = .ok (.iastore, 1)) (kk : ∀ (H : Heap) (locs : List Loc), va_P D vwCl (MW cI cZ mk mg st im ke se (upd tx i.toNatClampNeg x) sh fa mt) H → va_D A (MW cI cZ mk mg st im ke se (upd tx i.toNatClampNeg x) sh fa mt) → va_S A H0 H locs → W p l e R s m args below meth c H locs cells slots Q (F0 m (pc + 1) ls rest)) : W p l e R s m args below meth c H locs cells slots Q (F0 m pc ls (.int x :: .int i :: .ref (mk 5) :: rest)) := by
  refine va_iast C.1 C.2.1 hK hP hD hS 5 0 rfl rfl hin hdg (fun H1 locs1 h1 h2 h3 => ?_)
  exact kk H1 locs1 h1 h2 h3
theorem aM_saidHolder (C : CallFix p m c cc nL s args AL own) (hK : va_K D vwCl (ty3 cI cZ cO) s) (hP : va_P D vwCl (MW cI cZ mk mg st im ke se tx sh fa mt) H) {i : Int32} (hin : vp_in i 20) (hdg : decode cc pc = .ok (.iaload, 1)) (kk : W p l e R s m args below meth c H locs cells slots Q (F0 m (pc + 1) ls (.int (sh i.toNatClampNeg) :: rest))) : W p l e R s m args below meth c H locs cells slots Q (F0 m pc ls (.int i :: .ref (mk 6) :: rest)) :=
  va_iald C.1 C.2.1 hK hP 6 0 rfl rfl hin hdg kk
theorem sM_saidHolder (C : CallFix p m c cc nL s args AL own) (hK : va_K D vwCl (ty3 cI cZ cO) s) (hP : va_P D vwCl (MW cI cZ mk mg st im ke se tx sh fa mt) H) (hD : va_D A (MW cI cZ mk mg st im ke se tx sh fa mt)) (hS : va_S A H0 H locs) {i x : Int32} (hin : vp_in i 20) (hdg : decode cc pc = .ok (.iastore, 1)) (kk : ∀ (H : Heap) (locs : List Loc), va_P D vwCl (MW cI cZ mk mg st im ke se tx (upd sh i.toNatClampNeg x) fa mt) H → va_D A (MW cI cZ mk mg st im ke se tx (upd sh i.toNatClampNeg x) fa mt) → va_S A H0 H locs → W p l e R s m args below meth c H locs cells slots Q (F0 m (pc + 1) ls rest)) : W p l e R s m args below meth c H locs cells slots Q (F0 m pc ls (.int x :: .int i :: .ref (mk 6) :: rest)) := by
  refine va_iast C.1 C.2.1 hK hP hD hS 6 0 rfl rfl hin hdg (fun H1 locs1 h1 h2 h3 => ?_)
  exact kk H1 locs1 h1 h2 h3
theorem aM_far (C : CallFix p m c cc nL s args AL own) (hK : va_K D vwCl (ty3 cI cZ cO) s) (hP : va_P D vwCl (MW cI cZ mk mg st im ke se tx sh fa mt) H) {i : Int32} (hin : vp_in i 20) (hdg : decode cc pc = .ok (.iaload, 1)) (kk : W p l e R s m args below meth c H locs cells slots Q (F0 m (pc + 1) ls (.int (fa i.toNatClampNeg) :: rest))) : W p l e R s m args below meth c H locs cells slots Q (F0 m pc ls (.int i :: .ref (mk 7) :: rest)) :=
  va_iald C.1 C.2.1 hK hP 7 0 rfl rfl hin hdg kk
theorem sM_far (C : CallFix p m c cc nL s args AL own) (hK : va_K D vwCl (ty3 cI cZ cO) s) (hP : va_P D vwCl (MW cI cZ mk mg st im ke se tx sh fa mt) H) (hD : va_D A (MW cI cZ mk mg st im ke se tx sh fa mt)) (hS : va_S A H0 H locs) {i x : Int32} (hin : vp_in i 20) (hdg : decode cc pc = .ok (.iastore, 1)) (kk : ∀ (H : Heap) (locs : List Loc), va_P D vwCl (MW cI cZ mk mg st im ke se tx sh (upd fa i.toNatClampNeg x) mt) H → va_D A (MW cI cZ mk mg st im ke se tx sh (upd fa i.toNatClampNeg x) mt) → va_S A H0 H locs → W p l e R s m args below meth c H locs cells slots Q (F0 m (pc + 1) ls rest)) : W p l e R s m args below meth c H locs cells slots Q (F0 m pc ls (.int x :: .int i :: .ref (mk 7) :: rest)) := by
  refine va_iast C.1 C.2.1 hK hP hD hS 7 0 rfl rfl hin hdg (fun H1 locs1 h1 h2 h3 => ?_)
  exact kk H1 locs1 h1 h2 h3
end STEP
end
section
/-! what a method starts from, calls -/
def NWl : List Cond := [Cond.methodLinkNest RX6 11 yX1_init "WindFrontiers", Cond.methodLinkNest RX1 11 yX5_init "WindFrontiers", Cond.methodLinkNest RX1 20 yX4_init "WindFrontiers", Cond.methodLinkNest RX3 11 yX4_init "WindFrontiers", Cond.methodLinkNest RX6 43 yX2_init "WindFrontiers", Cond.methodLinkNest RX6 50 yX0_init "WindFrontiers", Cond.methodLinkNest RX1 98 yX6_bitOf "WindFrontiers", Cond.methodLinkNest RX4 39 yX6_isWithin "WindFrontiers", Cond.methodLinkNest RX4 77 yX6_oneIf "WindFrontiers", Cond.methodLinkNest RX0 40 yX6_bitOf "WindFrontiers"]
def NW (U : State) : Prop := (∀ w ∈ NWl, va_Nw w U) ∧ va_AO "WindFrontiers$Strand" U
theorem NW_same {u U : State} (h : u.vm = U.vm) (hN : NW u) : NW U := by
  refine ⟨fun w hw => ?_, hN.2.moved (by rw [h]; exact Vm.Alike.refl _)⟩
  have h0 := hN.1 w hw
  simp only [NWl, List.mem_cons, List.not_mem_nil, or_false] at hw
  rcases hw with rfl | rfl | rfl | rfl | rfl | rfl | rfl | rfl | rfl | rfl <;> exact va_Nw.same rfl h h0
theorem NW_warm {s U : State} (hW : s.WarmedH U.vm) (hN : NW s) : NW U := by
  refine ⟨fun w hw => ?_, hN.2.moved hW.alike⟩
  have h0 := hN.1 w hw
  simp only [NWl, List.mem_cons, List.not_mem_nil, or_false] at hw
  rcases hw with rfl | rfl | rfl | rfl | rfl | rfl | rfl | rfl | rfl | rfl <;> exact va_Nw.warmM hW h0
theorem NW_of {s : State} {args : Array Value} (hts : ∀ w ∈ lw_tbl, w.before args s = true) : NW s := by
  refine ⟨fun w hw => ?_, va_AO.of (hts _ wn_1_109)⟩
  simp only [NWl, List.mem_cons, List.not_mem_nil, or_false] at hw
  rcases hw with rfl | rfl | rfl | rfl | rfl | rfl | rfl | rfl | rfl | rfl
  · exact va_Nw.of rfl (hts _ wn_1_20)
  · exact va_Nw.of rfl (hts _ wn_1_26)
  · exact va_Nw.of rfl (hts _ wn_1_41)
  · exact va_Nw.of rfl (hts _ wn_1_108)
  · exact va_Nw.of rfl (hts _ wn_1_127)
  · exact va_Nw.of rfl (hts _ wn_1_150)
  · exact va_Nw.of rfl (hts _ wn_2_14)
  · exact va_Nw.of rfl (hts _ wn_2_49)
  · exact va_Nw.of rfl (hts _ wn_2_185)
  · exact va_Nw.of rfl (hts _ wn_3_15)
/-- a method with a world -/
def GPre (D : va_G) (tys : List (ClassId × FieldType)) (w : va_W) (av : List Value) (sz : Nat) : Array Value → State → Prop := va_Pc av (fun U => U.heap.size = sz ∧ va_P D vwCl w U.heap ∧ va_K D vwCl tys U ∧ va_D (fun _ => True) w ∧ NW U)
/-- a method without one -/
def SPre (av : List Value) : Array Value → State → Prop := va_Pc av (fun U => NW U)
def GAt (D : va_G) (tys : List (ClassId × FieldType)) (A : Nat → Prop) (w : va_W) (t : State) : Prop := va_P D vwCl w t.heap ∧ va_K D vwCl tys t ∧ va_D A w
theorem GPre_blind {D : va_G} {tys : List (ClassId × FieldType)} {w : va_W} {av : List Value} {sz : Nat} : FrameBlind (GPre D tys w av sz) := fun a U g mk q => by
  obtain ⟨q0, q1, qP, qK, qD, qN⟩ := q
  exact ⟨q0, q1, qP, va_K.moved (u := U) (U := U.calling g mk a) (Vm.Alike.refl U.vm) qK, qD, NW_same (u := U) rfl qN⟩
theorem SPre_blind {av : List Value} : FrameBlind (SPre av) := fun a U g mk q => by
  obtain ⟨q0, qN⟩ := q
  exact ⟨q0, NW_same (u := U) rfl qN⟩
theorem wm_ts {y : MethodName} {cc : ByteArray} {n : Nat} {ret : Option FieldType} {a : Array Value} {s : State} (h : ∀ w ∈ wm y cc n ret, w.before a s = true) : ∀ w ∈ AL, w.before a s = true := fun w hw => h w (List.mem_cons_of_mem _ hw)
section MET
variable {l : Launch} {y : MethodName} {cc : ByteArray} {nL : Nat} {ret : Option FieldType} {rm : Room} {D : va_G} {tys : List (ClassId × FieldType)} {w : va_W} {av : List Value} {sz : Nat}
theorem metP_i {post : Int32 → Prop} (hy : plainName y.cls = true) (hn : (lg_sl av).length ≤ nL)
    (body : ∀ (p : Program) (e : Env) (s : State) (m : MethodId) (args : Array Value) (below : List Frame) (meth : Method) (c : Code) (ls : Array Slot) (Q : State → Prop), CallFix p m c cc nL s args AL y.cls → s.heap.size = sz → va_P D vwCl w s.heap → va_K D vwCl tys s → va_D (fun _ => True) w → NW s → lv_has ls nL (lv_args 0 av) → (∀ (v : Int32) (pc : Nat) (ls : Array Slot), post v → decode cc pc = .ok (.ireturn, 1) → W p l e rm s m args below meth c s.heap [] 0 0 Q (F0 m pc ls [.int v])) → W p l e rm s m args below meth c s.heap [] 0 0 Q (F0 m 0 ls [])) :
    Met l y (wm y cc nL (some .int)) rm (GPre D tys w av sz) (vp_Si post) 0 0 (fun _ => False) := by
  refine Met.ofW (cc := cc) (maxL := nL) (ret := (some .int)) hy rfl ?_
  intro p e s m args below meth c s₁ B hml hv
  obtain ⟨rfl, hsz, hP, hK, hD, hN⟩ := hv
  have hr := B.returns
  have hlocks := B.notSynchronized
  have hl := lv_entry av (n := nL) hn
  rw [lg_entry_eq]
  refine body p e s m _ below meth c _ _ ⟨B.exec, B.bytes, hml, findClass_of_methodNamed B.named, wm_ts (atoms_spec (ws := wm y cc nL (some .int)) B.pre)⟩ hsz hP hK hD hN hl ?_
  intro v pc ls hv hd
  exact W.iret B.exec B.bytes hr (fun t ht hW => ⟨_, rfl, hv, ht⟩) (fun _ h => by cases h) hd
theorem metS_i {post : Int32 → Prop} (hy : plainName y.cls = true) (hn : (lg_sl av).length ≤ nL)
    (body : ∀ (p : Program) (e : Env) (s : State) (m : MethodId) (args : Array Value) (below : List Frame) (meth : Method) (c : Code) (ls : Array Slot) (Q : State → Prop), CallFix p m c cc nL s args AL y.cls → NW s → lv_has ls nL (lv_args 0 av) → (∀ (v : Int32) (pc : Nat) (ls : Array Slot), post v → decode cc pc = .ok (.ireturn, 1) → W p l e rm s m args below meth c s.heap [] 0 0 Q (F0 m pc ls [.int v])) → W p l e rm s m args below meth c s.heap [] 0 0 Q (F0 m 0 ls [])) :
    Met l y (wm y cc nL (some .int)) rm (SPre av) (vp_Si post) 0 0 (fun _ => False) := by
  refine Met.ofW (cc := cc) (maxL := nL) (ret := (some .int)) hy rfl ?_
  intro p e s m args below meth c s₁ B hml hv
  obtain ⟨rfl, hN⟩ := hv
  have hr := B.returns
  have hlocks := B.notSynchronized
  have hl := lv_entry av (n := nL) hn
  rw [lg_entry_eq]
  refine body p e s m _ below meth c _ _ ⟨B.exec, B.bytes, hml, findClass_of_methodNamed B.named, wm_ts (atoms_spec (ws := wm y cc nL (some .int)) B.pre)⟩ hN hl ?_
  intro v pc ls hv hd
  exact W.iret B.exec B.bytes hr (fun t ht hW => ⟨_, rfl, hv, ht⟩) (fun _ h => by cases h) hd
theorem metP_z {post : Int32 → Prop} (hy : plainName y.cls = true) (hn : (lg_sl av).length ≤ nL)
    (body : ∀ (p : Program) (e : Env) (s : State) (m : MethodId) (args : Array Value) (below : List Frame) (meth : Method) (c : Code) (ls : Array Slot) (Q : State → Prop), CallFix p m c cc nL s args AL y.cls → s.heap.size = sz → va_P D vwCl w s.heap → va_K D vwCl tys s → va_D (fun _ => True) w → NW s → lv_has ls nL (lv_args 0 av) → (∀ (v : Int32) (pc : Nat) (ls : Array Slot), post v ∧ (v = 0 ∨ v = 1) → decode cc pc = .ok (.ireturn, 1) → W p l e rm s m args below meth c s.heap [] 0 0 Q (F0 m pc ls [.int v])) → W p l e rm s m args below meth c s.heap [] 0 0 Q (F0 m 0 ls [])) :
    Met l y (wm y cc nL (some .boolean)) rm (GPre D tys w av sz) (vp_Si (fun r => post r ∧ (r = 0 ∨ r = 1))) 0 0 (fun _ => False) := by
  refine Met.ofW (cc := cc) (maxL := nL) (ret := (some .boolean)) hy rfl ?_
  intro p e s m args below meth c s₁ B hml hv
  obtain ⟨rfl, hsz, hP, hK, hD, hN⟩ := hv
  have hr := B.returns
  have hlocks := B.notSynchronized
  have hl := lv_entry av (n := nL) hn
  rw [lg_entry_eq]
  refine body p e s m _ below meth c _ _ ⟨B.exec, B.bytes, hml, findClass_of_methodNamed B.named, wm_ts (atoms_spec (ws := wm y cc nL (some .boolean)) B.pre)⟩ hsz hP hK hD hN hl ?_
  intro v pc ls hv hd
  exact W.zret B.exec B.bytes hr (bo_nar hv.2) (fun t ht hW => ⟨_, rfl, hv, ht⟩) (fun _ h => by cases h) hd
theorem metS_z {post : Int32 → Prop} (hy : plainName y.cls = true) (hn : (lg_sl av).length ≤ nL)
    (body : ∀ (p : Program) (e : Env) (s : State) (m : MethodId) (args : Array Value) (below : List Frame) (meth : Method) (c : Code) (ls : Array Slot) (Q : State → Prop), CallFix p m c cc nL s args AL y.cls → NW s → lv_has ls nL (lv_args 0 av) → (∀ (v : Int32) (pc : Nat) (ls : Array Slot), post v ∧ (v = 0 ∨ v = 1) → decode cc pc = .ok (.ireturn, 1) → W p l e rm s m args below meth c s.heap [] 0 0 Q (F0 m pc ls [.int v])) → W p l e rm s m args below meth c s.heap [] 0 0 Q (F0 m 0 ls [])) :
    Met l y (wm y cc nL (some .boolean)) rm (SPre av) (vp_Si (fun r => post r ∧ (r = 0 ∨ r = 1))) 0 0 (fun _ => False) := by
  refine Met.ofW (cc := cc) (maxL := nL) (ret := (some .boolean)) hy rfl ?_
  intro p e s m args below meth c s₁ B hml hv
  obtain ⟨rfl, hN⟩ := hv
  have hr := B.returns
  have hlocks := B.notSynchronized
  have hl := lv_entry av (n := nL) hn
  rw [lg_entry_eq]
  refine body p e s m _ below meth c _ _ ⟨B.exec, B.bytes, hml, findClass_of_methodNamed B.named, wm_ts (atoms_spec (ws := wm y cc nL (some .boolean)) B.pre)⟩ hN hl ?_
  intro v pc ls hv hd
  exact W.zret B.exec B.bytes hr (bo_nar hv.2) (fun t ht hW => ⟨_, rfl, hv, ht⟩) (fun _ h => by cases h) hd
theorem metP_l {post : Int64 → Prop} (hy : plainName y.cls = true) (hn : (lg_sl av).length ≤ nL)
    (body : ∀ (p : Program) (e : Env) (s : State) (m : MethodId) (args : Array Value) (below : List Frame) (meth : Method) (c : Code) (ls : Array Slot) (Q : State → Prop), CallFix p m c cc nL s args AL y.cls → s.heap.size = sz → va_P D vwCl w s.heap → va_K D vwCl tys s → va_D (fun _ => True) w → NW s → lv_has ls nL (lv_args 0 av) → (∀ (v : Int64) (pc : Nat) (ls : Array Slot), post v → decode cc pc = .ok (.lreturn, 1) → W p l e rm s m args below meth c s.heap [] 0 0 Q (F0 m pc ls [.long v])) → W p l e rm s m args below meth c s.heap [] 0 0 Q (F0 m 0 ls [])) :
    Met l y (wm y cc nL (some .long)) rm (GPre D tys w av sz) (vp_Sl post) 0 0 (fun _ => False) := by
  refine Met.ofW (cc := cc) (maxL := nL) (ret := (some .long)) hy rfl ?_
  intro p e s m args below meth c s₁ B hml hv
  obtain ⟨rfl, hsz, hP, hK, hD, hN⟩ := hv
  have hr := B.returns
  have hlocks := B.notSynchronized
  have hl := lv_entry av (n := nL) hn
  rw [lg_entry_eq]
  refine body p e s m _ below meth c _ _ ⟨B.exec, B.bytes, hml, findClass_of_methodNamed B.named, wm_ts (atoms_spec (ws := wm y cc nL (some .long)) B.pre)⟩ hsz hP hK hD hN hl ?_
  intro v pc ls hv hd
  exact W.lret B.exec B.bytes hr (fun t ht hW => ⟨_, rfl, hv, ht⟩) (fun _ h => by cases h) hd
theorem metS_l {post : Int64 → Prop} (hy : plainName y.cls = true) (hn : (lg_sl av).length ≤ nL)
    (body : ∀ (p : Program) (e : Env) (s : State) (m : MethodId) (args : Array Value) (below : List Frame) (meth : Method) (c : Code) (ls : Array Slot) (Q : State → Prop), CallFix p m c cc nL s args AL y.cls → NW s → lv_has ls nL (lv_args 0 av) → (∀ (v : Int64) (pc : Nat) (ls : Array Slot), post v → decode cc pc = .ok (.lreturn, 1) → W p l e rm s m args below meth c s.heap [] 0 0 Q (F0 m pc ls [.long v])) → W p l e rm s m args below meth c s.heap [] 0 0 Q (F0 m 0 ls [])) :
    Met l y (wm y cc nL (some .long)) rm (SPre av) (vp_Sl post) 0 0 (fun _ => False) := by
  refine Met.ofW (cc := cc) (maxL := nL) (ret := (some .long)) hy rfl ?_
  intro p e s m args below meth c s₁ B hml hv
  obtain ⟨rfl, hN⟩ := hv
  have hr := B.returns
  have hlocks := B.notSynchronized
  have hl := lv_entry av (n := nL) hn
  rw [lg_entry_eq]
  refine body p e s m _ below meth c _ _ ⟨B.exec, B.bytes, hml, findClass_of_methodNamed B.named, wm_ts (atoms_spec (ws := wm y cc nL (some .long)) B.pre)⟩ hN hl ?_
  intro v pc ls hv hd
  exact W.lret B.exec B.bytes hr (fun t ht hW => ⟨_, rfl, hv, ht⟩) (fun _ h => by cases h) hd
theorem metP_r {nm : String} {va : Value} (hy : plainName y.cls = true) (hn : (lg_sl av).length ≤ nL)
    (body : ∀ (p : Program) (e : Env) (s : State) (m : MethodId) (args : Array Value) (below : List Frame) (meth : Method) (c : Code) (ls : Array Slot) (Q : State → Prop), CallFix p m c cc nL s args AL y.cls → s.heap.size = sz → va_P D vwCl w s.heap → va_K D vwCl tys s → va_D (fun _ => True) w → NW s → lv_has ls nL (lv_args 0 av) → (∀ (v : Value) (pc : Nat) (ls : Array Slot), v = va ∧ (v = .null ∨ ∃ a, v = .ref a) → decode cc pc = .ok (.areturn, 1) → W p l e rm s m args below meth c s.heap [] 0 0 Q (F0 m pc ls [v])) → W p l e rm s m args below meth c s.heap [] 0 0 Q (F0 m 0 ls [])) :
    Met l y (wm y cc nL (some (.object nm))) rm (GPre D tys w av sz) (va_Sr (fun _ => True) (fun _ => va)) 0 0 (fun _ => False) := by
  refine Met.ofW (cc := cc) (maxL := nL) (ret := (some (.object nm))) hy rfl ?_
  intro p e s m args below meth c s₁ B hml hv
  obtain ⟨rfl, hsz, hP, hK, hD, hN⟩ := hv
  have hr := B.returns
  have hlocks := B.notSynchronized
  have hl := lv_entry av (n := nL) hn
  rw [lg_entry_eq]
  refine body p e s m _ below meth c _ _ ⟨B.exec, B.bytes, hml, findClass_of_methodNamed B.named, wm_ts (atoms_spec (ws := wm y cc nL (some (.object nm))) B.pre)⟩ hsz hP hK hD hN hl ?_
  intro v pc ls hv hd
  exact W.aret B.exec B.bytes hr (Or.inl ⟨_, rfl⟩) hv.2 (fun t ht hW => ⟨0, by rw [hv.1], trivial, ht⟩) (fun _ h => by cases h) hd
theorem metS_r {nm : String} {va : Value} (hy : plainName y.cls = true) (hn : (lg_sl av).length ≤ nL)
    (body : ∀ (p : Program) (e : Env) (s : State) (m : MethodId) (args : Array Value) (below : List Frame) (meth : Method) (c : Code) (ls : Array Slot) (Q : State → Prop), CallFix p m c cc nL s args AL y.cls → NW s → lv_has ls nL (lv_args 0 av) → (∀ (v : Value) (pc : Nat) (ls : Array Slot), v = va ∧ (v = .null ∨ ∃ a, v = .ref a) → decode cc pc = .ok (.areturn, 1) → W p l e rm s m args below meth c s.heap [] 0 0 Q (F0 m pc ls [v])) → W p l e rm s m args below meth c s.heap [] 0 0 Q (F0 m 0 ls [])) :
    Met l y (wm y cc nL (some (.object nm))) rm (SPre av) (va_Sr (fun _ => True) (fun _ => va)) 0 0 (fun _ => False) := by
  refine Met.ofW (cc := cc) (maxL := nL) (ret := (some (.object nm))) hy rfl ?_
  intro p e s m args below meth c s₁ B hml hv
  obtain ⟨rfl, hN⟩ := hv
  have hr := B.returns
  have hlocks := B.notSynchronized
  have hl := lv_entry av (n := nL) hn
  rw [lg_entry_eq]
  refine body p e s m _ below meth c _ _ ⟨B.exec, B.bytes, hml, findClass_of_methodNamed B.named, wm_ts (atoms_spec (ws := wm y cc nL (some (.object nm))) B.pre)⟩ hN hl ?_
  intro v pc ls hv hd
  exact W.aret B.exec B.bytes hr (Or.inl ⟨_, rfl⟩) hv.2 (fun t ht hW => ⟨0, by rw [hv.1], trivial, ht⟩) (fun _ h => by cases h) hd
theorem metQ_i {T : Type} {W1 : T → va_W} {post : Int32 → T → Prop} (hy : plainName y.cls = true) (hn : (lg_sl av).length ≤ nL)
    (body : ∀ (p : Program) (e : Env) (s : State) (m : MethodId) (args : Array Value) (below : List Frame) (meth : Method) (c : Code) (ls : Array Slot) (A : Nat → Prop) (Q : State → Prop), CallFix p m c cc nL s args AL y.cls → s.heap.size = sz → va_P D vwCl w s.heap → va_K D vwCl tys s → va_D A w → va_S A s.heap s.heap [] → (∀ q, s.heap.size ≤ q → A q) → NW s → lv_has ls nL (lv_args 0 av) → (∀ (v : Int32) (u : T) (pc : Nat) (ls : Array Slot) (H : Heap) (locs : List Loc), post v u → va_P D vwCl (W1 u) H → va_D A (W1 u) → va_S A s.heap H locs → decode cc pc = .ok (.ireturn, 1) → W p l e rm s m args below meth c H locs 0 0 Q (F0 m pc ls [.int v])) → W p l e rm s m args below meth c s.heap [] 0 0 Q (F0 m 0 ls [])) :
    Met l y (wm y cc nL (some .int)) rm (GPre D tys w av sz) (va_Qi post (fun u t => GAt D tys (va_A w sz) (W1 u) t) (va_A w sz)) 0 0 (va_A w sz) := by
  refine Met.ofW (cc := cc) (maxL := nL) (ret := (some .int)) hy rfl ?_
  intro p e s m args below meth c s₁ B hml hv
  obtain ⟨rfl, hsz, hP, hK, hD, hN⟩ := hv
  have hr := B.returns
  have hlocks := B.notSynchronized
  have hl := lv_entry av (n := nL) hn
  rw [lg_entry_eq]
  refine body p e s m _ below meth c _ (va_A w sz) _ ⟨B.exec, B.bytes, hml, findClass_of_methodNamed B.named, wm_ts (atoms_spec (ws := wm y cc nL (some .int)) B.pre)⟩ hsz hP hK hD.self va_S.rf (fun q h => Or.inr (by rw [← hsz]; exact h)) hN hl ?_
  intro v u pc ls H locs hv hP1 hD1 hS1 hd
  exact W.iret B.exec B.bytes hr (fun t ht hW => ⟨⟨_, u, rfl, hv, by rw [ht]; exact hP1, va_K.moved hW.alike hK, hD1⟩, hS1.F ht⟩) hS1.2.2 hd
theorem metQ_z {T : Type} {W1 : T → va_W} {post : Int32 → T → Prop} (hy : plainName y.cls = true) (hn : (lg_sl av).length ≤ nL)
    (body : ∀ (p : Program) (e : Env) (s : State) (m : MethodId) (args : Array Value) (below : List Frame) (meth : Method) (c : Code) (ls : Array Slot) (A : Nat → Prop) (Q : State → Prop), CallFix p m c cc nL s args AL y.cls → s.heap.size = sz → va_P D vwCl w s.heap → va_K D vwCl tys s → va_D A w → va_S A s.heap s.heap [] → (∀ q, s.heap.size ≤ q → A q) → NW s → lv_has ls nL (lv_args 0 av) → (∀ (v : Int32) (u : T) (pc : Nat) (ls : Array Slot) (H : Heap) (locs : List Loc), post v u ∧ (v = 0 ∨ v = 1) → va_P D vwCl (W1 u) H → va_D A (W1 u) → va_S A s.heap H locs → decode cc pc = .ok (.ireturn, 1) → W p l e rm s m args below meth c H locs 0 0 Q (F0 m pc ls [.int v])) → W p l e rm s m args below meth c s.heap [] 0 0 Q (F0 m 0 ls [])) :
    Met l y (wm y cc nL (some .boolean)) rm (GPre D tys w av sz) (va_Qi (fun r u => post r u ∧ (r = 0 ∨ r = 1)) (fun u t => GAt D tys (va_A w sz) (W1 u) t) (va_A w sz)) 0 0 (va_A w sz) := by
  refine Met.ofW (cc := cc) (maxL := nL) (ret := (some .boolean)) hy rfl ?_
  intro p e s m args below meth c s₁ B hml hv
  obtain ⟨rfl, hsz, hP, hK, hD, hN⟩ := hv
  have hr := B.returns
  have hlocks := B.notSynchronized
  have hl := lv_entry av (n := nL) hn
  rw [lg_entry_eq]
  refine body p e s m _ below meth c _ (va_A w sz) _ ⟨B.exec, B.bytes, hml, findClass_of_methodNamed B.named, wm_ts (atoms_spec (ws := wm y cc nL (some .boolean)) B.pre)⟩ hsz hP hK hD.self va_S.rf (fun q h => Or.inr (by rw [← hsz]; exact h)) hN hl ?_
  intro v u pc ls H locs hv hP1 hD1 hS1 hd
  exact W.zret B.exec B.bytes hr (bo_nar hv.2) (fun t ht hW => ⟨⟨_, u, rfl, hv, by rw [ht]; exact hP1, va_K.moved hW.alike hK, hD1⟩, hS1.F ht⟩) hS1.2.2 hd
theorem metQ_v {T : Type} {W1 : T → va_W} {post : T → Prop} (hy : plainName y.cls = true) (hn : (lg_sl av).length ≤ nL)
    (body : ∀ (p : Program) (e : Env) (s : State) (m : MethodId) (args : Array Value) (below : List Frame) (meth : Method) (c : Code) (ls : Array Slot) (A : Nat → Prop) (Q : State → Prop), CallFix p m c cc nL s args AL y.cls → s.heap.size = sz → va_P D vwCl w s.heap → va_K D vwCl tys s → va_D A w → va_S A s.heap s.heap [] → (∀ q, s.heap.size ≤ q → A q) → NW s → lv_has ls nL (lv_args 0 av) → (∀ (u : T) (pc : Nat) (ls : Array Slot) (H : Heap) (locs : List Loc), post u → va_P D vwCl (W1 u) H → va_D A (W1 u) → va_S A s.heap H locs → decode cc pc = .ok (.return_, 1) → W p l e rm s m args below meth c H locs 0 0 Q (F0 m pc ls [])) → W p l e rm s m args below meth c s.heap [] 0 0 Q (F0 m 0 ls [])) :
    Met l y (wm y cc nL none) rm (GPre D tys w av sz) (va_Qv post (fun u t => GAt D tys (va_A w sz) (W1 u) t) (va_A w sz)) 0 0 (va_A w sz) := by
  refine Met.ofW (cc := cc) (maxL := nL) (ret := none) hy rfl ?_
  intro p e s m args below meth c s₁ B hml hv
  obtain ⟨rfl, hsz, hP, hK, hD, hN⟩ := hv
  have hr := B.returns
  have hlocks := B.notSynchronized
  have hl := lv_entry av (n := nL) hn
  rw [lg_entry_eq]
  refine body p e s m _ below meth c _ (va_A w sz) _ ⟨B.exec, B.bytes, hml, findClass_of_methodNamed B.named, wm_ts (atoms_spec (ws := wm y cc nL none) B.pre)⟩ hsz hP hK hD.self va_S.rf (fun q h => Or.inr (by rw [← hsz]; exact h)) hN hl ?_
  intro u pc ls H locs hv hP1 hD1 hS1 hd
  exact W.vret B.exec B.bytes hr (fun t ht hW => ⟨⟨u, rfl, hv, by rw [ht]; exact hP1, va_K.moved hW.alike hK, hD1⟩, hS1.F ht⟩) hS1.2.2 hd
end MET
section CALL
variable {p : Program} {l : Launch} {e : Env} {R : Room} {s : State} {m : MethodId} {args : Array Value} {below : List Frame} {meth : Method} {c : Code} {H : Heap} {locs : List Loc} {cells slots : Nat} {Q : State → Prop}
variable {cc bytes : ByteArray} {pc nL maxL idx n : Nat} {ls : Array Slot} {rest st0 As : List Value} {D : va_G} {A : Nat → Prop} {H0 : Heap} {own C : String} {y : MethodName} {ret : Option FieldType} {rm : Room} {b : Addr} {tys : List (ClassId × FieldType)} {w : va_W}
theorem GPre_U (hK : va_K D vwCl tys s) (hP : va_P D vwCl w H) (hD : va_D A w) (hN : NW s) {av : List Value} : ∀ U : State, U.heap = H → s.WarmedH U.vm → GPre D tys w av H.size av.toArray U := fun U hU hW =>
  ⟨rfl, by rw [hU], by rw [hU]; exact hP, va_K.moved hW.alike hK, hD.weaken (fun _ _ _ _ => trivial), NW_warm hW hN⟩
abbrev CWv (own C : String) (idx : Nat) (y : MethodName) (cc : ByteArray) (n : Nat) (ret : Option FieldType) : Prop := Cond.methodLink own idx y ∈ AL ∧ Cond.instanceMethod y ∈ AL ∧ Cond.selects C y y ∈ AL ∧ Cond.initialized C ∈ AL ∧ Cond.code y cc n ret ∈ AL
abbrev CWs (own : String) (idx : Nat) (y : MethodName) (cc : ByteArray) (n : Nat) (ret : Option FieldType) : Prop := Cond.methodLink own idx y ∈ AL ∧ Cond.static y ∈ AL ∧ Cond.initialized y.cls ∈ AL ∧ Cond.code y cc n ret ∈ AL
/-- own's private static of a nest mate -/
abbrev CWn (own : String) (idx : Nat) (y : MethodName) (cc : ByteArray) (n : Nat) (ret : Option FieldType) : Prop := Cond.methodLinkNest own idx y "WindFrontiers" ∈ NWl ∧ Cond.static y ∈ AL ∧ Cond.initialized y.cls ∈ AL ∧ Cond.code y cc n ret ∈ AL
theorem cw_v (S : CallFix p m c cc nL s args AL own) (cw : CWv own C idx y bytes maxL ret) (hrm : rm.cells = 0 ∧ rm.slots = 0) (hd : y.cls = C ∧ y.cls ≠ "java/lang/invoke/MethodHandle" ∧ y.cls ≠ "java/lang/invoke/VarHandle" ∧ (parseMethodDescriptor y.desc).map (fun d => d.parameters.length) = some n) (hR : rm.frames + 1 ≤ R.frames ∧ 8 + (maxL + 11) + rm.locals ≤ R.locals) : CallW R s args own C idx y bytes maxL ret (wm y bytes maxL ret) rm 0 0 n :=
  cwV n S.2.2.2.2 (gd_V cw.1 cw.2.1 cw.2.2.1 cw.2.2.2.1 cw.2.2.2.2) rfl hrm.1 hrm.2 hd hR
theorem cw_s (S : CallFix p m c cc nL s args AL own) (cw : CWs own idx y bytes maxL ret) (hrm : rm.cells = 0 ∧ rm.slots = 0) (hd : y.cls ≠ "java/lang/invoke/MethodHandle" ∧ y.cls ≠ "java/lang/invoke/VarHandle" ∧ (parseMethodDescriptor y.desc).map (fun d => d.parameters.length) = some n) (hR : rm.frames + 1 ≤ R.frames ∧ 8 + (maxL + 11) + rm.locals ≤ R.locals) : CallB R s args own idx y bytes maxL ret (wm y bytes maxL ret) rm 0 0 n ∧ (Cond.static y).before args s = true :=
  va_cwS n S.2.2.2.2 (gd_S cw.1 cw.2.1 cw.2.2.1 cw.2.2.2) rfl hrm.1 hrm.2 hd hR
/-- a virtual call that reads alone: its run -/
theorem run_vP {Qc : Array Value → State → Outcome → State → Prop} (S : CallFix p m c cc nL s args AL own) (hK : va_K D vwCl tys s) (hP : va_P D vwCl w H) (hD : va_D A w) (hN : NW s)
    (hM : Met l y (wm y bytes maxL ret) rm (GPre D tys w (.ref b :: As) H.size) Qc 0 0 (fun _ => False)) (hr : ∃ cell : Cell, H[b]? = some cell ∧ cell.vm.isStatics = false ∧ s.vm.findClass C = some cell.cls)
    (cw : CWv own C idx y bytes maxL ret) (hrm : rm.cells = 0 ∧ rm.slots = 0) (hd : y.cls = C ∧ y.cls ≠ "java/lang/invoke/MethodHandle" ∧ y.cls ≠ "java/lang/invoke/VarHandle" ∧ (parseMethodDescriptor y.desc).map (fun d => d.parameters.length) = some n) (hR : rm.frames + 1 ≤ R.frames ∧ 8 + (maxL + 11) + rm.locals ≤ R.locals)
    (hn : As.length = n) (hsz : ls.size = nL) (hst : st0 = As.reverse ++ .ref b :: rest) (hcat : (rest.map fun v => v.category).sum ≤ 8) (hdg : decode cc pc = .ok (.invokevirtual idx, 3)) (hf : cells ≤ R.cells ∧ slots ≤ R.slots) :
    CallRun p l e R s m args below meth c H locs cells slots 0 0 (F0 m pc ls st0) rest (Qc (Value.ref b :: As).toArray) (fun _ => False) :=
  W.runV S hM (cw_v S cw hrm hd hR) ⟨GPre_blind, hr, GPre_U hK hP hD hN⟩ rfl hn hsz hst (lv_room hcat) hdg hf
theorem run_sP {Qc : Array Value → State → Outcome → State → Prop} (S : CallFix p m c cc nL s args AL own) (hN : NW s)
    (hM : Met l y (wm y bytes maxL ret) rm (SPre As) Qc 0 0 (fun _ => False))
    (cw : CWs own idx y bytes maxL ret) (hrm : rm.cells = 0 ∧ rm.slots = 0) (hd : y.cls ≠ "java/lang/invoke/MethodHandle" ∧ y.cls ≠ "java/lang/invoke/VarHandle" ∧ (parseMethodDescriptor y.desc).map (fun d => d.parameters.length) = some n) (hR : rm.frames + 1 ≤ R.frames ∧ 8 + (maxL + 11) + rm.locals ≤ R.locals)
    (hn : As.length = n) (hsz : ls.size = nL) (hst : st0 = As.reverse ++ rest) (hcat : (rest.map fun v => v.category).sum ≤ 8) (hdg : decode cc pc = .ok (.invokestatic idx, 3)) (hf : cells ≤ R.cells ∧ slots ≤ R.slots) :
    CallRun p l e R s m args below meth c H locs cells slots 0 0 (F0 m pc ls st0) rest (Qc As.toArray) (fun _ => False) :=
  W.runS S hM (cw_s S cw hrm hd hR) ⟨SPre_blind, fun U _ hW => ⟨rfl, NW_warm hW hN⟩⟩ rfl hn hsz hst (lv_room hcat) hdg hf
theorem run_nP {Qc : Array Value → State → Outcome → State → Prop} (S : CallFix p m c cc nL s args AL own) (hN : NW s)
    (hM : Met l y (wm y bytes maxL ret) rm (SPre As) Qc 0 0 (fun _ => False))
    (cw : CWn own idx y bytes maxL ret) (hrm : rm.cells = 0 ∧ rm.slots = 0) (hd : y.cls ≠ "java/lang/invoke/MethodHandle" ∧ y.cls ≠ "java/lang/invoke/VarHandle" ∧ (parseMethodDescriptor y.desc).map (fun d => d.parameters.length) = some n) (hR : rm.frames + 1 ≤ R.frames ∧ 8 + (maxL + 11) + rm.locals ≤ R.locals)
    (hn : As.length = n) (hsz : ls.size = nL) (hst : st0 = As.reverse ++ rest) (hcat : (rest.map fun v => v.category).sum ≤ 8) (hdg : decode cc pc = .ok (.invokestatic idx, 3)) (hf : cells ≤ R.cells ∧ slots ≤ R.slots) :
    CallRun p l e R s m args below meth c H locs cells slots 0 0 (F0 m pc ls st0) rest (Qc As.toArray) (fun _ => False) :=
  va_Run.run (va_runSN (host := "WindFrontiers") S hM ⟨va_cnB n S.2.2.2.2 (gd_wm (fun _ h => h) cw.2.2.2) rfl hrm.1 hrm.2 (hN.1 _ cw.1) (S.2.2.2.2 _ cw.2.2.1) hd hR, S.2.2.2.2 _ cw.2.1, trivial⟩ ⟨SPre_blind, fun U _ hW => ⟨rfl, NW_warm hW hN⟩⟩ rfl hn hsz hst (lv_room hcat) hdg hf)
theorem fr_A (hD : va_D A w) (hS : va_S A H0 H locs) (hA : ∀ q, H0.size ≤ q → A q) : ∀ q, va_A w H.size q → A q := by
  intro q h
  rcases h with ⟨k, e, h⟩ | h
  · exact hD.2 k (q, e) h
  · exact hA q (Nat.le_trans hS.1 h)
/-- a virtual call that changes the world -/
theorem run_vQ {Qc : Array Value → State → Outcome → State → Prop} (S : CallFix p m c cc nL s args AL own) (hK : va_K D vwCl tys s) (hP : va_P D vwCl w H) (hD : va_D A w) (hN : NW s)
    (hM : Met l y (wm y bytes maxL ret) rm (GPre D tys w (.ref b :: As) H.size) Qc 0 0 (va_A w H.size)) (hr : ∃ cell : Cell, H[b]? = some cell ∧ cell.vm.isStatics = false ∧ s.vm.findClass C = some cell.cls)
    (cw : CWv own C idx y bytes maxL ret) (hrm : rm.cells = 0 ∧ rm.slots = 0) (hd : y.cls = C ∧ y.cls ≠ "java/lang/invoke/MethodHandle" ∧ y.cls ≠ "java/lang/invoke/VarHandle" ∧ (parseMethodDescriptor y.desc).map (fun d => d.parameters.length) = some n) (hR : rm.frames + 1 ≤ R.frames ∧ 8 + (maxL + 11) + rm.locals ≤ R.locals)
    (hn : As.length = n) (hsz : ls.size = nL) (hst : st0 = As.reverse ++ .ref b :: rest) (hcat : (rest.map fun v => v.category).sum ≤ 8) (hdg : decode cc pc = .ok (.invokevirtual idx, 3)) (hf : cells ≤ R.cells ∧ slots ≤ R.slots) :
    va_Run p l e R s m args below meth c H locs cells slots 0 0 (F0 m pc ls st0) rest (Qc (Value.ref b :: As).toArray) (va_A w H.size) :=
  va_runV S hM (cw_v S cw hrm hd hR) ⟨GPre_blind, hr, GPre_U hK hP hD hN⟩ rfl hn hsz hst (lv_room hcat) hdg hf
theorem run_sQ {Qc : Array Value → State → Outcome → State → Prop} (S : CallFix p m c cc nL s args AL own) (hK : va_K D vwCl tys s) (hP : va_P D vwCl w H) (hD : va_D A w) (hN : NW s)
    (hM : Met l y (wm y bytes maxL ret) rm (GPre D tys w As H.size) Qc 0 0 (va_A w H.size))
    (cw : CWs own idx y bytes maxL ret) (hrm : rm.cells = 0 ∧ rm.slots = 0) (hd : y.cls ≠ "java/lang/invoke/MethodHandle" ∧ y.cls ≠ "java/lang/invoke/VarHandle" ∧ (parseMethodDescriptor y.desc).map (fun d => d.parameters.length) = some n) (hR : rm.frames + 1 ≤ R.frames ∧ 8 + (maxL + 11) + rm.locals ≤ R.locals)
    (hn : As.length = n) (hsz : ls.size = nL) (hst : st0 = As.reverse ++ rest) (hcat : (rest.map fun v => v.category).sum ≤ 8) (hdg : decode cc pc = .ok (.invokestatic idx, 3)) (hf : cells ≤ R.cells ∧ slots ≤ R.slots) :
    va_Run p l e R s m args below meth c H locs cells slots 0 0 (F0 m pc ls st0) rest (Qc As.toArray) (va_A w H.size) :=
  va_runS S hM (cw_s S cw hrm hd hR) ⟨GPre_blind, GPre_U hK hP hD hN⟩ rfl hn hsz hst (lv_room hcat) hdg hf
/-- behind a call that changes the world, with a number -/
theorem on_i {T : Type} {post : Int32 → T → Prop} {W1 : T → va_W} {a : Array Value} (hr : va_Run p l e R s m args below meth c H locs cells slots 0 0 (F0 m pc ls st0) rest (va_Qi post (fun u t => GAt D tys (va_A w H.size) (W1 u) t) (va_A w H.size) a) (va_A w H.size)) (hD : va_D A w) (hS : va_S A H0 H locs) (hA : ∀ q, H0.size ≤ q → A q)
    (kk : ∀ (r : Int32) (u : T) (H1 : Heap) (locs1 : List Loc), post r u → va_P D vwCl (W1 u) H1 → va_D A (W1 u) → va_S A H0 H1 locs1 → W p l e R s m args below meth c H1 locs1 cells slots Q (F0 m (pc + 3) ls (.int r :: rest))) : W p l e R s m args below meth c H locs cells slots Q (F0 m pc ls st0) := by
  refine va_calli hr hS (fun q _ h => fr_A hD hS hA q h) (fr_A hD hS hA) (fun r u t H1 locs1 ht hvm hp hB hz hk hS1 => ?_)
  obtain ⟨hP1, hK1, hD1⟩ := hB
  rw [ht] at hP1
  exact kk r u H1 locs1 hp hP1 (hD1.weaken (fun _ _ _ h => fr_A hD hS hA _ h)) hS1
theorem on_v {T : Type} {post : T → Prop} {W1 : T → va_W} {a : Array Value} (hr : va_Run p l e R s m args below meth c H locs cells slots 0 0 (F0 m pc ls st0) rest (va_Qv post (fun u t => GAt D tys (va_A w H.size) (W1 u) t) (va_A w H.size) a) (va_A w H.size)) (hD : va_D A w) (hS : va_S A H0 H locs) (hA : ∀ q, H0.size ≤ q → A q)
    (kk : ∀ (u : T) (H1 : Heap) (locs1 : List Loc), post u → va_P D vwCl (W1 u) H1 → va_D A (W1 u) → va_S A H0 H1 locs1 → W p l e R s m args below meth c H1 locs1 cells slots Q (F0 m (pc + 3) ls rest)) : W p l e R s m args below meth c H locs cells slots Q (F0 m pc ls st0) := by
  refine va_callv hr hS (fun q _ h => fr_A hD hS hA q h) (fr_A hD hS hA) (fun u t H1 locs1 ht hvm hp hB hz hk hS1 => ?_)
  obtain ⟨hP1, hK1, hD1⟩ := hB
  rw [ht] at hP1
  exact kk u H1 locs1 hp hP1 (hD1.weaken (fun _ _ _ h => fr_A hD hS hA _ h)) hS1
end CALL
def ush (x y : Int32) : Int32 := (x.toUInt32 >>> (y.toUInt32 &&& Int32.toUInt32 31)).toInt32
def rem (x y : Int32) : Int32 := x - x / y * y
def nm2 {α β γ : Type} (v : α × β) (k : α → β → γ) : γ := k v.1 v.2
def nm3 {α β γ δ : Type} (v : α × β × γ) (k : α → β → γ → δ) : δ := k v.1 v.2.1 v.2.2
def nm4 {α β γ δ ε : Type} (v : α × β × γ × δ) (k : α → β → γ → δ → ε) : ε := k v.1 v.2.1 v.2.2.1 v.2.2.2
def nm5 {α β γ δ ε ζ : Type} (v : α × β × γ × δ × ε) (k : α → β → γ → δ → ε → ζ) : ζ := k v.1 v.2.1 v.2.2.1 v.2.2.2.1 v.2.2.2.2
theorem nm2_u {α β γ : Type} {v : α × β} {a : α} {b : β} {k : α → β → γ} {T : γ} (e : (a, b) = v) (h : nm2 v k = T) : k a b = T := by subst e; exact h
theorem nm3_u {α β γ δ : Type} {v : α × β × γ} {a : α} {b : β} {c : γ} {k : α → β → γ → δ} {T : δ} (e : (a, b, c) = v) (h : nm3 v k = T) : k a b c = T := by subst e; exact h
theorem nm4_u {α β γ δ ε : Type} {v : α × β × γ × δ} {a : α} {b : β} {c : γ} {d : δ} {k : α → β → γ → δ → ε} {T : ε} (e : (a, b, c, d) = v) (h : nm4 v k = T) : k a b c d = T := by subst e; exact h
theorem nm5_u {α β γ δ ε ζ : Type} {v : α × β × γ × δ × ε} {a : α} {b : β} {c : γ} {d : δ} {f : ε} {k : α → β → γ → δ → ε → ζ} {T : ζ} (e : (a, b, c, d, f) = v) (h : nm5 v k = T) : k a b c d f = T := by subst e; exact h
theorem ix_of {x : Int32} {n : Nat} (h1 : 0 ≤ x.toInt) (h2 : x.toInt < n) : vp_in x n := vp_in_iff.mpr ⟨h1, h2⟩
theorem i0 {x : Int32} : 0 ≤ x ↔ 0 ≤ x.toInt := Int32.le_iff_toInt_le
theorem ms_up {i B : Int32} {n : Nat} (h : ¬ B ≤ i) (hm : (B.toInt - i.toInt).toNat < n + 1) : (B.toInt - (i + 1).toInt).toNat < n := by
  have h1 : i.toInt < B.toInt := by rw [Int32.le_iff_toInt_le] at h; omega
  have h2 : (i + 1).toInt = i.toInt + 1 := by
    rw [Int32.toInt_add]
    have := Int32.toInt_lt B
    have := Int32.le_toInt i
    show (i.toInt + 1).bmod (2 ^ 32) = _
    rw [Int.bmod_eq_of_le (by omega) (by omega)]
  omega
theorem ms_up2 {i B : Int32} {n : Nat} (h : i < B) (hm : (B.toInt - i.toInt).toNat < n + 1) : (B.toInt - (i + 1).toInt).toNat < n := ms_up (fun q => by rw [Int32.lt_iff_toInt_lt] at h; rw [Int32.le_iff_toInt_le] at q; omega) hm
theorem up1 {i B : Int32} (h : i < B) : (i + 1).toInt = i.toInt + 1 := by
  rw [Int32.toInt_add]
  rw [Int32.lt_iff_toInt_lt] at h
  have := Int32.toInt_lt B
  have := Int32.le_toInt i
  show (i.toInt + 1).bmod (2 ^ 32) = _
  rw [Int.bmod_eq_of_le (by omega) (by omega)]
theorem nle_lt {i B : Int32} (h : ¬ B ≤ i) : i < B := by rw [Int32.le_iff_toInt_le] at h; rw [Int32.lt_iff_toInt_lt]; omega
theorem up0 {i B : Int32} (h : ¬ B ≤ i) (h0 : 0 ≤ i.toInt) : 0 ≤ (i + 1).toInt := by rw [up1 (nle_lt h)]; omega
theorem ix_ge_nle {x : Int32} {N : Int32} {n : Nat} (h1 : 0 ≤ x) (h2 : ¬ N ≤ x) (hN : N.toInt = n := by rfl) : vp_in x n := ix_of (i0.mp h1) (by have := nle_lt h2; rw [Int32.lt_iff_toInt_lt] at this; omega)
theorem ix_ng_nle {x : Int32} {N : Int32} {n : Nat} (h1 : ¬ x < 0) (h2 : ¬ N ≤ x) (hN : N.toInt = n := by rfl) : vp_in x n := ix_of (by rw [Int32.lt_iff_toInt_lt] at h1; have : (0 : Int32).toInt = 0 := rfl; omega) (by have := nle_lt h2; rw [Int32.lt_iff_toInt_lt] at this; omega)
theorem ix_inv_nle {x : Int32} {N : Int32} {n : Nat} (h1 : 0 ≤ x.toInt) (h2 : ¬ N ≤ x) (hN : N.toInt = n := by rfl) : vp_in x n := ix_of h1 (by have := nle_lt h2; rw [Int32.lt_iff_toInt_lt] at this; omega)
theorem ix_ng_lt {x : Int32} {N : Int32} {n : Nat} (h1 : ¬ x < 0) (h2 : x < N) (hN : N.toInt = n := by rfl) : vp_in x n := ix_of (by rw [Int32.lt_iff_toInt_lt] at h1; have : (0 : Int32).toInt = 0 := rfl; omega) (by rw [Int32.lt_iff_toInt_lt] at h2; omega)
theorem ix_ge_lt {x : Int32} {N : Int32} {n : Nat} (h1 : 0 ≤ x) (h2 : x < N) (hN : N.toInt = n := by rfl) : vp_in x n := ix_of (i0.mp h1) (by rw [Int32.lt_iff_toInt_lt] at h2; omega)
theorem ix_inv_lt {x : Int32} {N : Int32} {n : Nat} (h1 : 0 ≤ x.toInt) (h2 : x < N) (hN : N.toInt = n := by rfl) : vp_in x n := ix_of h1 (by rw [Int32.lt_iff_toInt_lt] at h2; omega)
section REM
variable {p : Program} {l : Launch} {e : Env} {R : Room} {s : State} {m : MethodId} {args : Array Value} {below : List Frame} {meth : Method} {c : Code} {H : Heap} {locs : List Loc} {cells slots : Nat} {Q : State → Prop} {cc : ByteArray} {pc : Nat} {ls : Array Slot} {rest : List Value}
theorem lv_rem (hexec : p.tables.exec = Jvm.exec) (hb : c.code = cc) {x y : Int32} (hdg : decode cc pc = .ok (.irem, 1)) (hne : ¬ y = 0) (k : W p l e R s m args below meth c H locs cells slots Q (F0 m (pc + 1) ls (.int (rem x y) :: rest))) : W p l e R s m args below meth c H locs cells slots Q (F0 m pc ls (.int y :: .int x :: rest)) := lv_irem hexec hb hdg hne k
end REM
theorem nw_0 : Cond.methodLinkNest RX6 11 yX1_init "WindFrontiers" ∈ NWl := List.mem_of_getElem? (i := 0) rfl
theorem nw_1 : Cond.methodLinkNest RX1 11 yX5_init "WindFrontiers" ∈ NWl := List.mem_of_getElem? (i := 1) rfl
theorem nw_2 : Cond.methodLinkNest RX1 20 yX4_init "WindFrontiers" ∈ NWl := List.mem_of_getElem? (i := 2) rfl
theorem nw_3 : Cond.methodLinkNest RX3 11 yX4_init "WindFrontiers" ∈ NWl := List.mem_of_getElem? (i := 3) rfl
theorem nw_4 : Cond.methodLinkNest RX6 43 yX2_init "WindFrontiers" ∈ NWl := List.mem_of_getElem? (i := 4) rfl
theorem nw_5 : Cond.methodLinkNest RX6 50 yX0_init "WindFrontiers" ∈ NWl := List.mem_of_getElem? (i := 5) rfl
theorem nw_6 : Cond.methodLinkNest RX1 98 yX6_bitOf "WindFrontiers" ∈ NWl := List.mem_of_getElem? (i := 6) rfl
theorem nw_7 : Cond.methodLinkNest RX4 39 yX6_isWithin "WindFrontiers" ∈ NWl := List.mem_of_getElem? (i := 7) rfl
theorem nw_8 : Cond.methodLinkNest RX4 77 yX6_oneIf "WindFrontiers" ∈ NWl := List.mem_of_getElem? (i := 8) rfl
theorem nw_9 : Cond.methodLinkNest RX0 40 yX6_bitOf "WindFrontiers" ∈ NWl := List.mem_of_getElem? (i := 9) rfl
end
section
theorem hv_J6_bitCount_0f7a4 : yJ6_bitCount_0f7a4.cls = RJ6 ∧ yJ6_bitCount_0f7a4.cls ≠ "java/lang/invoke/MethodHandle" ∧ yJ6_bitCount_0f7a4.cls ≠ "java/lang/invoke/VarHandle" ∧ (parseMethodDescriptor yJ6_bitCount_0f7a4.desc).map (fun d => d.parameters.length) = some 1 := by decide +kernel
theorem hd_J6_bitCount_0f7a4 : yJ6_bitCount_0f7a4.cls ≠ "java/lang/invoke/MethodHandle" ∧ yJ6_bitCount_0f7a4.cls ≠ "java/lang/invoke/VarHandle" ∧ (parseMethodDescriptor yJ6_bitCount_0f7a4.desc).map (fun d => d.parameters.length) = some 1 := hv_J6_bitCount_0f7a4.2
def sp_J6_bitCount_0f7a4 (x1 : Int32) : Int32 :=
  nm (x1 - ((ush x1 (1 : Int32)) &&& (1431655765 : Int32))) (fun y_1 => nm ((y_1 &&& (858993459 : Int32)) + ((ush y_1 (2 : Int32)) &&& (858993459 : Int32))) (fun y_2 => nm ((y_2 + (ush y_2 (4 : Int32))) &&& (252645135 : Int32)) (fun y_3 => nm ((y_3 + (ush y_3 (8 : Int32))) + (ush (y_3 + (ush y_3 (8 : Int32))) (16 : Int32))) (fun y_4 => y_4 &&& (63 : Int32)))))
theorem sp_J6_bitCount_0f7a4_s (x1 : Int32) : (nm (x1 - ((ush x1 (1 : Int32)) &&& (1431655765 : Int32))) (fun y_1 => nm ((y_1 &&& (858993459 : Int32)) + ((ush y_1 (2 : Int32)) &&& (858993459 : Int32))) (fun y_2 => nm ((y_2 + (ush y_2 (4 : Int32))) &&& (252645135 : Int32)) (fun y_3 => nm ((y_3 + (ush y_3 (8 : Int32))) + (ush (y_3 + (ush y_3 (8 : Int32))) (16 : Int32))) (fun y_4 => y_4 &&& (63 : Int32)))))) = sp_J6_bitCount_0f7a4 x1 := rfl
set_option maxHeartbeats 4000000 in
set_option maxRecDepth 100000 in
theorem c_J6_bitCount_0f7a4 {l : Launch} {x1 : Int32}  : Met l yJ6_bitCount_0f7a4 (wm yJ6_bitCount_0f7a4 cJ6_bitCount_0f7a4 1 (some .int)) ({ frames := 0, cells := 0, slots := 0, locals := 0 } : Room) (SPre [.int x1]) (vp_Si (fun r => r = sp_J6_bitCount_0f7a4 x1)) 0 0 (fun _ => False) := by
  refine metS_i (post := (fun r => r = sp_J6_bitCount_0f7a4 x1)) (by decide) (Nat.le_of_ble_eq_true rfl) ?_
  intro p e s m args below meth c ls Q C hN hl hret
  have hx := C.1
  have hb := C.2.1
  have hl : lv_has ls 1 [(0, .int x1)] := hl
  have hT := sp_J6_bitCount_0f7a4_s x1
  refine lv_iload_n hx hb dJ6_bitCount_0f7a4_0 rfl (lv_at hl 0 rfl) ?_
  refine lv_iload_n hx hb dJ6_bitCount_0f7a4_1 rfl (lv_at hl 0 rfl) ?_
  refine lv_iconst (v := 1) hx hb dJ6_bitCount_0f7a4_2 (by decide) ?_
  refine lv_iushr (v := ush x1 (1 : Int32)) hx hb dJ6_bitCount_0f7a4_3 rfl ?_
  refine lv_ldcw hx hb C.2.2.2.1 (C.2.2.2.2 _ wd_2_106) dJ6_bitCount_0f7a4_4 ?_
  refine lv_iand hx hb dJ6_bitCount_0f7a4_7 ?_
  refine lv_isub hx hb dJ6_bitCount_0f7a4_8 ?_
  refine lv_topi (fun y_1 ey_1 => ?_)
  have hT := nm_u ey_1 hT
  refine lv_istore_n (lv' := [(0, .int y_1)]) hx hb dJ6_bitCount_0f7a4_9 rfl hl (by decide) rfl (fun ls hl => ?_)
  refine lv_iload_n hx hb dJ6_bitCount_0f7a4_10 rfl (lv_at hl 0 rfl) ?_
  refine lv_ldcw hx hb C.2.2.2.1 (C.2.2.2.2 _ wd_2_107) dJ6_bitCount_0f7a4_11 ?_
  refine lv_iand hx hb dJ6_bitCount_0f7a4_14 ?_
  refine lv_iload_n hx hb dJ6_bitCount_0f7a4_15 rfl (lv_at hl 0 rfl) ?_
  refine lv_iconst (v := 2) hx hb dJ6_bitCount_0f7a4_16 (by decide) ?_
  refine lv_iushr (v := ush y_1 (2 : Int32)) hx hb dJ6_bitCount_0f7a4_17 rfl ?_
  refine lv_ldcw hx hb C.2.2.2.1 (C.2.2.2.2 _ wd_2_107) dJ6_bitCount_0f7a4_18 ?_
  refine lv_iand hx hb dJ6_bitCount_0f7a4_21 ?_
  refine lv_iadd hx hb dJ6_bitCount_0f7a4_22 ?_
  refine lv_topi (fun y_2 ey_2 => ?_)
  have hT := nm_u ey_2 hT
  refine lv_istore_n (lv' := [(0, .int y_2)]) hx hb dJ6_bitCount_0f7a4_23 rfl hl (by decide) rfl (fun ls hl => ?_)
  refine lv_iload_n hx hb dJ6_bitCount_0f7a4_24 rfl (lv_at hl 0 rfl) ?_
  refine lv_iload_n hx hb dJ6_bitCount_0f7a4_25 rfl (lv_at hl 0 rfl) ?_
  refine lv_iconst (v := 4) hx hb dJ6_bitCount_0f7a4_26 (by decide) ?_
  refine lv_iushr (v := ush y_2 (4 : Int32)) hx hb dJ6_bitCount_0f7a4_27 rfl ?_
  refine lv_iadd hx hb dJ6_bitCount_0f7a4_28 ?_
  refine lv_ldcw hx hb C.2.2.2.1 (C.2.2.2.2 _ wd_2_108) dJ6_bitCount_0f7a4_29 ?_
  refine lv_iand hx hb dJ6_bitCount_0f7a4_32 ?_
  refine lv_topi (fun y_3 ey_3 => ?_)
  have hT := nm_u ey_3 hT
  refine lv_istore_n (lv' := [(0, .int y_3)]) hx hb dJ6_bitCount_0f7a4_33 rfl hl (by decide) rfl (fun ls hl => ?_)
  refine lv_iload_n hx hb dJ6_bitCount_0f7a4_34 rfl (lv_at hl 0 rfl) ?_
  refine lv_iload_n hx hb dJ6_bitCount_0f7a4_35 rfl (lv_at hl 0 rfl) ?_
  refine lv_bipush (v := 8) hx hb dJ6_bitCount_0f7a4_36 (by decide) ?_
  refine lv_iushr (v := ush y_3 (8 : Int32)) hx hb dJ6_bitCount_0f7a4_38 rfl ?_
  refine lv_iadd hx hb dJ6_bitCount_0f7a4_39 ?_
  refine lv_istore_n (lv' := [(0, .int (y_3 + (ush y_3 (8 : Int32))))]) hx hb dJ6_bitCount_0f7a4_40 rfl hl (by decide) rfl (fun ls hl => ?_)
  refine lv_iload_n hx hb dJ6_bitCount_0f7a4_41 rfl (lv_at hl 0 rfl) ?_
  refine lv_iload_n hx hb dJ6_bitCount_0f7a4_42 rfl (lv_at hl 0 rfl) ?_
  refine lv_bipush (v := 16) hx hb dJ6_bitCount_0f7a4_43 (by decide) ?_
  refine lv_iushr (v := ush (y_3 + (ush y_3 (8 : Int32))) (16 : Int32)) hx hb dJ6_bitCount_0f7a4_45 rfl ?_
  refine lv_iadd hx hb dJ6_bitCount_0f7a4_46 ?_
  refine lv_topi (fun y_4 ey_4 => ?_)
  have hT := nm_u ey_4 hT
  refine lv_istore_n (lv' := [(0, .int y_4)]) hx hb dJ6_bitCount_0f7a4_47 rfl hl (by decide) rfl (fun ls hl => ?_)
  refine lv_iload_n hx hb dJ6_bitCount_0f7a4_48 rfl (lv_at hl 0 rfl) ?_
  refine lv_bipush (v := 63) hx hb dJ6_bitCount_0f7a4_49 (by decide) ?_
  refine lv_iand hx hb dJ6_bitCount_0f7a4_51 ?_
  exact hret _ _ _ hT dJ6_bitCount_0f7a4_52
theorem hv_X6_isWithin : yX6_isWithin.cls = RX6 ∧ yX6_isWithin.cls ≠ "java/lang/invoke/MethodHandle" ∧ yX6_isWithin.cls ≠ "java/lang/invoke/VarHandle" ∧ (parseMethodDescriptor yX6_isWithin.desc).map (fun d => d.parameters.length) = some 2 := by decide +kernel
theorem hd_X6_isWithin : yX6_isWithin.cls ≠ "java/lang/invoke/MethodHandle" ∧ yX6_isWithin.cls ≠ "java/lang/invoke/VarHandle" ∧ (parseMethodDescriptor yX6_isWithin.desc).map (fun d => d.parameters.length) = some 2 := hv_X6_isWithin.2
def sp_X6_isWithin (x1 : Int32) (x2 : Int32) : Int32 :=
  if x1 < 0 then (0 : Int32) else (if x2 < x1 then (0 : Int32) else (1 : Int32))
theorem sp_X6_isWithin_s (x1 : Int32) (x2 : Int32) : (if x1 < 0 then (0 : Int32) else (if x2 < x1 then (0 : Int32) else (1 : Int32))) = sp_X6_isWithin x1 x2 := rfl
set_option maxHeartbeats 4000000 in
set_option maxRecDepth 100000 in
theorem c_X6_isWithin {l : Launch} {x1 : Int32} {x2 : Int32}  : Met l yX6_isWithin (wm yX6_isWithin cX6_isWithin 2 (some .boolean)) ({ frames := 0, cells := 0, slots := 0, locals := 0 } : Room) (SPre [.int x1, .int x2]) (vp_Si (fun r => r = sp_X6_isWithin x1 x2 ∧ (r = 0 ∨ r = 1))) 0 0 (fun _ => False) := by
  refine metS_z (post := (fun r => r = sp_X6_isWithin x1 x2)) (by decide) (Nat.le_of_ble_eq_true rfl) ?_
  intro p e s m args below meth c ls Q C hN hl hret
  have hx := C.1
  have hb := C.2.1
  have hl : lv_has ls 2 [(0, .int x1), (1, .int x2)] := hl
  have hT := sp_X6_isWithin_s x1 x2
  refine lv_iload_n hx hb dX6_isWithin_0 rfl (lv_at hl 0 rfl) ?_
  refine lv_if_lt (tgt := 13) hx hb dX6_isWithin_1 (by decide) (fun c_1 => ?_) (fun c_1 => ?_)
  · have hT := it_t c_1 hT
    refine lv_iconst (v := 0) hx hb dX6_isWithin_13 (by decide) ?_
    exact hret _ _ _ ⟨hT, (Or.inl rfl)⟩ dX6_isWithin_14
  · have hT := it_f c_1 hT
    refine lv_iload_n hx hb dX6_isWithin_4 rfl (lv_at hl 0 rfl) ?_
    refine lv_iload_n hx hb dX6_isWithin_5 rfl (lv_at hl 1 rfl) ?_
    refine lv_icmp_gt (tgt := 13) hx hb dX6_isWithin_6 (by decide) (fun c_2 => ?_) (fun c_2 => ?_)
    · have hT := it_t c_2 hT
      refine lv_iconst (v := 0) hx hb dX6_isWithin_13 (by decide) ?_
      exact hret _ _ _ ⟨hT, (Or.inl rfl)⟩ dX6_isWithin_14
    · have hT := it_f c_2 hT
      refine lv_iconst (v := 1) hx hb dX6_isWithin_9 (by decide) ?_
      refine lv_goto (tgt := 14) hx hb dX6_isWithin_10 (by decide) ?_
      exact hret _ _ _ ⟨hT, (Or.inr rfl)⟩ dX6_isWithin_14
theorem hv_X6_isFamily : yX6_isFamily.cls = RX6 ∧ yX6_isFamily.cls ≠ "java/lang/invoke/MethodHandle" ∧ yX6_isFamily.cls ≠ "java/lang/invoke/VarHandle" ∧ (parseMethodDescriptor yX6_isFamily.desc).map (fun d => d.parameters.length) = some 1 := by decide +kernel
theorem hd_X6_isFamily : yX6_isFamily.cls ≠ "java/lang/invoke/MethodHandle" ∧ yX6_isFamily.cls ≠ "java/lang/invoke/VarHandle" ∧ (parseMethodDescriptor yX6_isFamily.desc).map (fun d => d.parameters.length) = some 1 := hv_X6_isFamily.2
def sp_X6_isFamily (x1 : Int32) : Int32 :=
  nm (sp_X6_isWithin x1 (4 : Int32)) (fun r_1 => r_1)
theorem sp_X6_isFamily_s (x1 : Int32) : (nm (sp_X6_isWithin x1 (4 : Int32)) (fun r_1 => r_1)) = sp_X6_isFamily x1 := rfl
set_option maxHeartbeats 4000000 in
set_option maxRecDepth 100000 in
theorem c_X6_isFamily {l : Launch} {x1 : Int32}  : Met l yX6_isFamily (wm yX6_isFamily cX6_isFamily 1 (some .boolean)) ({ frames := 1, cells := 0, slots := 0, locals := 21 } : Room) (SPre [.int x1]) (vp_Si (fun r => r = sp_X6_isFamily x1 ∧ (r = 0 ∨ r = 1))) 0 0 (fun _ => False) := by
  refine metS_z (post := (fun r => r = sp_X6_isFamily x1)) (by decide) (Nat.le_of_ble_eq_true rfl) ?_
  intro p e s m args below meth c ls Q C hN hl hret
  have hx := C.1
  have hb := C.2.1
  have hl : lv_has ls 1 [(0, .int x1)] := hl
  have hT := sp_X6_isFamily_s x1
  refine lv_iload_n hx hb dX6_isFamily_0 rfl (lv_at hl 0 rfl) ?_
  refine lv_iconst (v := 4) hx hb dX6_isFamily_1 (by decide) ?_
  refine vp_callSi (run_sP (As := [.int x1, .int (4 : Int32)]) (rest := []) C hN (c_X6_isWithin) ⟨wd_1_188, wd_1_189, wd_1_1, wd_1_190⟩ ⟨rfl, rfl⟩ hd_X6_isWithin ⟨Nat.le_of_ble_eq_true rfl, Nat.le_of_ble_eq_true rfl⟩ rfl hl.1 rfl (Nat.le_of_ble_eq_true rfl) dX6_isFamily_2 ⟨Nat.zero_le _, Nat.zero_le _⟩) (fun r_1 hr_1 => ?_)
  have hT := nm_u hr_1.1 hT
  exact hret _ _ _ ⟨hT, hr_1.2⟩ dX6_isFamily_5
theorem hv_X6_oneIf : yX6_oneIf.cls = RX6 ∧ yX6_oneIf.cls ≠ "java/lang/invoke/MethodHandle" ∧ yX6_oneIf.cls ≠ "java/lang/invoke/VarHandle" ∧ (parseMethodDescriptor yX6_oneIf.desc).map (fun d => d.parameters.length) = some 1 := by decide +kernel
theorem hd_X6_oneIf : yX6_oneIf.cls ≠ "java/lang/invoke/MethodHandle" ∧ yX6_oneIf.cls ≠ "java/lang/invoke/VarHandle" ∧ (parseMethodDescriptor yX6_oneIf.desc).map (fun d => d.parameters.length) = some 1 := hv_X6_oneIf.2
def sp_X6_oneIf (x1 : Int32) : Int32 :=
  if x1 = 0 then (0 : Int32) else (1 : Int32)
theorem sp_X6_oneIf_s (x1 : Int32) : (if x1 = 0 then (0 : Int32) else (1 : Int32)) = sp_X6_oneIf x1 := rfl
set_option maxHeartbeats 4000000 in
set_option maxRecDepth 100000 in
theorem c_X6_oneIf {l : Launch} {x1 : Int32}  : Met l yX6_oneIf (wm yX6_oneIf cX6_oneIf 1 (some .int)) ({ frames := 0, cells := 0, slots := 0, locals := 0 } : Room) (SPre [.int x1]) (vp_Si (fun r => r = sp_X6_oneIf x1)) 0 0 (fun _ => False) := by
  refine metS_i (post := (fun r => r = sp_X6_oneIf x1)) (by decide) (Nat.le_of_ble_eq_true rfl) ?_
  intro p e s m args below meth c ls Q C hN hl hret
  have hx := C.1
  have hb := C.2.1
  have hl : lv_has ls 1 [(0, .int x1)] := hl
  have hT := sp_X6_oneIf_s x1
  refine lv_iload_n hx hb dX6_oneIf_0 rfl (lv_at hl 0 rfl) ?_
  refine lv_if_eq (tgt := 8) hx hb dX6_oneIf_1 (by decide) (fun c_1 => ?_) (fun c_1 => ?_)
  · have hT := it_t c_1 hT
    refine lv_iconst (v := 0) hx hb dX6_oneIf_8 (by decide) ?_
    exact hret _ _ _ hT dX6_oneIf_9
  · have hT := it_f c_1 hT
    refine lv_iconst (v := 1) hx hb dX6_oneIf_4 (by decide) ?_
    refine lv_goto (tgt := 9) hx hb dX6_oneIf_5 (by decide) ?_
    exact hret _ _ _ hT dX6_oneIf_9
theorem hv_X6_bitOf : yX6_bitOf.cls = RX6 ∧ yX6_bitOf.cls ≠ "java/lang/invoke/MethodHandle" ∧ yX6_bitOf.cls ≠ "java/lang/invoke/VarHandle" ∧ (parseMethodDescriptor yX6_bitOf.desc).map (fun d => d.parameters.length) = some 2 := by decide +kernel
theorem hd_X6_bitOf : yX6_bitOf.cls ≠ "java/lang/invoke/MethodHandle" ∧ yX6_bitOf.cls ≠ "java/lang/invoke/VarHandle" ∧ (parseMethodDescriptor yX6_bitOf.desc).map (fun d => d.parameters.length) = some 2 := hv_X6_bitOf.2
def sp_X6_bitOf (x1 : Int32) (x2 : Int32) : Int32 :=
  (1 : Int32) <<< ((((5 : Int32) * x2) + x1) &&& 31)
theorem sp_X6_bitOf_s (x1 : Int32) (x2 : Int32) : ((1 : Int32) <<< ((((5 : Int32) * x2) + x1) &&& 31)) = sp_X6_bitOf x1 x2 := rfl
set_option maxHeartbeats 4000000 in
set_option maxRecDepth 100000 in
theorem c_X6_bitOf {l : Launch} {x1 : Int32} {x2 : Int32}  : Met l yX6_bitOf (wm yX6_bitOf cX6_bitOf 2 (some .int)) ({ frames := 0, cells := 0, slots := 0, locals := 0 } : Room) (SPre [.int x1, .int x2]) (vp_Si (fun r => r = sp_X6_bitOf x1 x2)) 0 0 (fun _ => False) := by
  refine metS_i (post := (fun r => r = sp_X6_bitOf x1 x2)) (by decide) (Nat.le_of_ble_eq_true rfl) ?_
  intro p e s m args below meth c ls Q C hN hl hret
  have hx := C.1
  have hb := C.2.1
  have hl : lv_has ls 2 [(0, .int x1), (1, .int x2)] := hl
  have hT := sp_X6_bitOf_s x1 x2
  refine lv_iconst (v := 1) hx hb dX6_bitOf_0 (by decide) ?_
  refine lv_iconst (v := 5) hx hb dX6_bitOf_1 (by decide) ?_
  refine lv_iload_n hx hb dX6_bitOf_2 rfl (lv_at hl 1 rfl) ?_
  refine lv_imul hx hb dX6_bitOf_3 ?_
  refine lv_iload_n hx hb dX6_bitOf_4 rfl (lv_at hl 0 rfl) ?_
  refine lv_iadd hx hb dX6_bitOf_5 ?_
  refine lv_ishl hx hb dX6_bitOf_6 ?_
  exact hret _ _ _ hT dX6_bitOf_7
theorem hv_X6_inLeastTerms : yX6_inLeastTerms.cls = RX6 ∧ yX6_inLeastTerms.cls ≠ "java/lang/invoke/MethodHandle" ∧ yX6_inLeastTerms.cls ≠ "java/lang/invoke/VarHandle" ∧ (parseMethodDescriptor yX6_inLeastTerms.desc).map (fun d => d.parameters.length) = some 3 := by decide +kernel
theorem hd_X6_inLeastTerms : yX6_inLeastTerms.cls ≠ "java/lang/invoke/MethodHandle" ∧ yX6_inLeastTerms.cls ≠ "java/lang/invoke/VarHandle" ∧ (parseMethodDescriptor yX6_inLeastTerms.desc).map (fun d => d.parameters.length) = some 3 := hv_X6_inLeastTerms.2
def jn_X6_inLeastTerms_38 (rec_8 : Int32 → Int32 → Int32 → Int32 × Int32) (y_3 : Int32) (w_7 : Int32) (w_8 : Int32) : Int32 × Int32 :=
  if (rem w_7 (5 : Int32)) = 0 then (if (rem w_8 (5 : Int32)) = 0 then (rec_8 (w_7 / (5 : Int32)) (w_8 / (5 : Int32)) (y_3 + 1)) else (rec_8 w_7 w_8 (y_3 + 1))) else (rec_8 w_7 w_8 (y_3 + 1))
theorem jn_X6_inLeastTerms_38_s (rec_8 : Int32 → Int32 → Int32 → Int32 × Int32) (y_3 : Int32) (w_7 : Int32) (w_8 : Int32) : (if (rem w_7 (5 : Int32)) = 0 then (if (rem w_8 (5 : Int32)) = 0 then (rec_8 (w_7 / (5 : Int32)) (w_8 / (5 : Int32)) (y_3 + 1)) else (rec_8 w_7 w_8 (y_3 + 1))) else (rec_8 w_7 w_8 (y_3 + 1))) = jn_X6_inLeastTerms_38 rec_8 y_3 w_7 w_8 := rfl
def lp_X6_inLeastTerms_8 : Nat → Int32 → Int32 → Int32 → Int32 × Int32
  | 0, y_1, y_2, y_3 => (y_1, y_2)
  | n + 1, y_1, y_2, y_3 => if (6 : Int32) ≤ y_3 then (y_1, y_2) else (if (rem y_1 (2 : Int32)) = 0 then (if (rem y_2 (2 : Int32)) = 0 then (jn_X6_inLeastTerms_38 (lp_X6_inLeastTerms_8 n) y_3 (y_1 / (2 : Int32)) (y_2 / (2 : Int32))) else (jn_X6_inLeastTerms_38 (lp_X6_inLeastTerms_8 n) y_3 y_1 y_2)) else (jn_X6_inLeastTerms_38 (lp_X6_inLeastTerms_8 n) y_3 y_1 y_2))
theorem lp_X6_inLeastTerms_8_s (n : Nat) (y_1 : Int32) (y_2 : Int32) (y_3 : Int32) : (if (6 : Int32) ≤ y_3 then (y_1, y_2) else (if (rem y_1 (2 : Int32)) = 0 then (if (rem y_2 (2 : Int32)) = 0 then (jn_X6_inLeastTerms_38 (lp_X6_inLeastTerms_8 n) y_3 (y_1 / (2 : Int32)) (y_2 / (2 : Int32))) else (jn_X6_inLeastTerms_38 (lp_X6_inLeastTerms_8 n) y_3 y_1 y_2)) else (jn_X6_inLeastTerms_38 (lp_X6_inLeastTerms_8 n) y_3 y_1 y_2))) = lp_X6_inLeastTerms_8 (n + 1) y_1 y_2 y_3 := rfl
def sp_X6_inLeastTerms (x1 : Int32) (x2 : Int32) (x3 : Int32) : Int32 :=
  nm2 (lp_X6_inLeastTerms_8 (((6 : Int32).toInt - (0 : Int32).toInt).toNat + 1) x1 x2 (0 : Int32)) (fun e_4 e_5 => if x3 = 0 then e_4 else e_5)
theorem sp_X6_inLeastTerms_s (x1 : Int32) (x2 : Int32) (x3 : Int32) : (nm2 (lp_X6_inLeastTerms_8 (((6 : Int32).toInt - (0 : Int32).toInt).toNat + 1) x1 x2 (0 : Int32)) (fun e_4 e_5 => if x3 = 0 then e_4 else e_5)) = sp_X6_inLeastTerms x1 x2 x3 := rfl
set_option maxHeartbeats 4000000 in
set_option maxRecDepth 100000 in
theorem c_X6_inLeastTerms {l : Launch} {x1 : Int32} {x2 : Int32} {x3 : Int32}  : Met l yX6_inLeastTerms (wm yX6_inLeastTerms cX6_inLeastTerms 6 (some .int)) ({ frames := 0, cells := 0, slots := 0, locals := 0 } : Room) (SPre [.int x1, .int x2, .int x3]) (vp_Si (fun r => r = sp_X6_inLeastTerms x1 x2 x3)) 0 0 (fun _ => False) := by
  refine metS_i (post := (fun r => r = sp_X6_inLeastTerms x1 x2 x3)) (by decide) (Nat.le_of_ble_eq_true rfl) ?_
  intro p e s m args below meth c ls Q C hN hl hret
  have hx := C.1
  have hb := C.2.1
  have hl : lv_has ls 6 [(0, .int x1), (1, .int x2), (2, .int x3)] := hl
  have hT := sp_X6_inLeastTerms_s x1 x2 x3
  refine lv_iload_n hx hb dX6_inLeastTerms_0 rfl (lv_at hl 0 rfl) ?_
  refine lv_istore_n (lv' := [(3, .int x1), (0, .int x1), (1, .int x2), (2, .int x3)]) hx hb dX6_inLeastTerms_1 rfl hl (by decide) rfl (fun ls hl => ?_)
  refine lv_iload_n hx hb dX6_inLeastTerms_2 rfl (lv_at hl 2 rfl) ?_
  refine lv_istore (lv' := [(4, .int x2), (3, .int x1), (0, .int x1), (1, .int x2), (2, .int x3)]) hx hb dX6_inLeastTerms_3 hl (by decide) rfl (fun ls hl => ?_)
  refine lv_iconst (v := 0) hx hb dX6_inLeastTerms_5 (by decide) ?_
  refine lv_istore (lv' := [(5, .int (0 : Int32)), (4, .int x2), (3, .int x1), (0, .int x1), (1, .int x2), (2, .int x3)]) hx hb dX6_inLeastTerms_6 hl (by decide) rfl (fun ls hl => ?_)
  have L_8 : ∀ (n : Nat) (ls : Array Slot) (y_1 : Int32) (y_2 : Int32) (y_3 : Int32) (hm : ((6 : Int32).toInt - y_3.toInt).toNat < n) (hl : lv_has ls 6 [(2, .int x3), (3, .int y_1), (4, .int y_2), (5, .int y_3)]) (kont : ∀ (ls : Array Slot) (e_4 : Int32) (e_5 : Int32), lv_has ls 6 [(2, .int x3), (3, .int e_4), (4, .int e_5)] → (e_4, e_5) = lp_X6_inLeastTerms_8 n y_1 y_2 y_3 → W p l e ({ frames := 0, cells := 0, slots := 0, locals := 0 } : Room) s m args below meth c s.heap [] 0 0 Q (F0 m 67 ls [])), W p l e ({ frames := 0, cells := 0, slots := 0, locals := 0 } : Room) s m args below meth c s.heap [] 0 0 Q (F0 m 8 ls []) := by
    intro n
    induction n with
    | zero => intro ls y_1 y_2 y_3 hm; exact absurd hm (Nat.not_lt_zero _)
    | succ n ih =>
      intro ls y_1 y_2 y_3 hm hl kont
      have hT := lp_X6_inLeastTerms_8_s n y_1 y_2 y_3
      refine lv_iload hx hb dX6_inLeastTerms_8 (lv_at hl 3 rfl) ?_
      refine lv_bipush (v := 6) hx hb dX6_inLeastTerms_10 (by decide) ?_
      refine lv_icmp_ge (tgt := 67) hx hb dX6_inLeastTerms_12 (by decide) (fun c_6 => ?_) (fun c_6 => ?_)
      · have hT := it_t c_6 hT
        exact kont ls y_1 y_2 (lv_sub hl [0, 1, 2] rfl) hT
      · have hT := it_f c_6 hT
        refine lv_iload_n hx hb dX6_inLeastTerms_15 rfl (lv_at hl 1 rfl) ?_
        refine lv_iconst (v := 2) hx hb dX6_inLeastTerms_16 (by decide) ?_
        refine lv_rem hx hb dX6_inLeastTerms_17 (by decide) ?_
        have K_38 : ∀ (ls : Array Slot) (w_7 : Int32) (w_8 : Int32) (hl : lv_has ls 6 [(2, .int x3), (3, .int w_7), (4, .int w_8), (5, .int y_3)]) (hT0 : jn_X6_inLeastTerms_38 (lp_X6_inLeastTerms_8 n) y_3 w_7 w_8 = (lp_X6_inLeastTerms_8 (n + 1) y_1 y_2 y_3)), W p l e ({ frames := 0, cells := 0, slots := 0, locals := 0 } : Room) s m args below meth c s.heap [] 0 0 Q (F0 m 38 ls []) := by
          intro ls w_7 w_8 hl hT0
          have hT := (jn_X6_inLeastTerms_38_s (lp_X6_inLeastTerms_8 n) y_3 w_7 w_8).trans hT0
          refine lv_iload_n hx hb dX6_inLeastTerms_38 rfl (lv_at hl 1 rfl) ?_
          refine lv_iconst (v := 5) hx hb dX6_inLeastTerms_39 (by decide) ?_
          refine lv_rem hx hb dX6_inLeastTerms_40 (by decide) ?_
          refine lv_if_ne (tgt := 61) hx hb dX6_inLeastTerms_41 (by decide) (fun c_9 => ?_) (fun c_9 => ?_)
          · have hT := it_f c_9 hT
            refine lv_iinc (v := y_3 + 1) (lv' := [(5, .int (y_3 + 1)), (2, .int x3), (3, .int w_7), (4, .int w_8)]) hx hb dX6_inLeastTerms_61 hl (k := 3) rfl rfl (by decide) rfl (fun ls hl => ?_)
            refine lv_goto (tgt := 8) hx hb dX6_inLeastTerms_64 (by decide) ?_
            exact ih ls w_7 w_8 (y_3 + 1) (ms_up c_6 hm) (lv_sub hl [1, 2, 3, 0] rfl) (fun ls z0 z1 hl he => kont ls z0 z1 hl (he.trans hT))
          · have hT := it_t c_9 hT
            refine lv_iload hx hb dX6_inLeastTerms_44 (lv_at hl 2 rfl) ?_
            refine lv_iconst (v := 5) hx hb dX6_inLeastTerms_46 (by decide) ?_
            refine lv_rem hx hb dX6_inLeastTerms_47 (by decide) ?_
            refine lv_if_ne (tgt := 61) hx hb dX6_inLeastTerms_48 (by decide) (fun c_10 => ?_) (fun c_10 => ?_)
            · have hT := it_f c_10 hT
              refine lv_iinc (v := y_3 + 1) (lv' := [(5, .int (y_3 + 1)), (2, .int x3), (3, .int w_7), (4, .int w_8)]) hx hb dX6_inLeastTerms_61 hl (k := 3) rfl rfl (by decide) rfl (fun ls hl => ?_)
              refine lv_goto (tgt := 8) hx hb dX6_inLeastTerms_64 (by decide) ?_
              exact ih ls w_7 w_8 (y_3 + 1) (ms_up c_6 hm) (lv_sub hl [1, 2, 3, 0] rfl) (fun ls z0 z1 hl he => kont ls z0 z1 hl (he.trans hT))
            · have hT := it_t c_10 hT
              refine lv_iload_n hx hb dX6_inLeastTerms_51 rfl (lv_at hl 1 rfl) ?_
              refine lv_iconst (v := 5) hx hb dX6_inLeastTerms_52 (by decide) ?_
              refine lv_idiv hx hb dX6_inLeastTerms_53 (by decide) ?_
              refine lv_istore_n (lv' := [(3, .int (w_7 / (5 : Int32))), (2, .int x3), (4, .int w_8), (5, .int y_3)]) hx hb dX6_inLeastTerms_54 rfl hl (by decide) rfl (fun ls hl => ?_)
              refine lv_iload hx hb dX6_inLeastTerms_55 (lv_at hl 2 rfl) ?_
              refine lv_iconst (v := 5) hx hb dX6_inLeastTerms_57 (by decide) ?_
              refine lv_idiv hx hb dX6_inLeastTerms_58 (by decide) ?_
              refine lv_istore (lv' := [(4, .int (w_8 / (5 : Int32))), (3, .int (w_7 / (5 : Int32))), (2, .int x3), (5, .int y_3)]) hx hb dX6_inLeastTerms_59 hl (by decide) rfl (fun ls hl => ?_)
              refine lv_iinc (v := y_3 + 1) (lv' := [(5, .int (y_3 + 1)), (4, .int (w_8 / (5 : Int32))), (3, .int (w_7 / (5 : Int32))), (2, .int x3)]) hx hb dX6_inLeastTerms_61 hl (k := 3) rfl rfl (by decide) rfl (fun ls hl => ?_)
              refine lv_goto (tgt := 8) hx hb dX6_inLeastTerms_64 (by decide) ?_
              exact ih ls (w_7 / (5 : Int32)) (w_8 / (5 : Int32)) (y_3 + 1) (ms_up c_6 hm) (lv_sub hl [3, 2, 1, 0] rfl) (fun ls z0 z1 hl he => kont ls z0 z1 hl (he.trans hT))
        refine lv_if_ne (tgt := 38) hx hb dX6_inLeastTerms_18 (by decide) (fun c_11 => ?_) (fun c_11 => ?_)
        · have hT := it_f c_11 hT
          exact K_38 ls y_1 y_2 (lv_sub hl [0, 1, 2, 3] rfl) hT
        · have hT := it_t c_11 hT
          refine lv_iload hx hb dX6_inLeastTerms_21 (lv_at hl 2 rfl) ?_
          refine lv_iconst (v := 2) hx hb dX6_inLeastTerms_23 (by decide) ?_
          refine lv_rem hx hb dX6_inLeastTerms_24 (by decide) ?_
          refine lv_if_ne (tgt := 38) hx hb dX6_inLeastTerms_25 (by decide) (fun c_12 => ?_) (fun c_12 => ?_)
          · have hT := it_f c_12 hT
            exact K_38 ls y_1 y_2 (lv_sub hl [0, 1, 2, 3] rfl) hT
          · have hT := it_t c_12 hT
            refine lv_iload_n hx hb dX6_inLeastTerms_28 rfl (lv_at hl 1 rfl) ?_
            refine lv_iconst (v := 2) hx hb dX6_inLeastTerms_29 (by decide) ?_
            refine lv_idiv hx hb dX6_inLeastTerms_30 (by decide) ?_
            refine lv_istore_n (lv' := [(3, .int (y_1 / (2 : Int32))), (2, .int x3), (4, .int y_2), (5, .int y_3)]) hx hb dX6_inLeastTerms_31 rfl hl (by decide) rfl (fun ls hl => ?_)
            refine lv_iload hx hb dX6_inLeastTerms_32 (lv_at hl 2 rfl) ?_
            refine lv_iconst (v := 2) hx hb dX6_inLeastTerms_34 (by decide) ?_
            refine lv_idiv hx hb dX6_inLeastTerms_35 (by decide) ?_
            refine lv_istore (lv' := [(4, .int (y_2 / (2 : Int32))), (3, .int (y_1 / (2 : Int32))), (2, .int x3), (5, .int y_3)]) hx hb dX6_inLeastTerms_36 hl (by decide) rfl (fun ls hl => ?_)
            exact K_38 ls (y_1 / (2 : Int32)) (y_2 / (2 : Int32)) (lv_sub hl [2, 1, 0, 3] rfl) hT
  refine L_8 (((6 : Int32).toInt - (0 : Int32).toInt).toNat + 1) ls x1 x2 (0 : Int32) (Nat.lt_succ_self _) (lv_sub hl [5, 2, 1, 0] rfl) (fun ls e_4 e_5 hl he => ?_)
  have hT := nm2_u he hT
  refine lv_iload_n hx hb dX6_inLeastTerms_67 rfl (lv_at hl 0 rfl) ?_
  refine lv_if_ne (tgt := 75) hx hb dX6_inLeastTerms_68 (by decide) (fun c_13 => ?_) (fun c_13 => ?_)
  · have hT := it_f c_13 hT
    refine lv_iload hx hb dX6_inLeastTerms_75 (lv_at hl 2 rfl) ?_
    exact hret _ _ _ hT dX6_inLeastTerms_77
  · have hT := it_t c_13 hT
    refine lv_iload_n hx hb dX6_inLeastTerms_71 rfl (lv_at hl 1 rfl) ?_
    refine lv_goto (tgt := 77) hx hb dX6_inLeastTerms_72 (by decide) ?_
    exact hret _ _ _ hT dX6_inLeastTerms_77
theorem hv_X4_rightOf : yX4_rightOf.cls = RX4 ∧ yX4_rightOf.cls ≠ "java/lang/invoke/MethodHandle" ∧ yX4_rightOf.cls ≠ "java/lang/invoke/VarHandle" ∧ (parseMethodDescriptor yX4_rightOf.desc).map (fun d => d.parameters.length) = some 1 := by decide +kernel
theorem hd_X4_rightOf : yX4_rightOf.cls ≠ "java/lang/invoke/MethodHandle" ∧ yX4_rightOf.cls ≠ "java/lang/invoke/VarHandle" ∧ (parseMethodDescriptor yX4_rightOf.desc).map (fun d => d.parameters.length) = some 1 := hv_X4_rightOf.2
def sp_X4_rightOf (x1 : Int32) : Int32 :=
  (x1 &&& (-541201 : Int32)) <<< ((1 : Int32) &&& 31)
theorem sp_X4_rightOf_s (x1 : Int32) : ((x1 &&& (-541201 : Int32)) <<< ((1 : Int32) &&& 31)) = sp_X4_rightOf x1 := rfl
set_option maxHeartbeats 4000000 in
set_option maxRecDepth 100000 in
theorem c_X4_rightOf {l : Launch} {x1 : Int32}  : Met l yX4_rightOf (wm yX4_rightOf cX4_rightOf 1 (some .int)) ({ frames := 0, cells := 0, slots := 0, locals := 0 } : Room) (SPre [.int x1]) (vp_Si (fun r => r = sp_X4_rightOf x1)) 0 0 (fun _ => False) := by
  refine metS_i (post := (fun r => r = sp_X4_rightOf x1)) (by decide) (Nat.le_of_ble_eq_true rfl) ?_
  intro p e s m args below meth c ls Q C hN hl hret
  have hx := C.1
  have hb := C.2.1
  have hl : lv_has ls 1 [(0, .int x1)] := hl
  have hT := sp_X4_rightOf_s x1
  refine lv_iload_n hx hb dX4_rightOf_0 rfl (lv_at hl 0 rfl) ?_
  refine lv_ldc hx hb C.2.2.2.1 (C.2.2.2.2 _ wd_2_81) dX4_rightOf_1 ?_
  refine lv_iand hx hb dX4_rightOf_3 ?_
  refine lv_iconst (v := 1) hx hb dX4_rightOf_4 (by decide) ?_
  refine lv_ishl hx hb dX4_rightOf_5 ?_
  exact hret _ _ _ hT dX4_rightOf_6
theorem hv_X4_leftOf : yX4_leftOf.cls = RX4 ∧ yX4_leftOf.cls ≠ "java/lang/invoke/MethodHandle" ∧ yX4_leftOf.cls ≠ "java/lang/invoke/VarHandle" ∧ (parseMethodDescriptor yX4_leftOf.desc).map (fun d => d.parameters.length) = some 1 := by decide +kernel
theorem hd_X4_leftOf : yX4_leftOf.cls ≠ "java/lang/invoke/MethodHandle" ∧ yX4_leftOf.cls ≠ "java/lang/invoke/VarHandle" ∧ (parseMethodDescriptor yX4_leftOf.desc).map (fun d => d.parameters.length) = some 1 := hv_X4_leftOf.2
def sp_X4_leftOf (x1 : Int32) : Int32 :=
  ush (x1 &&& (-33826 : Int32)) (1 : Int32)
theorem sp_X4_leftOf_s (x1 : Int32) : (ush (x1 &&& (-33826 : Int32)) (1 : Int32)) = sp_X4_leftOf x1 := rfl
set_option maxHeartbeats 4000000 in
set_option maxRecDepth 100000 in
theorem c_X4_leftOf {l : Launch} {x1 : Int32}  : Met l yX4_leftOf (wm yX4_leftOf cX4_leftOf 1 (some .int)) ({ frames := 0, cells := 0, slots := 0, locals := 0 } : Room) (SPre [.int x1]) (vp_Si (fun r => r = sp_X4_leftOf x1)) 0 0 (fun _ => False) := by
  refine metS_i (post := (fun r => r = sp_X4_leftOf x1)) (by decide) (Nat.le_of_ble_eq_true rfl) ?_
  intro p e s m args below meth c ls Q C hN hl hret
  have hx := C.1
  have hb := C.2.1
  have hl : lv_has ls 1 [(0, .int x1)] := hl
  have hT := sp_X4_leftOf_s x1
  refine lv_iload_n hx hb dX4_leftOf_0 rfl (lv_at hl 0 rfl) ?_
  refine lv_ldc hx hb C.2.2.2.1 (C.2.2.2.2 _ wd_2_85) dX4_leftOf_1 ?_
  refine lv_iand hx hb dX4_leftOf_3 ?_
  refine lv_iconst (v := 1) hx hb dX4_leftOf_4 (by decide) ?_
  refine lv_iushr (v := ush (x1 &&& (-33826 : Int32)) (1 : Int32)) hx hb dX4_leftOf_5 rfl ?_
  exact hret _ _ _ hT dX4_leftOf_6
theorem hv_X4_besideAny : yX4_besideAny.cls = RX4 ∧ yX4_besideAny.cls ≠ "java/lang/invoke/MethodHandle" ∧ yX4_besideAny.cls ≠ "java/lang/invoke/VarHandle" ∧ (parseMethodDescriptor yX4_besideAny.desc).map (fun d => d.parameters.length) = some 1 := by decide +kernel
theorem hd_X4_besideAny : yX4_besideAny.cls ≠ "java/lang/invoke/MethodHandle" ∧ yX4_besideAny.cls ≠ "java/lang/invoke/VarHandle" ∧ (parseMethodDescriptor yX4_besideAny.desc).map (fun d => d.parameters.length) = some 1 := hv_X4_besideAny.2
def sp_X4_besideAny (x1 : Int32) : Int32 :=
  nm (sp_X4_rightOf x1) (fun r_1 => nm (sp_X4_leftOf x1) (fun r_2 => ((r_1 ||| r_2) ||| (x1 <<< ((5 : Int32) &&& 31))) ||| (ush x1 (5 : Int32))))
theorem sp_X4_besideAny_s (x1 : Int32) : (nm (sp_X4_rightOf x1) (fun r_1 => nm (sp_X4_leftOf x1) (fun r_2 => ((r_1 ||| r_2) ||| (x1 <<< ((5 : Int32) &&& 31))) ||| (ush x1 (5 : Int32))))) = sp_X4_besideAny x1 := rfl
set_option maxHeartbeats 4000000 in
set_option maxRecDepth 100000 in
theorem c_X4_besideAny {l : Launch} {x1 : Int32}  : Met l yX4_besideAny (wm yX4_besideAny cX4_besideAny 1 (some .int)) ({ frames := 1, cells := 0, slots := 0, locals := 20 } : Room) (SPre [.int x1]) (vp_Si (fun r => r = sp_X4_besideAny x1)) 0 0 (fun _ => False) := by
  refine metS_i (post := (fun r => r = sp_X4_besideAny x1)) (by decide) (Nat.le_of_ble_eq_true rfl) ?_
  intro p e s m args below meth c ls Q C hN hl hret
  have hx := C.1
  have hb := C.2.1
  have hl : lv_has ls 1 [(0, .int x1)] := hl
  have hT := sp_X4_besideAny_s x1
  refine lv_iload_n hx hb dX4_besideAny_0 rfl (lv_at hl 0 rfl) ?_
  refine vp_callSi (run_sP (As := [.int x1]) (rest := []) C hN (c_X4_rightOf) ⟨wd_2_78, wd_2_79, wd_1_4, wd_2_80⟩ ⟨rfl, rfl⟩ hd_X4_rightOf ⟨Nat.le_of_ble_eq_true rfl, Nat.le_of_ble_eq_true rfl⟩ rfl hl.1 rfl (Nat.le_of_ble_eq_true rfl) dX4_besideAny_1 ⟨Nat.zero_le _, Nat.zero_le _⟩) (fun r_1 hr_1 => ?_)
  have hT := nm_u hr_1 hT
  refine lv_iload_n hx hb dX4_besideAny_4 rfl (lv_at hl 0 rfl) ?_
  refine vp_callSi (run_sP (As := [.int x1]) (rest := [.int r_1]) C hN (c_X4_leftOf) ⟨wd_2_82, wd_2_83, wd_1_4, wd_2_84⟩ ⟨rfl, rfl⟩ hd_X4_leftOf ⟨Nat.le_of_ble_eq_true rfl, Nat.le_of_ble_eq_true rfl⟩ rfl hl.1 rfl (Nat.le_of_ble_eq_true rfl) dX4_besideAny_5 ⟨Nat.zero_le _, Nat.zero_le _⟩) (fun r_2 hr_2 => ?_)
  have hT := nm_u hr_2 hT
  refine lv_ior hx hb dX4_besideAny_8 ?_
  refine lv_iload_n hx hb dX4_besideAny_9 rfl (lv_at hl 0 rfl) ?_
  refine lv_iconst (v := 5) hx hb dX4_besideAny_10 (by decide) ?_
  refine lv_ishl hx hb dX4_besideAny_11 ?_
  refine lv_ior hx hb dX4_besideAny_12 ?_
  refine lv_iload_n hx hb dX4_besideAny_13 rfl (lv_at hl 0 rfl) ?_
  refine lv_iconst (v := 5) hx hb dX4_besideAny_14 (by decide) ?_
  refine lv_iushr (v := ush x1 (5 : Int32)) hx hb dX4_besideAny_15 rfl ?_
  refine lv_ior hx hb dX4_besideAny_16 ?_
  exact hret _ _ _ hT dX4_besideAny_17
theorem hv_X4_twosIn : yX4_twosIn.cls = RX4 ∧ yX4_twosIn.cls ≠ "java/lang/invoke/MethodHandle" ∧ yX4_twosIn.cls ≠ "java/lang/invoke/VarHandle" ∧ (parseMethodDescriptor yX4_twosIn.desc).map (fun d => d.parameters.length) = some 1 := by decide +kernel
theorem hd_X4_twosIn : yX4_twosIn.cls ≠ "java/lang/invoke/MethodHandle" ∧ yX4_twosIn.cls ≠ "java/lang/invoke/VarHandle" ∧ (parseMethodDescriptor yX4_twosIn.desc).map (fun d => d.parameters.length) = some 1 := hv_X4_twosIn.2
def sp_X4_twosIn (x1 : Int32) : Int32 :=
  nm (sp_X4_leftOf x1) (fun r_1 => nm (sp_J6_bitCount_0f7a4 (x1 &&& r_1)) (fun r_2 => nm (sp_J6_bitCount_0f7a4 (x1 &&& (ush x1 (5 : Int32)))) (fun r_3 => r_2 + r_3)))
theorem sp_X4_twosIn_s (x1 : Int32) : (nm (sp_X4_leftOf x1) (fun r_1 => nm (sp_J6_bitCount_0f7a4 (x1 &&& r_1)) (fun r_2 => nm (sp_J6_bitCount_0f7a4 (x1 &&& (ush x1 (5 : Int32)))) (fun r_3 => r_2 + r_3)))) = sp_X4_twosIn x1 := rfl
set_option maxHeartbeats 4000000 in
set_option maxRecDepth 100000 in
theorem c_X4_twosIn {l : Launch} {x1 : Int32}  : Met l yX4_twosIn (wm yX4_twosIn cX4_twosIn 1 (some .int)) ({ frames := 1, cells := 0, slots := 0, locals := 20 } : Room) (SPre [.int x1]) (vp_Si (fun r => r = sp_X4_twosIn x1)) 0 0 (fun _ => False) := by
  refine metS_i (post := (fun r => r = sp_X4_twosIn x1)) (by decide) (Nat.le_of_ble_eq_true rfl) ?_
  intro p e s m args below meth c ls Q C hN hl hret
  have hx := C.1
  have hb := C.2.1
  have hl : lv_has ls 1 [(0, .int x1)] := hl
  have hT := sp_X4_twosIn_s x1
  refine lv_iload_n hx hb dX4_twosIn_0 rfl (lv_at hl 0 rfl) ?_
  refine lv_iload_n hx hb dX4_twosIn_1 rfl (lv_at hl 0 rfl) ?_
  refine vp_callSi (run_sP (As := [.int x1]) (rest := [.int x1]) C hN (c_X4_leftOf) ⟨wd_2_82, wd_2_83, wd_1_4, wd_2_84⟩ ⟨rfl, rfl⟩ hd_X4_leftOf ⟨Nat.le_of_ble_eq_true rfl, Nat.le_of_ble_eq_true rfl⟩ rfl hl.1 rfl (Nat.le_of_ble_eq_true rfl) dX4_twosIn_2 ⟨Nat.zero_le _, Nat.zero_le _⟩) (fun r_1 hr_1 => ?_)
  have hT := nm_u hr_1 hT
  refine lv_iand hx hb dX4_twosIn_5 ?_
  refine vp_callSi (run_sP (As := [.int (x1 &&& r_1)]) (rest := []) C hN (c_J6_bitCount_0f7a4) ⟨wd_2_103, wd_2_104, wd_1_9, wd_2_105⟩ ⟨rfl, rfl⟩ hd_J6_bitCount_0f7a4 ⟨Nat.le_of_ble_eq_true rfl, Nat.le_of_ble_eq_true rfl⟩ rfl hl.1 rfl (Nat.le_of_ble_eq_true rfl) dX4_twosIn_6 ⟨Nat.zero_le _, Nat.zero_le _⟩) (fun r_2 hr_2 => ?_)
  have hT := nm_u hr_2 hT
  refine lv_iload_n hx hb dX4_twosIn_9 rfl (lv_at hl 0 rfl) ?_
  refine lv_iload_n hx hb dX4_twosIn_10 rfl (lv_at hl 0 rfl) ?_
  refine lv_iconst (v := 5) hx hb dX4_twosIn_11 (by decide) ?_
  refine lv_iushr (v := ush x1 (5 : Int32)) hx hb dX4_twosIn_12 rfl ?_
  refine lv_iand hx hb dX4_twosIn_13 ?_
  refine vp_callSi (run_sP (As := [.int (x1 &&& (ush x1 (5 : Int32)))]) (rest := [.int r_2]) C hN (c_J6_bitCount_0f7a4) ⟨wd_2_103, wd_2_104, wd_1_9, wd_2_105⟩ ⟨rfl, rfl⟩ hd_J6_bitCount_0f7a4 ⟨Nat.le_of_ble_eq_true rfl, Nat.le_of_ble_eq_true rfl⟩ rfl hl.1 rfl (Nat.le_of_ble_eq_true rfl) dX4_twosIn_14 ⟨Nat.zero_le _, Nat.zero_le _⟩) (fun r_3 hr_3 => ?_)
  have hT := nm_u hr_3 hT
  refine lv_iadd hx hb dX4_twosIn_17 ?_
  exact hret _ _ _ hT dX4_twosIn_18
theorem hv_X4_floodedOver : yX4_floodedOver.cls = RX4 ∧ yX4_floodedOver.cls ≠ "java/lang/invoke/MethodHandle" ∧ yX4_floodedOver.cls ≠ "java/lang/invoke/VarHandle" ∧ (parseMethodDescriptor yX4_floodedOver.desc).map (fun d => d.parameters.length) = some 2 := by decide +kernel
theorem hd_X4_floodedOver : yX4_floodedOver.cls ≠ "java/lang/invoke/MethodHandle" ∧ yX4_floodedOver.cls ≠ "java/lang/invoke/VarHandle" ∧ (parseMethodDescriptor yX4_floodedOver.desc).map (fun d => d.parameters.length) = some 2 := hv_X4_floodedOver.2
def lp_X4_floodedOver_4 (x1 : Int32) : Nat → Int32 → Int32 → Int32
  | 0, y_1, y_2 => y_1
  | n + 1, y_1, y_2 => if (20 : Int32) ≤ y_2 then y_1 else (nm (sp_X4_besideAny y_1) (fun r_5 => lp_X4_floodedOver_4 x1 n (y_1 ||| (r_5 &&& x1)) (y_2 + 1)))
theorem lp_X4_floodedOver_4_s (x1 : Int32) (n : Nat) (y_1 : Int32) (y_2 : Int32) : (if (20 : Int32) ≤ y_2 then y_1 else (nm (sp_X4_besideAny y_1) (fun r_5 => lp_X4_floodedOver_4 x1 n (y_1 ||| (r_5 &&& x1)) (y_2 + 1)))) = lp_X4_floodedOver_4 x1 (n + 1) y_1 y_2 := rfl
def sp_X4_floodedOver (x1 : Int32) (x2 : Int32) : Int32 :=
  nm (lp_X4_floodedOver_4 x1 (((20 : Int32).toInt - (0 : Int32).toInt).toNat + 1) x2 (0 : Int32)) (fun e_3 => e_3)
theorem sp_X4_floodedOver_s (x1 : Int32) (x2 : Int32) : (nm (lp_X4_floodedOver_4 x1 (((20 : Int32).toInt - (0 : Int32).toInt).toNat + 1) x2 (0 : Int32)) (fun e_3 => e_3)) = sp_X4_floodedOver x1 x2 := rfl
set_option maxHeartbeats 4000000 in
set_option maxRecDepth 100000 in
theorem c_X4_floodedOver {l : Launch} {x1 : Int32} {x2 : Int32}  : Met l yX4_floodedOver (wm yX4_floodedOver cX4_floodedOver 4 (some .int)) ({ frames := 2, cells := 0, slots := 0, locals := 40 } : Room) (SPre [.int x1, .int x2]) (vp_Si (fun r => r = sp_X4_floodedOver x1 x2)) 0 0 (fun _ => False) := by
  refine metS_i (post := (fun r => r = sp_X4_floodedOver x1 x2)) (by decide) (Nat.le_of_ble_eq_true rfl) ?_
  intro p e s m args below meth c ls Q C hN hl hret
  have hx := C.1
  have hb := C.2.1
  have hl : lv_has ls 4 [(0, .int x1), (1, .int x2)] := hl
  have hT := sp_X4_floodedOver_s x1 x2
  refine lv_iload_n hx hb dX4_floodedOver_0 rfl (lv_at hl 1 rfl) ?_
  refine lv_istore_n (lv' := [(2, .int x2), (0, .int x1), (1, .int x2)]) hx hb dX4_floodedOver_1 rfl hl (by decide) rfl (fun ls hl => ?_)
  refine lv_iconst (v := 0) hx hb dX4_floodedOver_2 (by decide) ?_
  refine lv_istore_n (lv' := [(3, .int (0 : Int32)), (2, .int x2), (0, .int x1), (1, .int x2)]) hx hb dX4_floodedOver_3 rfl hl (by decide) rfl (fun ls hl => ?_)
  have L_4 : ∀ (n : Nat) (ls : Array Slot) (y_1 : Int32) (y_2 : Int32) (hm : ((20 : Int32).toInt - y_2.toInt).toNat < n) (hl : lv_has ls 4 [(0, .int x1), (2, .int y_1), (3, .int y_2)]) (kont : ∀ (ls : Array Slot) (e_3 : Int32), lv_has ls 4 [(2, .int e_3)] → e_3 = lp_X4_floodedOver_4 x1 n y_1 y_2 → W p l e ({ frames := 2, cells := 0, slots := 0, locals := 40 } : Room) s m args below meth c s.heap [] 0 0 Q (F0 m 25 ls [])), W p l e ({ frames := 2, cells := 0, slots := 0, locals := 40 } : Room) s m args below meth c s.heap [] 0 0 Q (F0 m 4 ls []) := by
    intro n
    induction n with
    | zero => intro ls y_1 y_2 hm; exact absurd hm (Nat.not_lt_zero _)
    | succ n ih =>
      intro ls y_1 y_2 hm hl kont
      have hT := lp_X4_floodedOver_4_s x1 n y_1 y_2
      refine lv_iload_n hx hb dX4_floodedOver_4 rfl (lv_at hl 2 rfl) ?_
      refine lv_bipush (v := 20) hx hb dX4_floodedOver_5 (by decide) ?_
      refine lv_icmp_ge (tgt := 25) hx hb dX4_floodedOver_7 (by decide) (fun c_4 => ?_) (fun c_4 => ?_)
      · have hT := it_t c_4 hT
        exact kont ls y_1 (lv_sub hl [1] rfl) hT
      · have hT := it_f c_4 hT
        refine lv_iload_n hx hb dX4_floodedOver_10 rfl (lv_at hl 1 rfl) ?_
        refine lv_iload_n hx hb dX4_floodedOver_11 rfl (lv_at hl 1 rfl) ?_
        refine vp_callSi (run_sP (As := [.int y_1]) (rest := [.int y_1]) C hN (c_X4_besideAny) ⟨wd_2_189, wd_2_190, wd_1_4, wd_2_191⟩ ⟨rfl, rfl⟩ hd_X4_besideAny ⟨Nat.le_of_ble_eq_true rfl, Nat.le_of_ble_eq_true rfl⟩ rfl hl.1 rfl (Nat.le_of_ble_eq_true rfl) dX4_floodedOver_12 ⟨Nat.zero_le _, Nat.zero_le _⟩) (fun r_5 hr_5 => ?_)
        have hT := nm_u hr_5 hT
        refine lv_iload_n hx hb dX4_floodedOver_15 rfl (lv_at hl 0 rfl) ?_
        refine lv_iand hx hb dX4_floodedOver_16 ?_
        refine lv_ior hx hb dX4_floodedOver_17 ?_
        refine lv_istore_n (lv' := [(2, .int (y_1 ||| (r_5 &&& x1))), (0, .int x1), (3, .int y_2)]) hx hb dX4_floodedOver_18 rfl hl (by decide) rfl (fun ls hl => ?_)
        refine lv_iinc (v := y_2 + 1) (lv' := [(3, .int (y_2 + 1)), (2, .int (y_1 ||| (r_5 &&& x1))), (0, .int x1)]) hx hb dX4_floodedOver_19 hl (k := 2) rfl rfl (by decide) rfl (fun ls hl => ?_)
        refine lv_goto (tgt := 4) hx hb dX4_floodedOver_22 (by decide) ?_
        exact ih ls (y_1 ||| (r_5 &&& x1)) (y_2 + 1) (ms_up c_4 hm) (lv_sub hl [2, 1, 0] rfl) (fun ls z0 hl he => kont ls z0 hl (he.trans hT))
  refine L_4 (((20 : Int32).toInt - (0 : Int32).toInt).toNat + 1) ls x2 (0 : Int32) (Nat.lt_succ_self _) (lv_sub hl [2, 1, 0] rfl) (fun ls e_3 hl he => ?_)
  have hT := nm_u he hT
  refine lv_iload_n hx hb dX4_floodedOver_25 rfl (lv_at hl 0 rfl) ?_
  exact hret _ _ _ hT dX4_floodedOver_26
theorem hv_X1_tokenOf : yX1_tokenOf.cls = RX1 ∧ yX1_tokenOf.cls ≠ "java/lang/invoke/MethodHandle" ∧ yX1_tokenOf.cls ≠ "java/lang/invoke/VarHandle" ∧ (parseMethodDescriptor yX1_tokenOf.desc).map (fun d => d.parameters.length) = some 1 := by decide +kernel
theorem hd_X1_tokenOf : yX1_tokenOf.cls ≠ "java/lang/invoke/MethodHandle" ∧ yX1_tokenOf.cls ≠ "java/lang/invoke/VarHandle" ∧ (parseMethodDescriptor yX1_tokenOf.desc).map (fun d => d.parameters.length) = some 1 := hv_X1_tokenOf.2
def jn_X1_tokenOf_28 (x1 : Int32) : Int32 :=
  if x1 = (59 : Int32) then (3 : Int32) else (if 0 ≤ x1 then (4 : Int32) else (0 : Int32))
theorem jn_X1_tokenOf_28_s (x1 : Int32) : (if x1 = (59 : Int32) then (3 : Int32) else (if 0 ≤ x1 then (4 : Int32) else (0 : Int32))) = jn_X1_tokenOf_28 x1 := rfl
def jn_X1_tokenOf_14 (x1 : Int32) : Int32 :=
  if x1 < (48 : Int32) then (jn_X1_tokenOf_28 x1) else (if (57 : Int32) < x1 then (jn_X1_tokenOf_28 x1) else (2 : Int32))
theorem jn_X1_tokenOf_14_s (x1 : Int32) : (if x1 < (48 : Int32) then (jn_X1_tokenOf_28 x1) else (if (57 : Int32) < x1 then (jn_X1_tokenOf_28 x1) else (2 : Int32))) = jn_X1_tokenOf_14 x1 := rfl
def sp_X1_tokenOf (x1 : Int32) : Int32 :=
  if x1 < (97 : Int32) then (jn_X1_tokenOf_14 x1) else (if (122 : Int32) < x1 then (jn_X1_tokenOf_14 x1) else (1 : Int32))
theorem sp_X1_tokenOf_s (x1 : Int32) : (if x1 < (97 : Int32) then (jn_X1_tokenOf_14 x1) else (if (122 : Int32) < x1 then (jn_X1_tokenOf_14 x1) else (1 : Int32))) = sp_X1_tokenOf x1 := rfl
set_option maxHeartbeats 4000000 in
set_option maxRecDepth 100000 in
theorem c_X1_tokenOf {l : Launch} {x1 : Int32}  : Met l yX1_tokenOf (wm yX1_tokenOf cX1_tokenOf 1 (some .int)) ({ frames := 0, cells := 0, slots := 0, locals := 0 } : Room) (SPre [.int x1]) (vp_Si (fun r => r = sp_X1_tokenOf x1)) 0 0 (fun _ => False) := by
  refine metS_i (post := (fun r => r = sp_X1_tokenOf x1)) (by decide) (Nat.le_of_ble_eq_true rfl) ?_
  intro p e s m args below meth c ls Q C hN hl hret
  have hx := C.1
  have hb := C.2.1
  have hl : lv_has ls 1 [(0, .int x1)] := hl
  have hT := sp_X1_tokenOf_s x1
  refine lv_iload_n hx hb dX1_tokenOf_0 rfl (lv_at hl 0 rfl) ?_
  refine lv_bipush (v := 97) hx hb dX1_tokenOf_1 (by decide) ?_
  have K_14 : ∀ (ls : Array Slot) (hl : lv_has ls 1 [(0, .int x1)]) (hT0 : jn_X1_tokenOf_14 x1 = sp_X1_tokenOf x1), W p l e ({ frames := 0, cells := 0, slots := 0, locals := 0 } : Room) s m args below meth c s.heap [] 0 0 Q (F0 m 14 ls []) := by
    intro ls hl hT0
    have hT := (jn_X1_tokenOf_14_s x1).trans hT0
    refine lv_iload_n hx hb dX1_tokenOf_14 rfl (lv_at hl 0 rfl) ?_
    refine lv_bipush (v := 48) hx hb dX1_tokenOf_15 (by decide) ?_
    have K_28 : ∀ (ls : Array Slot) (hl : lv_has ls 1 [(0, .int x1)]) (hT0 : jn_X1_tokenOf_28 x1 = sp_X1_tokenOf x1), W p l e ({ frames := 0, cells := 0, slots := 0, locals := 0 } : Room) s m args below meth c s.heap [] 0 0 Q (F0 m 28 ls []) := by
      intro ls hl hT0
      have hT := (jn_X1_tokenOf_28_s x1).trans hT0
      refine lv_iload_n hx hb dX1_tokenOf_28 rfl (lv_at hl 0 rfl) ?_
      refine lv_bipush (v := 59) hx hb dX1_tokenOf_29 (by decide) ?_
      refine lv_icmp_ne (tgt := 36) hx hb dX1_tokenOf_31 (by decide) (fun c_1 => ?_) (fun c_1 => ?_)
      · have hT := it_f c_1 hT
        refine lv_iload_n hx hb dX1_tokenOf_36 rfl (lv_at hl 0 rfl) ?_
        refine lv_if_ge (tgt := 44) hx hb dX1_tokenOf_37 (by decide) (fun c_2 => ?_) (fun c_2 => ?_)
        · have hT := it_t c_2 hT
          refine lv_iconst (v := 4) hx hb dX1_tokenOf_44 (by decide) ?_
          exact hret _ _ _ hT dX1_tokenOf_45
        · have hT := it_f c_2 hT
          refine lv_iconst (v := 0) hx hb dX1_tokenOf_40 (by decide) ?_
          refine lv_goto (tgt := 45) hx hb dX1_tokenOf_41 (by decide) ?_
          exact hret _ _ _ hT dX1_tokenOf_45
      · have hT := it_t c_1 hT
        refine lv_iconst (v := 3) hx hb dX1_tokenOf_34 (by decide) ?_
        exact hret _ _ _ hT dX1_tokenOf_35
    refine lv_icmp_lt (tgt := 28) hx hb dX1_tokenOf_17 (by decide) (fun c_3 => ?_) (fun c_3 => ?_)
    · have hT := it_t c_3 hT
      exact K_28 ls (lv_sub hl [0] rfl) hT
    · have hT := it_f c_3 hT
      refine lv_iload_n hx hb dX1_tokenOf_20 rfl (lv_at hl 0 rfl) ?_
      refine lv_bipush (v := 57) hx hb dX1_tokenOf_21 (by decide) ?_
      refine lv_icmp_gt (tgt := 28) hx hb dX1_tokenOf_23 (by decide) (fun c_4 => ?_) (fun c_4 => ?_)
      · have hT := it_t c_4 hT
        exact K_28 ls (lv_sub hl [0] rfl) hT
      · have hT := it_f c_4 hT
        refine lv_iconst (v := 2) hx hb dX1_tokenOf_26 (by decide) ?_
        exact hret _ _ _ hT dX1_tokenOf_27
  refine lv_icmp_lt (tgt := 14) hx hb dX1_tokenOf_3 (by decide) (fun c_5 => ?_) (fun c_5 => ?_)
  · have hT := it_t c_5 hT
    exact K_14 ls (lv_sub hl [0] rfl) hT
  · have hT := it_f c_5 hT
    refine lv_iload_n hx hb dX1_tokenOf_6 rfl (lv_at hl 0 rfl) ?_
    refine lv_bipush (v := 122) hx hb dX1_tokenOf_7 (by decide) ?_
    refine lv_icmp_gt (tgt := 14) hx hb dX1_tokenOf_9 (by decide) (fun c_6 => ?_) (fun c_6 => ?_)
    · have hT := it_t c_6 hT
      exact K_14 ls (lv_sub hl [0] rfl) hT
    · have hT := it_f c_6 hT
      refine lv_iconst (v := 1) hx hb dX1_tokenOf_12 (by decide) ?_
      exact hret _ _ _ hT dX1_tokenOf_13
theorem hv_X7_in : yX7_in.cls = RX7 ∧ yX7_in.cls ≠ "java/lang/invoke/MethodHandle" ∧ yX7_in.cls ≠ "java/lang/invoke/VarHandle" ∧ (parseMethodDescriptor yX7_in.desc).map (fun d => d.parameters.length) = some 3 := by decide +kernel
theorem hd_X7_in : yX7_in.cls ≠ "java/lang/invoke/MethodHandle" ∧ yX7_in.cls ≠ "java/lang/invoke/VarHandle" ∧ (parseMethodDescriptor yX7_in.desc).map (fun d => d.parameters.length) = some 3 := hv_X7_in.2
def sp_X7_in (x1 : Int32) (x2 : Int32) (x3 : Int32) : Int32 :=
  if x1 < x2 then (0 : Int32) else (if x3 < x1 then (0 : Int32) else (1 : Int32))
theorem sp_X7_in_s (x1 : Int32) (x2 : Int32) (x3 : Int32) : (if x1 < x2 then (0 : Int32) else (if x3 < x1 then (0 : Int32) else (1 : Int32))) = sp_X7_in x1 x2 x3 := rfl
set_option maxHeartbeats 4000000 in
set_option maxRecDepth 100000 in
theorem c_X7_in {l : Launch} {x1 : Int32} {x2 : Int32} {x3 : Int32}  : Met l yX7_in (wm yX7_in cX7_in 3 (some .boolean)) ({ frames := 0, cells := 0, slots := 0, locals := 0 } : Room) (SPre [.int x1, .int x2, .int x3]) (vp_Si (fun r => r = sp_X7_in x1 x2 x3 ∧ (r = 0 ∨ r = 1))) 0 0 (fun _ => False) := by
  refine metS_z (post := (fun r => r = sp_X7_in x1 x2 x3)) (by decide) (Nat.le_of_ble_eq_true rfl) ?_
  intro p e s m args below meth c ls Q C hN hl hret
  have hx := C.1
  have hb := C.2.1
  have hl : lv_has ls 3 [(0, .int x1), (1, .int x2), (2, .int x3)] := hl
  have hT := sp_X7_in_s x1 x2 x3
  refine lv_iload_n hx hb dX7_in_0 rfl (lv_at hl 0 rfl) ?_
  refine lv_iload_n hx hb dX7_in_1 rfl (lv_at hl 1 rfl) ?_
  refine lv_icmp_lt (tgt := 14) hx hb dX7_in_2 (by decide) (fun c_1 => ?_) (fun c_1 => ?_)
  · have hT := it_t c_1 hT
    refine lv_iconst (v := 0) hx hb dX7_in_14 (by decide) ?_
    exact hret _ _ _ ⟨hT, (Or.inl rfl)⟩ dX7_in_15
  · have hT := it_f c_1 hT
    refine lv_iload_n hx hb dX7_in_5 rfl (lv_at hl 0 rfl) ?_
    refine lv_iload_n hx hb dX7_in_6 rfl (lv_at hl 2 rfl) ?_
    refine lv_icmp_gt (tgt := 14) hx hb dX7_in_7 (by decide) (fun c_2 => ?_) (fun c_2 => ?_)
    · have hT := it_t c_2 hT
      refine lv_iconst (v := 0) hx hb dX7_in_14 (by decide) ?_
      exact hret _ _ _ ⟨hT, (Or.inl rfl)⟩ dX7_in_15
    · have hT := it_f c_2 hT
      refine lv_iconst (v := 1) hx hb dX7_in_10 (by decide) ?_
      refine lv_goto (tgt := 15) hx hb dX7_in_11 (by decide) ?_
      exact hret _ _ _ ⟨hT, (Or.inr rfl)⟩ dX7_in_15
theorem hv_X7_has : yX7_has.cls = RX7 ∧ yX7_has.cls ≠ "java/lang/invoke/MethodHandle" ∧ yX7_has.cls ≠ "java/lang/invoke/VarHandle" ∧ (parseMethodDescriptor yX7_has.desc).map (fun d => d.parameters.length) = some 2 := by decide +kernel
theorem hd_X7_has : yX7_has.cls ≠ "java/lang/invoke/MethodHandle" ∧ yX7_has.cls ≠ "java/lang/invoke/VarHandle" ∧ (parseMethodDescriptor yX7_has.desc).map (fun d => d.parameters.length) = some 2 := hv_X7_has.2
def sp_X7_has (x1 : Int32) (x2 : Int32) : Int32 :=
  if ((x1 >>> (x2 &&& 31)) &&& (1 : Int32)) = (1 : Int32) then (1 : Int32) else (0 : Int32)
theorem sp_X7_has_s (x1 : Int32) (x2 : Int32) : (if ((x1 >>> (x2 &&& 31)) &&& (1 : Int32)) = (1 : Int32) then (1 : Int32) else (0 : Int32)) = sp_X7_has x1 x2 := rfl
set_option maxHeartbeats 4000000 in
set_option maxRecDepth 100000 in
theorem c_X7_has {l : Launch} {x1 : Int32} {x2 : Int32}  : Met l yX7_has (wm yX7_has cX7_has 2 (some .boolean)) ({ frames := 0, cells := 0, slots := 0, locals := 0 } : Room) (SPre [.int x1, .int x2]) (vp_Si (fun r => r = sp_X7_has x1 x2 ∧ (r = 0 ∨ r = 1))) 0 0 (fun _ => False) := by
  refine metS_z (post := (fun r => r = sp_X7_has x1 x2)) (by decide) (Nat.le_of_ble_eq_true rfl) ?_
  intro p e s m args below meth c ls Q C hN hl hret
  have hx := C.1
  have hb := C.2.1
  have hl : lv_has ls 2 [(0, .int x1), (1, .int x2)] := hl
  have hT := sp_X7_has_s x1 x2
  refine lv_iload_n hx hb dX7_has_0 rfl (lv_at hl 0 rfl) ?_
  refine lv_iload_n hx hb dX7_has_1 rfl (lv_at hl 1 rfl) ?_
  refine lv_ishr hx hb dX7_has_2 ?_
  refine lv_iconst (v := 1) hx hb dX7_has_3 (by decide) ?_
  refine lv_iand hx hb dX7_has_4 ?_
  refine lv_iconst (v := 1) hx hb dX7_has_5 (by decide) ?_
  refine lv_icmp_ne (tgt := 13) hx hb dX7_has_6 (by decide) (fun c_1 => ?_) (fun c_1 => ?_)
  · have hT := it_f c_1 hT
    refine lv_iconst (v := 0) hx hb dX7_has_13 (by decide) ?_
    exact hret _ _ _ ⟨hT, (Or.inl rfl)⟩ dX7_has_14
  · have hT := it_t c_1 hT
    refine lv_iconst (v := 1) hx hb dX7_has_9 (by decide) ?_
    refine lv_goto (tgt := 14) hx hb dX7_has_10 (by decide) ?_
    exact hret _ _ _ ⟨hT, (Or.inr rfl)⟩ dX7_has_14
theorem hv_X7_bits : yX7_bits.cls = RX7 ∧ yX7_bits.cls ≠ "java/lang/invoke/MethodHandle" ∧ yX7_bits.cls ≠ "java/lang/invoke/VarHandle" ∧ (parseMethodDescriptor yX7_bits.desc).map (fun d => d.parameters.length) = some 1 := by decide +kernel
theorem hd_X7_bits : yX7_bits.cls ≠ "java/lang/invoke/MethodHandle" ∧ yX7_bits.cls ≠ "java/lang/invoke/VarHandle" ∧ (parseMethodDescriptor yX7_bits.desc).map (fun d => d.parameters.length) = some 1 := hv_X7_bits.2
def lp_X7_bits_4 (x1 : Int32) : Nat → Int32 → Int32 → Int32
  | 0, y_1, y_2 => y_1
  | n + 1, y_1, y_2 => if (20 : Int32) ≤ y_2 then y_1 else (lp_X7_bits_4 x1 n (y_1 + ((x1 >>> (y_2 &&& 31)) &&& (1 : Int32))) (y_2 + 1))
theorem lp_X7_bits_4_s (x1 : Int32) (n : Nat) (y_1 : Int32) (y_2 : Int32) : (if (20 : Int32) ≤ y_2 then y_1 else (lp_X7_bits_4 x1 n (y_1 + ((x1 >>> (y_2 &&& 31)) &&& (1 : Int32))) (y_2 + 1))) = lp_X7_bits_4 x1 (n + 1) y_1 y_2 := rfl
def sp_X7_bits (x1 : Int32) : Int32 :=
  nm (lp_X7_bits_4 x1 (((20 : Int32).toInt - (0 : Int32).toInt).toNat + 1) (0 : Int32) (0 : Int32)) (fun e_3 => e_3)
theorem sp_X7_bits_s (x1 : Int32) : (nm (lp_X7_bits_4 x1 (((20 : Int32).toInt - (0 : Int32).toInt).toNat + 1) (0 : Int32) (0 : Int32)) (fun e_3 => e_3)) = sp_X7_bits x1 := rfl
set_option maxHeartbeats 4000000 in
set_option maxRecDepth 100000 in
theorem c_X7_bits {l : Launch} {x1 : Int32}  : Met l yX7_bits (wm yX7_bits cX7_bits 3 (some .int)) ({ frames := 0, cells := 0, slots := 0, locals := 0 } : Room) (SPre [.int x1]) (vp_Si (fun r => r = sp_X7_bits x1)) 0 0 (fun _ => False) := by
  refine metS_i (post := (fun r => r = sp_X7_bits x1)) (by decide) (Nat.le_of_ble_eq_true rfl) ?_
  intro p e s m args below meth c ls Q C hN hl hret
  have hx := C.1
  have hb := C.2.1
  have hl : lv_has ls 3 [(0, .int x1)] := hl
  have hT := sp_X7_bits_s x1
  refine lv_iconst (v := 0) hx hb dX7_bits_0 (by decide) ?_
  refine lv_istore_n (lv' := [(1, .int (0 : Int32)), (0, .int x1)]) hx hb dX7_bits_1 rfl hl (by decide) rfl (fun ls hl => ?_)
  refine lv_iconst (v := 0) hx hb dX7_bits_2 (by decide) ?_
  refine lv_istore_n (lv' := [(2, .int (0 : Int32)), (1, .int (0 : Int32)), (0, .int x1)]) hx hb dX7_bits_3 rfl hl (by decide) rfl (fun ls hl => ?_)
  have L_4 : ∀ (n : Nat) (ls : Array Slot) (y_1 : Int32) (y_2 : Int32) (hm : ((20 : Int32).toInt - y_2.toInt).toNat < n) (hl : lv_has ls 3 [(0, .int x1), (1, .int y_1), (2, .int y_2)]) (kont : ∀ (ls : Array Slot) (e_3 : Int32), lv_has ls 3 [(1, .int e_3)] → e_3 = lp_X7_bits_4 x1 n y_1 y_2 → W p l e ({ frames := 0, cells := 0, slots := 0, locals := 0 } : Room) s m args below meth c s.heap [] 0 0 Q (F0 m 24 ls [])), W p l e ({ frames := 0, cells := 0, slots := 0, locals := 0 } : Room) s m args below meth c s.heap [] 0 0 Q (F0 m 4 ls []) := by
    intro n
    induction n with
    | zero => intro ls y_1 y_2 hm; exact absurd hm (Nat.not_lt_zero _)
    | succ n ih =>
      intro ls y_1 y_2 hm hl kont
      have hT := lp_X7_bits_4_s x1 n y_1 y_2
      refine lv_iload_n hx hb dX7_bits_4 rfl (lv_at hl 2 rfl) ?_
      refine lv_bipush (v := 20) hx hb dX7_bits_5 (by decide) ?_
      refine lv_icmp_ge (tgt := 24) hx hb dX7_bits_7 (by decide) (fun c_4 => ?_) (fun c_4 => ?_)
      · have hT := it_t c_4 hT
        exact kont ls y_1 (lv_sub hl [1] rfl) hT
      · have hT := it_f c_4 hT
        refine lv_iload_n hx hb dX7_bits_10 rfl (lv_at hl 1 rfl) ?_
        refine lv_iload_n hx hb dX7_bits_11 rfl (lv_at hl 0 rfl) ?_
        refine lv_iload_n hx hb dX7_bits_12 rfl (lv_at hl 2 rfl) ?_
        refine lv_ishr hx hb dX7_bits_13 ?_
        refine lv_iconst (v := 1) hx hb dX7_bits_14 (by decide) ?_
        refine lv_iand hx hb dX7_bits_15 ?_
        refine lv_iadd hx hb dX7_bits_16 ?_
        refine lv_istore_n (lv' := [(1, .int (y_1 + ((x1 >>> (y_2 &&& 31)) &&& (1 : Int32)))), (0, .int x1), (2, .int y_2)]) hx hb dX7_bits_17 rfl hl (by decide) rfl (fun ls hl => ?_)
        refine lv_iinc (v := y_2 + 1) (lv' := [(2, .int (y_2 + 1)), (1, .int (y_1 + ((x1 >>> (y_2 &&& 31)) &&& (1 : Int32)))), (0, .int x1)]) hx hb dX7_bits_18 hl (k := 2) rfl rfl (by decide) rfl (fun ls hl => ?_)
        refine lv_goto (tgt := 4) hx hb dX7_bits_21 (by decide) ?_
        exact ih ls (y_1 + ((x1 >>> (y_2 &&& 31)) &&& (1 : Int32))) (y_2 + 1) (ms_up c_4 hm) (lv_sub hl [2, 1, 0] rfl) (fun ls z0 hl he => kont ls z0 hl (he.trans hT))
  refine L_4 (((20 : Int32).toInt - (0 : Int32).toInt).toNat + 1) ls (0 : Int32) (0 : Int32) (Nat.lt_succ_self _) (lv_sub hl [2, 1, 0] rfl) (fun ls e_3 hl he => ?_)
  have hT := nm_u he hT
  refine lv_iload_n hx hb dX7_bits_24 rfl (lv_at hl 0 rfl) ?_
  exact hret _ _ _ hT dX7_bits_25
theorem hv_X7_isFamily : yX7_isFamily.cls = RX7 ∧ yX7_isFamily.cls ≠ "java/lang/invoke/MethodHandle" ∧ yX7_isFamily.cls ≠ "java/lang/invoke/VarHandle" ∧ (parseMethodDescriptor yX7_isFamily.desc).map (fun d => d.parameters.length) = some 1 := by decide +kernel
theorem hd_X7_isFamily : yX7_isFamily.cls ≠ "java/lang/invoke/MethodHandle" ∧ yX7_isFamily.cls ≠ "java/lang/invoke/VarHandle" ∧ (parseMethodDescriptor yX7_isFamily.desc).map (fun d => d.parameters.length) = some 1 := hv_X7_isFamily.2
def sp_X7_isFamily (x1 : Int32) : Int32 :=
  nm (sp_X7_in x1 (0 : Int32) (4 : Int32)) (fun r_1 => r_1)
theorem sp_X7_isFamily_s (x1 : Int32) : (nm (sp_X7_in x1 (0 : Int32) (4 : Int32)) (fun r_1 => r_1)) = sp_X7_isFamily x1 := rfl
set_option maxHeartbeats 4000000 in
set_option maxRecDepth 100000 in
theorem c_X7_isFamily {l : Launch} {x1 : Int32}  : Met l yX7_isFamily (wm yX7_isFamily cX7_isFamily 1 (some .boolean)) ({ frames := 1, cells := 0, slots := 0, locals := 22 } : Room) (SPre [.int x1]) (vp_Si (fun r => r = sp_X7_isFamily x1 ∧ (r = 0 ∨ r = 1))) 0 0 (fun _ => False) := by
  refine metS_z (post := (fun r => r = sp_X7_isFamily x1)) (by decide) (Nat.le_of_ble_eq_true rfl) ?_
  intro p e s m args below meth c ls Q C hN hl hret
  have hx := C.1
  have hb := C.2.1
  have hl : lv_has ls 1 [(0, .int x1)] := hl
  have hT := sp_X7_isFamily_s x1
  refine lv_iload_n hx hb dX7_isFamily_0 rfl (lv_at hl 0 rfl) ?_
  refine lv_iconst (v := 0) hx hb dX7_isFamily_1 (by decide) ?_
  refine lv_iconst (v := 4) hx hb dX7_isFamily_2 (by decide) ?_
  refine vp_callSi (run_sP (As := [.int x1, .int (0 : Int32), .int (4 : Int32)]) (rest := []) C hN (c_X7_in) ⟨wd_3_151, wd_3_152, wd_1_8, wd_3_153⟩ ⟨rfl, rfl⟩ hd_X7_in ⟨Nat.le_of_ble_eq_true rfl, Nat.le_of_ble_eq_true rfl⟩ rfl hl.1 rfl (Nat.le_of_ble_eq_true rfl) dX7_isFamily_3 ⟨Nat.zero_le _, Nat.zero_le _⟩) (fun r_1 hr_1 => ?_)
  have hT := nm_u hr_1.1 hT
  exact hret _ _ _ ⟨hT, hr_1.2⟩ dX7_isFamily_6
theorem hv_X7_isFigure : yX7_isFigure.cls = RX7 ∧ yX7_isFigure.cls ≠ "java/lang/invoke/MethodHandle" ∧ yX7_isFigure.cls ≠ "java/lang/invoke/VarHandle" ∧ (parseMethodDescriptor yX7_isFigure.desc).map (fun d => d.parameters.length) = some 1 := by decide +kernel
theorem hd_X7_isFigure : yX7_isFigure.cls ≠ "java/lang/invoke/MethodHandle" ∧ yX7_isFigure.cls ≠ "java/lang/invoke/VarHandle" ∧ (parseMethodDescriptor yX7_isFigure.desc).map (fun d => d.parameters.length) = some 1 := hv_X7_isFigure.2
def sp_X7_isFigure (x1 : Int32) : Int32 :=
  nm (sp_X7_in x1 (48 : Int32) (57 : Int32)) (fun r_1 => r_1)
theorem sp_X7_isFigure_s (x1 : Int32) : (nm (sp_X7_in x1 (48 : Int32) (57 : Int32)) (fun r_1 => r_1)) = sp_X7_isFigure x1 := rfl
set_option maxHeartbeats 4000000 in
set_option maxRecDepth 100000 in
theorem c_X7_isFigure {l : Launch} {x1 : Int32}  : Met l yX7_isFigure (wm yX7_isFigure cX7_isFigure 1 (some .boolean)) ({ frames := 1, cells := 0, slots := 0, locals := 22 } : Room) (SPre [.int x1]) (vp_Si (fun r => r = sp_X7_isFigure x1 ∧ (r = 0 ∨ r = 1))) 0 0 (fun _ => False) := by
  refine metS_z (post := (fun r => r = sp_X7_isFigure x1)) (by decide) (Nat.le_of_ble_eq_true rfl) ?_
  intro p e s m args below meth c ls Q C hN hl hret
  have hx := C.1
  have hb := C.2.1
  have hl : lv_has ls 1 [(0, .int x1)] := hl
  have hT := sp_X7_isFigure_s x1
  refine lv_iload_n hx hb dX7_isFigure_0 rfl (lv_at hl 0 rfl) ?_
  refine lv_bipush (v := 48) hx hb dX7_isFigure_1 (by decide) ?_
  refine lv_bipush (v := 57) hx hb dX7_isFigure_3 (by decide) ?_
  refine vp_callSi (run_sP (As := [.int x1, .int (48 : Int32), .int (57 : Int32)]) (rest := []) C hN (c_X7_in) ⟨wd_3_151, wd_3_152, wd_1_8, wd_3_153⟩ ⟨rfl, rfl⟩ hd_X7_in ⟨Nat.le_of_ble_eq_true rfl, Nat.le_of_ble_eq_true rfl⟩ rfl hl.1 rfl (Nat.le_of_ble_eq_true rfl) dX7_isFigure_5 ⟨Nat.zero_le _, Nat.zero_le _⟩) (fun r_1 hr_1 => ?_)
  have hT := nm_u hr_1.1 hT
  exact hret _ _ _ ⟨hT, hr_1.2⟩ dX7_isFigure_8
theorem hv_X7_isLetter : yX7_isLetter.cls = RX7 ∧ yX7_isLetter.cls ≠ "java/lang/invoke/MethodHandle" ∧ yX7_isLetter.cls ≠ "java/lang/invoke/VarHandle" ∧ (parseMethodDescriptor yX7_isLetter.desc).map (fun d => d.parameters.length) = some 1 := by decide +kernel
theorem hd_X7_isLetter : yX7_isLetter.cls ≠ "java/lang/invoke/MethodHandle" ∧ yX7_isLetter.cls ≠ "java/lang/invoke/VarHandle" ∧ (parseMethodDescriptor yX7_isLetter.desc).map (fun d => d.parameters.length) = some 1 := hv_X7_isLetter.2
def sp_X7_isLetter (x1 : Int32) : Int32 :=
  nm (sp_X7_in x1 (97 : Int32) (122 : Int32)) (fun r_1 => r_1)
theorem sp_X7_isLetter_s (x1 : Int32) : (nm (sp_X7_in x1 (97 : Int32) (122 : Int32)) (fun r_1 => r_1)) = sp_X7_isLetter x1 := rfl
set_option maxHeartbeats 4000000 in
set_option maxRecDepth 100000 in
theorem c_X7_isLetter {l : Launch} {x1 : Int32}  : Met l yX7_isLetter (wm yX7_isLetter cX7_isLetter 1 (some .boolean)) ({ frames := 1, cells := 0, slots := 0, locals := 22 } : Room) (SPre [.int x1]) (vp_Si (fun r => r = sp_X7_isLetter x1 ∧ (r = 0 ∨ r = 1))) 0 0 (fun _ => False) := by
  refine metS_z (post := (fun r => r = sp_X7_isLetter x1)) (by decide) (Nat.le_of_ble_eq_true rfl) ?_
  intro p e s m args below meth c ls Q C hN hl hret
  have hx := C.1
  have hb := C.2.1
  have hl : lv_has ls 1 [(0, .int x1)] := hl
  have hT := sp_X7_isLetter_s x1
  refine lv_iload_n hx hb dX7_isLetter_0 rfl (lv_at hl 0 rfl) ?_
  refine lv_bipush (v := 97) hx hb dX7_isLetter_1 (by decide) ?_
  refine lv_bipush (v := 122) hx hb dX7_isLetter_3 (by decide) ?_
  refine vp_callSi (run_sP (As := [.int x1, .int (97 : Int32), .int (122 : Int32)]) (rest := []) C hN (c_X7_in) ⟨wd_3_151, wd_3_152, wd_1_8, wd_3_153⟩ ⟨rfl, rfl⟩ hd_X7_in ⟨Nat.le_of_ble_eq_true rfl, Nat.le_of_ble_eq_true rfl⟩ rfl hl.1 rfl (Nat.le_of_ble_eq_true rfl) dX7_isLetter_5 ⟨Nat.zero_le _, Nat.zero_le _⟩) (fun r_1 hr_1 => ?_)
  have hT := nm_u hr_1.1 hT
  exact hret _ _ _ ⟨hT, hr_1.2⟩ dX7_isLetter_8
end
section
theorem hv_X4_heldBy : yX4_heldBy.cls = RX4 ∧ yX4_heldBy.cls ≠ "java/lang/invoke/MethodHandle" ∧ yX4_heldBy.cls ≠ "java/lang/invoke/VarHandle" ∧ (parseMethodDescriptor yX4_heldBy.desc).map (fun d => d.parameters.length) = some 1 := by decide +kernel
theorem hd_X4_heldBy : yX4_heldBy.cls ≠ "java/lang/invoke/MethodHandle" ∧ yX4_heldBy.cls ≠ "java/lang/invoke/VarHandle" ∧ (parseMethodDescriptor yX4_heldBy.desc).map (fun d => d.parameters.length) = some 1 := hv_X4_heldBy.2
def sp_X4_heldBy (Hd : Nat → Nat → Int32) (k : Nat) (x1 : Int32) : Int32 :=
  if x1 < 0 then (0 : Int32) else (if (5 : Int32) ≤ x1 then (0 : Int32) else (Hd k x1.toNatClampNeg))
theorem sp_X4_heldBy_s (Hd : Nat → Nat → Int32) (k : Nat) (x1 : Int32) : (if x1 < 0 then (0 : Int32) else (if (5 : Int32) ≤ x1 then (0 : Int32) else (Hd k x1.toNatClampNeg))) = sp_X4_heldBy Hd k x1 := rfl
set_option maxHeartbeats 4000000 in
set_option maxRecDepth 100000 in
theorem c_X4_heldBy {l : Launch} {D : va_G} {cI cZ cO : ClassId} {sk : Nat → Nat} {g tb : Nat → Int32} {V Hd : Nat → Nat → Int32} {tr : Int64} {k : Nat} {x1 : Int32} (hk : k < 34) (sz : Nat) : Met l yX4_heldBy (wm yX4_heldBy cX4_heldBy 2 (some .int)) ({ frames := 0, cells := 0, slots := 0, locals := 0 } : Room) (GPre D (ty3 cI cZ cO) (WW cI cO sk g tb V Hd tr) [.ref (sk (20 + 2 * k)), .int x1] sz) (vp_Si (fun r => r = sp_X4_heldBy Hd k x1)) 0 0 (fun _ => False) := by
  refine metP_i (post := (fun r => r = sp_X4_heldBy Hd k x1)) (by decide) (Nat.le_of_ble_eq_true rfl) ?_
  intro p e s m args below meth c ls Q C hsz hP hK hD hN hl hret
  have hx := C.1
  have hb := C.2.1
  have hl : lv_has ls 2 [(0, .ref (sk (20 + 2 * k))), (1, .int x1)] := hl
  have hT := sp_X4_heldBy_s Hd k x1
  refine lv_iload_n hx hb dX4_heldBy_0 rfl (lv_at hl 1 rfl) ?_
  refine lv_if_lt (tgt := 22) hx hb dX4_heldBy_1 (by decide) (fun c_1 => ?_) (fun c_1 => ?_)
  · have hT := it_t c_1 hT
    refine lv_iconst (v := 0) hx hb dX4_heldBy_22 (by decide) ?_
    exact hret _ _ _ hT dX4_heldBy_23
  · have hT := it_f c_1 hT
    refine lv_iload_n hx hb dX4_heldBy_4 rfl (lv_at hl 1 rfl) ?_
    refine lv_aload_n hx hb dX4_heldBy_5 rfl (lv_at hl 0 rfl) ?_
    refine gX4_held C hK hP hk wd_1_60 dX4_heldBy_6 ?_
    refine lX_held C hK hP hk dX4_heldBy_9 ?_
    refine lv_icmp_ge (tgt := 22) hx hb dX4_heldBy_10 (by decide) (fun c_2 => ?_) (fun c_2 => ?_)
    · have hT := it_t c_2 hT
      refine lv_iconst (v := 0) hx hb dX4_heldBy_22 (by decide) ?_
      exact hret _ _ _ hT dX4_heldBy_23
    · have hT := it_f c_2 hT
      refine lv_aload_n hx hb dX4_heldBy_13 rfl (lv_at hl 0 rfl) ?_
      refine gX4_held C hK hP hk wd_1_60 dX4_heldBy_14 ?_
      refine lv_iload_n hx hb dX4_heldBy_17 rfl (lv_at hl 1 rfl) ?_
      refine aX_held C hK hP hk (ix_ng_nle c_1 c_2) dX4_heldBy_18 ?_
      refine lv_goto (tgt := 23) hx hb dX4_heldBy_19 (by decide) ?_
      exact hret _ _ _ hT dX4_heldBy_23
theorem hv_X4_rowOf : yX4_rowOf.cls = RX4 ∧ yX4_rowOf.cls ≠ "java/lang/invoke/MethodHandle" ∧ yX4_rowOf.cls ≠ "java/lang/invoke/VarHandle" ∧ (parseMethodDescriptor yX4_rowOf.desc).map (fun d => d.parameters.length) = some 1 := by decide +kernel
theorem hd_X4_rowOf : yX4_rowOf.cls ≠ "java/lang/invoke/MethodHandle" ∧ yX4_rowOf.cls ≠ "java/lang/invoke/VarHandle" ∧ (parseMethodDescriptor yX4_rowOf.desc).map (fun d => d.parameters.length) = some 1 := hv_X4_rowOf.2
def sp_X4_rowOf (V : Nat → Nat → Int32) (k : Nat) (x1 : Int32) : Int32 :=
  (((1 : Int32) <<< ((V k 0) &&& 31)) - (1 : Int32)) <<< (((5 : Int32) * x1) &&& 31)
theorem sp_X4_rowOf_s (V : Nat → Nat → Int32) (k : Nat) (x1 : Int32) : ((((1 : Int32) <<< ((V k 0) &&& 31)) - (1 : Int32)) <<< (((5 : Int32) * x1) &&& 31)) = sp_X4_rowOf V k x1 := rfl
set_option maxHeartbeats 4000000 in
set_option maxRecDepth 100000 in
theorem c_X4_rowOf {l : Launch} {D : va_G} {cI cZ cO : ClassId} {sk : Nat → Nat} {g tb : Nat → Int32} {V Hd : Nat → Nat → Int32} {tr : Int64} {k : Nat} {x1 : Int32} (hk : k < 34) (sz : Nat) : Met l yX4_rowOf (wm yX4_rowOf cX4_rowOf 2 (some .int)) ({ frames := 0, cells := 0, slots := 0, locals := 0 } : Room) (GPre D (ty3 cI cZ cO) (WW cI cO sk g tb V Hd tr) [.ref (sk (20 + 2 * k)), .int x1] sz) (vp_Si (fun r => r = sp_X4_rowOf V k x1)) 0 0 (fun _ => False) := by
  refine metP_i (post := (fun r => r = sp_X4_rowOf V k x1)) (by decide) (Nat.le_of_ble_eq_true rfl) ?_
  intro p e s m args below meth c ls Q C hsz hP hK hD hN hl hret
  have hx := C.1
  have hb := C.2.1
  have hl : lv_has ls 2 [(0, .ref (sk (20 + 2 * k))), (1, .int x1)] := hl
  have hT := sp_X4_rowOf_s V k x1
  refine lv_iconst (v := 1) hx hb dX4_rowOf_0 (by decide) ?_
  refine lv_aload_n hx hb dX4_rowOf_1 rfl (lv_at hl 0 rfl) ?_
  refine gX4_wide C hK hP hk wd_1_45 dX4_rowOf_2 ?_
  refine lv_ishl hx hb dX4_rowOf_5 ?_
  refine lv_iconst (v := 1) hx hb dX4_rowOf_6 (by decide) ?_
  refine lv_isub hx hb dX4_rowOf_7 ?_
  refine lv_iconst (v := 5) hx hb dX4_rowOf_8 (by decide) ?_
  refine lv_iload_n hx hb dX4_rowOf_9 rfl (lv_at hl 1 rfl) ?_
  refine lv_imul hx hb dX4_rowOf_10 ?_
  refine lv_ishl hx hb dX4_rowOf_11 ?_
  exact hret _ _ _ hT dX4_rowOf_12
theorem hv_X4_cellsFrom : yX4_cellsFrom.cls = RX4 ∧ yX4_cellsFrom.cls ≠ "java/lang/invoke/MethodHandle" ∧ yX4_cellsFrom.cls ≠ "java/lang/invoke/VarHandle" ∧ (parseMethodDescriptor yX4_cellsFrom.desc).map (fun d => d.parameters.length) = some 1 := by decide +kernel
theorem hd_X4_cellsFrom : yX4_cellsFrom.cls ≠ "java/lang/invoke/MethodHandle" ∧ yX4_cellsFrom.cls ≠ "java/lang/invoke/VarHandle" ∧ (parseMethodDescriptor yX4_cellsFrom.desc).map (fun d => d.parameters.length) = some 1 := hv_X4_cellsFrom.2
def lp_X4_cellsFrom_4 (V : Nat → Nat → Int32) (k : Nat) : Nat → Int32 → Int32 → Int32
  | 0, y_1, y_2 => y_1
  | n + 1, y_1, y_2 => if (V k 1) ≤ y_2 then y_1 else (nm (sp_X4_rowOf V k y_2) (fun r_5 => lp_X4_cellsFrom_4 V k n (y_1 ||| r_5) (y_2 + 1)))
theorem lp_X4_cellsFrom_4_s (V : Nat → Nat → Int32) (k : Nat) (n : Nat) (y_1 : Int32) (y_2 : Int32) : (if (V k 1) ≤ y_2 then y_1 else (nm (sp_X4_rowOf V k y_2) (fun r_5 => lp_X4_cellsFrom_4 V k n (y_1 ||| r_5) (y_2 + 1)))) = lp_X4_cellsFrom_4 V k (n + 1) y_1 y_2 := rfl
def sp_X4_cellsFrom (V : Nat → Nat → Int32) (k : Nat) (x1 : Int32) : Int32 :=
  nm (lp_X4_cellsFrom_4 V k (((V k 1).toInt - x1.toInt).toNat + 1) (0 : Int32) x1) (fun e_3 => e_3)
theorem sp_X4_cellsFrom_s (V : Nat → Nat → Int32) (k : Nat) (x1 : Int32) : (nm (lp_X4_cellsFrom_4 V k (((V k 1).toInt - x1.toInt).toNat + 1) (0 : Int32) x1) (fun e_3 => e_3)) = sp_X4_cellsFrom V k x1 := rfl
set_option maxHeartbeats 4000000 in
set_option maxRecDepth 100000 in
theorem c_X4_cellsFrom {l : Launch} {D : va_G} {cI cZ cO : ClassId} {sk : Nat → Nat} {g tb : Nat → Int32} {V Hd : Nat → Nat → Int32} {tr : Int64} {k : Nat} {x1 : Int32} (hk : k < 34) (sz : Nat) : Met l yX4_cellsFrom (wm yX4_cellsFrom cX4_cellsFrom 4 (some .int)) ({ frames := 1, cells := 0, slots := 0, locals := 21 } : Room) (GPre D (ty3 cI cZ cO) (WW cI cO sk g tb V Hd tr) [.ref (sk (20 + 2 * k)), .int x1] sz) (vp_Si (fun r => r = sp_X4_cellsFrom V k x1)) 0 0 (fun _ => False) := by
  refine metP_i (post := (fun r => r = sp_X4_cellsFrom V k x1)) (by decide) (Nat.le_of_ble_eq_true rfl) ?_
  intro p e s m args below meth c ls Q C hsz hP hK hD hN hl hret
  have hx := C.1
  have hb := C.2.1
  have hl : lv_has ls 4 [(0, .ref (sk (20 + 2 * k))), (1, .int x1)] := hl
  have hT := sp_X4_cellsFrom_s V k x1
  refine lv_iconst (v := 0) hx hb dX4_cellsFrom_0 (by decide) ?_
  refine lv_istore_n (lv' := [(2, .int (0 : Int32)), (0, .ref (sk (20 + 2 * k))), (1, .int x1)]) hx hb dX4_cellsFrom_1 rfl hl (by decide) rfl (fun ls hl => ?_)
  refine lv_iload_n hx hb dX4_cellsFrom_2 rfl (lv_at hl 2 rfl) ?_
  refine lv_istore_n (lv' := [(3, .int x1), (2, .int (0 : Int32)), (0, .ref (sk (20 + 2 * k))), (1, .int x1)]) hx hb dX4_cellsFrom_3 rfl hl (by decide) rfl (fun ls hl => ?_)
  have L_4 : ∀ (n : Nat) (ls : Array Slot) (y_1 : Int32) (y_2 : Int32) (hm : ((V k 1).toInt - y_2.toInt).toNat < n) (hl : lv_has ls 4 [(0, .ref (sk (20 + 2 * k))), (2, .int y_1), (3, .int y_2)]) (kont : ∀ (ls : Array Slot) (e_3 : Int32), lv_has ls 4 [(2, .int e_3)] → e_3 = lp_X4_cellsFrom_4 V k n y_1 y_2 → W p l e ({ frames := 1, cells := 0, slots := 0, locals := 21 } : Room) s m args below meth c s.heap [] 0 0 Q (F0 m 26 ls [])), W p l e ({ frames := 1, cells := 0, slots := 0, locals := 21 } : Room) s m args below meth c s.heap [] 0 0 Q (F0 m 4 ls []) := by
    intro n
    induction n with
    | zero => intro ls y_1 y_2 hm; exact absurd hm (Nat.not_lt_zero _)
    | succ n ih =>
      intro ls y_1 y_2 hm hl kont
      have hT := lp_X4_cellsFrom_4_s V k n y_1 y_2
      refine lv_iload_n hx hb dX4_cellsFrom_4 rfl (lv_at hl 2 rfl) ?_
      refine lv_aload_n hx hb dX4_cellsFrom_5 rfl (lv_at hl 0 rfl) ?_
      refine gX4_rows C hK hP hk wd_1_48 dX4_cellsFrom_6 ?_
      refine lv_icmp_ge (tgt := 26) hx hb dX4_cellsFrom_9 (by decide) (fun c_4 => ?_) (fun c_4 => ?_)
      · have hT := it_t c_4 hT
        exact kont ls y_1 (lv_sub hl [1] rfl) hT
      · have hT := it_f c_4 hT
        refine lv_iload_n hx hb dX4_cellsFrom_12 rfl (lv_at hl 1 rfl) ?_
        refine lv_aload_n hx hb dX4_cellsFrom_13 rfl (lv_at hl 0 rfl) ?_
        refine lv_iload_n hx hb dX4_cellsFrom_14 rfl (lv_at hl 2 rfl) ?_
        refine vp_callSi (run_vP (As := [.int y_2]) (rest := [.int y_1]) C hK hP hD hN (c_X4_rowOf hk _) (rX4_r hK hP hk) ⟨wd_2_66, wd_2_68, ws_10, wd_1_4, wd_2_69⟩ ⟨rfl, rfl⟩ hv_X4_rowOf ⟨Nat.le_of_ble_eq_true rfl, Nat.le_of_ble_eq_true rfl⟩ rfl hl.1 rfl (Nat.le_of_ble_eq_true rfl) dX4_cellsFrom_15 ⟨Nat.zero_le _, Nat.zero_le _⟩) (fun r_5 hr_5 => ?_)
        have hT := nm_u hr_5 hT
        refine lv_ior hx hb dX4_cellsFrom_18 ?_
        refine lv_istore_n (lv' := [(2, .int (y_1 ||| r_5)), (0, .ref (sk (20 + 2 * k))), (3, .int y_2)]) hx hb dX4_cellsFrom_19 rfl hl (by decide) rfl (fun ls hl => ?_)
        refine lv_iinc (v := y_2 + 1) (lv' := [(3, .int (y_2 + 1)), (2, .int (y_1 ||| r_5)), (0, .ref (sk (20 + 2 * k)))]) hx hb dX4_cellsFrom_20 hl (k := 2) rfl rfl (by decide) rfl (fun ls hl => ?_)
        refine lv_goto (tgt := 4) hx hb dX4_cellsFrom_23 (by decide) ?_
        exact ih ls (y_1 ||| r_5) (y_2 + 1) (ms_up c_4 hm) (lv_sub hl [2, 1, 0] rfl) (fun ls z0 hl he => kont ls z0 hl (he.trans hT))
  refine L_4 (((V k 1).toInt - x1.toInt).toNat + 1) ls (0 : Int32) x1 (Nat.lt_succ_self _) (lv_sub hl [2, 1, 0] rfl) (fun ls e_3 hl he => ?_)
  have hT := nm_u he hT
  refine lv_iload_n hx hb dX4_cellsFrom_26 rfl (lv_at hl 0 rfl) ?_
  exact hret _ _ _ hT dX4_cellsFrom_27
theorem hv_X4_allCells : yX4_allCells.cls = RX4 ∧ yX4_allCells.cls ≠ "java/lang/invoke/MethodHandle" ∧ yX4_allCells.cls ≠ "java/lang/invoke/VarHandle" ∧ (parseMethodDescriptor yX4_allCells.desc).map (fun d => d.parameters.length) = some 0 := by decide +kernel
theorem hd_X4_allCells : yX4_allCells.cls ≠ "java/lang/invoke/MethodHandle" ∧ yX4_allCells.cls ≠ "java/lang/invoke/VarHandle" ∧ (parseMethodDescriptor yX4_allCells.desc).map (fun d => d.parameters.length) = some 0 := hv_X4_allCells.2
def sp_X4_allCells (V : Nat → Nat → Int32) (k : Nat) : Int32 :=
  nm (sp_X4_cellsFrom V k (0 : Int32)) (fun r_1 => r_1)
theorem sp_X4_allCells_s (V : Nat → Nat → Int32) (k : Nat) : (nm (sp_X4_cellsFrom V k (0 : Int32)) (fun r_1 => r_1)) = sp_X4_allCells V k := rfl
set_option maxHeartbeats 4000000 in
set_option maxRecDepth 100000 in
theorem c_X4_allCells {l : Launch} {D : va_G} {cI cZ cO : ClassId} {sk : Nat → Nat} {g tb : Nat → Int32} {V Hd : Nat → Nat → Int32} {tr : Int64} {k : Nat} (hk : k < 34) (sz : Nat) : Met l yX4_allCells (wm yX4_allCells cX4_allCells 1 (some .int)) ({ frames := 2, cells := 0, slots := 0, locals := 44 } : Room) (GPre D (ty3 cI cZ cO) (WW cI cO sk g tb V Hd tr) [.ref (sk (20 + 2 * k))] sz) (vp_Si (fun r => r = sp_X4_allCells V k)) 0 0 (fun _ => False) := by
  refine metP_i (post := (fun r => r = sp_X4_allCells V k)) (by decide) (Nat.le_of_ble_eq_true rfl) ?_
  intro p e s m args below meth c ls Q C hsz hP hK hD hN hl hret
  have hx := C.1
  have hb := C.2.1
  have hl : lv_has ls 1 [(0, .ref (sk (20 + 2 * k)))] := hl
  have hT := sp_X4_allCells_s V k
  refine lv_aload_n hx hb dX4_allCells_0 rfl (lv_at hl 0 rfl) ?_
  refine lv_iconst (v := 0) hx hb dX4_allCells_1 (by decide) ?_
  refine vp_callSi (run_vP (As := [.int (0 : Int32)]) (rest := []) C hK hP hD hN (c_X4_cellsFrom hk _) (rX4_r hK hP hk) ⟨wd_2_62, wd_2_64, ws_9, wd_1_4, wd_2_65⟩ ⟨rfl, rfl⟩ hv_X4_cellsFrom ⟨Nat.le_of_ble_eq_true rfl, Nat.le_of_ble_eq_true rfl⟩ rfl hl.1 rfl (Nat.le_of_ble_eq_true rfl) dX4_allCells_2 ⟨Nat.zero_le _, Nat.zero_le _⟩) (fun r_1 hr_1 => ?_)
  have hT := nm_u hr_1 hT
  exact hret _ _ _ hT dX4_allCells_5
theorem hv_X4_dryCells : yX4_dryCells.cls = RX4 ∧ yX4_dryCells.cls ≠ "java/lang/invoke/MethodHandle" ∧ yX4_dryCells.cls ≠ "java/lang/invoke/VarHandle" ∧ (parseMethodDescriptor yX4_dryCells.desc).map (fun d => d.parameters.length) = some 0 := by decide +kernel
theorem hd_X4_dryCells : yX4_dryCells.cls ≠ "java/lang/invoke/MethodHandle" ∧ yX4_dryCells.cls ≠ "java/lang/invoke/VarHandle" ∧ (parseMethodDescriptor yX4_dryCells.desc).map (fun d => d.parameters.length) = some 0 := hv_X4_dryCells.2
def sp_X4_dryCells (V : Nat → Nat → Int32) (k : Nat) : Int32 :=
  nm (sp_X4_cellsFrom V k (V k 4)) (fun r_1 => r_1)
theorem sp_X4_dryCells_s (V : Nat → Nat → Int32) (k : Nat) : (nm (sp_X4_cellsFrom V k (V k 4)) (fun r_1 => r_1)) = sp_X4_dryCells V k := rfl
set_option maxHeartbeats 4000000 in
set_option maxRecDepth 100000 in
theorem c_X4_dryCells {l : Launch} {D : va_G} {cI cZ cO : ClassId} {sk : Nat → Nat} {g tb : Nat → Int32} {V Hd : Nat → Nat → Int32} {tr : Int64} {k : Nat} (hk : k < 34) (sz : Nat) : Met l yX4_dryCells (wm yX4_dryCells cX4_dryCells 1 (some .int)) ({ frames := 2, cells := 0, slots := 0, locals := 44 } : Room) (GPre D (ty3 cI cZ cO) (WW cI cO sk g tb V Hd tr) [.ref (sk (20 + 2 * k))] sz) (vp_Si (fun r => r = sp_X4_dryCells V k)) 0 0 (fun _ => False) := by
  refine metP_i (post := (fun r => r = sp_X4_dryCells V k)) (by decide) (Nat.le_of_ble_eq_true rfl) ?_
  intro p e s m args below meth c ls Q C hsz hP hK hD hN hl hret
  have hx := C.1
  have hb := C.2.1
  have hl : lv_has ls 1 [(0, .ref (sk (20 + 2 * k)))] := hl
  have hT := sp_X4_dryCells_s V k
  refine lv_aload_n hx hb dX4_dryCells_0 rfl (lv_at hl 0 rfl) ?_
  refine lv_aload_n hx hb dX4_dryCells_1 rfl (lv_at hl 0 rfl) ?_
  refine gX4_tide C hK hP hk wd_1_57 dX4_dryCells_2 ?_
  refine vp_callSi (run_vP (As := [.int (V k 4)]) (rest := []) C hK hP hD hN (c_X4_cellsFrom hk _) (rX4_r hK hP hk) ⟨wd_2_62, wd_2_64, ws_9, wd_1_4, wd_2_65⟩ ⟨rfl, rfl⟩ hv_X4_cellsFrom ⟨Nat.le_of_ble_eq_true rfl, Nat.le_of_ble_eq_true rfl⟩ rfl hl.1 rfl (Nat.le_of_ble_eq_true rfl) dX4_dryCells_5 ⟨Nat.zero_le _, Nat.zero_le _⟩) (fun r_1 hr_1 => ?_)
  have hT := nm_u hr_1 hT
  exact hret _ _ _ hT dX4_dryCells_8
theorem hv_X4_bareCells : yX4_bareCells.cls = RX4 ∧ yX4_bareCells.cls ≠ "java/lang/invoke/MethodHandle" ∧ yX4_bareCells.cls ≠ "java/lang/invoke/VarHandle" ∧ (parseMethodDescriptor yX4_bareCells.desc).map (fun d => d.parameters.length) = some 0 := by decide +kernel
theorem hd_X4_bareCells : yX4_bareCells.cls ≠ "java/lang/invoke/MethodHandle" ∧ yX4_bareCells.cls ≠ "java/lang/invoke/VarHandle" ∧ (parseMethodDescriptor yX4_bareCells.desc).map (fun d => d.parameters.length) = some 0 := hv_X4_bareCells.2
def sp_X4_bareCells (V : Nat → Nat → Int32) (k : Nat) : Int32 :=
  nm (sp_X4_dryCells V k) (fun r_1 => r_1 &&& ((V k 2) ^^^ (-1 : Int32)))
theorem sp_X4_bareCells_s (V : Nat → Nat → Int32) (k : Nat) : (nm (sp_X4_dryCells V k) (fun r_1 => r_1 &&& ((V k 2) ^^^ (-1 : Int32)))) = sp_X4_bareCells V k := rfl
set_option maxHeartbeats 4000000 in
set_option maxRecDepth 100000 in
theorem c_X4_bareCells {l : Launch} {D : va_G} {cI cZ cO : ClassId} {sk : Nat → Nat} {g tb : Nat → Int32} {V Hd : Nat → Nat → Int32} {tr : Int64} {k : Nat} (hk : k < 34) (sz : Nat) : Met l yX4_bareCells (wm yX4_bareCells cX4_bareCells 1 (some .int)) ({ frames := 3, cells := 0, slots := 0, locals := 64 } : Room) (GPre D (ty3 cI cZ cO) (WW cI cO sk g tb V Hd tr) [.ref (sk (20 + 2 * k))] sz) (vp_Si (fun r => r = sp_X4_bareCells V k)) 0 0 (fun _ => False) := by
  refine metP_i (post := (fun r => r = sp_X4_bareCells V k)) (by decide) (Nat.le_of_ble_eq_true rfl) ?_
  intro p e s m args below meth c ls Q C hsz hP hK hD hN hl hret
  have hx := C.1
  have hb := C.2.1
  have hl : lv_has ls 1 [(0, .ref (sk (20 + 2 * k)))] := hl
  have hT := sp_X4_bareCells_s V k
  refine lv_aload_n hx hb dX4_bareCells_0 rfl (lv_at hl 0 rfl) ?_
  refine vp_callSi (run_vP (As := []) (rest := []) C hK hP hD hN (c_X4_dryCells hk _) (rX4_r hK hP hk) ⟨wd_2_86, wd_2_59, wd_2_60, wd_1_4, wd_2_61⟩ ⟨rfl, rfl⟩ hv_X4_dryCells ⟨Nat.le_of_ble_eq_true rfl, Nat.le_of_ble_eq_true rfl⟩ rfl hl.1 rfl (Nat.le_of_ble_eq_true rfl) dX4_bareCells_1 ⟨Nat.zero_le _, Nat.zero_le _⟩) (fun r_1 hr_1 => ?_)
  have hT := nm_u hr_1 hT
  refine lv_aload_n hx hb dX4_bareCells_4 rfl (lv_at hl 0 rfl) ?_
  refine gX4_cloth C hK hP hk wd_1_51 dX4_bareCells_5 ?_
  refine lv_iconst (v := -1) hx hb dX4_bareCells_8 (by decide) ?_
  refine lv_ixor hx hb dX4_bareCells_9 ?_
  refine lv_iand hx hb dX4_bareCells_10 ?_
  exact hret _ _ _ hT dX4_bareCells_11
theorem hv_X4_isCell : yX4_isCell.cls = RX4 ∧ yX4_isCell.cls ≠ "java/lang/invoke/MethodHandle" ∧ yX4_isCell.cls ≠ "java/lang/invoke/VarHandle" ∧ (parseMethodDescriptor yX4_isCell.desc).map (fun d => d.parameters.length) = some 2 := by decide +kernel
theorem hd_X4_isCell : yX4_isCell.cls ≠ "java/lang/invoke/MethodHandle" ∧ yX4_isCell.cls ≠ "java/lang/invoke/VarHandle" ∧ (parseMethodDescriptor yX4_isCell.desc).map (fun d => d.parameters.length) = some 2 := hv_X4_isCell.2
def sp_X4_isCell (V : Nat → Nat → Int32) (k : Nat) (x1 : Int32) (x2 : Int32) : Int32 :=
  nm (sp_X6_isWithin x1 ((V k 0) - (1 : Int32))) (fun r_1 => if r_1 = 0 then (0 : Int32) else (nm (sp_X6_isWithin x2 ((V k 1) - (1 : Int32))) (fun r_3 => if r_3 = 0 then (0 : Int32) else (1 : Int32))))
theorem sp_X4_isCell_s (V : Nat → Nat → Int32) (k : Nat) (x1 : Int32) (x2 : Int32) : (nm (sp_X6_isWithin x1 ((V k 0) - (1 : Int32))) (fun r_1 => if r_1 = 0 then (0 : Int32) else (nm (sp_X6_isWithin x2 ((V k 1) - (1 : Int32))) (fun r_3 => if r_3 = 0 then (0 : Int32) else (1 : Int32))))) = sp_X4_isCell V k x1 x2 := rfl
set_option maxHeartbeats 4000000 in
set_option maxRecDepth 100000 in
theorem c_X4_isCell {l : Launch} {D : va_G} {cI cZ cO : ClassId} {sk : Nat → Nat} {g tb : Nat → Int32} {V Hd : Nat → Nat → Int32} {tr : Int64} {k : Nat} {x1 : Int32} {x2 : Int32} (hk : k < 34) (sz : Nat) : Met l yX4_isCell (wm yX4_isCell cX4_isCell 3 (some .boolean)) ({ frames := 1, cells := 0, slots := 0, locals := 21 } : Room) (GPre D (ty3 cI cZ cO) (WW cI cO sk g tb V Hd tr) [.ref (sk (20 + 2 * k)), .int x1, .int x2] sz) (vp_Si (fun r => r = sp_X4_isCell V k x1 x2 ∧ (r = 0 ∨ r = 1))) 0 0 (fun _ => False) := by
  refine metP_z (post := (fun r => r = sp_X4_isCell V k x1 x2)) (by decide) (Nat.le_of_ble_eq_true rfl) ?_
  intro p e s m args below meth c ls Q C hsz hP hK hD hN hl hret
  have hx := C.1
  have hb := C.2.1
  have hl : lv_has ls 3 [(0, .ref (sk (20 + 2 * k))), (1, .int x1), (2, .int x2)] := hl
  have hT := sp_X4_isCell_s V k x1 x2
  refine lv_iload_n hx hb dX4_isCell_0 rfl (lv_at hl 1 rfl) ?_
  refine lv_aload_n hx hb dX4_isCell_1 rfl (lv_at hl 0 rfl) ?_
  refine gX4_wide C hK hP hk wd_1_45 dX4_isCell_2 ?_
  refine lv_iconst (v := 1) hx hb dX4_isCell_5 (by decide) ?_
  refine lv_isub hx hb dX4_isCell_6 ?_
  refine vp_callSi (run_nP (As := [.int x1, .int ((V k 0) - (1 : Int32))]) (rest := []) C hN (c_X6_isWithin) ⟨nw_7, wd_1_189, wd_1_1, wd_1_190⟩ ⟨rfl, rfl⟩ hd_X6_isWithin ⟨Nat.le_of_ble_eq_true rfl, Nat.le_of_ble_eq_true rfl⟩ rfl hl.1 rfl (Nat.le_of_ble_eq_true rfl) dX4_isCell_7 ⟨Nat.zero_le _, Nat.zero_le _⟩) (fun r_1 hr_1 => ?_)
  have hT := nm_u hr_1.1 hT
  refine lv_if_eq (tgt := 30) hx hb dX4_isCell_10 (by decide) (fun c_2 => ?_) (fun c_2 => ?_)
  · have hT := it_t c_2 hT
    refine lv_iconst (v := 0) hx hb dX4_isCell_30 (by decide) ?_
    exact hret _ _ _ ⟨hT, (Or.inl rfl)⟩ dX4_isCell_31
  · have hT := it_f c_2 hT
    refine lv_iload_n hx hb dX4_isCell_13 rfl (lv_at hl 2 rfl) ?_
    refine lv_aload_n hx hb dX4_isCell_14 rfl (lv_at hl 0 rfl) ?_
    refine gX4_rows C hK hP hk wd_1_48 dX4_isCell_15 ?_
    refine lv_iconst (v := 1) hx hb dX4_isCell_18 (by decide) ?_
    refine lv_isub hx hb dX4_isCell_19 ?_
    refine vp_callSi (run_nP (As := [.int x2, .int ((V k 1) - (1 : Int32))]) (rest := []) C hN (c_X6_isWithin) ⟨nw_7, wd_1_189, wd_1_1, wd_1_190⟩ ⟨rfl, rfl⟩ hd_X6_isWithin ⟨Nat.le_of_ble_eq_true rfl, Nat.le_of_ble_eq_true rfl⟩ rfl hl.1 rfl (Nat.le_of_ble_eq_true rfl) dX4_isCell_20 ⟨Nat.zero_le _, Nat.zero_le _⟩) (fun r_3 hr_3 => ?_)
    have hT := nm_u hr_3.1 hT
    refine lv_if_eq (tgt := 30) hx hb dX4_isCell_23 (by decide) (fun c_4 => ?_) (fun c_4 => ?_)
    · have hT := it_t c_4 hT
      refine lv_iconst (v := 0) hx hb dX4_isCell_30 (by decide) ?_
      exact hret _ _ _ ⟨hT, (Or.inl rfl)⟩ dX4_isCell_31
    · have hT := it_f c_4 hT
      refine lv_iconst (v := 1) hx hb dX4_isCell_26 (by decide) ?_
      refine lv_goto (tgt := 31) hx hb dX4_isCell_27 (by decide) ?_
      exact hret _ _ _ ⟨hT, (Or.inr rfl)⟩ dX4_isCell_31
theorem hv_X4_heldByAny : yX4_heldByAny.cls = RX4 ∧ yX4_heldByAny.cls ≠ "java/lang/invoke/MethodHandle" ∧ yX4_heldByAny.cls ≠ "java/lang/invoke/VarHandle" ∧ (parseMethodDescriptor yX4_heldByAny.desc).map (fun d => d.parameters.length) = some 0 := by decide +kernel
theorem hd_X4_heldByAny : yX4_heldByAny.cls ≠ "java/lang/invoke/MethodHandle" ∧ yX4_heldByAny.cls ≠ "java/lang/invoke/VarHandle" ∧ (parseMethodDescriptor yX4_heldByAny.desc).map (fun d => d.parameters.length) = some 0 := hv_X4_heldByAny.2
def lp_X4_heldByAny_4 (Hd : Nat → Nat → Int32) (k : Nat) : Nat → Int32 → Int32 → Int32
  | 0, y_1, y_2 => y_1
  | n + 1, y_1, y_2 => if (5 : Int32) ≤ y_2 then y_1 else (lp_X4_heldByAny_4 Hd k n (y_1 ||| (Hd k y_2.toNatClampNeg)) (y_2 + 1))
theorem lp_X4_heldByAny_4_s (Hd : Nat → Nat → Int32) (k : Nat) (n : Nat) (y_1 : Int32) (y_2 : Int32) : (if (5 : Int32) ≤ y_2 then y_1 else (lp_X4_heldByAny_4 Hd k n (y_1 ||| (Hd k y_2.toNatClampNeg)) (y_2 + 1))) = lp_X4_heldByAny_4 Hd k (n + 1) y_1 y_2 := rfl
def sp_X4_heldByAny (Hd : Nat → Nat → Int32) (k : Nat) : Int32 :=
  nm (lp_X4_heldByAny_4 Hd k (((5 : Int32).toInt - (0 : Int32).toInt).toNat + 1) (0 : Int32) (0 : Int32)) (fun e_3 => e_3)
theorem sp_X4_heldByAny_s (Hd : Nat → Nat → Int32) (k : Nat) : (nm (lp_X4_heldByAny_4 Hd k (((5 : Int32).toInt - (0 : Int32).toInt).toNat + 1) (0 : Int32) (0 : Int32)) (fun e_3 => e_3)) = sp_X4_heldByAny Hd k := rfl
set_option maxHeartbeats 4000000 in
set_option maxRecDepth 100000 in
theorem c_X4_heldByAny {l : Launch} {D : va_G} {cI cZ cO : ClassId} {sk : Nat → Nat} {g tb : Nat → Int32} {V Hd : Nat → Nat → Int32} {tr : Int64} {k : Nat} (hk : k < 34) (sz : Nat) : Met l yX4_heldByAny (wm yX4_heldByAny cX4_heldByAny 3 (some .int)) ({ frames := 0, cells := 0, slots := 0, locals := 0 } : Room) (GPre D (ty3 cI cZ cO) (WW cI cO sk g tb V Hd tr) [.ref (sk (20 + 2 * k))] sz) (vp_Si (fun r => r = sp_X4_heldByAny Hd k)) 0 0 (fun _ => False) := by
  refine metP_i (post := (fun r => r = sp_X4_heldByAny Hd k)) (by decide) (Nat.le_of_ble_eq_true rfl) ?_
  intro p e s m args below meth c ls Q C hsz hP hK hD hN hl hret
  have hx := C.1
  have hb := C.2.1
  have hl : lv_has ls 3 [(0, .ref (sk (20 + 2 * k)))] := hl
  have hT := sp_X4_heldByAny_s Hd k
  refine lv_iconst (v := 0) hx hb dX4_heldByAny_0 (by decide) ?_
  refine lv_istore_n (lv' := [(1, .int (0 : Int32)), (0, .ref (sk (20 + 2 * k)))]) hx hb dX4_heldByAny_1 rfl hl (by decide) rfl (fun ls hl => ?_)
  refine lv_iconst (v := 0) hx hb dX4_heldByAny_2 (by decide) ?_
  refine lv_istore_n (lv' := [(2, .int (0 : Int32)), (1, .int (0 : Int32)), (0, .ref (sk (20 + 2 * k)))]) hx hb dX4_heldByAny_3 rfl hl (by decide) rfl (fun ls hl => ?_)
  have L_4 : ∀ (n : Nat) (ls : Array Slot) (y_1 : Int32) (y_2 : Int32) (z2 : 0 ≤ y_2.toInt) (hm : ((5 : Int32).toInt - y_2.toInt).toNat < n) (hl : lv_has ls 3 [(0, .ref (sk (20 + 2 * k))), (1, .int y_1), (2, .int y_2)]) (kont : ∀ (ls : Array Slot) (e_3 : Int32), lv_has ls 3 [(1, .int e_3)] → e_3 = lp_X4_heldByAny_4 Hd k n y_1 y_2 → W p l e ({ frames := 0, cells := 0, slots := 0, locals := 0 } : Room) s m args below meth c s.heap [] 0 0 Q (F0 m 28 ls [])), W p l e ({ frames := 0, cells := 0, slots := 0, locals := 0 } : Room) s m args below meth c s.heap [] 0 0 Q (F0 m 4 ls []) := by
    intro n
    induction n with
    | zero => intro ls y_1 y_2 z2 hm; exact absurd hm (Nat.not_lt_zero _)
    | succ n ih =>
      intro ls y_1 y_2 z2 hm hl kont
      have hT := lp_X4_heldByAny_4_s Hd k n y_1 y_2
      refine lv_iload_n hx hb dX4_heldByAny_4 rfl (lv_at hl 2 rfl) ?_
      refine lv_aload_n hx hb dX4_heldByAny_5 rfl (lv_at hl 0 rfl) ?_
      refine gX4_held C hK hP hk wd_1_60 dX4_heldByAny_6 ?_
      refine lX_held C hK hP hk dX4_heldByAny_9 ?_
      refine lv_icmp_ge (tgt := 28) hx hb dX4_heldByAny_10 (by decide) (fun c_4 => ?_) (fun c_4 => ?_)
      · have hT := it_t c_4 hT
        exact kont ls y_1 (lv_sub hl [1] rfl) hT
      · have hT := it_f c_4 hT
        refine lv_iload_n hx hb dX4_heldByAny_13 rfl (lv_at hl 1 rfl) ?_
        refine lv_aload_n hx hb dX4_heldByAny_14 rfl (lv_at hl 0 rfl) ?_
        refine gX4_held C hK hP hk wd_1_60 dX4_heldByAny_15 ?_
        refine lv_iload_n hx hb dX4_heldByAny_18 rfl (lv_at hl 2 rfl) ?_
        refine aX_held C hK hP hk (ix_inv_nle z2 c_4) dX4_heldByAny_19 ?_
        refine lv_ior hx hb dX4_heldByAny_20 ?_
        refine lv_istore_n (lv' := [(1, .int (y_1 ||| (Hd k y_2.toNatClampNeg))), (0, .ref (sk (20 + 2 * k))), (2, .int y_2)]) hx hb dX4_heldByAny_21 rfl hl (by decide) rfl (fun ls hl => ?_)
        refine lv_iinc (v := y_2 + 1) (lv' := [(2, .int (y_2 + 1)), (1, .int (y_1 ||| (Hd k y_2.toNatClampNeg))), (0, .ref (sk (20 + 2 * k)))]) hx hb dX4_heldByAny_22 hl (k := 2) rfl rfl (by decide) rfl (fun ls hl => ?_)
        refine lv_goto (tgt := 4) hx hb dX4_heldByAny_25 (by decide) ?_
        exact ih ls (y_1 ||| (Hd k y_2.toNatClampNeg)) (y_2 + 1) (up0 c_4 z2) (ms_up c_4 hm) (lv_sub hl [2, 1, 0] rfl) (fun ls z0 hl he => kont ls z0 hl (he.trans hT))
  refine L_4 (((5 : Int32).toInt - (0 : Int32).toInt).toNat + 1) ls (0 : Int32) (0 : Int32) (by decide) (Nat.lt_succ_self _) (lv_sub hl [2, 1, 0] rfl) (fun ls e_3 hl he => ?_)
  have hT := nm_u he hT
  refine lv_iload_n hx hb dX4_heldByAny_28 rfl (lv_at hl 0 rfl) ?_
  exact hret _ _ _ hT dX4_heldByAny_29
theorem hv_X4_holderOf : yX4_holderOf.cls = RX4 ∧ yX4_holderOf.cls ≠ "java/lang/invoke/MethodHandle" ∧ yX4_holderOf.cls ≠ "java/lang/invoke/VarHandle" ∧ (parseMethodDescriptor yX4_holderOf.desc).map (fun d => d.parameters.length) = some 1 := by decide +kernel
theorem hd_X4_holderOf : yX4_holderOf.cls ≠ "java/lang/invoke/MethodHandle" ∧ yX4_holderOf.cls ≠ "java/lang/invoke/VarHandle" ∧ (parseMethodDescriptor yX4_holderOf.desc).map (fun d => d.parameters.length) = some 1 := hv_X4_holderOf.2
def lp_X4_holderOf_2 (Hd : Nat → Nat → Int32) (k : Nat) (x1 : Int32) : Nat → Int32 → Int32
  | 0, y_1 => 0
  | n + 1, y_1 => if (5 : Int32) ≤ y_1 then (-9 : Int32) else (if ((Hd k y_1.toNatClampNeg) &&& x1) = 0 then (lp_X4_holderOf_2 Hd k x1 n (y_1 + 1)) else y_1)
theorem lp_X4_holderOf_2_s (Hd : Nat → Nat → Int32) (k : Nat) (x1 : Int32) (n : Nat) (y_1 : Int32) : (if (5 : Int32) ≤ y_1 then (-9 : Int32) else (if ((Hd k y_1.toNatClampNeg) &&& x1) = 0 then (lp_X4_holderOf_2 Hd k x1 n (y_1 + 1)) else y_1)) = lp_X4_holderOf_2 Hd k x1 (n + 1) y_1 := rfl
def sp_X4_holderOf (Hd : Nat → Nat → Int32) (k : Nat) (x1 : Int32) : Int32 :=
  lp_X4_holderOf_2 Hd k x1 (((5 : Int32).toInt - (0 : Int32).toInt).toNat + 1) (0 : Int32)
theorem sp_X4_holderOf_s (Hd : Nat → Nat → Int32) (k : Nat) (x1 : Int32) : (lp_X4_holderOf_2 Hd k x1 (((5 : Int32).toInt - (0 : Int32).toInt).toNat + 1) (0 : Int32)) = sp_X4_holderOf Hd k x1 := rfl
set_option maxHeartbeats 4000000 in
set_option maxRecDepth 100000 in
theorem c_X4_holderOf {l : Launch} {D : va_G} {cI cZ cO : ClassId} {sk : Nat → Nat} {g tb : Nat → Int32} {V Hd : Nat → Nat → Int32} {tr : Int64} {k : Nat} {x1 : Int32} (hk : k < 34) (sz : Nat) : Met l yX4_holderOf (wm yX4_holderOf cX4_holderOf 3 (some .int)) ({ frames := 0, cells := 0, slots := 0, locals := 0 } : Room) (GPre D (ty3 cI cZ cO) (WW cI cO sk g tb V Hd tr) [.ref (sk (20 + 2 * k)), .int x1] sz) (vp_Si (fun r => r = sp_X4_holderOf Hd k x1)) 0 0 (fun _ => False) := by
  refine metP_i (post := (fun r => r = sp_X4_holderOf Hd k x1)) (by decide) (Nat.le_of_ble_eq_true rfl) ?_
  intro p e s m args below meth c ls Q C hsz hP hK hD hN hl hret
  have hx := C.1
  have hb := C.2.1
  have hl : lv_has ls 3 [(0, .ref (sk (20 + 2 * k))), (1, .int x1)] := hl
  have hT := sp_X4_holderOf_s Hd k x1
  refine lv_iconst (v := 0) hx hb dX4_holderOf_0 (by decide) ?_
  refine lv_istore_n (lv' := [(2, .int (0 : Int32)), (0, .ref (sk (20 + 2 * k))), (1, .int x1)]) hx hb dX4_holderOf_1 rfl hl (by decide) rfl (fun ls hl => ?_)
  have L_2 : ∀ (n : Nat) (ls : Array Slot) (y_1 : Int32) (z2 : 0 ≤ y_1.toInt) (hm : ((5 : Int32).toInt - y_1.toInt).toNat < n) (hl : lv_has ls 3 [(0, .ref (sk (20 + 2 * k))), (1, .int x1), (2, .int y_1)]) (hT0 : lp_X4_holderOf_2 Hd k x1 n y_1 = sp_X4_holderOf Hd k x1), W p l e ({ frames := 0, cells := 0, slots := 0, locals := 0 } : Room) s m args below meth c s.heap [] 0 0 Q (F0 m 2 ls []) := by
    intro n
    induction n with
    | zero => intro ls y_1 z2 hm; exact absurd hm (Nat.not_lt_zero _)
    | succ n ih =>
      intro ls y_1 z2 hm hl hT0
      have hT := (lp_X4_holderOf_2_s Hd k x1 n y_1).trans hT0
      refine lv_iload_n hx hb dX4_holderOf_2 rfl (lv_at hl 2 rfl) ?_
      refine lv_aload_n hx hb dX4_holderOf_3 rfl (lv_at hl 0 rfl) ?_
      refine gX4_held C hK hP hk wd_1_60 dX4_holderOf_4 ?_
      refine lX_held C hK hP hk dX4_holderOf_7 ?_
      refine lv_icmp_ge (tgt := 30) hx hb dX4_holderOf_8 (by decide) (fun c_2 => ?_) (fun c_2 => ?_)
      · have hT := it_t c_2 hT
        refine lv_bipush (v := -9) hx hb dX4_holderOf_30 (by decide) ?_
        exact hret _ _ _ hT dX4_holderOf_32
      · have hT := it_f c_2 hT
        refine lv_aload_n hx hb dX4_holderOf_11 rfl (lv_at hl 0 rfl) ?_
        refine gX4_held C hK hP hk wd_1_60 dX4_holderOf_12 ?_
        refine lv_iload_n hx hb dX4_holderOf_15 rfl (lv_at hl 2 rfl) ?_
        refine aX_held C hK hP hk (ix_inv_nle z2 c_2) dX4_holderOf_16 ?_
        refine lv_iload_n hx hb dX4_holderOf_17 rfl (lv_at hl 1 rfl) ?_
        refine lv_iand hx hb dX4_holderOf_18 ?_
        refine lv_if_eq (tgt := 24) hx hb dX4_holderOf_19 (by decide) (fun c_3 => ?_) (fun c_3 => ?_)
        · have hT := it_t c_3 hT
          refine lv_iinc (v := y_1 + 1) (lv' := [(2, .int (y_1 + 1)), (0, .ref (sk (20 + 2 * k))), (1, .int x1)]) hx hb dX4_holderOf_24 hl (k := 2) rfl rfl (by decide) rfl (fun ls hl => ?_)
          refine lv_goto (tgt := 2) hx hb dX4_holderOf_27 (by decide) ?_
          exact ih ls (y_1 + 1) (up0 c_2 z2) (ms_up c_2 hm) (lv_sub hl [1, 2, 0] rfl) hT
        · have hT := it_f c_3 hT
          refine lv_iload_n hx hb dX4_holderOf_22 rfl (lv_at hl 2 rfl) ?_
          exact hret _ _ _ hT dX4_holderOf_23
  exact L_2 (((5 : Int32).toInt - (0 : Int32).toInt).toNat + 1) ls (0 : Int32) (by decide) (Nat.lt_succ_self _) (lv_sub hl [1, 2, 0] rfl) hT
theorem hv_X4_give : yX4_give.cls = RX4 ∧ yX4_give.cls ≠ "java/lang/invoke/MethodHandle" ∧ yX4_give.cls ≠ "java/lang/invoke/VarHandle" ∧ (parseMethodDescriptor yX4_give.desc).map (fun d => d.parameters.length) = some 2 := by decide +kernel
theorem hd_X4_give : yX4_give.cls ≠ "java/lang/invoke/MethodHandle" ∧ yX4_give.cls ≠ "java/lang/invoke/VarHandle" ∧ (parseMethodDescriptor yX4_give.desc).map (fun d => d.parameters.length) = some 2 := hv_X4_give.2
def sp_X4_give (Hd : Nat → Nat → Int32) (k : Nat) (x1 : Int32) (x2 : Int32) : (Nat → Nat → Int32) :=
  if x1 < 0 then Hd else (if (5 : Int32) ≤ x1 then Hd else (vs Hd k x1.toNatClampNeg ((Hd k x1.toNatClampNeg) ||| x2)))
theorem sp_X4_give_s (Hd : Nat → Nat → Int32) (k : Nat) (x1 : Int32) (x2 : Int32) : (if x1 < 0 then Hd else (if (5 : Int32) ≤ x1 then Hd else (vs Hd k x1.toNatClampNeg ((Hd k x1.toNatClampNeg) ||| x2)))) = sp_X4_give Hd k x1 x2 := rfl
set_option maxHeartbeats 4000000 in
set_option maxRecDepth 100000 in
theorem c_X4_give {l : Launch} {D : va_G} {cI cZ cO : ClassId} {sk : Nat → Nat} {g tb : Nat → Int32} {V Hd : Nat → Nat → Int32} {tr : Int64} {k : Nat} {x1 : Int32} {x2 : Int32} (hk : k < 34) (sz : Nat) : Met l yX4_give (wm yX4_give cX4_give 3 none) ({ frames := 0, cells := 0, slots := 0, locals := 0 } : Room) (GPre D (ty3 cI cZ cO) (WW cI cO sk g tb V Hd tr) [.ref (sk (20 + 2 * k)), .int x1, .int x2] sz) (va_Qv (fun (u : (Nat → Nat → Int32)) => u = sp_X4_give Hd k x1 x2) (fun u t => GAt D (ty3 cI cZ cO) (va_A (WW cI cO sk g tb V Hd tr) sz) (WW cI cO sk g tb V u tr) t) (va_A (WW cI cO sk g tb V Hd tr) sz)) 0 0 (va_A (WW cI cO sk g tb V Hd tr) sz) := by
  refine metQ_v (W1 := (fun (u : (Nat → Nat → Int32)) => WW cI cO sk g tb V u tr)) (post := (fun (u : (Nat → Nat → Int32)) => u = sp_X4_give Hd k x1 x2)) (by decide) (Nat.le_of_ble_eq_true rfl) ?_
  intro p e s m args below meth c ls A Q C hsz hP hK hD hS hA hN hl hret
  have hx := C.1
  have hb := C.2.1
  have hl : lv_has ls 3 [(0, .ref (sk (20 + 2 * k))), (1, .int x1), (2, .int x2)] := hl
  have hT := sp_X4_give_s Hd k x1 x2
  refine lv_iload_n hx hb dX4_give_0 rfl (lv_at hl 1 rfl) ?_
  refine lv_if_lt (tgt := 23) hx hb dX4_give_1 (by decide) (fun c_1 => ?_) (fun c_1 => ?_)
  · have hT := it_t c_1 hT
    exact hret Hd _ _ _ _ hT hP hD hS dX4_give_23
  · have hT := it_f c_1 hT
    refine lv_iload_n hx hb dX4_give_4 rfl (lv_at hl 1 rfl) ?_
    refine lv_aload_n hx hb dX4_give_5 rfl (lv_at hl 0 rfl) ?_
    refine gX4_held C hK hP hk wd_1_60 dX4_give_6 ?_
    refine lX_held C hK hP hk dX4_give_9 ?_
    refine lv_icmp_ge (tgt := 23) hx hb dX4_give_10 (by decide) (fun c_2 => ?_) (fun c_2 => ?_)
    · have hT := it_t c_2 hT
      exact hret Hd _ _ _ _ hT hP hD hS dX4_give_23
    · have hT := it_f c_2 hT
      refine lv_aload_n hx hb dX4_give_13 rfl (lv_at hl 0 rfl) ?_
      refine gX4_held C hK hP hk wd_1_60 dX4_give_14 ?_
      refine lv_iload_n hx hb dX4_give_17 rfl (lv_at hl 1 rfl) ?_
      refine lv_dup2_11 hx hb dX4_give_18 rfl rfl ?_
      refine aX_held C hK hP hk (ix_ng_nle c_1 c_2) dX4_give_19 ?_
      refine lv_iload_n hx hb dX4_give_20 rfl (lv_at hl 2 rfl) ?_
      refine lv_ior hx hb dX4_give_21 ?_
      refine sX_held C hK hP hD hS hk (ix_ng_nle c_1 c_2) dX4_give_22 (fun H locs hP hD hS => ?_)
      exact hret (vs Hd k x1.toNatClampNeg ((Hd k x1.toNatClampNeg) ||| x2)) _ _ _ _ hT hP hD hS dX4_give_23
theorem hv_X4_freeAllBut : yX4_freeAllBut.cls = RX4 ∧ yX4_freeAllBut.cls ≠ "java/lang/invoke/MethodHandle" ∧ yX4_freeAllBut.cls ≠ "java/lang/invoke/VarHandle" ∧ (parseMethodDescriptor yX4_freeAllBut.desc).map (fun d => d.parameters.length) = some 1 := by decide +kernel
theorem hd_X4_freeAllBut : yX4_freeAllBut.cls ≠ "java/lang/invoke/MethodHandle" ∧ yX4_freeAllBut.cls ≠ "java/lang/invoke/VarHandle" ∧ (parseMethodDescriptor yX4_freeAllBut.desc).map (fun d => d.parameters.length) = some 1 := hv_X4_freeAllBut.2
def lp_X4_freeAllBut_2 (k : Nat) (x1 : Int32) : Nat → Int32 → (Nat → Nat → Int32) → (Nat → Nat → Int32)
  | 0, y_1, Hd_2 => Hd_2
  | n + 1, y_1, Hd_2 => if (5 : Int32) ≤ y_1 then Hd_2 else (lp_X4_freeAllBut_2 k x1 n (y_1 + 1) (vs Hd_2 k y_1.toNatClampNeg ((Hd_2 k y_1.toNatClampNeg) &&& x1)))
theorem lp_X4_freeAllBut_2_s (k : Nat) (x1 : Int32) (n : Nat) (y_1 : Int32) (Hd_2 : Nat → Nat → Int32) : (if (5 : Int32) ≤ y_1 then Hd_2 else (lp_X4_freeAllBut_2 k x1 n (y_1 + 1) (vs Hd_2 k y_1.toNatClampNeg ((Hd_2 k y_1.toNatClampNeg) &&& x1)))) = lp_X4_freeAllBut_2 k x1 (n + 1) y_1 Hd_2 := rfl
def sp_X4_freeAllBut (Hd : Nat → Nat → Int32) (k : Nat) (x1 : Int32) : (Nat → Nat → Int32) :=
  nm (lp_X4_freeAllBut_2 k x1 (((5 : Int32).toInt - (0 : Int32).toInt).toNat + 1) (0 : Int32) Hd) (fun e_3 => e_3)
theorem sp_X4_freeAllBut_s (Hd : Nat → Nat → Int32) (k : Nat) (x1 : Int32) : (nm (lp_X4_freeAllBut_2 k x1 (((5 : Int32).toInt - (0 : Int32).toInt).toNat + 1) (0 : Int32) Hd) (fun e_3 => e_3)) = sp_X4_freeAllBut Hd k x1 := rfl
set_option maxHeartbeats 4000000 in
set_option maxRecDepth 100000 in
theorem c_X4_freeAllBut {l : Launch} {D : va_G} {cI cZ cO : ClassId} {sk : Nat → Nat} {g tb : Nat → Int32} {V Hd : Nat → Nat → Int32} {tr : Int64} {k : Nat} {x1 : Int32} (hk : k < 34) (sz : Nat) : Met l yX4_freeAllBut (wm yX4_freeAllBut cX4_freeAllBut 3 none) ({ frames := 0, cells := 0, slots := 0, locals := 0 } : Room) (GPre D (ty3 cI cZ cO) (WW cI cO sk g tb V Hd tr) [.ref (sk (20 + 2 * k)), .int x1] sz) (va_Qv (fun (u : (Nat → Nat → Int32)) => u = sp_X4_freeAllBut Hd k x1) (fun u t => GAt D (ty3 cI cZ cO) (va_A (WW cI cO sk g tb V Hd tr) sz) (WW cI cO sk g tb V u tr) t) (va_A (WW cI cO sk g tb V Hd tr) sz)) 0 0 (va_A (WW cI cO sk g tb V Hd tr) sz) := by
  refine metQ_v (W1 := (fun (u : (Nat → Nat → Int32)) => WW cI cO sk g tb V u tr)) (post := (fun (u : (Nat → Nat → Int32)) => u = sp_X4_freeAllBut Hd k x1)) (by decide) (Nat.le_of_ble_eq_true rfl) ?_
  intro p e s m args below meth c ls A Q C hsz hP hK hD hS hA hN hl hret
  have hx := C.1
  have hb := C.2.1
  have hl : lv_has ls 3 [(0, .ref (sk (20 + 2 * k))), (1, .int x1)] := hl
  have hT := sp_X4_freeAllBut_s Hd k x1
  refine lv_iconst (v := 0) hx hb dX4_freeAllBut_0 (by decide) ?_
  refine lv_istore_n (lv' := [(2, .int (0 : Int32)), (0, .ref (sk (20 + 2 * k))), (1, .int x1)]) hx hb dX4_freeAllBut_1 rfl hl (by decide) rfl (fun ls hl => ?_)
  have L_2 : ∀ (n : Nat) (ls : Array Slot) (y_1 : Int32) (Hd_2 : Nat → Nat → Int32) (z2 : 0 ≤ y_1.toInt) (hm : ((5 : Int32).toInt - y_1.toInt).toNat < n) (H : Heap) (locs : List Loc) (hP : va_P D vwCl (WW cI cO sk g tb V Hd_2 tr) H) (hD : va_D A (WW cI cO sk g tb V Hd_2 tr)) (hS : va_S A s.heap H locs) (hl : lv_has ls 3 [(0, .ref (sk (20 + 2 * k))), (1, .int x1), (2, .int y_1)]) (kont : ∀ (ls : Array Slot) (e_3 : Nat → Nat → Int32) (H : Heap) (locs : List Loc), va_P D vwCl (WW cI cO sk g tb V e_3 tr) H → va_D A (WW cI cO sk g tb V e_3 tr) → va_S A s.heap H locs → lv_has ls 3 [] → e_3 = lp_X4_freeAllBut_2 k x1 n y_1 Hd_2 → W p l e ({ frames := 0, cells := 0, slots := 0, locals := 0 } : Room) s m args below meth c H locs 0 0 Q (F0 m 27 ls [])), W p l e ({ frames := 0, cells := 0, slots := 0, locals := 0 } : Room) s m args below meth c H locs 0 0 Q (F0 m 2 ls []) := by
    intro n
    induction n with
    | zero => intro ls y_1 Hd_2 z2 hm; exact absurd hm (Nat.not_lt_zero _)
    | succ n ih =>
      intro ls y_1 Hd_2 z2 hm H locs hP hD hS hl kont
      have hT := lp_X4_freeAllBut_2_s k x1 n y_1 Hd_2
      refine lv_iload_n hx hb dX4_freeAllBut_2 rfl (lv_at hl 2 rfl) ?_
      refine lv_aload_n hx hb dX4_freeAllBut_3 rfl (lv_at hl 0 rfl) ?_
      refine gX4_held C hK hP hk wd_1_60 dX4_freeAllBut_4 ?_
      refine lX_held C hK hP hk dX4_freeAllBut_7 ?_
      refine lv_icmp_ge (tgt := 27) hx hb dX4_freeAllBut_8 (by decide) (fun c_4 => ?_) (fun c_4 => ?_)
      · have hT := it_t c_4 hT
        exact kont ls Hd_2 H locs hP hD hS (lv_sub hl [] rfl) hT
      · have hT := it_f c_4 hT
        refine lv_aload_n hx hb dX4_freeAllBut_11 rfl (lv_at hl 0 rfl) ?_
        refine gX4_held C hK hP hk wd_1_60 dX4_freeAllBut_12 ?_
        refine lv_iload_n hx hb dX4_freeAllBut_15 rfl (lv_at hl 2 rfl) ?_
        refine lv_dup2_11 hx hb dX4_freeAllBut_16 rfl rfl ?_
        refine aX_held C hK hP hk (ix_inv_nle z2 c_4) dX4_freeAllBut_17 ?_
        refine lv_iload_n hx hb dX4_freeAllBut_18 rfl (lv_at hl 1 rfl) ?_
        refine lv_iand hx hb dX4_freeAllBut_19 ?_
        refine sX_held C hK hP hD hS hk (ix_inv_nle z2 c_4) dX4_freeAllBut_20 (fun H locs hP hD hS => ?_)
        refine lv_iinc (v := y_1 + 1) (lv' := [(2, .int (y_1 + 1)), (0, .ref (sk (20 + 2 * k))), (1, .int x1)]) hx hb dX4_freeAllBut_21 hl (k := 2) rfl rfl (by decide) rfl (fun ls hl => ?_)
        refine lv_goto (tgt := 2) hx hb dX4_freeAllBut_24 (by decide) ?_
        exact ih ls (y_1 + 1) (vs Hd_2 k y_1.toNatClampNeg ((Hd_2 k y_1.toNatClampNeg) &&& x1)) (up0 c_4 z2) (ms_up c_4 hm) H locs hP hD hS (lv_sub hl [1, 2, 0] rfl) (fun ls z0 H locs hP hD hS hl he => kont ls z0 H locs hP hD hS hl (he.trans hT))
  refine L_2 (((5 : Int32).toInt - (0 : Int32).toInt).toNat + 1) ls (0 : Int32) Hd (by decide) (Nat.lt_succ_self _) s.heap [] hP hD hS (lv_sub hl [1, 2, 0] rfl) (fun ls e_3 H locs hP hD hS hl he => ?_)
  have hT := nm_u he hT
  exact hret e_3 _ _ _ _ hT hP hD hS dX4_freeAllBut_27
theorem hv_X4_tideBecomes : yX4_tideBecomes.cls = RX4 ∧ yX4_tideBecomes.cls ≠ "java/lang/invoke/MethodHandle" ∧ yX4_tideBecomes.cls ≠ "java/lang/invoke/VarHandle" ∧ (parseMethodDescriptor yX4_tideBecomes.desc).map (fun d => d.parameters.length) = some 1 := by decide +kernel
theorem hd_X4_tideBecomes : yX4_tideBecomes.cls ≠ "java/lang/invoke/MethodHandle" ∧ yX4_tideBecomes.cls ≠ "java/lang/invoke/VarHandle" ∧ (parseMethodDescriptor yX4_tideBecomes.desc).map (fun d => d.parameters.length) = some 1 := hv_X4_tideBecomes.2
def sp_X4_tideBecomes (V : Nat → Nat → Int32) (Hd : Nat → Nat → Int32) (k : Nat) (x1 : Int32) : (Nat → Nat → Int32) × (Nat → Nat → Int32) :=
  nm (sp_X4_dryCells (vs V k 4 x1) k) (fun r_1 => nm (sp_X4_freeAllBut Hd k r_1) (fun Hd_2 => nm (sp_X4_dryCells (vs V k 4 x1) k) (fun r_4 => (vs (vs V k 4 x1) k 2 (((vs V k 4 x1) k 2) &&& r_4), Hd_2))))
theorem sp_X4_tideBecomes_s (V : Nat → Nat → Int32) (Hd : Nat → Nat → Int32) (k : Nat) (x1 : Int32) : (nm (sp_X4_dryCells (vs V k 4 x1) k) (fun r_1 => nm (sp_X4_freeAllBut Hd k r_1) (fun Hd_2 => nm (sp_X4_dryCells (vs V k 4 x1) k) (fun r_4 => (vs (vs V k 4 x1) k 2 (((vs V k 4 x1) k 2) &&& r_4), Hd_2))))) = sp_X4_tideBecomes V Hd k x1 := rfl
set_option maxHeartbeats 4000000 in
set_option maxRecDepth 100000 in
theorem c_X4_tideBecomes {l : Launch} {D : va_G} {cI cZ cO : ClassId} {sk : Nat → Nat} {g tb : Nat → Int32} {V Hd : Nat → Nat → Int32} {tr : Int64} {k : Nat} {x1 : Int32} (hk : k < 34) (sz : Nat) : Met l yX4_tideBecomes (wm yX4_tideBecomes cX4_tideBecomes 2 none) ({ frames := 3, cells := 0, slots := 0, locals := 64 } : Room) (GPre D (ty3 cI cZ cO) (WW cI cO sk g tb V Hd tr) [.ref (sk (20 + 2 * k)), .int x1] sz) (va_Qv (fun (u : (Nat → Nat → Int32) × (Nat → Nat → Int32)) => u = sp_X4_tideBecomes V Hd k x1) (fun u t => GAt D (ty3 cI cZ cO) (va_A (WW cI cO sk g tb V Hd tr) sz) (WW cI cO sk g tb u.1 u.2 tr) t) (va_A (WW cI cO sk g tb V Hd tr) sz)) 0 0 (va_A (WW cI cO sk g tb V Hd tr) sz) := by
  refine metQ_v (W1 := (fun (u : (Nat → Nat → Int32) × (Nat → Nat → Int32)) => WW cI cO sk g tb u.1 u.2 tr)) (post := (fun (u : (Nat → Nat → Int32) × (Nat → Nat → Int32)) => u = sp_X4_tideBecomes V Hd k x1)) (by decide) (Nat.le_of_ble_eq_true rfl) ?_
  intro p e s m args below meth c ls A Q C hsz hP hK hD hS hA hN hl hret
  have hx := C.1
  have hb := C.2.1
  have hl : lv_has ls 2 [(0, .ref (sk (20 + 2 * k))), (1, .int x1)] := hl
  have hT := sp_X4_tideBecomes_s V Hd k x1
  refine lv_aload_n hx hb dX4_tideBecomes_0 rfl (lv_at hl 0 rfl) ?_
  refine lv_iload_n hx hb dX4_tideBecomes_1 rfl (lv_at hl 1 rfl) ?_
  refine pX4_tide C hK hP hD hS hk wd_1_57 dX4_tideBecomes_2 (fun H locs hP hD hS => ?_)
  refine lv_aload_n hx hb dX4_tideBecomes_5 rfl (lv_at hl 0 rfl) ?_
  refine lv_aload_n hx hb dX4_tideBecomes_6 rfl (lv_at hl 0 rfl) ?_
  refine vp_callSi (run_vP (As := []) (rest := [.ref (sk (20 + 2 * k))]) C hK hP hD hN (c_X4_dryCells hk _) (rX4_r hK hP hk) ⟨wd_2_86, wd_2_59, wd_2_60, wd_1_4, wd_2_61⟩ ⟨rfl, rfl⟩ hv_X4_dryCells ⟨Nat.le_of_ble_eq_true rfl, Nat.le_of_ble_eq_true rfl⟩ rfl hl.1 rfl (Nat.le_of_ble_eq_true rfl) dX4_tideBecomes_7 ⟨Nat.zero_le _, Nat.zero_le _⟩) (fun r_1 hr_1 => ?_)
  have hT := nm_u hr_1 hT
  refine on_v (run_vQ (As := [.int r_1]) (rest := []) C hK hP hD hN (c_X4_freeAllBut hk _) (rX4_r hK hP hk) ⟨wd_1_211, wd_1_212, wd_1_213, wd_1_4, wd_1_214⟩ ⟨rfl, rfl⟩ hv_X4_freeAllBut ⟨Nat.le_of_ble_eq_true rfl, Nat.le_of_ble_eq_true rfl⟩ rfl hl.1 rfl (Nat.le_of_ble_eq_true rfl) dX4_tideBecomes_10 ⟨Nat.zero_le _, Nat.zero_le _⟩) hD hS hA (fun u H locs hp_3 hP hD hS => ?_)
  obtain ⟨Hd_2, rfl⟩ : ∃ z, z = u := ⟨_, rfl⟩
  have hP : va_P D vwCl (WW cI cO sk g tb (vs V k 4 x1) Hd_2 tr) H := hP
  have hD : va_D A (WW cI cO sk g tb (vs V k 4 x1) Hd_2 tr) := hD
  have hT := nm_u hp_3 hT
  refine lv_aload_n hx hb dX4_tideBecomes_13 rfl (lv_at hl 0 rfl) ?_
  refine lv_dup hx hb dX4_tideBecomes_14 rfl ?_
  refine gX4_cloth C hK hP hk wd_1_51 dX4_tideBecomes_15 ?_
  refine lv_aload_n hx hb dX4_tideBecomes_18 rfl (lv_at hl 0 rfl) ?_
  refine vp_callSi (run_vP (As := []) (rest := [.int ((vs V k 4 x1) k 2), .ref (sk (20 + 2 * k))]) C hK hP hD hN (c_X4_dryCells hk _) (rX4_r hK hP hk) ⟨wd_2_86, wd_2_59, wd_2_60, wd_1_4, wd_2_61⟩ ⟨rfl, rfl⟩ hv_X4_dryCells ⟨Nat.le_of_ble_eq_true rfl, Nat.le_of_ble_eq_true rfl⟩ rfl hl.1 rfl (Nat.le_of_ble_eq_true rfl) dX4_tideBecomes_19 ⟨Nat.zero_le _, Nat.zero_le _⟩) (fun r_4 hr_4 => ?_)
  have hT := nm_u hr_4 hT
  refine lv_iand hx hb dX4_tideBecomes_22 ?_
  refine pX4_cloth C hK hP hD hS hk wd_1_51 dX4_tideBecomes_23 (fun H locs hP hD hS => ?_)
  exact hret (vs (vs V k 4 x1) k 2 (((vs V k 4 x1) k 2) &&& r_4), Hd_2) _ _ _ _ hT hP hD hS dX4_tideBecomes_26
theorem hv_X4_stillWith : yX4_stillWith.cls = RX4 ∧ yX4_stillWith.cls ≠ "java/lang/invoke/MethodHandle" ∧ yX4_stillWith.cls ≠ "java/lang/invoke/VarHandle" ∧ (parseMethodDescriptor yX4_stillWith.desc).map (fun d => d.parameters.length) = some 2 := by decide +kernel
theorem hd_X4_stillWith : yX4_stillWith.cls ≠ "java/lang/invoke/MethodHandle" ∧ yX4_stillWith.cls ≠ "java/lang/invoke/VarHandle" ∧ (parseMethodDescriptor yX4_stillWith.desc).map (fun d => d.parameters.length) = some 2 := hv_X4_stillWith.2
def sp_X4_stillWith (V : Nat → Nat → Int32) (k : Nat) (x1 : Int32) (x2 : Int32) : Int32 :=
  if x2 = 0 then (nm (sp_X4_rightOf x1) (fun r_4 => nm (sp_X4_rightOf x1) (fun r_5 => nm (sp_X4_rightOf r_5) (fun r_6 => nm (sp_X4_dryCells V k) (fun r_7 => (r_4 ||| r_6) &&& r_7))))) else (nm (sp_X4_leftOf x1) (fun r_2 => nm (sp_X4_dryCells V k) (fun r_3 => (x1 ||| r_2) &&& r_3)))
theorem sp_X4_stillWith_s (V : Nat → Nat → Int32) (k : Nat) (x1 : Int32) (x2 : Int32) : (if x2 = 0 then (nm (sp_X4_rightOf x1) (fun r_4 => nm (sp_X4_rightOf x1) (fun r_5 => nm (sp_X4_rightOf r_5) (fun r_6 => nm (sp_X4_dryCells V k) (fun r_7 => (r_4 ||| r_6) &&& r_7))))) else (nm (sp_X4_leftOf x1) (fun r_2 => nm (sp_X4_dryCells V k) (fun r_3 => (x1 ||| r_2) &&& r_3)))) = sp_X4_stillWith V k x1 x2 := rfl
set_option maxHeartbeats 4000000 in
set_option maxRecDepth 100000 in
theorem c_X4_stillWith {l : Launch} {D : va_G} {cI cZ cO : ClassId} {sk : Nat → Nat} {g tb : Nat → Int32} {V Hd : Nat → Nat → Int32} {tr : Int64} {k : Nat} {x1 : Int32} {x2 : Int32} (hk : k < 34) (sz : Nat) : Met l yX4_stillWith (wm yX4_stillWith cX4_stillWith 4 (some .int)) ({ frames := 3, cells := 0, slots := 0, locals := 64 } : Room) (GPre D (ty3 cI cZ cO) (WW cI cO sk g tb V Hd tr) [.ref (sk (20 + 2 * k)), .int x1, .int x2] sz) (vp_Si (fun r => r = sp_X4_stillWith V k x1 x2)) 0 0 (fun _ => False) := by
  refine metP_i (post := (fun r => r = sp_X4_stillWith V k x1 x2)) (by decide) (Nat.le_of_ble_eq_true rfl) ?_
  intro p e s m args below meth c ls Q C hsz hP hK hD hN hl hret
  have hx := C.1
  have hb := C.2.1
  have hl : lv_has ls 4 [(0, .ref (sk (20 + 2 * k))), (1, .int x1), (2, .int x2)] := hl
  have hT := sp_X4_stillWith_s V k x1 x2
  refine lv_iload_n hx hb dX4_stillWith_0 rfl (lv_at hl 2 rfl) ?_
  refine lv_if_ne (tgt := 19) hx hb dX4_stillWith_1 (by decide) (fun c_1 => ?_) (fun c_1 => ?_)
  · have hT := it_f c_1 hT
    refine lv_iload_n hx hb dX4_stillWith_19 rfl (lv_at hl 1 rfl) ?_
    refine lv_iload_n hx hb dX4_stillWith_20 rfl (lv_at hl 1 rfl) ?_
    refine vp_callSi (run_sP (As := [.int x1]) (rest := [.int x1]) C hN (c_X4_leftOf) ⟨wd_2_82, wd_2_83, wd_1_4, wd_2_84⟩ ⟨rfl, rfl⟩ hd_X4_leftOf ⟨Nat.le_of_ble_eq_true rfl, Nat.le_of_ble_eq_true rfl⟩ rfl hl.1 rfl (Nat.le_of_ble_eq_true rfl) dX4_stillWith_21 ⟨Nat.zero_le _, Nat.zero_le _⟩) (fun r_2 hr_2 => ?_)
    have hT := nm_u hr_2 hT
    refine lv_ior hx hb dX4_stillWith_24 ?_
    refine lv_istore_n (lv' := [(3, .int (x1 ||| r_2)), (0, .ref (sk (20 + 2 * k))), (1, .int x1), (2, .int x2)]) hx hb dX4_stillWith_25 rfl hl (by decide) rfl (fun ls hl => ?_)
    refine lv_iload_n hx hb dX4_stillWith_26 rfl (lv_at hl 0 rfl) ?_
    refine lv_aload_n hx hb dX4_stillWith_27 rfl (lv_at hl 1 rfl) ?_
    refine vp_callSi (run_vP (As := []) (rest := [.int (x1 ||| r_2)]) C hK hP hD hN (c_X4_dryCells hk _) (rX4_r hK hP hk) ⟨wd_2_86, wd_2_59, wd_2_60, wd_1_4, wd_2_61⟩ ⟨rfl, rfl⟩ hv_X4_dryCells ⟨Nat.le_of_ble_eq_true rfl, Nat.le_of_ble_eq_true rfl⟩ rfl hl.1 rfl (Nat.le_of_ble_eq_true rfl) dX4_stillWith_28 ⟨Nat.zero_le _, Nat.zero_le _⟩) (fun r_3 hr_3 => ?_)
    have hT := nm_u hr_3 hT
    refine lv_iand hx hb dX4_stillWith_31 ?_
    exact hret _ _ _ hT dX4_stillWith_32
  · have hT := it_t c_1 hT
    refine lv_iload_n hx hb dX4_stillWith_4 rfl (lv_at hl 1 rfl) ?_
    refine vp_callSi (run_sP (As := [.int x1]) (rest := []) C hN (c_X4_rightOf) ⟨wd_2_78, wd_2_79, wd_1_4, wd_2_80⟩ ⟨rfl, rfl⟩ hd_X4_rightOf ⟨Nat.le_of_ble_eq_true rfl, Nat.le_of_ble_eq_true rfl⟩ rfl hl.1 rfl (Nat.le_of_ble_eq_true rfl) dX4_stillWith_5 ⟨Nat.zero_le _, Nat.zero_le _⟩) (fun r_4 hr_4 => ?_)
    have hT := nm_u hr_4 hT
    refine lv_iload_n hx hb dX4_stillWith_8 rfl (lv_at hl 1 rfl) ?_
    refine vp_callSi (run_sP (As := [.int x1]) (rest := [.int r_4]) C hN (c_X4_rightOf) ⟨wd_2_78, wd_2_79, wd_1_4, wd_2_80⟩ ⟨rfl, rfl⟩ hd_X4_rightOf ⟨Nat.le_of_ble_eq_true rfl, Nat.le_of_ble_eq_true rfl⟩ rfl hl.1 rfl (Nat.le_of_ble_eq_true rfl) dX4_stillWith_9 ⟨Nat.zero_le _, Nat.zero_le _⟩) (fun r_5 hr_5 => ?_)
    have hT := nm_u hr_5 hT
    refine vp_callSi (run_sP (As := [.int r_5]) (rest := [.int r_4]) C hN (c_X4_rightOf) ⟨wd_2_78, wd_2_79, wd_1_4, wd_2_80⟩ ⟨rfl, rfl⟩ hd_X4_rightOf ⟨Nat.le_of_ble_eq_true rfl, Nat.le_of_ble_eq_true rfl⟩ rfl hl.1 rfl (Nat.le_of_ble_eq_true rfl) dX4_stillWith_12 ⟨Nat.zero_le _, Nat.zero_le _⟩) (fun r_6 hr_6 => ?_)
    have hT := nm_u hr_6 hT
    refine lv_ior hx hb dX4_stillWith_15 ?_
    refine lv_goto (tgt := 25) hx hb dX4_stillWith_16 (by decide) ?_
    refine lv_istore_n (lv' := [(3, .int (r_4 ||| r_6)), (0, .ref (sk (20 + 2 * k))), (1, .int x1), (2, .int x2)]) hx hb dX4_stillWith_25 rfl hl (by decide) rfl (fun ls hl => ?_)
    refine lv_iload_n hx hb dX4_stillWith_26 rfl (lv_at hl 0 rfl) ?_
    refine lv_aload_n hx hb dX4_stillWith_27 rfl (lv_at hl 1 rfl) ?_
    refine vp_callSi (run_vP (As := []) (rest := [.int (r_4 ||| r_6)]) C hK hP hD hN (c_X4_dryCells hk _) (rX4_r hK hP hk) ⟨wd_2_86, wd_2_59, wd_2_60, wd_1_4, wd_2_61⟩ ⟨rfl, rfl⟩ hv_X4_dryCells ⟨Nat.le_of_ble_eq_true rfl, Nat.le_of_ble_eq_true rfl⟩ rfl hl.1 rfl (Nat.le_of_ble_eq_true rfl) dX4_stillWith_28 ⟨Nat.zero_le _, Nat.zero_le _⟩) (fun r_7 hr_7 => ?_)
    have hT := nm_u hr_7 hT
    refine lv_iand hx hb dX4_stillWith_31 ?_
    exact hret _ _ _ hT dX4_stillWith_32
theorem hv_X4_stillBy : yX4_stillBy.cls = RX4 ∧ yX4_stillBy.cls ≠ "java/lang/invoke/MethodHandle" ∧ yX4_stillBy.cls ≠ "java/lang/invoke/VarHandle" ∧ (parseMethodDescriptor yX4_stillBy.desc).map (fun d => d.parameters.length) = some 1 := by decide +kernel
theorem hd_X4_stillBy : yX4_stillBy.cls ≠ "java/lang/invoke/MethodHandle" ∧ yX4_stillBy.cls ≠ "java/lang/invoke/VarHandle" ∧ (parseMethodDescriptor yX4_stillBy.desc).map (fun d => d.parameters.length) = some 1 := hv_X4_stillBy.2
def sp_X4_stillBy (V : Nat → Nat → Int32) (k : Nat) (x1 : Int32) : Int32 :=
  nm (sp_X4_stillWith V k (V k 2) x1) (fun r_1 => r_1)
theorem sp_X4_stillBy_s (V : Nat → Nat → Int32) (k : Nat) (x1 : Int32) : (nm (sp_X4_stillWith V k (V k 2) x1) (fun r_1 => r_1)) = sp_X4_stillBy V k x1 := rfl
set_option maxHeartbeats 4000000 in
set_option maxRecDepth 100000 in
theorem c_X4_stillBy {l : Launch} {D : va_G} {cI cZ cO : ClassId} {sk : Nat → Nat} {g tb : Nat → Int32} {V Hd : Nat → Nat → Int32} {tr : Int64} {k : Nat} {x1 : Int32} (hk : k < 34) (sz : Nat) : Met l yX4_stillBy (wm yX4_stillBy cX4_stillBy 2 (some .int)) ({ frames := 4, cells := 0, slots := 0, locals := 87 } : Room) (GPre D (ty3 cI cZ cO) (WW cI cO sk g tb V Hd tr) [.ref (sk (20 + 2 * k)), .int x1] sz) (vp_Si (fun r => r = sp_X4_stillBy V k x1)) 0 0 (fun _ => False) := by
  refine metP_i (post := (fun r => r = sp_X4_stillBy V k x1)) (by decide) (Nat.le_of_ble_eq_true rfl) ?_
  intro p e s m args below meth c ls Q C hsz hP hK hD hN hl hret
  have hx := C.1
  have hb := C.2.1
  have hl : lv_has ls 2 [(0, .ref (sk (20 + 2 * k))), (1, .int x1)] := hl
  have hT := sp_X4_stillBy_s V k x1
  refine lv_aload_n hx hb dX4_stillBy_0 rfl (lv_at hl 0 rfl) ?_
  refine lv_aload_n hx hb dX4_stillBy_1 rfl (lv_at hl 0 rfl) ?_
  refine gX4_cloth C hK hP hk wd_1_51 dX4_stillBy_2 ?_
  refine lv_iload_n hx hb dX4_stillBy_5 rfl (lv_at hl 1 rfl) ?_
  refine vp_callSi (run_vP (As := [.int (V k 2), .int x1]) (rest := []) C hK hP hD hN (c_X4_stillWith hk _) (rX4_r hK hP hk) ⟨wd_2_74, wd_2_75, wd_2_76, wd_1_4, wd_2_77⟩ ⟨rfl, rfl⟩ hv_X4_stillWith ⟨Nat.le_of_ble_eq_true rfl, Nat.le_of_ble_eq_true rfl⟩ rfl hl.1 rfl (Nat.le_of_ble_eq_true rfl) dX4_stillBy_6 ⟨Nat.zero_le _, Nat.zero_le _⟩) (fun r_1 hr_1 => ?_)
  have hT := nm_u hr_1 hT
  exact hret _ _ _ hT dX4_stillBy_9
theorem hv_X4_shelterWith : yX4_shelterWith.cls = RX4 ∧ yX4_shelterWith.cls ≠ "java/lang/invoke/MethodHandle" ∧ yX4_shelterWith.cls ≠ "java/lang/invoke/VarHandle" ∧ (parseMethodDescriptor yX4_shelterWith.desc).map (fun d => d.parameters.length) = some 2 := by decide +kernel
theorem hd_X4_shelterWith : yX4_shelterWith.cls ≠ "java/lang/invoke/MethodHandle" ∧ yX4_shelterWith.cls ≠ "java/lang/invoke/VarHandle" ∧ (parseMethodDescriptor yX4_shelterWith.desc).map (fun d => d.parameters.length) = some 2 := hv_X4_shelterWith.2
def sp_X4_shelterWith (V : Nat → Nat → Int32) (Hd : Nat → Nat → Int32) (k : Nat) (x1 : Int32) (x2 : Int32) : Int32 :=
  nm (sp_X4_heldBy Hd k x1) (fun r_1 => nm (sp_X4_stillWith V k x2 (V k 3)) (fun r_2 => nm (sp_J6_bitCount_0f7a4 (r_1 &&& r_2)) (fun r_3 => r_3)))
theorem sp_X4_shelterWith_s (V : Nat → Nat → Int32) (Hd : Nat → Nat → Int32) (k : Nat) (x1 : Int32) (x2 : Int32) : (nm (sp_X4_heldBy Hd k x1) (fun r_1 => nm (sp_X4_stillWith V k x2 (V k 3)) (fun r_2 => nm (sp_J6_bitCount_0f7a4 (r_1 &&& r_2)) (fun r_3 => r_3)))) = sp_X4_shelterWith V Hd k x1 x2 := rfl
set_option maxHeartbeats 4000000 in
set_option maxRecDepth 100000 in
theorem c_X4_shelterWith {l : Launch} {D : va_G} {cI cZ cO : ClassId} {sk : Nat → Nat} {g tb : Nat → Int32} {V Hd : Nat → Nat → Int32} {tr : Int64} {k : Nat} {x1 : Int32} {x2 : Int32} (hk : k < 34) (sz : Nat) : Met l yX4_shelterWith (wm yX4_shelterWith cX4_shelterWith 3 (some .int)) ({ frames := 4, cells := 0, slots := 0, locals := 87 } : Room) (GPre D (ty3 cI cZ cO) (WW cI cO sk g tb V Hd tr) [.ref (sk (20 + 2 * k)), .int x1, .int x2] sz) (vp_Si (fun r => r = sp_X4_shelterWith V Hd k x1 x2)) 0 0 (fun _ => False) := by
  refine metP_i (post := (fun r => r = sp_X4_shelterWith V Hd k x1 x2)) (by decide) (Nat.le_of_ble_eq_true rfl) ?_
  intro p e s m args below meth c ls Q C hsz hP hK hD hN hl hret
  have hx := C.1
  have hb := C.2.1
  have hl : lv_has ls 3 [(0, .ref (sk (20 + 2 * k))), (1, .int x1), (2, .int x2)] := hl
  have hT := sp_X4_shelterWith_s V Hd k x1 x2
  refine lv_aload_n hx hb dX4_shelterWith_0 rfl (lv_at hl 0 rfl) ?_
  refine lv_iload_n hx hb dX4_shelterWith_1 rfl (lv_at hl 1 rfl) ?_
  refine vp_callSi (run_vP (As := [.int x1]) (rest := []) C hK hP hD hN (c_X4_heldBy hk _) (rX4_r hK hP hk) ⟨wd_2_33, wd_2_34, wd_2_35, wd_1_4, wd_2_36⟩ ⟨rfl, rfl⟩ hv_X4_heldBy ⟨Nat.le_of_ble_eq_true rfl, Nat.le_of_ble_eq_true rfl⟩ rfl hl.1 rfl (Nat.le_of_ble_eq_true rfl) dX4_shelterWith_2 ⟨Nat.zero_le _, Nat.zero_le _⟩) (fun r_1 hr_1 => ?_)
  have hT := nm_u hr_1 hT
  refine lv_aload_n hx hb dX4_shelterWith_5 rfl (lv_at hl 0 rfl) ?_
  refine lv_iload_n hx hb dX4_shelterWith_6 rfl (lv_at hl 2 rfl) ?_
  refine lv_aload_n hx hb dX4_shelterWith_7 rfl (lv_at hl 0 rfl) ?_
  refine gX4_wind C hK hP hk wd_1_54 dX4_shelterWith_8 ?_
  refine vp_callSi (run_vP (As := [.int x2, .int (V k 3)]) (rest := [.int r_1]) C hK hP hD hN (c_X4_stillWith hk _) (rX4_r hK hP hk) ⟨wd_2_74, wd_2_75, wd_2_76, wd_1_4, wd_2_77⟩ ⟨rfl, rfl⟩ hv_X4_stillWith ⟨Nat.le_of_ble_eq_true rfl, Nat.le_of_ble_eq_true rfl⟩ rfl hl.1 rfl (Nat.le_of_ble_eq_true rfl) dX4_shelterWith_11 ⟨Nat.zero_le _, Nat.zero_le _⟩) (fun r_2 hr_2 => ?_)
  have hT := nm_u hr_2 hT
  refine lv_iand hx hb dX4_shelterWith_14 ?_
  refine vp_callSi (run_sP (As := [.int (r_1 &&& r_2)]) (rest := []) C hN (c_J6_bitCount_0f7a4) ⟨wd_2_103, wd_2_104, wd_1_9, wd_2_105⟩ ⟨rfl, rfl⟩ hd_J6_bitCount_0f7a4 ⟨Nat.le_of_ble_eq_true rfl, Nat.le_of_ble_eq_true rfl⟩ rfl hl.1 rfl (Nat.le_of_ble_eq_true rfl) dX4_shelterWith_15 ⟨Nat.zero_le _, Nat.zero_le _⟩) (fun r_3 hr_3 => ?_)
  have hT := nm_u hr_3 hT
  exact hret _ _ _ hT dX4_shelterWith_18
theorem hv_X4_shelterOf : yX4_shelterOf.cls = RX4 ∧ yX4_shelterOf.cls ≠ "java/lang/invoke/MethodHandle" ∧ yX4_shelterOf.cls ≠ "java/lang/invoke/VarHandle" ∧ (parseMethodDescriptor yX4_shelterOf.desc).map (fun d => d.parameters.length) = some 1 := by decide +kernel
theorem hd_X4_shelterOf : yX4_shelterOf.cls ≠ "java/lang/invoke/MethodHandle" ∧ yX4_shelterOf.cls ≠ "java/lang/invoke/VarHandle" ∧ (parseMethodDescriptor yX4_shelterOf.desc).map (fun d => d.parameters.length) = some 1 := hv_X4_shelterOf.2
def sp_X4_shelterOf (V : Nat → Nat → Int32) (Hd : Nat → Nat → Int32) (k : Nat) (x1 : Int32) : Int32 :=
  nm (sp_X4_shelterWith V Hd k x1 (V k 2)) (fun r_1 => r_1)
theorem sp_X4_shelterOf_s (V : Nat → Nat → Int32) (Hd : Nat → Nat → Int32) (k : Nat) (x1 : Int32) : (nm (sp_X4_shelterWith V Hd k x1 (V k 2)) (fun r_1 => r_1)) = sp_X4_shelterOf V Hd k x1 := rfl
set_option maxHeartbeats 4000000 in
set_option maxRecDepth 100000 in
theorem c_X4_shelterOf {l : Launch} {D : va_G} {cI cZ cO : ClassId} {sk : Nat → Nat} {g tb : Nat → Int32} {V Hd : Nat → Nat → Int32} {tr : Int64} {k : Nat} {x1 : Int32} (hk : k < 34) (sz : Nat) : Met l yX4_shelterOf (wm yX4_shelterOf cX4_shelterOf 2 (some .int)) ({ frames := 5, cells := 0, slots := 0, locals := 109 } : Room) (GPre D (ty3 cI cZ cO) (WW cI cO sk g tb V Hd tr) [.ref (sk (20 + 2 * k)), .int x1] sz) (vp_Si (fun r => r = sp_X4_shelterOf V Hd k x1)) 0 0 (fun _ => False) := by
  refine metP_i (post := (fun r => r = sp_X4_shelterOf V Hd k x1)) (by decide) (Nat.le_of_ble_eq_true rfl) ?_
  intro p e s m args below meth c ls Q C hsz hP hK hD hN hl hret
  have hx := C.1
  have hb := C.2.1
  have hl : lv_has ls 2 [(0, .ref (sk (20 + 2 * k))), (1, .int x1)] := hl
  have hT := sp_X4_shelterOf_s V Hd k x1
  refine lv_aload_n hx hb dX4_shelterOf_0 rfl (lv_at hl 0 rfl) ?_
  refine lv_iload_n hx hb dX4_shelterOf_1 rfl (lv_at hl 1 rfl) ?_
  refine lv_aload_n hx hb dX4_shelterOf_2 rfl (lv_at hl 0 rfl) ?_
  refine gX4_cloth C hK hP hk wd_1_51 dX4_shelterOf_3 ?_
  refine vp_callSi (run_vP (As := [.int x1, .int (V k 2)]) (rest := []) C hK hP hD hN (c_X4_shelterWith hk _) (rX4_r hK hP hk) ⟨wd_2_99, wd_2_100, wd_2_101, wd_1_4, wd_2_102⟩ ⟨rfl, rfl⟩ hv_X4_shelterWith ⟨Nat.le_of_ble_eq_true rfl, Nat.le_of_ble_eq_true rfl⟩ rfl hl.1 rfl (Nat.le_of_ble_eq_true rfl) dX4_shelterOf_6 ⟨Nat.zero_le _, Nat.zero_le _⟩) (fun r_1 hr_1 => ?_)
  have hT := nm_u hr_1 hT
  exact hret _ _ _ hT dX4_shelterOf_9
theorem hv_X4_borderLength : yX4_borderLength.cls = RX4 ∧ yX4_borderLength.cls ≠ "java/lang/invoke/MethodHandle" ∧ yX4_borderLength.cls ≠ "java/lang/invoke/VarHandle" ∧ (parseMethodDescriptor yX4_borderLength.desc).map (fun d => d.parameters.length) = some 0 := by decide +kernel
theorem hd_X4_borderLength : yX4_borderLength.cls ≠ "java/lang/invoke/MethodHandle" ∧ yX4_borderLength.cls ≠ "java/lang/invoke/VarHandle" ∧ (parseMethodDescriptor yX4_borderLength.desc).map (fun d => d.parameters.length) = some 0 := hv_X4_borderLength.2
def lp_X4_borderLength_17 (Hd : Nat → Nat → Int32) (k : Nat) : Nat → Int32 → Int32 → Int32
  | 0, y_4, y_5 => y_4
  | n + 1, y_4, y_5 => if (5 : Int32) ≤ y_5 then y_4 else (nm (sp_X4_heldBy Hd k y_5) (fun r_8 => nm (sp_X4_twosIn r_8) (fun r_9 => lp_X4_borderLength_17 Hd k n (y_4 + r_9) (y_5 + 1))))
theorem lp_X4_borderLength_17_s (Hd : Nat → Nat → Int32) (k : Nat) (n : Nat) (y_4 : Int32) (y_5 : Int32) : (if (5 : Int32) ≤ y_5 then y_4 else (nm (sp_X4_heldBy Hd k y_5) (fun r_8 => nm (sp_X4_twosIn r_8) (fun r_9 => lp_X4_borderLength_17 Hd k n (y_4 + r_9) (y_5 + 1))))) = lp_X4_borderLength_17 Hd k (n + 1) y_4 y_5 := rfl
def sp_X4_borderLength (V : Nat → Nat → Int32) (Hd : Nat → Nat → Int32) (k : Nat) : Int32 :=
  nm (sp_X4_dryCells V k) (fun r_1 => nm (sp_X4_heldByAny Hd k) (fun r_2 => nm (sp_X4_twosIn (r_1 &&& (r_2 ^^^ (-1 : Int32)))) (fun r_3 => nm (lp_X4_borderLength_17 Hd k (((5 : Int32).toInt - (0 : Int32).toInt).toNat + 1) r_3 (0 : Int32)) (fun e_6 => nm (sp_X4_dryCells V k) (fun r_10 => nm (sp_X4_twosIn r_10) (fun r_11 => r_11 - e_6))))))
theorem sp_X4_borderLength_s (V : Nat → Nat → Int32) (Hd : Nat → Nat → Int32) (k : Nat) : (nm (sp_X4_dryCells V k) (fun r_1 => nm (sp_X4_heldByAny Hd k) (fun r_2 => nm (sp_X4_twosIn (r_1 &&& (r_2 ^^^ (-1 : Int32)))) (fun r_3 => nm (lp_X4_borderLength_17 Hd k (((5 : Int32).toInt - (0 : Int32).toInt).toNat + 1) r_3 (0 : Int32)) (fun e_6 => nm (sp_X4_dryCells V k) (fun r_10 => nm (sp_X4_twosIn r_10) (fun r_11 => r_11 - e_6))))))) = sp_X4_borderLength V Hd k := rfl
set_option maxHeartbeats 4000000 in
set_option maxRecDepth 100000 in
theorem c_X4_borderLength {l : Launch} {D : va_G} {cI cZ cO : ClassId} {sk : Nat → Nat} {g tb : Nat → Int32} {V Hd : Nat → Nat → Int32} {tr : Int64} {k : Nat} (hk : k < 34) (sz : Nat) : Met l yX4_borderLength (wm yX4_borderLength cX4_borderLength 3 (some .int)) ({ frames := 3, cells := 0, slots := 0, locals := 64 } : Room) (GPre D (ty3 cI cZ cO) (WW cI cO sk g tb V Hd tr) [.ref (sk (20 + 2 * k))] sz) (vp_Si (fun r => r = sp_X4_borderLength V Hd k)) 0 0 (fun _ => False) := by
  refine metP_i (post := (fun r => r = sp_X4_borderLength V Hd k)) (by decide) (Nat.le_of_ble_eq_true rfl) ?_
  intro p e s m args below meth c ls Q C hsz hP hK hD hN hl hret
  have hx := C.1
  have hb := C.2.1
  have hl : lv_has ls 3 [(0, .ref (sk (20 + 2 * k)))] := hl
  have hT := sp_X4_borderLength_s V Hd k
  refine lv_aload_n hx hb dX4_borderLength_0 rfl (lv_at hl 0 rfl) ?_
  refine vp_callSi (run_vP (As := []) (rest := []) C hK hP hD hN (c_X4_dryCells hk _) (rX4_r hK hP hk) ⟨wd_2_86, wd_2_59, wd_2_60, wd_1_4, wd_2_61⟩ ⟨rfl, rfl⟩ hv_X4_dryCells ⟨Nat.le_of_ble_eq_true rfl, Nat.le_of_ble_eq_true rfl⟩ rfl hl.1 rfl (Nat.le_of_ble_eq_true rfl) dX4_borderLength_1 ⟨Nat.zero_le _, Nat.zero_le _⟩) (fun r_1 hr_1 => ?_)
  have hT := nm_u hr_1 hT
  refine lv_aload_n hx hb dX4_borderLength_4 rfl (lv_at hl 0 rfl) ?_
  refine vp_callSi (run_vP (As := []) (rest := [.int r_1]) C hK hP hD hN (c_X4_heldByAny hk _) (rX4_r hK hP hk) ⟨wd_2_173, wd_2_7, wd_2_8, wd_1_4, wd_2_9⟩ ⟨rfl, rfl⟩ hv_X4_heldByAny ⟨Nat.le_of_ble_eq_true rfl, Nat.le_of_ble_eq_true rfl⟩ rfl hl.1 rfl (Nat.le_of_ble_eq_true rfl) dX4_borderLength_5 ⟨Nat.zero_le _, Nat.zero_le _⟩) (fun r_2 hr_2 => ?_)
  have hT := nm_u hr_2 hT
  refine lv_iconst (v := -1) hx hb dX4_borderLength_8 (by decide) ?_
  refine lv_ixor hx hb dX4_borderLength_9 ?_
  refine lv_iand hx hb dX4_borderLength_10 ?_
  refine vp_callSi (run_sP (As := [.int (r_1 &&& (r_2 ^^^ (-1 : Int32)))]) (rest := []) C hN (c_X4_twosIn) ⟨wd_2_174, wd_2_175, wd_1_4, wd_2_176⟩ ⟨rfl, rfl⟩ hd_X4_twosIn ⟨Nat.le_of_ble_eq_true rfl, Nat.le_of_ble_eq_true rfl⟩ rfl hl.1 rfl (Nat.le_of_ble_eq_true rfl) dX4_borderLength_11 ⟨Nat.zero_le _, Nat.zero_le _⟩) (fun r_3 hr_3 => ?_)
  have hT := nm_u hr_3 hT
  refine lv_istore_n (lv' := [(1, .int r_3), (0, .ref (sk (20 + 2 * k)))]) hx hb dX4_borderLength_14 rfl hl (by decide) rfl (fun ls hl => ?_)
  refine lv_iconst (v := 0) hx hb dX4_borderLength_15 (by decide) ?_
  refine lv_istore_n (lv' := [(2, .int (0 : Int32)), (1, .int r_3), (0, .ref (sk (20 + 2 * k)))]) hx hb dX4_borderLength_16 rfl hl (by decide) rfl (fun ls hl => ?_)
  have L_17 : ∀ (n : Nat) (ls : Array Slot) (y_4 : Int32) (y_5 : Int32) (hm : ((5 : Int32).toInt - y_5.toInt).toNat < n) (hl : lv_has ls 3 [(0, .ref (sk (20 + 2 * k))), (1, .int y_4), (2, .int y_5)]) (kont : ∀ (ls : Array Slot) (e_6 : Int32), lv_has ls 3 [(0, .ref (sk (20 + 2 * k))), (1, .int e_6)] → e_6 = lp_X4_borderLength_17 Hd k n y_4 y_5 → W p l e ({ frames := 3, cells := 0, slots := 0, locals := 64 } : Room) s m args below meth c s.heap [] 0 0 Q (F0 m 39 ls [])), W p l e ({ frames := 3, cells := 0, slots := 0, locals := 64 } : Room) s m args below meth c s.heap [] 0 0 Q (F0 m 17 ls []) := by
    intro n
    induction n with
    | zero => intro ls y_4 y_5 hm; exact absurd hm (Nat.not_lt_zero _)
    | succ n ih =>
      intro ls y_4 y_5 hm hl kont
      have hT := lp_X4_borderLength_17_s Hd k n y_4 y_5
      refine lv_iload_n hx hb dX4_borderLength_17 rfl (lv_at hl 2 rfl) ?_
      refine lv_iconst (v := 5) hx hb dX4_borderLength_18 (by decide) ?_
      refine lv_icmp_ge (tgt := 39) hx hb dX4_borderLength_19 (by decide) (fun c_7 => ?_) (fun c_7 => ?_)
      · have hT := it_t c_7 hT
        exact kont ls y_4 (lv_sub hl [0, 1] rfl) hT
      · have hT := it_f c_7 hT
        refine lv_iload_n hx hb dX4_borderLength_22 rfl (lv_at hl 1 rfl) ?_
        refine lv_aload_n hx hb dX4_borderLength_23 rfl (lv_at hl 0 rfl) ?_
        refine lv_iload_n hx hb dX4_borderLength_24 rfl (lv_at hl 2 rfl) ?_
        refine vp_callSi (run_vP (As := [.int y_5]) (rest := [.int y_4]) C hK hP hD hN (c_X4_heldBy hk _) (rX4_r hK hP hk) ⟨wd_2_33, wd_2_34, wd_2_35, wd_1_4, wd_2_36⟩ ⟨rfl, rfl⟩ hv_X4_heldBy ⟨Nat.le_of_ble_eq_true rfl, Nat.le_of_ble_eq_true rfl⟩ rfl hl.1 rfl (Nat.le_of_ble_eq_true rfl) dX4_borderLength_25 ⟨Nat.zero_le _, Nat.zero_le _⟩) (fun r_8 hr_8 => ?_)
        have hT := nm_u hr_8 hT
        refine vp_callSi (run_sP (As := [.int r_8]) (rest := [.int y_4]) C hN (c_X4_twosIn) ⟨wd_2_174, wd_2_175, wd_1_4, wd_2_176⟩ ⟨rfl, rfl⟩ hd_X4_twosIn ⟨Nat.le_of_ble_eq_true rfl, Nat.le_of_ble_eq_true rfl⟩ rfl hl.1 rfl (Nat.le_of_ble_eq_true rfl) dX4_borderLength_28 ⟨Nat.zero_le _, Nat.zero_le _⟩) (fun r_9 hr_9 => ?_)
        have hT := nm_u hr_9 hT
        refine lv_iadd hx hb dX4_borderLength_31 ?_
        refine lv_istore_n (lv' := [(1, .int (y_4 + r_9)), (0, .ref (sk (20 + 2 * k))), (2, .int y_5)]) hx hb dX4_borderLength_32 rfl hl (by decide) rfl (fun ls hl => ?_)
        refine lv_iinc (v := y_5 + 1) (lv' := [(2, .int (y_5 + 1)), (1, .int (y_4 + r_9)), (0, .ref (sk (20 + 2 * k)))]) hx hb dX4_borderLength_33 hl (k := 2) rfl rfl (by decide) rfl (fun ls hl => ?_)
        refine lv_goto (tgt := 17) hx hb dX4_borderLength_36 (by decide) ?_
        exact ih ls (y_4 + r_9) (y_5 + 1) (ms_up c_7 hm) (lv_sub hl [2, 1, 0] rfl) (fun ls z0 hl he => kont ls z0 hl (he.trans hT))
  refine L_17 (((5 : Int32).toInt - (0 : Int32).toInt).toNat + 1) ls r_3 (0 : Int32) (Nat.lt_succ_self _) (lv_sub hl [2, 1, 0] rfl) (fun ls e_6 hl he => ?_)
  have hT := nm_u he hT
  refine lv_aload_n hx hb dX4_borderLength_39 rfl (lv_at hl 0 rfl) ?_
  refine vp_callSi (run_vP (As := []) (rest := []) C hK hP hD hN (c_X4_dryCells hk _) (rX4_r hK hP hk) ⟨wd_2_86, wd_2_59, wd_2_60, wd_1_4, wd_2_61⟩ ⟨rfl, rfl⟩ hv_X4_dryCells ⟨Nat.le_of_ble_eq_true rfl, Nat.le_of_ble_eq_true rfl⟩ rfl hl.1 rfl (Nat.le_of_ble_eq_true rfl) dX4_borderLength_40 ⟨Nat.zero_le _, Nat.zero_le _⟩) (fun r_10 hr_10 => ?_)
  have hT := nm_u hr_10 hT
  refine vp_callSi (run_sP (As := [.int r_10]) (rest := []) C hN (c_X4_twosIn) ⟨wd_2_174, wd_2_175, wd_1_4, wd_2_176⟩ ⟨rfl, rfl⟩ hd_X4_twosIn ⟨Nat.le_of_ble_eq_true rfl, Nat.le_of_ble_eq_true rfl⟩ rfl hl.1 rfl (Nat.le_of_ble_eq_true rfl) dX4_borderLength_43 ⟨Nat.zero_le _, Nat.zero_le _⟩) (fun r_11 hr_11 => ?_)
  have hT := nm_u hr_11 hT
  refine lv_iload_n hx hb dX4_borderLength_46 rfl (lv_at hl 1 rfl) ?_
  refine lv_isub hx hb dX4_borderLength_47 ?_
  exact hret _ _ _ hT dX4_borderLength_48
theorem hv_X4_losesAfter : yX4_losesAfter.cls = RX4 ∧ yX4_losesAfter.cls ≠ "java/lang/invoke/MethodHandle" ∧ yX4_losesAfter.cls ≠ "java/lang/invoke/VarHandle" ∧ (parseMethodDescriptor yX4_losesAfter.desc).map (fun d => d.parameters.length) = some 1 := by decide +kernel
theorem hd_X4_losesAfter : yX4_losesAfter.cls ≠ "java/lang/invoke/MethodHandle" ∧ yX4_losesAfter.cls ≠ "java/lang/invoke/VarHandle" ∧ (parseMethodDescriptor yX4_losesAfter.desc).map (fun d => d.parameters.length) = some 1 := hv_X4_losesAfter.2
def lp_X4_losesAfter_5 (V : Nat → Nat → Int32) (Hd : Nat → Nat → Int32) (k : Nat) (x1 : Int32) : Nat → Int32 → Int32
  | 0, y_1 => 0
  | n + 1, y_1 => if (V k 1) ≤ y_1 then (-9 : Int32) else (nm (sp_X4_heldBy Hd k x1) (fun r_3 => nm (sp_X4_rowOf V k y_1) (fun r_4 => if (r_3 &&& r_4) = 0 then (lp_X4_losesAfter_5 V Hd k x1 n (y_1 + 1)) else ((y_1 + (1 : Int32)) - (V k 4)))))
theorem lp_X4_losesAfter_5_s (V : Nat → Nat → Int32) (Hd : Nat → Nat → Int32) (k : Nat) (x1 : Int32) (n : Nat) (y_1 : Int32) : (if (V k 1) ≤ y_1 then (-9 : Int32) else (nm (sp_X4_heldBy Hd k x1) (fun r_3 => nm (sp_X4_rowOf V k y_1) (fun r_4 => if (r_3 &&& r_4) = 0 then (lp_X4_losesAfter_5 V Hd k x1 n (y_1 + 1)) else ((y_1 + (1 : Int32)) - (V k 4)))))) = lp_X4_losesAfter_5 V Hd k x1 (n + 1) y_1 := rfl
def sp_X4_losesAfter (V : Nat → Nat → Int32) (Hd : Nat → Nat → Int32) (k : Nat) (x1 : Int32) : Int32 :=
  lp_X4_losesAfter_5 V Hd k x1 (((V k 1).toInt - (V k 4).toInt).toNat + 1) (V k 4)
theorem sp_X4_losesAfter_s (V : Nat → Nat → Int32) (Hd : Nat → Nat → Int32) (k : Nat) (x1 : Int32) : (lp_X4_losesAfter_5 V Hd k x1 (((V k 1).toInt - (V k 4).toInt).toNat + 1) (V k 4)) = sp_X4_losesAfter V Hd k x1 := rfl
set_option maxHeartbeats 4000000 in
set_option maxRecDepth 100000 in
theorem c_X4_losesAfter {l : Launch} {D : va_G} {cI cZ cO : ClassId} {sk : Nat → Nat} {g tb : Nat → Int32} {V Hd : Nat → Nat → Int32} {tr : Int64} {k : Nat} {x1 : Int32} (hk : k < 34) (sz : Nat) : Met l yX4_losesAfter (wm yX4_losesAfter cX4_losesAfter 3 (some .int)) ({ frames := 1, cells := 0, slots := 0, locals := 21 } : Room) (GPre D (ty3 cI cZ cO) (WW cI cO sk g tb V Hd tr) [.ref (sk (20 + 2 * k)), .int x1] sz) (vp_Si (fun r => r = sp_X4_losesAfter V Hd k x1)) 0 0 (fun _ => False) := by
  refine metP_i (post := (fun r => r = sp_X4_losesAfter V Hd k x1)) (by decide) (Nat.le_of_ble_eq_true rfl) ?_
  intro p e s m args below meth c ls Q C hsz hP hK hD hN hl hret
  have hx := C.1
  have hb := C.2.1
  have hl : lv_has ls 3 [(0, .ref (sk (20 + 2 * k))), (1, .int x1)] := hl
  have hT := sp_X4_losesAfter_s V Hd k x1
  refine lv_aload_n hx hb dX4_losesAfter_0 rfl (lv_at hl 0 rfl) ?_
  refine gX4_tide C hK hP hk wd_1_57 dX4_losesAfter_1 ?_
  refine lv_istore_n (lv' := [(2, .int (V k 4)), (0, .ref (sk (20 + 2 * k))), (1, .int x1)]) hx hb dX4_losesAfter_4 rfl hl (by decide) rfl (fun ls hl => ?_)
  have L_5 : ∀ (n : Nat) (ls : Array Slot) (y_1 : Int32) (hm : ((V k 1).toInt - y_1.toInt).toNat < n) (hl : lv_has ls 3 [(0, .ref (sk (20 + 2 * k))), (1, .int x1), (2, .int y_1)]) (hT0 : lp_X4_losesAfter_5 V Hd k x1 n y_1 = sp_X4_losesAfter V Hd k x1), W p l e ({ frames := 1, cells := 0, slots := 0, locals := 21 } : Room) s m args below meth c s.heap [] 0 0 Q (F0 m 5 ls []) := by
    intro n
    induction n with
    | zero => intro ls y_1 hm; exact absurd hm (Nat.not_lt_zero _)
    | succ n ih =>
      intro ls y_1 hm hl hT0
      have hT := (lp_X4_losesAfter_5_s V Hd k x1 n y_1).trans hT0
      refine lv_iload_n hx hb dX4_losesAfter_5 rfl (lv_at hl 2 rfl) ?_
      refine lv_aload_n hx hb dX4_losesAfter_6 rfl (lv_at hl 0 rfl) ?_
      refine gX4_rows C hK hP hk wd_1_48 dX4_losesAfter_7 ?_
      refine lv_icmp_ge (tgt := 42) hx hb dX4_losesAfter_10 (by decide) (fun c_2 => ?_) (fun c_2 => ?_)
      · have hT := it_t c_2 hT
        refine lv_bipush (v := -9) hx hb dX4_losesAfter_42 (by decide) ?_
        exact hret _ _ _ hT dX4_losesAfter_44
      · have hT := it_f c_2 hT
        refine lv_aload_n hx hb dX4_losesAfter_13 rfl (lv_at hl 0 rfl) ?_
        refine lv_iload_n hx hb dX4_losesAfter_14 rfl (lv_at hl 1 rfl) ?_
        refine vp_callSi (run_vP (As := [.int x1]) (rest := []) C hK hP hD hN (c_X4_heldBy hk _) (rX4_r hK hP hk) ⟨wd_2_33, wd_2_34, wd_2_35, wd_1_4, wd_2_36⟩ ⟨rfl, rfl⟩ hv_X4_heldBy ⟨Nat.le_of_ble_eq_true rfl, Nat.le_of_ble_eq_true rfl⟩ rfl hl.1 rfl (Nat.le_of_ble_eq_true rfl) dX4_losesAfter_15 ⟨Nat.zero_le _, Nat.zero_le _⟩) (fun r_3 hr_3 => ?_)
        have hT := nm_u hr_3 hT
        refine lv_aload_n hx hb dX4_losesAfter_18 rfl (lv_at hl 0 rfl) ?_
        refine lv_iload_n hx hb dX4_losesAfter_19 rfl (lv_at hl 2 rfl) ?_
        refine vp_callSi (run_vP (As := [.int y_1]) (rest := [.int r_3]) C hK hP hD hN (c_X4_rowOf hk _) (rX4_r hK hP hk) ⟨wd_2_66, wd_2_68, ws_10, wd_1_4, wd_2_69⟩ ⟨rfl, rfl⟩ hv_X4_rowOf ⟨Nat.le_of_ble_eq_true rfl, Nat.le_of_ble_eq_true rfl⟩ rfl hl.1 rfl (Nat.le_of_ble_eq_true rfl) dX4_losesAfter_20 ⟨Nat.zero_le _, Nat.zero_le _⟩) (fun r_4 hr_4 => ?_)
        have hT := nm_u hr_4 hT
        refine lv_iand hx hb dX4_losesAfter_23 ?_
        refine lv_if_eq (tgt := 36) hx hb dX4_losesAfter_24 (by decide) (fun c_5 => ?_) (fun c_5 => ?_)
        · have hT := it_t c_5 hT
          refine lv_iinc (v := y_1 + 1) (lv' := [(2, .int (y_1 + 1)), (0, .ref (sk (20 + 2 * k))), (1, .int x1)]) hx hb dX4_losesAfter_36 hl (k := 2) rfl rfl (by decide) rfl (fun ls hl => ?_)
          refine lv_goto (tgt := 5) hx hb dX4_losesAfter_39 (by decide) ?_
          exact ih ls (y_1 + 1) (ms_up c_2 hm) (lv_sub hl [1, 2, 0] rfl) hT
        · have hT := it_f c_5 hT
          refine lv_iload_n hx hb dX4_losesAfter_27 rfl (lv_at hl 2 rfl) ?_
          refine lv_iconst (v := 1) hx hb dX4_losesAfter_28 (by decide) ?_
          refine lv_iadd hx hb dX4_losesAfter_29 ?_
          refine lv_aload_n hx hb dX4_losesAfter_30 rfl (lv_at hl 0 rfl) ?_
          refine gX4_tide C hK hP hk wd_1_57 dX4_losesAfter_31 ?_
          refine lv_isub hx hb dX4_losesAfter_34 ?_
          exact hret _ _ _ hT dX4_losesAfter_35
  exact L_5 (((V k 1).toInt - (V k 4).toInt).toNat + 1) ls (V k 4) (Nat.lt_succ_self _) (lv_sub hl [1, 2, 0] rfl) hT
theorem hv_X4_fewestOthers : yX4_fewestOthers.cls = RX4 ∧ yX4_fewestOthers.cls ≠ "java/lang/invoke/MethodHandle" ∧ yX4_fewestOthers.cls ≠ "java/lang/invoke/VarHandle" ∧ (parseMethodDescriptor yX4_fewestOthers.desc).map (fun d => d.parameters.length) = some 2 := by decide +kernel
theorem hd_X4_fewestOthers : yX4_fewestOthers.cls ≠ "java/lang/invoke/MethodHandle" ∧ yX4_fewestOthers.cls ≠ "java/lang/invoke/VarHandle" ∧ (parseMethodDescriptor yX4_fewestOthers.desc).map (fun d => d.parameters.length) = some 2 := hv_X4_fewestOthers.2
def lp_X4_fewestOthers_42 (V : Nat → Nat → Int32) (k : Nat) (r_1 : Int32) (r_2 : Int32) (r_3 : Int32) : Nat → Int32 → Int32 → Int32 → Int32
  | 0, y_6, y_7, y_8 => 0
  | n + 1, y_6, y_7, y_8 => if (20 : Int32) ≤ y_8 then y_7 else (nm (sp_X4_floodedOver (r_1 &&& ((r_2 &&& (r_3 ^^^ (-1 : Int32))) ^^^ (-1 : Int32))) y_6) (fun r_10 => nm (sp_X4_rowOf V k (V k 4)) (fun r_11 => if (r_10 &&& r_11) = 0 then (nm (sp_X4_besideAny r_10) (fun r_13 => lp_X4_fewestOthers_42 V k r_1 r_2 r_3 n (r_10 ||| (r_13 &&& r_1)) (y_7 + 1) (y_8 + 1))) else y_7)))
theorem lp_X4_fewestOthers_42_s (V : Nat → Nat → Int32) (k : Nat) (r_1 : Int32) (r_2 : Int32) (r_3 : Int32) (n : Nat) (y_6 : Int32) (y_7 : Int32) (y_8 : Int32) : (if (20 : Int32) ≤ y_8 then y_7 else (nm (sp_X4_floodedOver (r_1 &&& ((r_2 &&& (r_3 ^^^ (-1 : Int32))) ^^^ (-1 : Int32))) y_6) (fun r_10 => nm (sp_X4_rowOf V k (V k 4)) (fun r_11 => if (r_10 &&& r_11) = 0 then (nm (sp_X4_besideAny r_10) (fun r_13 => lp_X4_fewestOthers_42 V k r_1 r_2 r_3 n (r_10 ||| (r_13 &&& r_1)) (y_7 + 1) (y_8 + 1))) else y_7)))) = lp_X4_fewestOthers_42 V k r_1 r_2 r_3 (n + 1) y_6 y_7 y_8 := rfl
def jn_X4_fewestOthers_34 (V : Nat → Nat → Int32) (k : Nat) (x2 : Int32) (r_1 : Int32) (r_2 : Int32) (r_3 : Int32) (v_4 : Int32) : Int32 :=
  nm (sp_X6_oneIf v_4) (fun r_5 => lp_X4_fewestOthers_42 V k r_1 r_2 r_3 (((20 : Int32).toInt - (0 : Int32).toInt).toNat + 1) x2 r_5 (0 : Int32))
theorem jn_X4_fewestOthers_34_s (V : Nat → Nat → Int32) (k : Nat) (x2 : Int32) (r_1 : Int32) (r_2 : Int32) (r_3 : Int32) (v_4 : Int32) : (nm (sp_X6_oneIf v_4) (fun r_5 => lp_X4_fewestOthers_42 V k r_1 r_2 r_3 (((20 : Int32).toInt - (0 : Int32).toInt).toNat + 1) x2 r_5 (0 : Int32))) = jn_X4_fewestOthers_34 V k x2 r_1 r_2 r_3 v_4 := rfl
def sp_X4_fewestOthers (V : Nat → Nat → Int32) (Hd : Nat → Nat → Int32) (k : Nat) (x1 : Int32) (x2 : Int32) : Int32 :=
  nm (sp_X4_dryCells V k) (fun r_1 => nm (sp_X4_heldByAny Hd k) (fun r_2 => nm (sp_X4_heldBy Hd k x1) (fun r_3 => if (x2 &&& (r_2 &&& (r_3 ^^^ (-1 : Int32)))) = 0 then (jn_X4_fewestOthers_34 V k x2 r_1 r_2 r_3 (0 : Int32)) else (jn_X4_fewestOthers_34 V k x2 r_1 r_2 r_3 (1 : Int32)))))
theorem sp_X4_fewestOthers_s (V : Nat → Nat → Int32) (Hd : Nat → Nat → Int32) (k : Nat) (x1 : Int32) (x2 : Int32) : (nm (sp_X4_dryCells V k) (fun r_1 => nm (sp_X4_heldByAny Hd k) (fun r_2 => nm (sp_X4_heldBy Hd k x1) (fun r_3 => if (x2 &&& (r_2 &&& (r_3 ^^^ (-1 : Int32)))) = 0 then (jn_X4_fewestOthers_34 V k x2 r_1 r_2 r_3 (0 : Int32)) else (jn_X4_fewestOthers_34 V k x2 r_1 r_2 r_3 (1 : Int32)))))) = sp_X4_fewestOthers V Hd k x1 x2 := rfl
set_option maxHeartbeats 4000000 in
set_option maxRecDepth 100000 in
theorem c_X4_fewestOthers {l : Launch} {D : va_G} {cI cZ cO : ClassId} {sk : Nat → Nat} {g tb : Nat → Int32} {V Hd : Nat → Nat → Int32} {tr : Int64} {k : Nat} {x1 : Int32} {x2 : Int32} (hk : k < 34) (sz : Nat) : Met l yX4_fewestOthers (wm yX4_fewestOthers cX4_fewestOthers 8 (some .int)) ({ frames := 3, cells := 0, slots := 0, locals := 64 } : Room) (GPre D (ty3 cI cZ cO) (WW cI cO sk g tb V Hd tr) [.ref (sk (20 + 2 * k)), .int x1, .int x2] sz) (vp_Si (fun r => r = sp_X4_fewestOthers V Hd k x1 x2)) 0 0 (fun _ => False) := by
  refine metP_i (post := (fun r => r = sp_X4_fewestOthers V Hd k x1 x2)) (by decide) (Nat.le_of_ble_eq_true rfl) ?_
  intro p e s m args below meth c ls Q C hsz hP hK hD hN hl hret
  have hx := C.1
  have hb := C.2.1
  have hl : lv_has ls 8 [(0, .ref (sk (20 + 2 * k))), (1, .int x1), (2, .int x2)] := hl
  have hT := sp_X4_fewestOthers_s V Hd k x1 x2
  refine lv_aload_n hx hb dX4_fewestOthers_0 rfl (lv_at hl 0 rfl) ?_
  refine vp_callSi (run_vP (As := []) (rest := []) C hK hP hD hN (c_X4_dryCells hk _) (rX4_r hK hP hk) ⟨wd_2_86, wd_2_59, wd_2_60, wd_1_4, wd_2_61⟩ ⟨rfl, rfl⟩ hv_X4_dryCells ⟨Nat.le_of_ble_eq_true rfl, Nat.le_of_ble_eq_true rfl⟩ rfl hl.1 rfl (Nat.le_of_ble_eq_true rfl) dX4_fewestOthers_1 ⟨Nat.zero_le _, Nat.zero_le _⟩) (fun r_1 hr_1 => ?_)
  have hT := nm_u hr_1 hT
  refine lv_istore_n (lv' := [(3, .int r_1), (0, .ref (sk (20 + 2 * k))), (1, .int x1), (2, .int x2)]) hx hb dX4_fewestOthers_4 rfl hl (by decide) rfl (fun ls hl => ?_)
  refine lv_aload_n hx hb dX4_fewestOthers_5 rfl (lv_at hl 1 rfl) ?_
  refine vp_callSi (run_vP (As := []) (rest := []) C hK hP hD hN (c_X4_heldByAny hk _) (rX4_r hK hP hk) ⟨wd_2_173, wd_2_7, wd_2_8, wd_1_4, wd_2_9⟩ ⟨rfl, rfl⟩ hv_X4_heldByAny ⟨Nat.le_of_ble_eq_true rfl, Nat.le_of_ble_eq_true rfl⟩ rfl hl.1 rfl (Nat.le_of_ble_eq_true rfl) dX4_fewestOthers_6 ⟨Nat.zero_le _, Nat.zero_le _⟩) (fun r_2 hr_2 => ?_)
  have hT := nm_u hr_2 hT
  refine lv_aload_n hx hb dX4_fewestOthers_9 rfl (lv_at hl 1 rfl) ?_
  refine lv_iload_n hx hb dX4_fewestOthers_10 rfl (lv_at hl 2 rfl) ?_
  refine vp_callSi (run_vP (As := [.int x1]) (rest := [.int r_2]) C hK hP hD hN (c_X4_heldBy hk _) (rX4_r hK hP hk) ⟨wd_2_33, wd_2_34, wd_2_35, wd_1_4, wd_2_36⟩ ⟨rfl, rfl⟩ hv_X4_heldBy ⟨Nat.le_of_ble_eq_true rfl, Nat.le_of_ble_eq_true rfl⟩ rfl hl.1 rfl (Nat.le_of_ble_eq_true rfl) dX4_fewestOthers_11 ⟨Nat.zero_le _, Nat.zero_le _⟩) (fun r_3 hr_3 => ?_)
  have hT := nm_u hr_3 hT
  refine lv_iconst (v := -1) hx hb dX4_fewestOthers_14 (by decide) ?_
  refine lv_ixor hx hb dX4_fewestOthers_15 ?_
  refine lv_iand hx hb dX4_fewestOthers_16 ?_
  refine lv_istore (lv' := [(4, .int (r_2 &&& (r_3 ^^^ (-1 : Int32)))), (3, .int r_1), (0, .ref (sk (20 + 2 * k))), (1, .int x1), (2, .int x2)]) hx hb dX4_fewestOthers_17 hl (by decide) rfl (fun ls hl => ?_)
  refine lv_iload_n hx hb dX4_fewestOthers_19 rfl (lv_at hl 4 rfl) ?_
  refine lv_istore (lv' := [(5, .int x2), (4, .int (r_2 &&& (r_3 ^^^ (-1 : Int32)))), (3, .int r_1), (0, .ref (sk (20 + 2 * k))), (1, .int x1), (2, .int x2)]) hx hb dX4_fewestOthers_20 hl (by decide) rfl (fun ls hl => ?_)
  refine lv_iload_n hx hb dX4_fewestOthers_22 rfl (lv_at hl 5 rfl) ?_
  refine lv_iload hx hb dX4_fewestOthers_23 (lv_at hl 1 rfl) ?_
  refine lv_iand hx hb dX4_fewestOthers_25 ?_
  have K_34 : ∀ (ls : Array Slot) (v_4 : Int32) (bo_v_4 : v_4 = 0 ∨ v_4 = 1) (hl : lv_has ls 8 [(0, .ref (sk (20 + 2 * k))), (3, .int r_1), (4, .int (r_2 &&& (r_3 ^^^ (-1 : Int32)))), (5, .int x2)]) (hT0 : jn_X4_fewestOthers_34 V k x2 r_1 r_2 r_3 v_4 = sp_X4_fewestOthers V Hd k x1 x2), W p l e ({ frames := 3, cells := 0, slots := 0, locals := 64 } : Room) s m args below meth c s.heap [] 0 0 Q (F0 m 34 ls [.int v_4]) := by
    intro ls v_4 bo_v_4 hl hT0
    have hT := (jn_X4_fewestOthers_34_s V k x2 r_1 r_2 r_3 v_4).trans hT0
    refine vp_callSi (run_nP (As := [.int v_4]) (rest := []) C hN (c_X6_oneIf) ⟨nw_8, wd_2_56, wd_1_1, wd_2_57⟩ ⟨rfl, rfl⟩ hd_X6_oneIf ⟨Nat.le_of_ble_eq_true rfl, Nat.le_of_ble_eq_true rfl⟩ rfl hl.1 rfl (Nat.le_of_ble_eq_true rfl) dX4_fewestOthers_34 ⟨Nat.zero_le _, Nat.zero_le _⟩) (fun r_5 hr_5 => ?_)
    have hT := nm_u hr_5 hT
    refine lv_istore (lv' := [(6, .int r_5), (0, .ref (sk (20 + 2 * k))), (3, .int r_1), (4, .int (r_2 &&& (r_3 ^^^ (-1 : Int32)))), (5, .int x2)]) hx hb dX4_fewestOthers_37 hl (by decide) rfl (fun ls hl => ?_)
    refine lv_iconst (v := 0) hx hb dX4_fewestOthers_39 (by decide) ?_
    refine lv_istore (lv' := [(7, .int (0 : Int32)), (6, .int r_5), (0, .ref (sk (20 + 2 * k))), (3, .int r_1), (4, .int (r_2 &&& (r_3 ^^^ (-1 : Int32)))), (5, .int x2)]) hx hb dX4_fewestOthers_40 hl (by decide) rfl (fun ls hl => ?_)
    have L_42 : ∀ (n : Nat) (ls : Array Slot) (y_6 : Int32) (y_7 : Int32) (y_8 : Int32) (hm : ((20 : Int32).toInt - y_8.toInt).toNat < n) (hl : lv_has ls 8 [(0, .ref (sk (20 + 2 * k))), (3, .int r_1), (4, .int (r_2 &&& (r_3 ^^^ (-1 : Int32)))), (5, .int y_6), (6, .int y_7), (7, .int y_8)]) (hT0 : lp_X4_fewestOthers_42 V k r_1 r_2 r_3 n y_6 y_7 y_8 = sp_X4_fewestOthers V Hd k x1 x2), W p l e ({ frames := 3, cells := 0, slots := 0, locals := 64 } : Room) s m args below meth c s.heap [] 0 0 Q (F0 m 42 ls []) := by
      intro n
      induction n with
      | zero => intro ls y_6 y_7 y_8 hm; exact absurd hm (Nat.not_lt_zero _)
      | succ n ih =>
        intro ls y_6 y_7 y_8 hm hl hT0
        have hT := (lp_X4_fewestOthers_42_s V k r_1 r_2 r_3 n y_6 y_7 y_8).trans hT0
        refine lv_iload hx hb dX4_fewestOthers_42 (lv_at hl 5 rfl) ?_
        refine lv_bipush (v := 20) hx hb dX4_fewestOthers_44 (by decide) ?_
        refine lv_icmp_ge (tgt := 100) hx hb dX4_fewestOthers_46 (by decide) (fun c_9 => ?_) (fun c_9 => ?_)
        · have hT := it_t c_9 hT
          refine lv_iload hx hb dX4_fewestOthers_100 (lv_at hl 4 rfl) ?_
          exact hret _ _ _ hT dX4_fewestOthers_102
        · have hT := it_f c_9 hT
          refine lv_iload_n hx hb dX4_fewestOthers_49 rfl (lv_at hl 1 rfl) ?_
          refine lv_iload hx hb dX4_fewestOthers_50 (lv_at hl 2 rfl) ?_
          refine lv_iconst (v := -1) hx hb dX4_fewestOthers_52 (by decide) ?_
          refine lv_ixor hx hb dX4_fewestOthers_53 ?_
          refine lv_iand hx hb dX4_fewestOthers_54 ?_
          refine lv_iload hx hb dX4_fewestOthers_55 (lv_at hl 3 rfl) ?_
          refine vp_callSi (run_sP (As := [.int (r_1 &&& ((r_2 &&& (r_3 ^^^ (-1 : Int32))) ^^^ (-1 : Int32))), .int y_6]) (rest := []) C hN (c_X4_floodedOver) ⟨wd_2_186, wd_2_187, wd_1_4, wd_2_188⟩ ⟨rfl, rfl⟩ hd_X4_floodedOver ⟨Nat.le_of_ble_eq_true rfl, Nat.le_of_ble_eq_true rfl⟩ rfl hl.1 rfl (Nat.le_of_ble_eq_true rfl) dX4_fewestOthers_57 ⟨Nat.zero_le _, Nat.zero_le _⟩) (fun r_10 hr_10 => ?_)
          have hT := nm_u hr_10 hT
          refine lv_istore (lv' := [(5, .int r_10), (0, .ref (sk (20 + 2 * k))), (3, .int r_1), (4, .int (r_2 &&& (r_3 ^^^ (-1 : Int32)))), (6, .int y_7), (7, .int y_8)]) hx hb dX4_fewestOthers_60 hl (by decide) rfl (fun ls hl => ?_)
          refine lv_iload hx hb dX4_fewestOthers_62 (lv_at hl 0 rfl) ?_
          refine lv_aload_n hx hb dX4_fewestOthers_64 rfl (lv_at hl 1 rfl) ?_
          refine lv_aload_n hx hb dX4_fewestOthers_65 rfl (lv_at hl 1 rfl) ?_
          refine gX4_tide C hK hP hk wd_1_57 dX4_fewestOthers_66 ?_
          refine vp_callSi (run_vP (As := [.int (V k 4)]) (rest := [.int r_10]) C hK hP hD hN (c_X4_rowOf hk _) (rX4_r hK hP hk) ⟨wd_2_66, wd_2_68, ws_10, wd_1_4, wd_2_69⟩ ⟨rfl, rfl⟩ hv_X4_rowOf ⟨Nat.le_of_ble_eq_true rfl, Nat.le_of_ble_eq_true rfl⟩ rfl hl.1 rfl (Nat.le_of_ble_eq_true rfl) dX4_fewestOthers_69 ⟨Nat.zero_le _, Nat.zero_le _⟩) (fun r_11 hr_11 => ?_)
          have hT := nm_u hr_11 hT
          refine lv_iand hx hb dX4_fewestOthers_72 ?_
          refine lv_if_eq (tgt := 79) hx hb dX4_fewestOthers_73 (by decide) (fun c_12 => ?_) (fun c_12 => ?_)
          · have hT := it_t c_12 hT
            refine lv_iload hx hb dX4_fewestOthers_79 (lv_at hl 0 rfl) ?_
            refine lv_iload hx hb dX4_fewestOthers_81 (lv_at hl 0 rfl) ?_
            refine vp_callSi (run_sP (As := [.int r_10]) (rest := [.int r_10]) C hN (c_X4_besideAny) ⟨wd_2_189, wd_2_190, wd_1_4, wd_2_191⟩ ⟨rfl, rfl⟩ hd_X4_besideAny ⟨Nat.le_of_ble_eq_true rfl, Nat.le_of_ble_eq_true rfl⟩ rfl hl.1 rfl (Nat.le_of_ble_eq_true rfl) dX4_fewestOthers_83 ⟨Nat.zero_le _, Nat.zero_le _⟩) (fun r_13 hr_13 => ?_)
            have hT := nm_u hr_13 hT
            refine lv_iload_n hx hb dX4_fewestOthers_86 rfl (lv_at hl 2 rfl) ?_
            refine lv_iand hx hb dX4_fewestOthers_87 ?_
            refine lv_ior hx hb dX4_fewestOthers_88 ?_
            refine lv_istore (lv' := [(5, .int (r_10 ||| (r_13 &&& r_1))), (0, .ref (sk (20 + 2 * k))), (3, .int r_1), (4, .int (r_2 &&& (r_3 ^^^ (-1 : Int32)))), (6, .int y_7), (7, .int y_8)]) hx hb dX4_fewestOthers_89 hl (by decide) rfl (fun ls hl => ?_)
            refine lv_iinc (v := y_7 + 1) (lv' := [(6, .int (y_7 + 1)), (5, .int (r_10 ||| (r_13 &&& r_1))), (0, .ref (sk (20 + 2 * k))), (3, .int r_1), (4, .int (r_2 &&& (r_3 ^^^ (-1 : Int32)))), (7, .int y_8)]) hx hb dX4_fewestOthers_91 hl (k := 4) rfl rfl (by decide) rfl (fun ls hl => ?_)
            refine lv_iinc (v := y_8 + 1) (lv' := [(7, .int (y_8 + 1)), (6, .int (y_7 + 1)), (5, .int (r_10 ||| (r_13 &&& r_1))), (0, .ref (sk (20 + 2 * k))), (3, .int r_1), (4, .int (r_2 &&& (r_3 ^^^ (-1 : Int32))))]) hx hb dX4_fewestOthers_94 hl (k := 5) rfl rfl (by decide) rfl (fun ls hl => ?_)
            refine lv_goto (tgt := 42) hx hb dX4_fewestOthers_97 (by decide) ?_
            exact ih ls (r_10 ||| (r_13 &&& r_1)) (y_7 + 1) (y_8 + 1) (ms_up c_9 hm) (lv_sub hl [3, 4, 5, 2, 1, 0] rfl) hT
          · have hT := it_f c_12 hT
            refine lv_iload hx hb dX4_fewestOthers_76 (lv_at hl 4 rfl) ?_
            exact hret _ _ _ hT dX4_fewestOthers_78
    exact L_42 (((20 : Int32).toInt - (0 : Int32).toInt).toNat + 1) ls x2 r_5 (0 : Int32) (Nat.lt_succ_self _) (lv_sub hl [2, 3, 4, 5, 1, 0] rfl) hT
  refine lv_if_eq (tgt := 33) hx hb dX4_fewestOthers_26 (by decide) (fun c_14 => ?_) (fun c_14 => ?_)
  · have hT := it_t c_14 hT
    refine lv_iconst (v := 0) hx hb dX4_fewestOthers_33 (by decide) ?_
    exact K_34 ls (0 : Int32) (Or.inl rfl) (lv_sub hl [3, 2, 1, 0] rfl) hT
  · have hT := it_f c_14 hT
    refine lv_iconst (v := 1) hx hb dX4_fewestOthers_29 (by decide) ?_
    refine lv_goto (tgt := 34) hx hb dX4_fewestOthers_30 (by decide) ?_
    exact K_34 ls (1 : Int32) (Or.inr rfl) (lv_sub hl [3, 2, 1, 0] rfl) hT
theorem hv_X4_bestCloth : yX4_bestCloth.cls = RX4 ∧ yX4_bestCloth.cls ≠ "java/lang/invoke/MethodHandle" ∧ yX4_bestCloth.cls ≠ "java/lang/invoke/VarHandle" ∧ (parseMethodDescriptor yX4_bestCloth.desc).map (fun d => d.parameters.length) = some 1 := by decide +kernel
theorem hd_X4_bestCloth : yX4_bestCloth.cls ≠ "java/lang/invoke/MethodHandle" ∧ yX4_bestCloth.cls ≠ "java/lang/invoke/VarHandle" ∧ (parseMethodDescriptor yX4_bestCloth.desc).map (fun d => d.parameters.length) = some 1 := hv_X4_bestCloth.2
def lp_X4_bestCloth_8 (V : Nat → Nat → Int32) (Hd : Nat → Nat → Int32) (k : Nat) (x1 : Int32) : Nat → Int32 → Int32 → Int32 → Int32
  | 0, y_1, y_2, y_3 => y_1
  | n + 1, y_1, y_2, y_3 => if (20 : Int32) ≤ y_3 then y_1 else (nm (sp_X4_shelterWith V Hd k x1 ((V k 2) ||| ((1 : Int32) <<< (y_3 &&& 31)))) (fun r_6 => nm (sp_X4_bareCells V k) (fun r_7 => if (r_7 &&& ((1 : Int32) <<< (y_3 &&& 31))) = 0 then (lp_X4_bestCloth_8 V Hd k x1 n y_1 y_2 (y_3 + 1)) else (if r_6 ≤ y_2 then (lp_X4_bestCloth_8 V Hd k x1 n y_1 y_2 (y_3 + 1)) else (lp_X4_bestCloth_8 V Hd k x1 n y_3 r_6 (y_3 + 1))))))
theorem lp_X4_bestCloth_8_s (V : Nat → Nat → Int32) (Hd : Nat → Nat → Int32) (k : Nat) (x1 : Int32) (n : Nat) (y_1 : Int32) (y_2 : Int32) (y_3 : Int32) : (if (20 : Int32) ≤ y_3 then y_1 else (nm (sp_X4_shelterWith V Hd k x1 ((V k 2) ||| ((1 : Int32) <<< (y_3 &&& 31)))) (fun r_6 => nm (sp_X4_bareCells V k) (fun r_7 => if (r_7 &&& ((1 : Int32) <<< (y_3 &&& 31))) = 0 then (lp_X4_bestCloth_8 V Hd k x1 n y_1 y_2 (y_3 + 1)) else (if r_6 ≤ y_2 then (lp_X4_bestCloth_8 V Hd k x1 n y_1 y_2 (y_3 + 1)) else (lp_X4_bestCloth_8 V Hd k x1 n y_3 r_6 (y_3 + 1))))))) = lp_X4_bestCloth_8 V Hd k x1 (n + 1) y_1 y_2 y_3 := rfl
def sp_X4_bestCloth (V : Nat → Nat → Int32) (Hd : Nat → Nat → Int32) (k : Nat) (x1 : Int32) : Int32 :=
  nm (lp_X4_bestCloth_8 V Hd k x1 (((20 : Int32).toInt - (0 : Int32).toInt).toNat + 1) (-9 : Int32) (-1 : Int32) (0 : Int32)) (fun e_4 => e_4)
theorem sp_X4_bestCloth_s (V : Nat → Nat → Int32) (Hd : Nat → Nat → Int32) (k : Nat) (x1 : Int32) : (nm (lp_X4_bestCloth_8 V Hd k x1 (((20 : Int32).toInt - (0 : Int32).toInt).toNat + 1) (-9 : Int32) (-1 : Int32) (0 : Int32)) (fun e_4 => e_4)) = sp_X4_bestCloth V Hd k x1 := rfl
set_option maxHeartbeats 4000000 in
set_option maxRecDepth 100000 in
theorem c_X4_bestCloth {l : Launch} {D : va_G} {cI cZ cO : ClassId} {sk : Nat → Nat} {g tb : Nat → Int32} {V Hd : Nat → Nat → Int32} {tr : Int64} {k : Nat} {x1 : Int32} (hk : k < 34) (sz : Nat) : Met l yX4_bestCloth (wm yX4_bestCloth cX4_bestCloth 7 (some .int)) ({ frames := 5, cells := 0, slots := 0, locals := 109 } : Room) (GPre D (ty3 cI cZ cO) (WW cI cO sk g tb V Hd tr) [.ref (sk (20 + 2 * k)), .int x1] sz) (vp_Si (fun r => r = sp_X4_bestCloth V Hd k x1)) 0 0 (fun _ => False) := by
  refine metP_i (post := (fun r => r = sp_X4_bestCloth V Hd k x1)) (by decide) (Nat.le_of_ble_eq_true rfl) ?_
  intro p e s m args below meth c ls Q C hsz hP hK hD hN hl hret
  have hx := C.1
  have hb := C.2.1
  have hl : lv_has ls 7 [(0, .ref (sk (20 + 2 * k))), (1, .int x1)] := hl
  have hT := sp_X4_bestCloth_s V Hd k x1
  refine lv_bipush (v := -9) hx hb dX4_bestCloth_0 (by decide) ?_
  refine lv_istore_n (lv' := [(2, .int (-9 : Int32)), (0, .ref (sk (20 + 2 * k))), (1, .int x1)]) hx hb dX4_bestCloth_2 rfl hl (by decide) rfl (fun ls hl => ?_)
  refine lv_iconst (v := -1) hx hb dX4_bestCloth_3 (by decide) ?_
  refine lv_istore_n (lv' := [(3, .int (-1 : Int32)), (2, .int (-9 : Int32)), (0, .ref (sk (20 + 2 * k))), (1, .int x1)]) hx hb dX4_bestCloth_4 rfl hl (by decide) rfl (fun ls hl => ?_)
  refine lv_iconst (v := 0) hx hb dX4_bestCloth_5 (by decide) ?_
  refine lv_istore (lv' := [(4, .int (0 : Int32)), (3, .int (-1 : Int32)), (2, .int (-9 : Int32)), (0, .ref (sk (20 + 2 * k))), (1, .int x1)]) hx hb dX4_bestCloth_6 hl (by decide) rfl (fun ls hl => ?_)
  have L_8 : ∀ (n : Nat) (ls : Array Slot) (y_1 : Int32) (y_2 : Int32) (y_3 : Int32) (hm : ((20 : Int32).toInt - y_3.toInt).toNat < n) (hl : lv_has ls 7 [(0, .ref (sk (20 + 2 * k))), (1, .int x1), (2, .int y_1), (3, .int y_2), (4, .int y_3)]) (kont : ∀ (ls : Array Slot) (e_4 : Int32), lv_has ls 7 [(2, .int e_4)] → e_4 = lp_X4_bestCloth_8 V Hd k x1 n y_1 y_2 y_3 → W p l e ({ frames := 5, cells := 0, slots := 0, locals := 109 } : Room) s m args below meth c s.heap [] 0 0 Q (F0 m 63 ls [])), W p l e ({ frames := 5, cells := 0, slots := 0, locals := 109 } : Room) s m args below meth c s.heap [] 0 0 Q (F0 m 8 ls []) := by
    intro n
    induction n with
    | zero => intro ls y_1 y_2 y_3 hm; exact absurd hm (Nat.not_lt_zero _)
    | succ n ih =>
      intro ls y_1 y_2 y_3 hm hl kont
      have hT := lp_X4_bestCloth_8_s V Hd k x1 n y_1 y_2 y_3
      refine lv_iload hx hb dX4_bestCloth_8 (lv_at hl 4 rfl) ?_
      refine lv_bipush (v := 20) hx hb dX4_bestCloth_10 (by decide) ?_
      refine lv_icmp_ge (tgt := 63) hx hb dX4_bestCloth_12 (by decide) (fun c_5 => ?_) (fun c_5 => ?_)
      · have hT := it_t c_5 hT
        exact kont ls y_1 (lv_sub hl [2] rfl) hT
      · have hT := it_f c_5 hT
        refine lv_iconst (v := 1) hx hb dX4_bestCloth_15 (by decide) ?_
        refine lv_iload hx hb dX4_bestCloth_16 (lv_at hl 4 rfl) ?_
        refine lv_ishl hx hb dX4_bestCloth_18 ?_
        refine lv_istore (lv' := [(5, .int ((1 : Int32) <<< (y_3 &&& 31))), (0, .ref (sk (20 + 2 * k))), (1, .int x1), (2, .int y_1), (3, .int y_2), (4, .int y_3)]) hx hb dX4_bestCloth_19 hl (by decide) rfl (fun ls hl => ?_)
        refine lv_aload_n hx hb dX4_bestCloth_21 rfl (lv_at hl 1 rfl) ?_
        refine lv_iload_n hx hb dX4_bestCloth_22 rfl (lv_at hl 2 rfl) ?_
        refine lv_aload_n hx hb dX4_bestCloth_23 rfl (lv_at hl 1 rfl) ?_
        refine gX4_cloth C hK hP hk wd_1_51 dX4_bestCloth_24 ?_
        refine lv_iload hx hb dX4_bestCloth_27 (lv_at hl 0 rfl) ?_
        refine lv_ior hx hb dX4_bestCloth_29 ?_
        refine vp_callSi (run_vP (As := [.int x1, .int ((V k 2) ||| ((1 : Int32) <<< (y_3 &&& 31)))]) (rest := []) C hK hP hD hN (c_X4_shelterWith hk _) (rX4_r hK hP hk) ⟨wd_2_99, wd_2_100, wd_2_101, wd_1_4, wd_2_102⟩ ⟨rfl, rfl⟩ hv_X4_shelterWith ⟨Nat.le_of_ble_eq_true rfl, Nat.le_of_ble_eq_true rfl⟩ rfl hl.1 rfl (Nat.le_of_ble_eq_true rfl) dX4_bestCloth_30 ⟨Nat.zero_le _, Nat.zero_le _⟩) (fun r_6 hr_6 => ?_)
        have hT := nm_u hr_6 hT
        refine lv_istore (lv' := [(6, .int r_6), (5, .int ((1 : Int32) <<< (y_3 &&& 31))), (0, .ref (sk (20 + 2 * k))), (1, .int x1), (2, .int y_1), (3, .int y_2), (4, .int y_3)]) hx hb dX4_bestCloth_33 hl (by decide) rfl (fun ls hl => ?_)
        refine lv_aload_n hx hb dX4_bestCloth_35 rfl (lv_at hl 2 rfl) ?_
        refine vp_callSi (run_vP (As := []) (rest := []) C hK hP hD hN (c_X4_bareCells hk _) (rX4_r hK hP hk) ⟨wd_2_200, wd_2_201, wd_2_202, wd_1_4, wd_2_203⟩ ⟨rfl, rfl⟩ hv_X4_bareCells ⟨Nat.le_of_ble_eq_true rfl, Nat.le_of_ble_eq_true rfl⟩ rfl hl.1 rfl (Nat.le_of_ble_eq_true rfl) dX4_bestCloth_36 ⟨Nat.zero_le _, Nat.zero_le _⟩) (fun r_7 hr_7 => ?_)
        have hT := nm_u hr_7 hT
        refine lv_iload hx hb dX4_bestCloth_39 (lv_at hl 1 rfl) ?_
        refine lv_iand hx hb dX4_bestCloth_41 ?_
        refine lv_if_eq (tgt := 57) hx hb dX4_bestCloth_42 (by decide) (fun c_8 => ?_) (fun c_8 => ?_)
        · have hT := it_t c_8 hT
          refine lv_iinc (v := y_3 + 1) (lv' := [(4, .int (y_3 + 1)), (6, .int r_6), (5, .int ((1 : Int32) <<< (y_3 &&& 31))), (0, .ref (sk (20 + 2 * k))), (1, .int x1), (2, .int y_1), (3, .int y_2)]) hx hb dX4_bestCloth_57 hl (k := 6) rfl rfl (by decide) rfl (fun ls hl => ?_)
          refine lv_goto (tgt := 8) hx hb dX4_bestCloth_60 (by decide) ?_
          exact ih ls y_1 y_2 (y_3 + 1) (ms_up c_5 hm) (lv_sub hl [3, 4, 5, 6, 0] rfl) (fun ls z0 hl he => kont ls z0 hl (he.trans hT))
        · have hT := it_f c_8 hT
          refine lv_iload hx hb dX4_bestCloth_45 (lv_at hl 0 rfl) ?_
          refine lv_iload_n hx hb dX4_bestCloth_47 rfl (lv_at hl 5 rfl) ?_
          refine lv_icmp_le (tgt := 57) hx hb dX4_bestCloth_48 (by decide) (fun c_9 => ?_) (fun c_9 => ?_)
          · have hT := it_t c_9 hT
            refine lv_iinc (v := y_3 + 1) (lv' := [(4, .int (y_3 + 1)), (6, .int r_6), (5, .int ((1 : Int32) <<< (y_3 &&& 31))), (0, .ref (sk (20 + 2 * k))), (1, .int x1), (2, .int y_1), (3, .int y_2)]) hx hb dX4_bestCloth_57 hl (k := 6) rfl rfl (by decide) rfl (fun ls hl => ?_)
            refine lv_goto (tgt := 8) hx hb dX4_bestCloth_60 (by decide) ?_
            exact ih ls y_1 y_2 (y_3 + 1) (ms_up c_5 hm) (lv_sub hl [3, 4, 5, 6, 0] rfl) (fun ls z0 hl he => kont ls z0 hl (he.trans hT))
          · have hT := it_f c_9 hT
            refine lv_iload hx hb dX4_bestCloth_51 (lv_at hl 6 rfl) ?_
            refine lv_istore_n (lv' := [(2, .int y_3), (6, .int r_6), (5, .int ((1 : Int32) <<< (y_3 &&& 31))), (0, .ref (sk (20 + 2 * k))), (1, .int x1), (3, .int y_2), (4, .int y_3)]) hx hb dX4_bestCloth_53 rfl hl (by decide) rfl (fun ls hl => ?_)
            refine lv_iload hx hb dX4_bestCloth_54 (lv_at hl 1 rfl) ?_
            refine lv_istore_n (lv' := [(3, .int r_6), (2, .int y_3), (6, .int r_6), (5, .int ((1 : Int32) <<< (y_3 &&& 31))), (0, .ref (sk (20 + 2 * k))), (1, .int x1), (4, .int y_3)]) hx hb dX4_bestCloth_56 rfl hl (by decide) rfl (fun ls hl => ?_)
            refine lv_iinc (v := y_3 + 1) (lv' := [(4, .int (y_3 + 1)), (3, .int r_6), (2, .int y_3), (6, .int r_6), (5, .int ((1 : Int32) <<< (y_3 &&& 31))), (0, .ref (sk (20 + 2 * k))), (1, .int x1)]) hx hb dX4_bestCloth_57 hl (k := 6) rfl rfl (by decide) rfl (fun ls hl => ?_)
            refine lv_goto (tgt := 8) hx hb dX4_bestCloth_60 (by decide) ?_
            exact ih ls y_3 r_6 (y_3 + 1) (ms_up c_5 hm) (lv_sub hl [5, 6, 2, 1, 0] rfl) (fun ls z0 hl he => kont ls z0 hl (he.trans hT))
  refine L_8 (((20 : Int32).toInt - (0 : Int32).toInt).toNat + 1) ls (-9 : Int32) (-1 : Int32) (0 : Int32) (Nat.lt_succ_self _) (lv_sub hl [3, 4, 2, 1, 0] rfl) (fun ls e_4 hl he => ?_)
  have hT := nm_u he hT
  refine lv_iload_n hx hb dX4_bestCloth_63 rfl (lv_at hl 0 rfl) ?_
  exact hret _ _ _ hT dX4_bestCloth_64
theorem hv_X4_cellsBeside : yX4_cellsBeside.cls = RX4 ∧ yX4_cellsBeside.cls ≠ "java/lang/invoke/MethodHandle" ∧ yX4_cellsBeside.cls ≠ "java/lang/invoke/VarHandle" ∧ (parseMethodDescriptor yX4_cellsBeside.desc).map (fun d => d.parameters.length) = some 1 := by decide +kernel
theorem hd_X4_cellsBeside : yX4_cellsBeside.cls ≠ "java/lang/invoke/MethodHandle" ∧ yX4_cellsBeside.cls ≠ "java/lang/invoke/VarHandle" ∧ (parseMethodDescriptor yX4_cellsBeside.desc).map (fun d => d.parameters.length) = some 1 := hv_X4_cellsBeside.2
def sp_X4_cellsBeside (V : Nat → Nat → Int32) (k : Nat) (x1 : Int32) : Int32 :=
  nm (sp_X4_besideAny x1) (fun r_1 => nm (sp_X4_allCells V k) (fun r_2 => nm (sp_J6_bitCount_0f7a4 (r_1 &&& r_2)) (fun r_3 => r_3)))
theorem sp_X4_cellsBeside_s (V : Nat → Nat → Int32) (k : Nat) (x1 : Int32) : (nm (sp_X4_besideAny x1) (fun r_1 => nm (sp_X4_allCells V k) (fun r_2 => nm (sp_J6_bitCount_0f7a4 (r_1 &&& r_2)) (fun r_3 => r_3)))) = sp_X4_cellsBeside V k x1 := rfl
set_option maxHeartbeats 4000000 in
set_option maxRecDepth 100000 in
theorem c_X4_cellsBeside {l : Launch} {D : va_G} {cI cZ cO : ClassId} {sk : Nat → Nat} {g tb : Nat → Int32} {V Hd : Nat → Nat → Int32} {tr : Int64} {k : Nat} {x1 : Int32} (hk : k < 34) (sz : Nat) : Met l yX4_cellsBeside (wm yX4_cellsBeside cX4_cellsBeside 2 (some .int)) ({ frames := 3, cells := 0, slots := 0, locals := 64 } : Room) (GPre D (ty3 cI cZ cO) (WW cI cO sk g tb V Hd tr) [.ref (sk (20 + 2 * k)), .int x1] sz) (vp_Si (fun r => r = sp_X4_cellsBeside V k x1)) 0 0 (fun _ => False) := by
  refine metP_i (post := (fun r => r = sp_X4_cellsBeside V k x1)) (by decide) (Nat.le_of_ble_eq_true rfl) ?_
  intro p e s m args below meth c ls Q C hsz hP hK hD hN hl hret
  have hx := C.1
  have hb := C.2.1
  have hl : lv_has ls 2 [(0, .ref (sk (20 + 2 * k))), (1, .int x1)] := hl
  have hT := sp_X4_cellsBeside_s V k x1
  refine lv_iload_n hx hb dX4_cellsBeside_0 rfl (lv_at hl 1 rfl) ?_
  refine vp_callSi (run_sP (As := [.int x1]) (rest := []) C hN (c_X4_besideAny) ⟨wd_2_189, wd_2_190, wd_1_4, wd_2_191⟩ ⟨rfl, rfl⟩ hd_X4_besideAny ⟨Nat.le_of_ble_eq_true rfl, Nat.le_of_ble_eq_true rfl⟩ rfl hl.1 rfl (Nat.le_of_ble_eq_true rfl) dX4_cellsBeside_1 ⟨Nat.zero_le _, Nat.zero_le _⟩) (fun r_1 hr_1 => ?_)
  have hT := nm_u hr_1 hT
  refine lv_aload_n hx hb dX4_cellsBeside_4 rfl (lv_at hl 0 rfl) ?_
  refine vp_callSi (run_vP (As := []) (rest := [.int r_1]) C hK hP hD hN (c_X4_allCells hk _) (rX4_r hK hP hk) ⟨wd_3_20, wd_3_21, wd_3_22, wd_1_4, wd_3_23⟩ ⟨rfl, rfl⟩ hv_X4_allCells ⟨Nat.le_of_ble_eq_true rfl, Nat.le_of_ble_eq_true rfl⟩ rfl hl.1 rfl (Nat.le_of_ble_eq_true rfl) dX4_cellsBeside_5 ⟨Nat.zero_le _, Nat.zero_le _⟩) (fun r_2 hr_2 => ?_)
  have hT := nm_u hr_2 hT
  refine lv_iand hx hb dX4_cellsBeside_8 ?_
  refine vp_callSi (run_sP (As := [.int (r_1 &&& r_2)]) (rest := []) C hN (c_J6_bitCount_0f7a4) ⟨wd_2_103, wd_2_104, wd_1_9, wd_2_105⟩ ⟨rfl, rfl⟩ hd_J6_bitCount_0f7a4 ⟨Nat.le_of_ble_eq_true rfl, Nat.le_of_ble_eq_true rfl⟩ rfl hl.1 rfl (Nat.le_of_ble_eq_true rfl) dX4_cellsBeside_9 ⟨Nat.zero_le _, Nat.zero_le _⟩) (fun r_3 hr_3 => ?_)
  have hT := nm_u hr_3 hT
  exact hret _ _ _ hT dX4_cellsBeside_12
theorem hv_X4_becomes : yX4_becomes.cls = RX4 ∧ yX4_becomes.cls ≠ "java/lang/invoke/MethodHandle" ∧ yX4_becomes.cls ≠ "java/lang/invoke/VarHandle" ∧ (parseMethodDescriptor yX4_becomes.desc).map (fun d => d.parameters.length) = some 1 := by decide +kernel
theorem hd_X4_becomes : yX4_becomes.cls ≠ "java/lang/invoke/MethodHandle" ∧ yX4_becomes.cls ≠ "java/lang/invoke/VarHandle" ∧ (parseMethodDescriptor yX4_becomes.desc).map (fun d => d.parameters.length) = some 1 := hv_X4_becomes.2
def lp_X4_becomes_42 (k : Nat) (k0 : Nat) : Nat → Int32 → (Nat → Nat → Int32) → (Nat → Nat → Int32)
  | 0, y_1, Hd_2 => Hd_2
  | n + 1, y_1, Hd_2 => if (5 : Int32) ≤ y_1 then Hd_2 else (nm (sp_X4_heldBy Hd_2 k0 y_1) (fun r_5 => lp_X4_becomes_42 k k0 n (y_1 + 1) (vs Hd_2 k y_1.toNatClampNeg r_5)))
theorem lp_X4_becomes_42_s (k : Nat) (k0 : Nat) (n : Nat) (y_1 : Int32) (Hd_2 : Nat → Nat → Int32) : (if (5 : Int32) ≤ y_1 then Hd_2 else (nm (sp_X4_heldBy Hd_2 k0 y_1) (fun r_5 => lp_X4_becomes_42 k k0 n (y_1 + 1) (vs Hd_2 k y_1.toNatClampNeg r_5)))) = lp_X4_becomes_42 k k0 (n + 1) y_1 Hd_2 := rfl
def sp_X4_becomes (V : Nat → Nat → Int32) (Hd : Nat → Nat → Int32) (k : Nat) (k0 : Nat) : (Nat → Nat → Int32) × (Nat → Nat → Int32) :=
  nm (lp_X4_becomes_42 k k0 (((5 : Int32).toInt - (0 : Int32).toInt).toNat + 1) (0 : Int32) Hd) (fun e_3 => (vs (vs (vs (vs (vs V k 0 (V k0 0)) k 1 ((vs V k 0 (V k0 0)) k0 1)) k 2 ((vs (vs V k 0 (V k0 0)) k 1 ((vs V k 0 (V k0 0)) k0 1)) k0 2)) k 3 ((vs (vs (vs V k 0 (V k0 0)) k 1 ((vs V k 0 (V k0 0)) k0 1)) k 2 ((vs (vs V k 0 (V k0 0)) k 1 ((vs V k 0 (V k0 0)) k0 1)) k0 2)) k0 3)) k 4 ((vs (vs (vs (vs V k 0 (V k0 0)) k 1 ((vs V k 0 (V k0 0)) k0 1)) k 2 ((vs (vs V k 0 (V k0 0)) k 1 ((vs V k 0 (V k0 0)) k0 1)) k0 2)) k 3 ((vs (vs (vs V k 0 (V k0 0)) k 1 ((vs V k 0 (V k0 0)) k0 1)) k 2 ((vs (vs V k 0 (V k0 0)) k 1 ((vs V k 0 (V k0 0)) k0 1)) k0 2)) k0 3)) k0 4), e_3))
theorem sp_X4_becomes_s (V : Nat → Nat → Int32) (Hd : Nat → Nat → Int32) (k : Nat) (k0 : Nat) : (nm (lp_X4_becomes_42 k k0 (((5 : Int32).toInt - (0 : Int32).toInt).toNat + 1) (0 : Int32) Hd) (fun e_3 => (vs (vs (vs (vs (vs V k 0 (V k0 0)) k 1 ((vs V k 0 (V k0 0)) k0 1)) k 2 ((vs (vs V k 0 (V k0 0)) k 1 ((vs V k 0 (V k0 0)) k0 1)) k0 2)) k 3 ((vs (vs (vs V k 0 (V k0 0)) k 1 ((vs V k 0 (V k0 0)) k0 1)) k 2 ((vs (vs V k 0 (V k0 0)) k 1 ((vs V k 0 (V k0 0)) k0 1)) k0 2)) k0 3)) k 4 ((vs (vs (vs (vs V k 0 (V k0 0)) k 1 ((vs V k 0 (V k0 0)) k0 1)) k 2 ((vs (vs V k 0 (V k0 0)) k 1 ((vs V k 0 (V k0 0)) k0 1)) k0 2)) k 3 ((vs (vs (vs V k 0 (V k0 0)) k 1 ((vs V k 0 (V k0 0)) k0 1)) k 2 ((vs (vs V k 0 (V k0 0)) k 1 ((vs V k 0 (V k0 0)) k0 1)) k0 2)) k0 3)) k0 4), e_3))) = sp_X4_becomes V Hd k k0 := rfl
set_option maxHeartbeats 4000000 in
set_option maxRecDepth 100000 in
theorem c_X4_becomes {l : Launch} {D : va_G} {cI cZ cO : ClassId} {sk : Nat → Nat} {g tb : Nat → Int32} {V Hd : Nat → Nat → Int32} {tr : Int64} {k : Nat} {k0 : Nat} (hk : k < 34) (hk0 : k0 < 34) (sz : Nat) : Met l yX4_becomes (wm yX4_becomes cX4_becomes 3 none) ({ frames := 1, cells := 0, slots := 0, locals := 21 } : Room) (GPre D (ty3 cI cZ cO) (WW cI cO sk g tb V Hd tr) [.ref (sk (20 + 2 * k)), .ref (sk (20 + 2 * k0))] sz) (va_Qv (fun (u : (Nat → Nat → Int32) × (Nat → Nat → Int32)) => u = sp_X4_becomes V Hd k k0) (fun u t => GAt D (ty3 cI cZ cO) (va_A (WW cI cO sk g tb V Hd tr) sz) (WW cI cO sk g tb u.1 u.2 tr) t) (va_A (WW cI cO sk g tb V Hd tr) sz)) 0 0 (va_A (WW cI cO sk g tb V Hd tr) sz) := by
  refine metQ_v (W1 := (fun (u : (Nat → Nat → Int32) × (Nat → Nat → Int32)) => WW cI cO sk g tb u.1 u.2 tr)) (post := (fun (u : (Nat → Nat → Int32) × (Nat → Nat → Int32)) => u = sp_X4_becomes V Hd k k0)) (by decide) (Nat.le_of_ble_eq_true rfl) ?_
  intro p e s m args below meth c ls A Q C hsz hP hK hD hS hA hN hl hret
  have hx := C.1
  have hb := C.2.1
  have hl : lv_has ls 3 [(0, .ref (sk (20 + 2 * k))), (1, .ref (sk (20 + 2 * k0)))] := hl
  have hT := sp_X4_becomes_s V Hd k k0
  refine lv_aload_n hx hb dX4_becomes_0 rfl (lv_at hl 0 rfl) ?_
  refine lv_aload_n hx hb dX4_becomes_1 rfl (lv_at hl 1 rfl) ?_
  refine gX4_wide C hK hP hk0 wd_1_45 dX4_becomes_2 ?_
  refine pX4_wide C hK hP hD hS hk wd_1_45 dX4_becomes_5 (fun H locs hP hD hS => ?_)
  refine lv_aload_n hx hb dX4_becomes_8 rfl (lv_at hl 0 rfl) ?_
  refine lv_aload_n hx hb dX4_becomes_9 rfl (lv_at hl 1 rfl) ?_
  refine gX4_rows C hK hP hk0 wd_1_48 dX4_becomes_10 ?_
  refine pX4_rows C hK hP hD hS hk wd_1_48 dX4_becomes_13 (fun H locs hP hD hS => ?_)
  refine lv_aload_n hx hb dX4_becomes_16 rfl (lv_at hl 0 rfl) ?_
  refine lv_aload_n hx hb dX4_becomes_17 rfl (lv_at hl 1 rfl) ?_
  refine gX4_cloth C hK hP hk0 wd_1_51 dX4_becomes_18 ?_
  refine pX4_cloth C hK hP hD hS hk wd_1_51 dX4_becomes_21 (fun H locs hP hD hS => ?_)
  refine lv_aload_n hx hb dX4_becomes_24 rfl (lv_at hl 0 rfl) ?_
  refine lv_aload_n hx hb dX4_becomes_25 rfl (lv_at hl 1 rfl) ?_
  refine gX4_wind C hK hP hk0 wd_1_54 dX4_becomes_26 ?_
  refine pX4_wind C hK hP hD hS hk wd_1_54 dX4_becomes_29 (fun H locs hP hD hS => ?_)
  refine lv_aload_n hx hb dX4_becomes_32 rfl (lv_at hl 0 rfl) ?_
  refine lv_aload_n hx hb dX4_becomes_33 rfl (lv_at hl 1 rfl) ?_
  refine gX4_tide C hK hP hk0 wd_1_57 dX4_becomes_34 ?_
  refine pX4_tide C hK hP hD hS hk wd_1_57 dX4_becomes_37 (fun H locs hP hD hS => ?_)
  refine lv_iconst (v := 0) hx hb dX4_becomes_40 (by decide) ?_
  refine lv_istore_n (lv' := [(2, .int (0 : Int32)), (0, .ref (sk (20 + 2 * k))), (1, .ref (sk (20 + 2 * k0)))]) hx hb dX4_becomes_41 rfl hl (by decide) rfl (fun ls hl => ?_)
  have L_42 : ∀ (n : Nat) (ls : Array Slot) (y_1 : Int32) (Hd_2 : Nat → Nat → Int32) (z2 : 0 ≤ y_1.toInt) (hm : ((5 : Int32).toInt - y_1.toInt).toNat < n) (H : Heap) (locs : List Loc) (hP : va_P D vwCl (WW cI cO sk g tb (vs (vs (vs (vs (vs V k 0 (V k0 0)) k 1 ((vs V k 0 (V k0 0)) k0 1)) k 2 ((vs (vs V k 0 (V k0 0)) k 1 ((vs V k 0 (V k0 0)) k0 1)) k0 2)) k 3 ((vs (vs (vs V k 0 (V k0 0)) k 1 ((vs V k 0 (V k0 0)) k0 1)) k 2 ((vs (vs V k 0 (V k0 0)) k 1 ((vs V k 0 (V k0 0)) k0 1)) k0 2)) k0 3)) k 4 ((vs (vs (vs (vs V k 0 (V k0 0)) k 1 ((vs V k 0 (V k0 0)) k0 1)) k 2 ((vs (vs V k 0 (V k0 0)) k 1 ((vs V k 0 (V k0 0)) k0 1)) k0 2)) k 3 ((vs (vs (vs V k 0 (V k0 0)) k 1 ((vs V k 0 (V k0 0)) k0 1)) k 2 ((vs (vs V k 0 (V k0 0)) k 1 ((vs V k 0 (V k0 0)) k0 1)) k0 2)) k0 3)) k0 4)) Hd_2 tr) H) (hD : va_D A (WW cI cO sk g tb (vs (vs (vs (vs (vs V k 0 (V k0 0)) k 1 ((vs V k 0 (V k0 0)) k0 1)) k 2 ((vs (vs V k 0 (V k0 0)) k 1 ((vs V k 0 (V k0 0)) k0 1)) k0 2)) k 3 ((vs (vs (vs V k 0 (V k0 0)) k 1 ((vs V k 0 (V k0 0)) k0 1)) k 2 ((vs (vs V k 0 (V k0 0)) k 1 ((vs V k 0 (V k0 0)) k0 1)) k0 2)) k0 3)) k 4 ((vs (vs (vs (vs V k 0 (V k0 0)) k 1 ((vs V k 0 (V k0 0)) k0 1)) k 2 ((vs (vs V k 0 (V k0 0)) k 1 ((vs V k 0 (V k0 0)) k0 1)) k0 2)) k 3 ((vs (vs (vs V k 0 (V k0 0)) k 1 ((vs V k 0 (V k0 0)) k0 1)) k 2 ((vs (vs V k 0 (V k0 0)) k 1 ((vs V k 0 (V k0 0)) k0 1)) k0 2)) k0 3)) k0 4)) Hd_2 tr)) (hS : va_S A s.heap H locs) (hl : lv_has ls 3 [(0, .ref (sk (20 + 2 * k))), (1, .ref (sk (20 + 2 * k0))), (2, .int y_1)]) (kont : ∀ (ls : Array Slot) (e_3 : Nat → Nat → Int32) (H : Heap) (locs : List Loc), va_P D vwCl (WW cI cO sk g tb (vs (vs (vs (vs (vs V k 0 (V k0 0)) k 1 ((vs V k 0 (V k0 0)) k0 1)) k 2 ((vs (vs V k 0 (V k0 0)) k 1 ((vs V k 0 (V k0 0)) k0 1)) k0 2)) k 3 ((vs (vs (vs V k 0 (V k0 0)) k 1 ((vs V k 0 (V k0 0)) k0 1)) k 2 ((vs (vs V k 0 (V k0 0)) k 1 ((vs V k 0 (V k0 0)) k0 1)) k0 2)) k0 3)) k 4 ((vs (vs (vs (vs V k 0 (V k0 0)) k 1 ((vs V k 0 (V k0 0)) k0 1)) k 2 ((vs (vs V k 0 (V k0 0)) k 1 ((vs V k 0 (V k0 0)) k0 1)) k0 2)) k 3 ((vs (vs (vs V k 0 (V k0 0)) k 1 ((vs V k 0 (V k0 0)) k0 1)) k 2 ((vs (vs V k 0 (V k0 0)) k 1 ((vs V k 0 (V k0 0)) k0 1)) k0 2)) k0 3)) k0 4)) e_3 tr) H → va_D A (WW cI cO sk g tb (vs (vs (vs (vs (vs V k 0 (V k0 0)) k 1 ((vs V k 0 (V k0 0)) k0 1)) k 2 ((vs (vs V k 0 (V k0 0)) k 1 ((vs V k 0 (V k0 0)) k0 1)) k0 2)) k 3 ((vs (vs (vs V k 0 (V k0 0)) k 1 ((vs V k 0 (V k0 0)) k0 1)) k 2 ((vs (vs V k 0 (V k0 0)) k 1 ((vs V k 0 (V k0 0)) k0 1)) k0 2)) k0 3)) k 4 ((vs (vs (vs (vs V k 0 (V k0 0)) k 1 ((vs V k 0 (V k0 0)) k0 1)) k 2 ((vs (vs V k 0 (V k0 0)) k 1 ((vs V k 0 (V k0 0)) k0 1)) k0 2)) k 3 ((vs (vs (vs V k 0 (V k0 0)) k 1 ((vs V k 0 (V k0 0)) k0 1)) k 2 ((vs (vs V k 0 (V k0 0)) k 1 ((vs V k 0 (V k0 0)) k0 1)) k0 2)) k0 3)) k0 4)) e_3 tr) → va_S A s.heap H locs → lv_has ls 3 [] → e_3 = lp_X4_becomes_42 k k0 n y_1 Hd_2 → W p l e ({ frames := 1, cells := 0, slots := 0, locals := 21 } : Room) s m args below meth c H locs 0 0 Q (F0 m 68 ls [])), W p l e ({ frames := 1, cells := 0, slots := 0, locals := 21 } : Room) s m args below meth c H locs 0 0 Q (F0 m 42 ls []) := by
    intro n
    induction n with
    | zero => intro ls y_1 Hd_2 z2 hm; exact absurd hm (Nat.not_lt_zero _)
    | succ n ih =>
      intro ls y_1 Hd_2 z2 hm H locs hP hD hS hl kont
      have hT := lp_X4_becomes_42_s k k0 n y_1 Hd_2
      refine lv_iload_n hx hb dX4_becomes_42 rfl (lv_at hl 2 rfl) ?_
      refine lv_aload_n hx hb dX4_becomes_43 rfl (lv_at hl 0 rfl) ?_
      refine gX4_held C hK hP hk wd_1_60 dX4_becomes_44 ?_
      refine lX_held C hK hP hk dX4_becomes_47 ?_
      refine lv_icmp_ge (tgt := 68) hx hb dX4_becomes_48 (by decide) (fun c_4 => ?_) (fun c_4 => ?_)
      · have hT := it_t c_4 hT
        exact kont ls Hd_2 H locs hP hD hS (lv_sub hl [] rfl) hT
      · have hT := it_f c_4 hT
        refine lv_aload_n hx hb dX4_becomes_51 rfl (lv_at hl 0 rfl) ?_
        refine gX4_held C hK hP hk wd_1_60 dX4_becomes_52 ?_
        refine lv_iload_n hx hb dX4_becomes_55 rfl (lv_at hl 2 rfl) ?_
        refine lv_aload_n hx hb dX4_becomes_56 rfl (lv_at hl 1 rfl) ?_
        refine lv_iload_n hx hb dX4_becomes_57 rfl (lv_at hl 2 rfl) ?_
        refine vp_callSi (run_vP (As := [.int y_1]) (rest := [.int y_1, .ref (sk (21 + 2 * k))]) C hK hP hD hN (c_X4_heldBy hk0 _) (rX4_r hK hP hk0) ⟨wd_2_33, wd_2_34, wd_2_35, wd_1_4, wd_2_36⟩ ⟨rfl, rfl⟩ hv_X4_heldBy ⟨Nat.le_of_ble_eq_true rfl, Nat.le_of_ble_eq_true rfl⟩ rfl hl.1 rfl (Nat.le_of_ble_eq_true rfl) dX4_becomes_58 ⟨Nat.zero_le _, Nat.zero_le _⟩) (fun r_5 hr_5 => ?_)
        have hT := nm_u hr_5 hT
        refine sX_held C hK hP hD hS hk (ix_inv_nle z2 c_4) dX4_becomes_61 (fun H locs hP hD hS => ?_)
        refine lv_iinc (v := y_1 + 1) (lv' := [(2, .int (y_1 + 1)), (0, .ref (sk (20 + 2 * k))), (1, .ref (sk (20 + 2 * k0)))]) hx hb dX4_becomes_62 hl (k := 2) rfl rfl (by decide) rfl (fun ls hl => ?_)
        refine lv_goto (tgt := 42) hx hb dX4_becomes_65 (by decide) ?_
        exact ih ls (y_1 + 1) (vs Hd_2 k y_1.toNatClampNeg r_5) (up0 c_4 z2) (ms_up c_4 hm) H locs hP hD hS (lv_sub hl [1, 2, 0] rfl) (fun ls z0 H locs hP hD hS hl he => kont ls z0 H locs hP hD hS hl (he.trans hT))
  refine L_42 (((5 : Int32).toInt - (0 : Int32).toInt).toNat + 1) ls (0 : Int32) Hd (by decide) (Nat.lt_succ_self _) H locs hP hD hS (lv_sub hl [1, 2, 0] rfl) (fun ls e_3 H locs hP hD hS hl he => ?_)
  have hT := nm_u he hT
  exact hret (vs (vs (vs (vs (vs V k 0 (V k0 0)) k 1 ((vs V k 0 (V k0 0)) k0 1)) k 2 ((vs (vs V k 0 (V k0 0)) k 1 ((vs V k 0 (V k0 0)) k0 1)) k0 2)) k 3 ((vs (vs (vs V k 0 (V k0 0)) k 1 ((vs V k 0 (V k0 0)) k0 1)) k 2 ((vs (vs V k 0 (V k0 0)) k 1 ((vs V k 0 (V k0 0)) k0 1)) k0 2)) k0 3)) k 4 ((vs (vs (vs (vs V k 0 (V k0 0)) k 1 ((vs V k 0 (V k0 0)) k0 1)) k 2 ((vs (vs V k 0 (V k0 0)) k 1 ((vs V k 0 (V k0 0)) k0 1)) k0 2)) k 3 ((vs (vs (vs V k 0 (V k0 0)) k 1 ((vs V k 0 (V k0 0)) k0 1)) k 2 ((vs (vs V k 0 (V k0 0)) k 1 ((vs V k 0 (V k0 0)) k0 1)) k0 2)) k0 3)) k0 4), e_3) _ _ _ _ hT hP hD hS dX4_becomes_68
theorem hv_X4_startAnew : yX4_startAnew.cls = RX4 ∧ yX4_startAnew.cls ≠ "java/lang/invoke/MethodHandle" ∧ yX4_startAnew.cls ≠ "java/lang/invoke/VarHandle" ∧ (parseMethodDescriptor yX4_startAnew.desc).map (fun d => d.parameters.length) = some 0 := by decide +kernel
theorem hd_X4_startAnew : yX4_startAnew.cls ≠ "java/lang/invoke/MethodHandle" ∧ yX4_startAnew.cls ≠ "java/lang/invoke/VarHandle" ∧ (parseMethodDescriptor yX4_startAnew.desc).map (fun d => d.parameters.length) = some 0 := hv_X4_startAnew.2
def sp_X4_startAnew (V : Nat → Nat → Int32) (Hd : Nat → Nat → Int32) (k : Nat) : (Nat → Nat → Int32) × (Nat → Nat → Int32) :=
  nm (sp_X4_freeAllBut Hd k (0 : Int32)) (fun Hd_1 => (vs (vs (vs (vs (vs V k 0 (3 : Int32)) k 1 (3 : Int32)) k 2 (0 : Int32)) k 3 (0 : Int32)) k 4 (0 : Int32), Hd_1))
theorem sp_X4_startAnew_s (V : Nat → Nat → Int32) (Hd : Nat → Nat → Int32) (k : Nat) : (nm (sp_X4_freeAllBut Hd k (0 : Int32)) (fun Hd_1 => (vs (vs (vs (vs (vs V k 0 (3 : Int32)) k 1 (3 : Int32)) k 2 (0 : Int32)) k 3 (0 : Int32)) k 4 (0 : Int32), Hd_1))) = sp_X4_startAnew V Hd k := rfl
set_option maxHeartbeats 4000000 in
set_option maxRecDepth 100000 in
theorem c_X4_startAnew {l : Launch} {D : va_G} {cI cZ cO : ClassId} {sk : Nat → Nat} {g tb : Nat → Int32} {V Hd : Nat → Nat → Int32} {tr : Int64} {k : Nat} (hk : k < 34) (sz : Nat) : Met l yX4_startAnew (wm yX4_startAnew cX4_startAnew 1 none) ({ frames := 1, cells := 0, slots := 0, locals := 22 } : Room) (GPre D (ty3 cI cZ cO) (WW cI cO sk g tb V Hd tr) [.ref (sk (20 + 2 * k))] sz) (va_Qv (fun (u : (Nat → Nat → Int32) × (Nat → Nat → Int32)) => u = sp_X4_startAnew V Hd k) (fun u t => GAt D (ty3 cI cZ cO) (va_A (WW cI cO sk g tb V Hd tr) sz) (WW cI cO sk g tb u.1 u.2 tr) t) (va_A (WW cI cO sk g tb V Hd tr) sz)) 0 0 (va_A (WW cI cO sk g tb V Hd tr) sz) := by
  refine metQ_v (W1 := (fun (u : (Nat → Nat → Int32) × (Nat → Nat → Int32)) => WW cI cO sk g tb u.1 u.2 tr)) (post := (fun (u : (Nat → Nat → Int32) × (Nat → Nat → Int32)) => u = sp_X4_startAnew V Hd k)) (by decide) (Nat.le_of_ble_eq_true rfl) ?_
  intro p e s m args below meth c ls A Q C hsz hP hK hD hS hA hN hl hret
  have hx := C.1
  have hb := C.2.1
  have hl : lv_has ls 1 [(0, .ref (sk (20 + 2 * k)))] := hl
  have hT := sp_X4_startAnew_s V Hd k
  refine lv_aload_n hx hb dX4_startAnew_0 rfl (lv_at hl 0 rfl) ?_
  refine lv_iconst (v := 3) hx hb dX4_startAnew_1 (by decide) ?_
  refine pX4_wide C hK hP hD hS hk wd_1_45 dX4_startAnew_2 (fun H locs hP hD hS => ?_)
  refine lv_aload_n hx hb dX4_startAnew_5 rfl (lv_at hl 0 rfl) ?_
  refine lv_iconst (v := 3) hx hb dX4_startAnew_6 (by decide) ?_
  refine pX4_rows C hK hP hD hS hk wd_1_48 dX4_startAnew_7 (fun H locs hP hD hS => ?_)
  refine lv_aload_n hx hb dX4_startAnew_10 rfl (lv_at hl 0 rfl) ?_
  refine lv_iconst (v := 0) hx hb dX4_startAnew_11 (by decide) ?_
  refine pX4_cloth C hK hP hD hS hk wd_1_51 dX4_startAnew_12 (fun H locs hP hD hS => ?_)
  refine lv_aload_n hx hb dX4_startAnew_15 rfl (lv_at hl 0 rfl) ?_
  refine lv_iconst (v := 0) hx hb dX4_startAnew_16 (by decide) ?_
  refine pX4_wind C hK hP hD hS hk wd_1_54 dX4_startAnew_17 (fun H locs hP hD hS => ?_)
  refine lv_aload_n hx hb dX4_startAnew_20 rfl (lv_at hl 0 rfl) ?_
  refine lv_iconst (v := 0) hx hb dX4_startAnew_21 (by decide) ?_
  refine pX4_tide C hK hP hD hS hk wd_1_57 dX4_startAnew_22 (fun H locs hP hD hS => ?_)
  refine lv_aload_n hx hb dX4_startAnew_25 rfl (lv_at hl 0 rfl) ?_
  refine lv_iconst (v := 0) hx hb dX4_startAnew_26 (by decide) ?_
  refine on_v (run_vQ (As := [.int (0 : Int32)]) (rest := []) C hK hP hD hN (c_X4_freeAllBut hk _) (rX4_r hK hP hk) ⟨wd_1_211, wd_1_212, wd_1_213, wd_1_4, wd_1_214⟩ ⟨rfl, rfl⟩ hv_X4_freeAllBut ⟨Nat.le_of_ble_eq_true rfl, Nat.le_of_ble_eq_true rfl⟩ rfl hl.1 rfl (Nat.le_of_ble_eq_true rfl) dX4_startAnew_27 ⟨Nat.zero_le _, Nat.zero_le _⟩) hD hS hA (fun u H locs hp_2 hP hD hS => ?_)
  obtain ⟨Hd_1, rfl⟩ : ∃ z, z = u := ⟨_, rfl⟩
  have hP : va_P D vwCl (WW cI cO sk g tb (vs (vs (vs (vs (vs V k 0 (3 : Int32)) k 1 (3 : Int32)) k 2 (0 : Int32)) k 3 (0 : Int32)) k 4 (0 : Int32)) Hd_1 tr) H := hP
  have hD : va_D A (WW cI cO sk g tb (vs (vs (vs (vs (vs V k 0 (3 : Int32)) k 1 (3 : Int32)) k 2 (0 : Int32)) k 3 (0 : Int32)) k 4 (0 : Int32)) Hd_1 tr) := hD
  have hT := nm_u hp_2 hT
  exact hret (vs (vs (vs (vs (vs V k 0 (3 : Int32)) k 1 (3 : Int32)) k 2 (0 : Int32)) k 3 (0 : Int32)) k 4 (0 : Int32), Hd_1) _ _ _ _ hT hP hD hS dX4_startAnew_30
end
