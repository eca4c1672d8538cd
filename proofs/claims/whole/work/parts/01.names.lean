-- ===== PART A: goes FIRST, ahead of the names: the tables' words, and 'selects' of the private methods out of them =====
/-- a private method of a class that the tables say can be made, by its rows of tables_1 -/
def lw_okq (q : MethodName × Nat) : Prop := (q.1.cls ≠ "java/lang/invoke/MethodHandle" ∧ q.1.cls ≠ "java/lang/invoke/VarHandle") ∧ Cond.instantiable q.1.cls q.2 ∈ tables_1 ∧ Cond.privateMethod q.1 ∈ tables_1 ∧ Cond.instanceMethod q.1 ∈ tables_1
set_option maxRecDepth 100000 in
theorem lw_p0 : lw_okq (⟨"WindFrontiers$Reader", "readToken", "()V"⟩, 8) := ⟨⟨by decide +kernel, by decide +kernel⟩, List.mem_of_getElem? (i := 19) rfl, List.mem_of_getElem? (i := 216) rfl, List.mem_of_getElem? (i := 217) rfl⟩
set_option maxRecDepth 100000 in
theorem lw_p1 : lw_okq (⟨"WindFrontiers$Reader", "isItem", "()Z"⟩, 8) := ⟨⟨by decide +kernel, by decide +kernel⟩, List.mem_of_getElem? (i := 19) rfl, List.mem_of_getElem? (i := 227) rfl, List.mem_of_getElem? (i := 228) rfl⟩
set_option maxRecDepth 100000 in
theorem lw_p2 : lw_okq (⟨"WindFrontiers$Reader", "isSize", "()Z"⟩, 8) := ⟨⟨by decide +kernel, by decide +kernel⟩, List.mem_of_getElem? (i := 19) rfl, List.mem_of_getElem? (i := 231) rfl, List.mem_of_getElem? (i := 232) rfl⟩
set_option maxRecDepth 100000 in
theorem lw_p3 : lw_okq (⟨"WindFrontiers$Reader", "isNumber", "(II)Z"⟩, 8) := ⟨⟨by decide +kernel, by decide +kernel⟩, List.mem_of_getElem? (i := 19) rfl, List.mem_of_getElem? (i := 235) rfl, List.mem_of_getElem? (i := 236) rfl⟩
set_option maxRecDepth 100000 in
theorem lw_p4 : lw_okq (⟨"WindFrontiers$Reader", "isStop", "()Z"⟩, 8) := ⟨⟨by decide +kernel, by decide +kernel⟩, List.mem_of_getElem? (i := 19) rfl, List.mem_of_getElem? (i := 239) rfl, List.mem_of_getElem? (i := 240) rfl⟩
set_option maxRecDepth 100000 in
theorem lw_p5 : lw_okq (⟨"WindFrontiers$Reader", "isHolder", "()Z"⟩, 8) := ⟨⟨by decide +kernel, by decide +kernel⟩, List.mem_of_getElem? (i := 19) rfl, List.mem_of_getElem? (i := 243) rfl, List.mem_of_getElem? (i := 244) rfl⟩
set_option maxRecDepth 100000 in
theorem lw_p6 : lw_okq (⟨"WindFrontiers$Reader", "readFreeBit", "(I)I"⟩, 8) := ⟨⟨by decide +kernel, by decide +kernel⟩, List.mem_of_getElem? (i := 19) rfl, List.mem_of_getElem? (i := 251) rfl, List.mem_of_getElem? (i := 252) rfl⟩
set_option maxRecDepth 100000 in
theorem lw_p7 : lw_okq (⟨"WindFrontiers$Reader", "isCloth", "()Z"⟩, 8) := ⟨⟨by decide +kernel, by decide +kernel⟩, List.mem_of_getElem? (i := 19) rfl, List.mem_of_getElem? (i := 262) rfl, List.mem_of_getElem? (i := 263) rfl⟩
set_option maxRecDepth 100000 in
theorem lw_p8 : lw_okq (⟨"WindFrontiers$Reader", "isWind", "()Z"⟩, 8) := ⟨⟨by decide +kernel, by decide +kernel⟩, List.mem_of_getElem? (i := 19) rfl, List.mem_of_getElem? (i := 266) rfl, List.mem_of_getElem? (i := 267) rfl⟩
set_option maxRecDepth 100000 in
theorem lw_p9 : lw_okq (⟨"WindFrontiers$Strand", "cellsFrom", "(I)I"⟩, 6) := ⟨⟨by decide +kernel, by decide +kernel⟩, List.mem_of_getElem? (i := 40) rfl, List.mem_of_getElem? (i := 303) rfl, List.mem_of_getElem? (i := 304) rfl⟩
set_option maxRecDepth 100000 in
theorem lw_p10 : lw_okq (⟨"WindFrontiers$Strand", "rowOf", "(I)I"⟩, 6) := ⟨⟨by decide +kernel, by decide +kernel⟩, List.mem_of_getElem? (i := 40) rfl, List.mem_of_getElem? (i := 307) rfl, List.mem_of_getElem? (i := 308) rfl⟩
set_option maxRecDepth 100000 in
theorem lw_p11 : lw_okq (⟨"WindFrontiers$Story", "dropOldest", "()V"⟩, 4) := ⟨⟨by decide +kernel, by decide +kernel⟩, List.mem_of_getElem? (i := 102) rfl, List.mem_of_getElem? (i := 362) rfl, List.mem_of_getElem? (i := 363) rfl⟩
set_option maxRecDepth 100000 in
theorem lw_p12 : lw_okq (⟨"WindFrontiers$Story", "beforeAt", "(I)LWindFrontiers$Strand;"⟩, 4) := ⟨⟨by decide +kernel, by decide +kernel⟩, List.mem_of_getElem? (i := 102) rfl, List.mem_of_getElem? (i := 366) rfl, List.mem_of_getElem? (i := 367) rfl⟩
set_option maxRecDepth 100000 in
theorem lw_p13 : lw_okq (⟨"WindFrontiers", "mayHaveMoved", "(II)Z"⟩, 8) := ⟨⟨by decide +kernel, by decide +kernel⟩, List.mem_of_getElem? (i := 11) rfl, List.mem_of_getElem? (i := 469) rfl, List.mem_of_getElem? (i := 470) rfl⟩
set_option maxRecDepth 100000 in
theorem lw_p14 : lw_okq (⟨"WindFrontiers$Marks", "asCell", "(I)I"⟩, 1) := ⟨⟨by decide +kernel, by decide +kernel⟩, List.mem_of_getElem? (i := 149) rfl, List.mem_of_getElem? (i := 487) rfl, List.mem_of_getElem? (i := 488) rfl⟩
set_option maxRecDepth 100000 in
theorem lw_p15 : lw_okq (⟨"WindFrontiers$Marks", "asCastle", "(LWindFrontiers$Strand;II)I"⟩, 1) := ⟨⟨by decide +kernel, by decide +kernel⟩, List.mem_of_getElem? (i := 149) rfl, List.mem_of_getElem? (i := 491) rfl, List.mem_of_getElem? (i := 492) rfl⟩
def lw_privs_1 : List (MethodName × Nat) := [(⟨"WindFrontiers$Reader", "readToken", "()V"⟩, 8), (⟨"WindFrontiers$Reader", "isItem", "()Z"⟩, 8), (⟨"WindFrontiers$Reader", "isSize", "()Z"⟩, 8), (⟨"WindFrontiers$Reader", "isNumber", "(II)Z"⟩, 8), (⟨"WindFrontiers$Reader", "isStop", "()Z"⟩, 8), (⟨"WindFrontiers$Reader", "isHolder", "()Z"⟩, 8), (⟨"WindFrontiers$Reader", "readFreeBit", "(I)I"⟩, 8), (⟨"WindFrontiers$Reader", "isCloth", "()Z"⟩, 8), (⟨"WindFrontiers$Reader", "isWind", "()Z"⟩, 8), (⟨"WindFrontiers$Strand", "cellsFrom", "(I)I"⟩, 6), (⟨"WindFrontiers$Strand", "rowOf", "(I)I"⟩, 6), (⟨"WindFrontiers$Story", "dropOldest", "()V"⟩, 4), (⟨"WindFrontiers$Story", "beforeAt", "(I)LWindFrontiers$Strand;"⟩, 4), (⟨"WindFrontiers", "mayHaveMoved", "(II)Z"⟩, 8), (⟨"WindFrontiers$Marks", "asCell", "(I)I"⟩, 1), (⟨"WindFrontiers$Marks", "asCastle", "(LWindFrontiers$Strand;II)I"⟩, 1)]
theorem lw_r1 : ∀ q ∈ lw_privs_1, lw_okq q := List.forall_mem_cons.mpr ⟨lw_p0, List.forall_mem_cons.mpr ⟨lw_p1, List.forall_mem_cons.mpr ⟨lw_p2, List.forall_mem_cons.mpr ⟨lw_p3, List.forall_mem_cons.mpr ⟨lw_p4, List.forall_mem_cons.mpr ⟨lw_p5, List.forall_mem_cons.mpr ⟨lw_p6, List.forall_mem_cons.mpr ⟨lw_p7, List.forall_mem_cons.mpr ⟨lw_p8, List.forall_mem_cons.mpr ⟨lw_p9, List.forall_mem_cons.mpr ⟨lw_p10, List.forall_mem_cons.mpr ⟨lw_p11, List.forall_mem_cons.mpr ⟨lw_p12, List.forall_mem_cons.mpr ⟨lw_p13, List.forall_mem_cons.mpr ⟨lw_p14, List.forall_mem_cons.mpr ⟨lw_p15, fun _ h => absurd h List.not_mem_nil⟩⟩⟩⟩⟩⟩⟩⟩⟩⟩⟩⟩⟩⟩⟩⟩
set_option maxRecDepth 100000 in
theorem lw_p16 : lw_okq (⟨"WindFrontiers$Marks", "asCorridor", "(II)I"⟩, 1) := ⟨⟨by decide +kernel, by decide +kernel⟩, List.mem_of_getElem? (i := 149) rfl, List.mem_of_getElem? (i := 501) rfl, List.mem_of_getElem? (i := 502) rfl⟩
set_option maxRecDepth 100000 in
theorem lw_p17 : lw_okq (⟨"WindFrontiers$Marks", "asEmpire", "(LWindFrontiers$Strand;II)I"⟩, 1) := ⟨⟨by decide +kernel, by decide +kernel⟩, List.mem_of_getElem? (i := 149) rfl, List.mem_of_getElem? (i := 506) rfl, List.mem_of_getElem? (i := 507) rfl⟩
set_option maxRecDepth 100000 in
theorem lw_p18 : lw_okq (⟨"WindFrontiers$Marks", "asPoland", "(LWindFrontiers$Strand;II)I"⟩, 1) := ⟨⟨by decide +kernel, by decide +kernel⟩, List.mem_of_getElem? (i := 149) rfl, List.mem_of_getElem? (i := 511) rfl, List.mem_of_getElem? (i := 512) rfl⟩
set_option maxRecDepth 100000 in
theorem lw_p19 : lw_okq (⟨"WindFrontiers$Marks", "asSalient", "(LWindFrontiers$Strand;I)I"⟩, 1) := ⟨⟨by decide +kernel, by decide +kernel⟩, List.mem_of_getElem? (i := 149) rfl, List.mem_of_getElem? (i := 519) rfl, List.mem_of_getElem? (i := 520) rfl⟩
set_option maxRecDepth 100000 in
theorem lw_p20 : lw_okq (⟨"WindFrontiers", "imageOf", "(I)LWindFrontiers$Story;"⟩, 8) := ⟨⟨by decide +kernel, by decide +kernel⟩, List.mem_of_getElem? (i := 11) rfl, List.mem_of_getElem? (i := 530) rfl, List.mem_of_getElem? (i := 531) rfl⟩
set_option maxRecDepth 100000 in
theorem lw_p21 : lw_okq (⟨"WindFrontiersModel", "next", "()V"⟩, 22) := ⟨⟨by decide +kernel, by decide +kernel⟩, List.mem_of_getElem? (i := 550) rfl, List.mem_of_getElem? (i := 639) rfl, List.mem_of_getElem? (i := 640) rfl⟩
set_option maxRecDepth 100000 in
theorem lw_p22 : lw_okq (⟨"WindFrontiersModel", "letterAt", "(I)I"⟩, 22) := ⟨⟨by decide +kernel, by decide +kernel⟩, List.mem_of_getElem? (i := 550) rfl, List.mem_of_getElem? (i := 643) rfl, List.mem_of_getElem? (i := 644) rfl⟩
set_option maxRecDepth 100000 in
theorem lw_p23 : lw_okq (⟨"WindFrontiersModel", "readItem", "()V"⟩, 22) := ⟨⟨by decide +kernel, by decide +kernel⟩, List.mem_of_getElem? (i := 550) rfl, List.mem_of_getElem? (i := 653) rfl, List.mem_of_getElem? (i := 654) rfl⟩
set_option maxRecDepth 100000 in
theorem lw_p24 : lw_okq (⟨"WindFrontiersModel", "takesNumber", "(II)I"⟩, 22) := ⟨⟨by decide +kernel, by decide +kernel⟩, List.mem_of_getElem? (i := 550) rfl, List.mem_of_getElem? (i := 657) rfl, List.mem_of_getElem? (i := 658) rfl⟩
set_option maxRecDepth 100000 in
theorem lw_p25 : lw_okq (⟨"WindFrontiersModel", "takesCell", "(Z)I"⟩, 22) := ⟨⟨by decide +kernel, by decide +kernel⟩, List.mem_of_getElem? (i := 550) rfl, List.mem_of_getElem? (i := 661) rfl, List.mem_of_getElem? (i := 662) rfl⟩
set_option maxRecDepth 100000 in
theorem lw_p26 : lw_okq (⟨"WindFrontiersModel", "settles", "()V"⟩, 22) := ⟨⟨by decide +kernel, by decide +kernel⟩, List.mem_of_getElem? (i := 550) rfl, List.mem_of_getElem? (i := 668) rfl, List.mem_of_getElem? (i := 669) rfl⟩
set_option maxRecDepth 100000 in
theorem lw_p27 : lw_okq (⟨"WindFrontiersModel", "isCell", "(II)Z"⟩, 22) := ⟨⟨by decide +kernel, by decide +kernel⟩, List.mem_of_getElem? (i := 550) rfl, List.mem_of_getElem? (i := 676) rfl, List.mem_of_getElem? (i := 677) rfl⟩
set_option maxRecDepth 100000 in
theorem lw_p28 : lw_okq (⟨"WindFrontiersModel", "isDry", "(I)Z"⟩, 22) := ⟨⟨by decide +kernel, by decide +kernel⟩, List.mem_of_getElem? (i := 550) rfl, List.mem_of_getElem? (i := 680) rfl, List.mem_of_getElem? (i := 681) rfl⟩
set_option maxRecDepth 100000 in
theorem lw_p29 : lw_okq (⟨"WindFrontiersModel", "isStill", "(IIII)Z"⟩, 22) := ⟨⟨by decide +kernel, by decide +kernel⟩, List.mem_of_getElem? (i := 550) rfl, List.mem_of_getElem? (i := 684) rfl, List.mem_of_getElem? (i := 685) rfl⟩
set_option maxRecDepth 100000 in
theorem lw_p30 : lw_okq (⟨"WindFrontiersModel", "isCloth", "(III)Z"⟩, 22) := ⟨⟨by decide +kernel, by decide +kernel⟩, List.mem_of_getElem? (i := 550) rfl, List.mem_of_getElem? (i := 688) rfl, List.mem_of_getElem? (i := 689) rfl⟩
set_option maxRecDepth 100000 in
theorem lw_p31 : lw_okq (⟨"WindFrontiersModel", "heldBy", "(I)I"⟩, 22) := ⟨⟨by decide +kernel, by decide +kernel⟩, List.mem_of_getElem? (i := 550) rfl, List.mem_of_getElem? (i := 699) rfl, List.mem_of_getElem? (i := 700) rfl⟩
def lw_privs_2 : List (MethodName × Nat) := [(⟨"WindFrontiers$Marks", "asCorridor", "(II)I"⟩, 1), (⟨"WindFrontiers$Marks", "asEmpire", "(LWindFrontiers$Strand;II)I"⟩, 1), (⟨"WindFrontiers$Marks", "asPoland", "(LWindFrontiers$Strand;II)I"⟩, 1), (⟨"WindFrontiers$Marks", "asSalient", "(LWindFrontiers$Strand;I)I"⟩, 1), (⟨"WindFrontiers", "imageOf", "(I)LWindFrontiers$Story;"⟩, 8), (⟨"WindFrontiersModel", "next", "()V"⟩, 22), (⟨"WindFrontiersModel", "letterAt", "(I)I"⟩, 22), (⟨"WindFrontiersModel", "readItem", "()V"⟩, 22), (⟨"WindFrontiersModel", "takesNumber", "(II)I"⟩, 22), (⟨"WindFrontiersModel", "takesCell", "(Z)I"⟩, 22), (⟨"WindFrontiersModel", "settles", "()V"⟩, 22), (⟨"WindFrontiersModel", "isCell", "(II)Z"⟩, 22), (⟨"WindFrontiersModel", "isDry", "(I)Z"⟩, 22), (⟨"WindFrontiersModel", "isStill", "(IIII)Z"⟩, 22), (⟨"WindFrontiersModel", "isCloth", "(III)Z"⟩, 22), (⟨"WindFrontiersModel", "heldBy", "(I)I"⟩, 22)]
theorem lw_r2 : ∀ q ∈ lw_privs_2, lw_okq q := List.forall_mem_cons.mpr ⟨lw_p16, List.forall_mem_cons.mpr ⟨lw_p17, List.forall_mem_cons.mpr ⟨lw_p18, List.forall_mem_cons.mpr ⟨lw_p19, List.forall_mem_cons.mpr ⟨lw_p20, List.forall_mem_cons.mpr ⟨lw_p21, List.forall_mem_cons.mpr ⟨lw_p22, List.forall_mem_cons.mpr ⟨lw_p23, List.forall_mem_cons.mpr ⟨lw_p24, List.forall_mem_cons.mpr ⟨lw_p25, List.forall_mem_cons.mpr ⟨lw_p26, List.forall_mem_cons.mpr ⟨lw_p27, List.forall_mem_cons.mpr ⟨lw_p28, List.forall_mem_cons.mpr ⟨lw_p29, List.forall_mem_cons.mpr ⟨lw_p30, List.forall_mem_cons.mpr ⟨lw_p31, fun _ h => absurd h List.not_mem_nil⟩⟩⟩⟩⟩⟩⟩⟩⟩⟩⟩⟩⟩⟩⟩⟩
set_option maxRecDepth 100000 in
theorem lw_p32 : lw_okq (⟨"WindFrontiersModel", "stillOnes", "(II)I"⟩, 22) := ⟨⟨by decide +kernel, by decide +kernel⟩, List.mem_of_getElem? (i := 550) rfl, List.mem_of_getElem? (i := 703) rfl, List.mem_of_getElem? (i := 704) rfl⟩
set_option maxRecDepth 100000 in
theorem lw_p33 : lw_okq (⟨"WindFrontiersModel", "losesOf", "(I)I"⟩, 22) := ⟨⟨by decide +kernel, by decide +kernel⟩, List.mem_of_getElem? (i := 550) rfl, List.mem_of_getElem? (i := 710) rfl, List.mem_of_getElem? (i := 711) rfl⟩
set_option maxRecDepth 100000 in
theorem lw_p34 : lw_okq (⟨"WindFrontiersModel", "remembers", "()V"⟩, 22) := ⟨⟨by decide +kernel, by decide +kernel⟩, List.mem_of_getElem? (i := 550) rfl, List.mem_of_getElem? (i := 718) rfl, List.mem_of_getElem? (i := 719) rfl⟩
set_option maxRecDepth 100000 in
theorem lw_p35 : lw_okq (⟨"WindFrontiersModel", "border", "()I"⟩, 22) := ⟨⟨by decide +kernel, by decide +kernel⟩, List.mem_of_getElem? (i := 550) rfl, List.mem_of_getElem? (i := 746) rfl, List.mem_of_getElem? (i := 747) rfl⟩
set_option maxRecDepth 100000 in
theorem lw_p36 : lw_okq (⟨"WindFrontiersModel", "isBorder", "(IIII)Z"⟩, 22) := ⟨⟨by decide +kernel, by decide +kernel⟩, List.mem_of_getElem? (i := 550) rfl, List.mem_of_getElem? (i := 750) rfl, List.mem_of_getElem? (i := 751) rfl⟩
set_option maxRecDepth 100000 in
theorem lw_p37 : lw_okq (⟨"WindFrontiersModel", "findFar", "(I)V"⟩, 22) := ⟨⟨by decide +kernel, by decide +kernel⟩, List.mem_of_getElem? (i := 550) rfl, List.mem_of_getElem? (i := 758) rfl, List.mem_of_getElem? (i := 759) rfl⟩
set_option maxRecDepth 100000 in
theorem lw_p38 : lw_okq (⟨"WindFrontiersModel", "costOf", "(II)I"⟩, 22) := ⟨⟨by decide +kernel, by decide +kernel⟩, List.mem_of_getElem? (i := 550) rfl, List.mem_of_getElem? (i := 762) rfl, List.mem_of_getElem? (i := 763) rfl⟩
set_option maxRecDepth 100000 in
theorem lw_p39 : lw_okq (⟨"WindFrontiersModel", "leastBeside", "(II)I"⟩, 22) := ⟨⟨by decide +kernel, by decide +kernel⟩, List.mem_of_getElem? (i := 550) rfl, List.mem_of_getElem? (i := 766) rfl, List.mem_of_getElem? (i := 767) rfl⟩
set_option maxRecDepth 100000 in
theorem lw_p40 : lw_okq (⟨"WindFrontiersModel", "isSo", "(I)Z"⟩, 22) := ⟨⟨by decide +kernel, by decide +kernel⟩, List.mem_of_getElem? (i := 550) rfl, List.mem_of_getElem? (i := 790) rfl, List.mem_of_getElem? (i := 791) rfl⟩
def lw_privs_3 : List (MethodName × Nat) := [(⟨"WindFrontiersModel", "stillOnes", "(II)I"⟩, 22), (⟨"WindFrontiersModel", "losesOf", "(I)I"⟩, 22), (⟨"WindFrontiersModel", "remembers", "()V"⟩, 22), (⟨"WindFrontiersModel", "border", "()I"⟩, 22), (⟨"WindFrontiersModel", "isBorder", "(IIII)Z"⟩, 22), (⟨"WindFrontiersModel", "findFar", "(I)V"⟩, 22), (⟨"WindFrontiersModel", "costOf", "(II)I"⟩, 22), (⟨"WindFrontiersModel", "leastBeside", "(II)I"⟩, 22), (⟨"WindFrontiersModel", "isSo", "(I)Z"⟩, 22)]
theorem lw_r3 : ∀ q ∈ lw_privs_3, lw_okq q := List.forall_mem_cons.mpr ⟨lw_p32, List.forall_mem_cons.mpr ⟨lw_p33, List.forall_mem_cons.mpr ⟨lw_p34, List.forall_mem_cons.mpr ⟨lw_p35, List.forall_mem_cons.mpr ⟨lw_p36, List.forall_mem_cons.mpr ⟨lw_p37, List.forall_mem_cons.mpr ⟨lw_p38, List.forall_mem_cons.mpr ⟨lw_p39, List.forall_mem_cons.mpr ⟨lw_p40, fun _ h => absurd h List.not_mem_nil⟩⟩⟩⟩⟩⟩⟩⟩⟩
def lw_privs : List (MethodName × Nat) := lw_privs_1 ++ (lw_privs_2 ++ (lw_privs_3))
def lw_tbl : List Cond := k2_sels lw_privs ++ tables_1
set_option maxRecDepth 100000 in
theorem lw_privs_ok : ∀ q ∈ lw_privs, lw_okq q := by
  show ∀ q ∈ lw_privs_1 ++ (lw_privs_2 ++ (lw_privs_3)), lw_okq q
  exact List.forall_mem_append.mpr ⟨lw_r1, List.forall_mem_append.mpr ⟨lw_r2, lw_r3⟩⟩
-- ===== end of PART A; then your names; then what follows =====
theorem goodIn_app {big a b : List Cond} (ha : GoodIn big a) (hb : GoodIn big b) : GoodIn big (a ++ b) := fun w h => (List.mem_append.mp h).elim (ha w) (hb w)
def RX0 : String := "WindFrontiers$Marks"
def TX0 : u_T := fun k => match k with
  | _ => ("WindFrontiers$Marks", "sum", "J", false)
def tyX0 : Nat → FieldType := fun k => match k with
  | _ => .long
abbrev wsX00 : List Cond := u_ws RX0 TX0 1
theorem nmX0 : ∀ a, a < 1 → ∀ b, b < 1 → a ≠ b → (TX0 a).2.1 ≠ (TX0 b).2.1 := by decide +kernel
theorem tyX0_ok : ∀ k, k < 1 → parseFieldDescriptor (TX0 k).2.2.1 = some (tyX0 k) := by decide +kernel
abbrev cX0_init : ByteArray := prog_2_method_1_code
def yX0_init : MethodName := ⟨RX0, "<init>", "()V"⟩
abbrev cX0_markAs : ByteArray := prog_2_method_2_code
def yX0_markAs : MethodName := ⟨RX0, "markAs", "(ILWindFrontiers$Strand;II)I"⟩
abbrev cX0_asCell : ByteArray := prog_2_method_3_code
def yX0_asCell : MethodName := ⟨RX0, "asCell", "(I)I"⟩
abbrev cX0_asCastle : ByteArray := prog_2_method_4_code
def yX0_asCastle : MethodName := ⟨RX0, "asCastle", "(LWindFrontiers$Strand;II)I"⟩
abbrev cX0_asCorridor : ByteArray := prog_2_method_5_code
def yX0_asCorridor : MethodName := ⟨RX0, "asCorridor", "(II)I"⟩
abbrev cX0_asEmpire : ByteArray := prog_2_method_6_code
def yX0_asEmpire : MethodName := ⟨RX0, "asEmpire", "(LWindFrontiers$Strand;II)I"⟩
abbrev cX0_asPoland : ByteArray := prog_2_method_7_code
def yX0_asPoland : MethodName := ⟨RX0, "asPoland", "(LWindFrontiers$Strand;II)I"⟩
abbrev cX0_asSalient : ByteArray := prog_2_method_8_code
def yX0_asSalient : MethodName := ⟨RX0, "asSalient", "(LWindFrontiers$Strand;I)I"⟩
def RX1 : String := "WindFrontiers$Reader"
def TX1 : u_T := fun k => match k with
  | 0 => ("WindFrontiers$Reader", "text", "LWindFrontiers$Text;", true)
  | 1 => ("WindFrontiers$Reader", "draft", "LWindFrontiers$Strand;", true)
  | 2 => ("WindFrontiers$Reader", "place", "I", false)
  | 3 => ("WindFrontiers$Reader", "start", "I", false)
  | 4 => ("WindFrontiers$Reader", "token", "I", false)
  | 5 => ("WindFrontiers$Reader", "value", "I", false)
  | 6 => ("WindFrontiers$Reader", "items", "I", false)
  | _ => ("WindFrontiers$Reader", "windTold", "Z", false)
def tyX1 : Nat → FieldType := fun k => match k with
  | 0 => .object "WindFrontiers$Text"
  | 1 => .object "WindFrontiers$Strand"
  | 2 => .int
  | 3 => .int
  | 4 => .int
  | 5 => .int
  | 6 => .int
  | _ => .boolean
abbrev wsX10 : List Cond := u_ws RX1 TX1 8
theorem nmX1 : ∀ a, a < 8 → ∀ b, b < 8 → a ≠ b → (TX1 a).2.1 ≠ (TX1 b).2.1 := by decide +kernel
theorem tyX1_ok : ∀ k, k < 8 → parseFieldDescriptor (TX1 k).2.2.1 = some (tyX1 k) := by decide +kernel
abbrev cX1_init : ByteArray := prog_3_method_1_code
def yX1_init : MethodName := ⟨RX1, "<init>", "()V"⟩
abbrev cX1_readAll : ByteArray := prog_3_method_2_code
def yX1_readAll : MethodName := ⟨RX1, "readAll", "()I"⟩
abbrev cX1_isItem : ByteArray := prog_3_method_3_code
def yX1_isItem : MethodName := ⟨RX1, "isItem", "()Z"⟩
abbrev cX1_isSize : ByteArray := prog_3_method_4_code
def yX1_isSize : MethodName := ⟨RX1, "isSize", "()Z"⟩
abbrev cX1_isHolder : ByteArray := prog_3_method_5_code
def yX1_isHolder : MethodName := ⟨RX1, "isHolder", "()Z"⟩
abbrev cX1_isCloth : ByteArray := prog_3_method_6_code
def yX1_isCloth : MethodName := ⟨RX1, "isCloth", "()Z"⟩
abbrev cX1_isWind : ByteArray := prog_3_method_7_code
def yX1_isWind : MethodName := ⟨RX1, "isWind", "()Z"⟩
abbrev cX1_isStop : ByteArray := prog_3_method_8_code
def yX1_isStop : MethodName := ⟨RX1, "isStop", "()Z"⟩
abbrev cX1_readFreeBit : ByteArray := prog_3_method_9_code
def yX1_readFreeBit : MethodName := ⟨RX1, "readFreeBit", "(I)I"⟩
abbrev cX1_isNumber : ByteArray := prog_3_method_10_code
def yX1_isNumber : MethodName := ⟨RX1, "isNumber", "(II)Z"⟩
abbrev cX1_readToken : ByteArray := prog_3_method_11_code
def yX1_readToken : MethodName := ⟨RX1, "readToken", "()V"⟩
abbrev cX1_tokenOf : ByteArray := prog_3_method_12_code
def yX1_tokenOf : MethodName := ⟨RX1, "tokenOf", "(I)I"⟩
def RX2 : String := "WindFrontiers$Seen"
def TX2 : u_T := fun k => match k with
  | 0 => ("WindFrontiers$Seen", "much", "I", false)
  | 1 => ("WindFrontiers$Seen", "stillByLeft", "I", false)
  | 2 => ("WindFrontiers$Seen", "stillByRight", "I", false)
  | 3 => ("WindFrontiers$Seen", "openByLeft", "I", false)
  | _ => ("WindFrontiers$Seen", "openByRight", "I", false)
def tyX2 : Nat → FieldType := fun k => match k with
  | 0 => .int
  | 1 => .int
  | 2 => .int
  | 3 => .int
  | _ => .int
abbrev wsX20 : List Cond := u_ws RX2 TX2 5
theorem nmX2 : ∀ a, a < 5 → ∀ b, b < 5 → a ≠ b → (TX2 a).2.1 ≠ (TX2 b).2.1 := by decide +kernel
theorem tyX2_ok : ∀ k, k < 5 → parseFieldDescriptor (TX2 k).2.2.1 = some (tyX2 k) := by decide +kernel
abbrev cX2_init : ByteArray := prog_4_method_1_code
def yX2_init : MethodName := ⟨RX2, "<init>", "()V"⟩
abbrev cX2_dropAll : ByteArray := prog_4_method_2_code
def yX2_dropAll : MethodName := ⟨RX2, "dropAll", "()V"⟩
abbrev cX2_add : ByteArray := prog_4_method_3_code
def yX2_add : MethodName := ⟨RX2, "add", "(III)Z"⟩
abbrev cX2_agrees : ByteArray := prog_4_method_4_code
def yX2_agrees : MethodName := ⟨RX2, "agrees", "(II)Z"⟩
def RX3 : String := "WindFrontiers$Story"
def TX3 : u_T := fun k => match k with
  | 0 => ("WindFrontiers$Story", "present", "LWindFrontiers$Strand;", true)
  | 1 => ("WindFrontiers$Story", "before", "[LWindFrontiers$Strand;", true)
  | 2 => ("WindFrontiers$Story", "undoable", "I", false)
  | _ => ("WindFrontiers$Story", "kept", "Z", false)
def tyX3 : Nat → FieldType := fun k => match k with
  | 0 => .object "WindFrontiers$Strand"
  | 1 => .array (.object "WindFrontiers$Strand")
  | 2 => .int
  | _ => .boolean
abbrev wsX30 : List Cond := u_ws RX3 TX3 4
theorem nmX3 : ∀ a, a < 4 → ∀ b, b < 4 → a ≠ b → (TX3 a).2.1 ≠ (TX3 b).2.1 := by decide +kernel
theorem tyX3_ok : ∀ k, k < 4 → parseFieldDescriptor (TX3 k).2.2.1 = some (tyX3 k) := by decide +kernel
abbrev cX3_init : ByteArray := prog_5_method_1_code
def yX3_init : MethodName := ⟨RX3, "<init>", "()V"⟩
abbrev cX3_remember : ByteArray := prog_5_method_2_code
def yX3_remember : MethodName := ⟨RX3, "remember", "()V"⟩
abbrev cX3_dropOldest : ByteArray := prog_5_method_3_code
def yX3_dropOldest : MethodName := ⟨RX3, "dropOldest", "()V"⟩
abbrev cX3_goBack : ByteArray := prog_5_method_4_code
def yX3_goBack : MethodName := ⟨RX3, "goBack", "()Z"⟩
abbrev cX3_becomes : ByteArray := prog_5_method_5_code
def yX3_becomes : MethodName := ⟨RX3, "becomes", "(LWindFrontiers$Story;)V"⟩
abbrev cX3_beforeAt : ByteArray := prog_5_method_6_code
def yX3_beforeAt : MethodName := ⟨RX3, "beforeAt", "(I)LWindFrontiers$Strand;"⟩
abbrev cX3_copy : ByteArray := prog_5_method_7_code
def yX3_copy : MethodName := ⟨RX3, "copy", "(LWindFrontiers$Strand;LWindFrontiers$Strand;)V"⟩
def RX4 : String := "WindFrontiers$Strand"
def TX4 : u_T := fun k => match k with
  | 0 => ("WindFrontiers$Strand", "wide", "I", false)
  | 1 => ("WindFrontiers$Strand", "rows", "I", false)
  | 2 => ("WindFrontiers$Strand", "cloth", "I", false)
  | 3 => ("WindFrontiers$Strand", "wind", "I", false)
  | 4 => ("WindFrontiers$Strand", "tide", "I", false)
  | _ => ("WindFrontiers$Strand", "held", "[I", true)
def tyX4 : Nat → FieldType := fun k => match k with
  | 0 => .int
  | 1 => .int
  | 2 => .int
  | 3 => .int
  | 4 => .int
  | _ => .array .int
abbrev wsX40 : List Cond := u_ws RX4 TX4 6
theorem nmX4 : ∀ a, a < 6 → ∀ b, b < 6 → a ≠ b → (TX4 a).2.1 ≠ (TX4 b).2.1 := by decide +kernel
theorem tyX4_ok : ∀ k, k < 6 → parseFieldDescriptor (TX4 k).2.2.1 = some (tyX4 k) := by decide +kernel
abbrev cX4_init : ByteArray := prog_6_method_1_code
def yX4_init : MethodName := ⟨RX4, "<init>", "()V"⟩
abbrev cX4_startAnew : ByteArray := prog_6_method_2_code
def yX4_startAnew : MethodName := ⟨RX4, "startAnew", "()V"⟩
abbrev cX4_becomes : ByteArray := prog_6_method_3_code
def yX4_becomes : MethodName := ⟨RX4, "becomes", "(LWindFrontiers$Strand;)V"⟩
abbrev cX4_isCell : ByteArray := prog_6_method_4_code
def yX4_isCell : MethodName := ⟨RX4, "isCell", "(II)Z"⟩
abbrev cX4_dryCells : ByteArray := prog_6_method_5_code
def yX4_dryCells : MethodName := ⟨RX4, "dryCells", "()I"⟩
abbrev cX4_bareCells : ByteArray := prog_6_method_6_code
def yX4_bareCells : MethodName := ⟨RX4, "bareCells", "()I"⟩
abbrev cX4_cellsFrom : ByteArray := prog_6_method_7_code
def yX4_cellsFrom : MethodName := ⟨RX4, "cellsFrom", "(I)I"⟩
abbrev cX4_rowOf : ByteArray := prog_6_method_8_code
def yX4_rowOf : MethodName := ⟨RX4, "rowOf", "(I)I"⟩
abbrev cX4_heldBy : ByteArray := prog_6_method_9_code
def yX4_heldBy : MethodName := ⟨RX4, "heldBy", "(I)I"⟩
abbrev cX4_heldByAny : ByteArray := prog_6_method_10_code
def yX4_heldByAny : MethodName := ⟨RX4, "heldByAny", "()I"⟩
abbrev cX4_holderOf : ByteArray := prog_6_method_11_code
def yX4_holderOf : MethodName := ⟨RX4, "holderOf", "(I)I"⟩
abbrev cX4_give : ByteArray := prog_6_method_12_code
def yX4_give : MethodName := ⟨RX4, "give", "(II)V"⟩
abbrev cX4_freeAllBut : ByteArray := prog_6_method_13_code
def yX4_freeAllBut : MethodName := ⟨RX4, "freeAllBut", "(I)V"⟩
abbrev cX4_tideBecomes : ByteArray := prog_6_method_14_code
def yX4_tideBecomes : MethodName := ⟨RX4, "tideBecomes", "(I)V"⟩
abbrev cX4_stillBy : ByteArray := prog_6_method_15_code
def yX4_stillBy : MethodName := ⟨RX4, "stillBy", "(I)I"⟩
abbrev cX4_stillWith : ByteArray := prog_6_method_16_code
def yX4_stillWith : MethodName := ⟨RX4, "stillWith", "(II)I"⟩
abbrev cX4_shelterOf : ByteArray := prog_6_method_17_code
def yX4_shelterOf : MethodName := ⟨RX4, "shelterOf", "(I)I"⟩
abbrev cX4_shelterWith : ByteArray := prog_6_method_18_code
def yX4_shelterWith : MethodName := ⟨RX4, "shelterWith", "(II)I"⟩
abbrev cX4_borderLength : ByteArray := prog_6_method_19_code
def yX4_borderLength : MethodName := ⟨RX4, "borderLength", "()I"⟩
abbrev cX4_losesAfter : ByteArray := prog_6_method_20_code
def yX4_losesAfter : MethodName := ⟨RX4, "losesAfter", "(I)I"⟩
abbrev cX4_fewestOthers : ByteArray := prog_6_method_21_code
def yX4_fewestOthers : MethodName := ⟨RX4, "fewestOthers", "(II)I"⟩
abbrev cX4_floodedOver : ByteArray := prog_6_method_22_code
def yX4_floodedOver : MethodName := ⟨RX4, "floodedOver", "(II)I"⟩
abbrev cX4_bestCloth : ByteArray := prog_6_method_23_code
def yX4_bestCloth : MethodName := ⟨RX4, "bestCloth", "(I)I"⟩
abbrev cX4_cellsBeside : ByteArray := prog_6_method_24_code
def yX4_cellsBeside : MethodName := ⟨RX4, "cellsBeside", "(I)I"⟩
abbrev cX4_rightOf : ByteArray := prog_6_method_25_code
def yX4_rightOf : MethodName := ⟨RX4, "rightOf", "(I)I"⟩
abbrev cX4_leftOf : ByteArray := prog_6_method_26_code
def yX4_leftOf : MethodName := ⟨RX4, "leftOf", "(I)I"⟩
abbrev cX4_besideAny : ByteArray := prog_6_method_27_code
def yX4_besideAny : MethodName := ⟨RX4, "besideAny", "(I)I"⟩
abbrev cX4_twosIn : ByteArray := prog_6_method_28_code
def yX4_twosIn : MethodName := ⟨RX4, "twosIn", "(I)I"⟩
def RX5 : String := "WindFrontiers$Text"
def TX5 : u_T := fun k => match k with
  | 0 => ("WindFrontiers$Text", "bytes", "[I", true)
  | _ => ("WindFrontiers$Text", "length", "I", false)
def tyX5 : Nat → FieldType := fun k => match k with
  | 0 => .array .int
  | _ => .int
abbrev wsX50 : List Cond := u_ws RX5 TX5 2
theorem nmX5 : ∀ a, a < 2 → ∀ b, b < 2 → a ≠ b → (TX5 a).2.1 ≠ (TX5 b).2.1 := by decide +kernel
theorem tyX5_ok : ∀ k, k < 2 → parseFieldDescriptor (TX5 k).2.2.1 = some (tyX5 k) := by decide +kernel
abbrev cX5_init : ByteArray := prog_7_method_1_code
def yX5_init : MethodName := ⟨RX5, "<init>", "()V"⟩
abbrev cX5_append : ByteArray := prog_7_method_2_code
def yX5_append : MethodName := ⟨RX5, "append", "(I)Z"⟩
abbrev cX5_byteAt : ByteArray := prog_7_method_3_code
def yX5_byteAt : MethodName := ⟨RX5, "byteAt", "(I)I"⟩
def RX6 : String := "WindFrontiers"
def TX6 : u_T := fun k => match k with
  | 0 => ("WindFrontiers", "reader", "LWindFrontiers$Reader;", true)
  | 1 => ("WindFrontiers", "text", "LWindFrontiers$Text;", true)
  | 2 => ("WindFrontiers", "story", "LWindFrontiers$Story;", true)
  | 3 => ("WindFrontiers", "shore", "LWindFrontiers$Strand;", true)
  | 4 => ("WindFrontiers", "firstImage", "LWindFrontiers$Story;", true)
  | 5 => ("WindFrontiers", "secondImage", "LWindFrontiers$Story;", true)
  | 6 => ("WindFrontiers", "seen", "LWindFrontiers$Seen;", true)
  | _ => ("WindFrontiers", "marks", "LWindFrontiers$Marks;", true)
def tyX6 : Nat → FieldType := fun k => match k with
  | 0 => .object "WindFrontiers$Reader"
  | 1 => .object "WindFrontiers$Text"
  | 2 => .object "WindFrontiers$Story"
  | 3 => .object "WindFrontiers$Strand"
  | 4 => .object "WindFrontiers$Story"
  | 5 => .object "WindFrontiers$Story"
  | 6 => .object "WindFrontiers$Seen"
  | _ => .object "WindFrontiers$Marks"
abbrev wsX60 : List Cond := u_ws RX6 TX6 8
theorem nmX6 : ∀ a, a < 8 → ∀ b, b < 8 → a ≠ b → (TX6 a).2.1 ≠ (TX6 b).2.1 := by decide +kernel
theorem tyX6_ok : ∀ k, k < 8 → parseFieldDescriptor (TX6 k).2.2.1 = some (tyX6 k) := by decide +kernel
abbrev cX6_init : ByteArray := prog_1_method_1_code
def yX6_init : MethodName := ⟨RX6, "<init>", "()V"⟩
abbrev cX6_type : ByteArray := prog_1_method_2_code
def yX6_type : MethodName := ⟨RX6, "type", "(I)I"⟩
abbrev cX6_clear : ByteArray := prog_1_method_3_code
def yX6_clear : MethodName := ⟨RX6, "clear", "()I"⟩
abbrev cX6_strand : ByteArray := prog_1_method_4_code
def yX6_strand : MethodName := ⟨RX6, "strand", "()I"⟩
abbrev cX6_cell : ByteArray := prog_1_method_5_code
def yX6_cell : MethodName := ⟨RX6, "cell", "(III)I"⟩
abbrev cX6_family : ByteArray := prog_1_method_6_code
def yX6_family : MethodName := ⟨RX6, "family", "(II)I"⟩
abbrev cX6_takes : ByteArray := prog_1_method_7_code
def yX6_takes : MethodName := ⟨RX6, "takes", "(III)I"⟩
abbrev cX6_leaves : ByteArray := prog_1_method_8_code
def yX6_leaves : MethodName := ⟨RX6, "leaves", "(II)I"⟩
abbrev cX6_puts : ByteArray := prog_1_method_9_code
def yX6_puts : MethodName := ⟨RX6, "puts", "(III)I"⟩
abbrev cX6_veers : ByteArray := prog_1_method_10_code
def yX6_veers : MethodName := ⟨RX6, "veers", "()I"⟩
abbrev cX6_tide : ByteArray := prog_1_method_11_code
def yX6_tide : MethodName := ⟨RX6, "tide", "(I)I"⟩
abbrev cX6_undo : ByteArray := prog_1_method_12_code
def yX6_undo : MethodName := ⟨RX6, "undo", "()I"⟩
abbrev cX6_now : ByteArray := prog_1_method_13_code
def yX6_now : MethodName := ⟨RX6, "now", "(I)I"⟩
abbrev cX6_water : ByteArray := prog_1_method_14_code
def yX6_water : MethodName := ⟨RX6, "water", "(III)I"⟩
abbrev cX6_help : ByteArray := prog_1_method_15_code
def yX6_help : MethodName := ⟨RX6, "help", "(II)I"⟩
abbrev cX6_odds : ByteArray := prog_1_method_16_code
def yX6_odds : MethodName := ⟨RX6, "odds", "(IIIII)I"⟩
abbrev cX6_saw : ByteArray := prog_1_method_17_code
def yX6_saw : MethodName := ⟨RX6, "saw", "(IIII)I"⟩
abbrev cX6_forget : ByteArray := prog_1_method_18_code
def yX6_forget : MethodName := ⟨RX6, "forget", "()I"⟩
abbrev cX6_moved : ByteArray := prog_1_method_19_code
def yX6_moved : MethodName := ⟨RX6, "moved", "(I)I"⟩
abbrev cX6_mark : ByteArray := prog_1_method_20_code
def yX6_mark : MethodName := ⟨RX6, "mark", "(III)I"⟩
abbrev cX6_keep : ByteArray := prog_1_method_21_code
def yX6_keep : MethodName := ⟨RX6, "keep", "(I)I"⟩
abbrev cX6_back : ByteArray := prog_1_method_22_code
def yX6_back : MethodName := ⟨RX6, "back", "(I)I"⟩
abbrev cX6_count : ByteArray := prog_1_method_23_code
def yX6_count : MethodName := ⟨RX6, "count", "(I)I"⟩
abbrev cX6_trace : ByteArray := prog_1_method_24_code
def yX6_trace : MethodName := ⟨RX6, "trace", "()J"⟩
abbrev cX6_mayHaveMoved : ByteArray := prog_1_method_25_code
def yX6_mayHaveMoved : MethodName := ⟨RX6, "mayHaveMoved", "(II)Z"⟩
abbrev cX6_imageOf : ByteArray := prog_1_method_26_code
def yX6_imageOf : MethodName := ⟨RX6, "imageOf", "(I)LWindFrontiers$Story;"⟩
abbrev cX6_isWithin : ByteArray := prog_1_method_27_code
def yX6_isWithin : MethodName := ⟨RX6, "isWithin", "(II)Z"⟩
abbrev cX6_isFamily : ByteArray := prog_1_method_28_code
def yX6_isFamily : MethodName := ⟨RX6, "isFamily", "(I)Z"⟩
abbrev cX6_oneIf : ByteArray := prog_1_method_29_code
def yX6_oneIf : MethodName := ⟨RX6, "oneIf", "(Z)I"⟩
abbrev cX6_bitOf : ByteArray := prog_1_method_30_code
def yX6_bitOf : MethodName := ⟨RX6, "bitOf", "(II)I"⟩
abbrev cX6_inLeastTerms : ByteArray := prog_1_method_31_code
def yX6_inLeastTerms : MethodName := ⟨RX6, "inLeastTerms", "(III)I"⟩
def RX7 : String := "WindFrontiersModel"
def TX7 : u_T := fun k => match k with
  | 0 => ("WindFrontiersModel", "wide", "I", false)
  | 1 => ("WindFrontiersModel", "rows", "I", false)
  | 2 => ("WindFrontiersModel", "st", "[I", true)
  | 3 => ("WindFrontiersModel", "images", "[I", true)
  | 4 => ("WindFrontiersModel", "isKept", "[Z", true)
  | 5 => ("WindFrontiersModel", "seenMany", "I", false)
  | 6 => ("WindFrontiersModel", "seen", "[I", true)
  | 7 => ("WindFrontiersModel", "trace", "J", false)
  | 8 => ("WindFrontiersModel", "text", "[I", true)
  | 9 => ("WindFrontiersModel", "texted", "I", false)
  | 10 => ("WindFrontiersModel", "cursor", "I", false)
  | 11 => ("WindFrontiersModel", "start", "I", false)
  | 12 => ("WindFrontiersModel", "token", "I", false)
  | 13 => ("WindFrontiersModel", "number", "I", false)
  | 14 => ("WindFrontiersModel", "isWrong", "Z", false)
  | 15 => ("WindFrontiersModel", "items", "I", false)
  | 16 => ("WindFrontiersModel", "saidWide", "I", false)
  | 17 => ("WindFrontiersModel", "saidRows", "I", false)
  | 18 => ("WindFrontiersModel", "saidHolder", "[I", true)
  | 19 => ("WindFrontiersModel", "saidCloth", "I", false)
  | 20 => ("WindFrontiersModel", "saidWind", "I", false)
  | _ => ("WindFrontiersModel", "far", "[I", true)
def tyX7 : Nat → FieldType := fun k => match k with
  | 0 => .int
  | 1 => .int
  | 2 => .array .int
  | 3 => .array .int
  | 4 => .array .boolean
  | 5 => .int
  | 6 => .array .int
  | 7 => .long
  | 8 => .array .int
  | 9 => .int
  | 10 => .int
  | 11 => .int
  | 12 => .int
  | 13 => .int
  | 14 => .boolean
  | 15 => .int
  | 16 => .int
  | 17 => .int
  | 18 => .array .int
  | 19 => .int
  | 20 => .int
  | _ => .array .int
abbrev wsX70 : List Cond := u_ws RX7 TX7 22
theorem nmX7 : ∀ a, a < 22 → ∀ b, b < 22 → a ≠ b → (TX7 a).2.1 ≠ (TX7 b).2.1 := by decide +kernel
theorem tyX7_ok : ∀ k, k < 22 → parseFieldDescriptor (TX7 k).2.2.1 = some (tyX7 k) := by decide +kernel
abbrev cX7_init : ByteArray := prog_9_method_1_code
def yX7_init : MethodName := ⟨RX7, "<init>", "()V"⟩
abbrev cX7_in : ByteArray := prog_9_method_3_code
def yX7_in : MethodName := ⟨RX7, "in", "(III)Z"⟩
abbrev cX7_has : ByteArray := prog_9_method_4_code
def yX7_has : MethodName := ⟨RX7, "has", "(II)Z"⟩
abbrev cX7_bits : ByteArray := prog_9_method_5_code
def yX7_bits : MethodName := ⟨RX7, "bits", "(I)I"⟩
abbrev cX7_isCell : ByteArray := prog_9_method_6_code
def yX7_isCell : MethodName := ⟨RX7, "isCell", "(II)Z"⟩
abbrev cX7_isFamily : ByteArray := prog_9_method_7_code
def yX7_isFamily : MethodName := ⟨RX7, "isFamily", "(I)Z"⟩
abbrev cX7_type : ByteArray := prog_9_method_8_code
def yX7_type : MethodName := ⟨RX7, "type", "(I)I"⟩
abbrev cX7_clear : ByteArray := prog_9_method_9_code
def yX7_clear : MethodName := ⟨RX7, "clear", "()I"⟩
abbrev cX7_letterAt : ByteArray := prog_9_method_10_code
def yX7_letterAt : MethodName := ⟨RX7, "letterAt", "(I)I"⟩
abbrev cX7_isFigure : ByteArray := prog_9_method_11_code
def yX7_isFigure : MethodName := ⟨RX7, "isFigure", "(I)Z"⟩
abbrev cX7_isLetter : ByteArray := prog_9_method_12_code
def yX7_isLetter : MethodName := ⟨RX7, "isLetter", "(I)Z"⟩
abbrev cX7_next : ByteArray := prog_9_method_13_code
def yX7_next : MethodName := ⟨RX7, "next", "()V"⟩
abbrev cX7_takesNumber : ByteArray := prog_9_method_14_code
def yX7_takesNumber : MethodName := ⟨RX7, "takesNumber", "(II)I"⟩
abbrev cX7_takesCell : ByteArray := prog_9_method_15_code
def yX7_takesCell : MethodName := ⟨RX7, "takesCell", "(Z)I"⟩
abbrev cX7_readItem : ByteArray := prog_9_method_16_code
def yX7_readItem : MethodName := ⟨RX7, "readItem", "()V"⟩
abbrev cX7_strand : ByteArray := prog_9_method_17_code
def yX7_strand : MethodName := ⟨RX7, "strand", "()I"⟩
abbrev cX7_settles : ByteArray := prog_9_method_18_code
def yX7_settles : MethodName := ⟨RX7, "settles", "()V"⟩
abbrev cX7_isDry : ByteArray := prog_9_method_19_code
def yX7_isDry : MethodName := ⟨RX7, "isDry", "(I)Z"⟩
abbrev cX7_isCloth : ByteArray := prog_9_method_20_code
def yX7_isCloth : MethodName := ⟨RX7, "isCloth", "(III)Z"⟩
abbrev cX7_isStill : ByteArray := prog_9_method_21_code
def yX7_isStill : MethodName := ⟨RX7, "isStill", "(IIII)Z"⟩
abbrev cX7_stillOnes : ByteArray := prog_9_method_22_code
def yX7_stillOnes : MethodName := ⟨RX7, "stillOnes", "(II)I"⟩
abbrev cX7_heldBy : ByteArray := prog_9_method_23_code
def yX7_heldBy : MethodName := ⟨RX7, "heldBy", "(I)I"⟩
abbrev cX7_losesOf : ByteArray := prog_9_method_24_code
def yX7_losesOf : MethodName := ⟨RX7, "losesOf", "(I)I"⟩
abbrev cX7_cell : ByteArray := prog_9_method_25_code
def yX7_cell : MethodName := ⟨RX7, "cell", "(III)I"⟩
abbrev cX7_family : ByteArray := prog_9_method_26_code
def yX7_family : MethodName := ⟨RX7, "family", "(II)I"⟩
abbrev cX7_remembers : ByteArray := prog_9_method_27_code
def yX7_remembers : MethodName := ⟨RX7, "remembers", "()V"⟩
abbrev cX7_takes : ByteArray := prog_9_method_28_code
def yX7_takes : MethodName := ⟨RX7, "takes", "(III)I"⟩
abbrev cX7_leaves : ByteArray := prog_9_method_29_code
def yX7_leaves : MethodName := ⟨RX7, "leaves", "(II)I"⟩
abbrev cX7_puts : ByteArray := prog_9_method_30_code
def yX7_puts : MethodName := ⟨RX7, "puts", "(III)I"⟩
abbrev cX7_veers : ByteArray := prog_9_method_31_code
def yX7_veers : MethodName := ⟨RX7, "veers", "()I"⟩
abbrev cX7_tide : ByteArray := prog_9_method_32_code
def yX7_tide : MethodName := ⟨RX7, "tide", "(I)I"⟩
abbrev cX7_undo : ByteArray := prog_9_method_33_code
def yX7_undo : MethodName := ⟨RX7, "undo", "()I"⟩
abbrev cX7_isBorder : ByteArray := prog_9_method_34_code
def yX7_isBorder : MethodName := ⟨RX7, "isBorder", "(IIII)Z"⟩
abbrev cX7_border : ByteArray := prog_9_method_35_code
def yX7_border : MethodName := ⟨RX7, "border", "()I"⟩
abbrev cX7_now : ByteArray := prog_9_method_36_code
def yX7_now : MethodName := ⟨RX7, "now", "(I)I"⟩
abbrev cX7_costOf : ByteArray := prog_9_method_37_code
def yX7_costOf : MethodName := ⟨RX7, "costOf", "(II)I"⟩
abbrev cX7_leastBeside : ByteArray := prog_9_method_38_code
def yX7_leastBeside : MethodName := ⟨RX7, "leastBeside", "(II)I"⟩
abbrev cX7_findFar : ByteArray := prog_9_method_39_code
def yX7_findFar : MethodName := ⟨RX7, "findFar", "(I)V"⟩
abbrev cX7_water : ByteArray := prog_9_method_40_code
def yX7_water : MethodName := ⟨RX7, "water", "(III)I"⟩
abbrev cX7_help : ByteArray := prog_9_method_41_code
def yX7_help : MethodName := ⟨RX7, "help", "(II)I"⟩
abbrev cX7_odds : ByteArray := prog_9_method_42_code
def yX7_odds : MethodName := ⟨RX7, "odds", "(IIIII)I"⟩
abbrev cX7_saw : ByteArray := prog_9_method_43_code
def yX7_saw : MethodName := ⟨RX7, "saw", "(IIII)I"⟩
abbrev cX7_forget : ByteArray := prog_9_method_44_code
def yX7_forget : MethodName := ⟨RX7, "forget", "()I"⟩
abbrev cX7_isSo : ByteArray := prog_9_method_45_code
def yX7_isSo : MethodName := ⟨RX7, "isSo", "(I)Z"⟩
abbrev cX7_moved : ByteArray := prog_9_method_46_code
def yX7_moved : MethodName := ⟨RX7, "moved", "(I)I"⟩
abbrev cX7_mark : ByteArray := prog_9_method_47_code
def yX7_mark : MethodName := ⟨RX7, "mark", "(III)I"⟩
abbrev cX7_keep : ByteArray := prog_9_method_48_code
def yX7_keep : MethodName := ⟨RX7, "keep", "(I)I"⟩
abbrev cX7_back : ByteArray := prog_9_method_49_code
def yX7_back : MethodName := ⟨RX7, "back", "(I)I"⟩
abbrev cX7_count : ByteArray := prog_9_method_50_code
def yX7_count : MethodName := ⟨RX7, "count", "(I)I"⟩
abbrev cX7_trace : ByteArray := prog_9_method_51_code
def yX7_trace : MethodName := ⟨RX7, "trace", "()J"⟩
def RJ6 : String := "java/lang/Integer"
def TJ6 : u_T := fun k => match k with
  | _ => ("", "", "", false)
def tyJ6 : Nat → FieldType := fun k => match k with
  | _ => .int
abbrev wsJ60 : List Cond := u_ws RJ6 TJ6 0
theorem nmJ6 : ∀ a, a < 0 → ∀ b, b < 0 → a ≠ b → (TJ6 a).2.1 ≠ (TJ6 b).2.1 := by decide +kernel
theorem tyJ6_ok : ∀ k, k < 0 → parseFieldDescriptor (TJ6 k).2.2.1 = some (tyJ6 k) := by decide +kernel
abbrev cJ6_bitCount_0f7a4 : ByteArray := prog_10_method_49_code
def yJ6_bitCount_0f7a4 : MethodName := ⟨RJ6, "bitCount", "(I)I"⟩
def RL : String := "WindFrontiersLaw"
abbrev cL_law : ByteArray := code
def yL_law : MethodName := ⟨RL, "law", "([I)Z"⟩
abbrev vwCl : List vw_C := [(RX0, TX0, 1), (RX1, TX1, 8), (RX2, TX2, 5), (RX3, TX3, 4), (RX4, TX4, 6), (RX5, TX5, 2), (RX6, TX6, 8), (RX7, TX7, 22)]
/-! the words of all methods: the good ones of the tables' -/
def AL : List Cond := lw_tbl.filter goodWord
theorem AL_of {w : Cond} (h : w ∈ lw_tbl) (g : goodWord w = true) : w ∈ AL := List.mem_filter.mpr ⟨h, g⟩
theorem AL_in {w : Cond} (h : w ∈ AL) : w ∈ lw_tbl := (List.mem_filter.mp h).1
theorem AL_good : GoodIn AL AL := fun w h => ⟨h, good_of_word (List.mem_filter.mp h).2⟩
theorem tb_0 {w : Cond} (h : w ∈ k2_sels lw_privs) (g : goodWord w = true) : w ∈ AL := AL_of (List.mem_append_left _ h) g
theorem tb_1 {w : Cond} (h : w ∈ tables_1_1) (g : goodWord w = true) : w ∈ AL := AL_of (List.mem_append_right _ (List.mem_append_left _ h)) g
theorem tb_2 {w : Cond} (h : w ∈ tables_1_2) (g : goodWord w = true) : w ∈ AL := AL_of (List.mem_append_right _ (List.mem_append_right _ (List.mem_append_left _ h))) g
theorem tb_3 {w : Cond} (h : w ∈ tables_1_3) (g : goodWord w = true) : w ∈ AL := AL_of (List.mem_append_right _ (List.mem_append_right _ (List.mem_append_right _ (List.mem_append_left _ h)))) g
theorem tb_4 {w : Cond} (h : w ∈ tables_1_4) (g : goodWord w = true) : w ∈ AL := AL_of (List.mem_append_right _ (List.mem_append_right _ (List.mem_append_right _ (List.mem_append_right _ h)))) g
theorem ws_0 : Cond.selects RX1 yX1_readToken yX1_readToken ∈ AL := tb_0 (List.mem_map.mpr ⟨(yX1_readToken, _), List.mem_of_getElem? (i := 0) rfl, rfl⟩) rfl
theorem ws_1 : Cond.selects RX1 yX1_isItem yX1_isItem ∈ AL := tb_0 (List.mem_map.mpr ⟨(yX1_isItem, _), List.mem_of_getElem? (i := 1) rfl, rfl⟩) rfl
theorem ws_2 : Cond.selects RX1 yX1_isSize yX1_isSize ∈ AL := tb_0 (List.mem_map.mpr ⟨(yX1_isSize, _), List.mem_of_getElem? (i := 2) rfl, rfl⟩) rfl
theorem ws_3 : Cond.selects RX1 yX1_isNumber yX1_isNumber ∈ AL := tb_0 (List.mem_map.mpr ⟨(yX1_isNumber, _), List.mem_of_getElem? (i := 3) rfl, rfl⟩) rfl
theorem ws_4 : Cond.selects RX1 yX1_isStop yX1_isStop ∈ AL := tb_0 (List.mem_map.mpr ⟨(yX1_isStop, _), List.mem_of_getElem? (i := 4) rfl, rfl⟩) rfl
theorem ws_5 : Cond.selects RX1 yX1_isHolder yX1_isHolder ∈ AL := tb_0 (List.mem_map.mpr ⟨(yX1_isHolder, _), List.mem_of_getElem? (i := 5) rfl, rfl⟩) rfl
theorem ws_6 : Cond.selects RX1 yX1_readFreeBit yX1_readFreeBit ∈ AL := tb_0 (List.mem_map.mpr ⟨(yX1_readFreeBit, _), List.mem_of_getElem? (i := 6) rfl, rfl⟩) rfl
theorem ws_7 : Cond.selects RX1 yX1_isCloth yX1_isCloth ∈ AL := tb_0 (List.mem_map.mpr ⟨(yX1_isCloth, _), List.mem_of_getElem? (i := 7) rfl, rfl⟩) rfl
theorem ws_8 : Cond.selects RX1 yX1_isWind yX1_isWind ∈ AL := tb_0 (List.mem_map.mpr ⟨(yX1_isWind, _), List.mem_of_getElem? (i := 8) rfl, rfl⟩) rfl
theorem ws_9 : Cond.selects RX4 yX4_cellsFrom yX4_cellsFrom ∈ AL := tb_0 (List.mem_map.mpr ⟨(yX4_cellsFrom, _), List.mem_of_getElem? (i := 9) rfl, rfl⟩) rfl
theorem ws_10 : Cond.selects RX4 yX4_rowOf yX4_rowOf ∈ AL := tb_0 (List.mem_map.mpr ⟨(yX4_rowOf, _), List.mem_of_getElem? (i := 10) rfl, rfl⟩) rfl
theorem ws_11 : Cond.selects RX3 yX3_dropOldest yX3_dropOldest ∈ AL := tb_0 (List.mem_map.mpr ⟨(yX3_dropOldest, _), List.mem_of_getElem? (i := 11) rfl, rfl⟩) rfl
theorem ws_12 : Cond.selects RX3 yX3_beforeAt yX3_beforeAt ∈ AL := tb_0 (List.mem_map.mpr ⟨(yX3_beforeAt, _), List.mem_of_getElem? (i := 12) rfl, rfl⟩) rfl
theorem ws_13 : Cond.selects RX6 yX6_mayHaveMoved yX6_mayHaveMoved ∈ AL := tb_0 (List.mem_map.mpr ⟨(yX6_mayHaveMoved, _), List.mem_of_getElem? (i := 13) rfl, rfl⟩) rfl
theorem ws_14 : Cond.selects RX0 yX0_asCell yX0_asCell ∈ AL := tb_0 (List.mem_map.mpr ⟨(yX0_asCell, _), List.mem_of_getElem? (i := 14) rfl, rfl⟩) rfl
theorem ws_15 : Cond.selects RX0 yX0_asCastle yX0_asCastle ∈ AL := tb_0 (List.mem_map.mpr ⟨(yX0_asCastle, _), List.mem_of_getElem? (i := 15) rfl, rfl⟩) rfl
theorem ws_16 : Cond.selects RX0 yX0_asCorridor yX0_asCorridor ∈ AL := tb_0 (List.mem_map.mpr ⟨(yX0_asCorridor, _), List.mem_of_getElem? (i := 16) rfl, rfl⟩) rfl
theorem ws_17 : Cond.selects RX0 yX0_asEmpire yX0_asEmpire ∈ AL := tb_0 (List.mem_map.mpr ⟨(yX0_asEmpire, _), List.mem_of_getElem? (i := 17) rfl, rfl⟩) rfl
theorem ws_18 : Cond.selects RX0 yX0_asPoland yX0_asPoland ∈ AL := tb_0 (List.mem_map.mpr ⟨(yX0_asPoland, _), List.mem_of_getElem? (i := 18) rfl, rfl⟩) rfl
theorem ws_19 : Cond.selects RX0 yX0_asSalient yX0_asSalient ∈ AL := tb_0 (List.mem_map.mpr ⟨(yX0_asSalient, _), List.mem_of_getElem? (i := 19) rfl, rfl⟩) rfl
theorem ws_20 : Cond.selects RX6 yX6_imageOf yX6_imageOf ∈ AL := tb_0 (List.mem_map.mpr ⟨(yX6_imageOf, _), List.mem_of_getElem? (i := 20) rfl, rfl⟩) rfl
theorem ws_21 : Cond.selects RX7 yX7_next yX7_next ∈ AL := tb_0 (List.mem_map.mpr ⟨(yX7_next, _), List.mem_of_getElem? (i := 21) rfl, rfl⟩) rfl
theorem ws_22 : Cond.selects RX7 yX7_letterAt yX7_letterAt ∈ AL := tb_0 (List.mem_map.mpr ⟨(yX7_letterAt, _), List.mem_of_getElem? (i := 22) rfl, rfl⟩) rfl
theorem ws_23 : Cond.selects RX7 yX7_readItem yX7_readItem ∈ AL := tb_0 (List.mem_map.mpr ⟨(yX7_readItem, _), List.mem_of_getElem? (i := 23) rfl, rfl⟩) rfl
theorem ws_24 : Cond.selects RX7 yX7_takesNumber yX7_takesNumber ∈ AL := tb_0 (List.mem_map.mpr ⟨(yX7_takesNumber, _), List.mem_of_getElem? (i := 24) rfl, rfl⟩) rfl
theorem ws_25 : Cond.selects RX7 yX7_takesCell yX7_takesCell ∈ AL := tb_0 (List.mem_map.mpr ⟨(yX7_takesCell, _), List.mem_of_getElem? (i := 25) rfl, rfl⟩) rfl
theorem ws_26 : Cond.selects RX7 yX7_settles yX7_settles ∈ AL := tb_0 (List.mem_map.mpr ⟨(yX7_settles, _), List.mem_of_getElem? (i := 26) rfl, rfl⟩) rfl
theorem ws_27 : Cond.selects RX7 yX7_isCell yX7_isCell ∈ AL := tb_0 (List.mem_map.mpr ⟨(yX7_isCell, _), List.mem_of_getElem? (i := 27) rfl, rfl⟩) rfl
theorem ws_28 : Cond.selects RX7 yX7_isDry yX7_isDry ∈ AL := tb_0 (List.mem_map.mpr ⟨(yX7_isDry, _), List.mem_of_getElem? (i := 28) rfl, rfl⟩) rfl
theorem ws_29 : Cond.selects RX7 yX7_isStill yX7_isStill ∈ AL := tb_0 (List.mem_map.mpr ⟨(yX7_isStill, _), List.mem_of_getElem? (i := 29) rfl, rfl⟩) rfl
theorem ws_30 : Cond.selects RX7 yX7_isCloth yX7_isCloth ∈ AL := tb_0 (List.mem_map.mpr ⟨(yX7_isCloth, _), List.mem_of_getElem? (i := 30) rfl, rfl⟩) rfl
theorem ws_31 : Cond.selects RX7 yX7_heldBy yX7_heldBy ∈ AL := tb_0 (List.mem_map.mpr ⟨(yX7_heldBy, _), List.mem_of_getElem? (i := 31) rfl, rfl⟩) rfl
theorem ws_32 : Cond.selects RX7 yX7_stillOnes yX7_stillOnes ∈ AL := tb_0 (List.mem_map.mpr ⟨(yX7_stillOnes, _), List.mem_of_getElem? (i := 32) rfl, rfl⟩) rfl
theorem ws_33 : Cond.selects RX7 yX7_losesOf yX7_losesOf ∈ AL := tb_0 (List.mem_map.mpr ⟨(yX7_losesOf, _), List.mem_of_getElem? (i := 33) rfl, rfl⟩) rfl
theorem ws_34 : Cond.selects RX7 yX7_remembers yX7_remembers ∈ AL := tb_0 (List.mem_map.mpr ⟨(yX7_remembers, _), List.mem_of_getElem? (i := 34) rfl, rfl⟩) rfl
theorem ws_35 : Cond.selects RX7 yX7_border yX7_border ∈ AL := tb_0 (List.mem_map.mpr ⟨(yX7_border, _), List.mem_of_getElem? (i := 35) rfl, rfl⟩) rfl
theorem ws_36 : Cond.selects RX7 yX7_isBorder yX7_isBorder ∈ AL := tb_0 (List.mem_map.mpr ⟨(yX7_isBorder, _), List.mem_of_getElem? (i := 36) rfl, rfl⟩) rfl
theorem ws_37 : Cond.selects RX7 yX7_findFar yX7_findFar ∈ AL := tb_0 (List.mem_map.mpr ⟨(yX7_findFar, _), List.mem_of_getElem? (i := 37) rfl, rfl⟩) rfl
theorem ws_38 : Cond.selects RX7 yX7_costOf yX7_costOf ∈ AL := tb_0 (List.mem_map.mpr ⟨(yX7_costOf, _), List.mem_of_getElem? (i := 38) rfl, rfl⟩) rfl
theorem ws_39 : Cond.selects RX7 yX7_leastBeside yX7_leastBeside ∈ AL := tb_0 (List.mem_map.mpr ⟨(yX7_leastBeside, _), List.mem_of_getElem? (i := 39) rfl, rfl⟩) rfl
theorem ws_40 : Cond.selects RX7 yX7_isSo yX7_isSo ∈ AL := tb_0 (List.mem_map.mpr ⟨(yX7_isSo, _), List.mem_of_getElem? (i := 40) rfl, rfl⟩) rfl
theorem wd_1_0 : Cond.initialized RL ∈ AL := tb_1 (List.mem_of_getElem? (i := 0) rfl) rfl
theorem wd_1_1 : Cond.initialized RX6 ∈ AL := tb_1 (List.mem_of_getElem? (i := 1) rfl) rfl
theorem wd_1_2 : Cond.initialized RX1 ∈ AL := tb_1 (List.mem_of_getElem? (i := 2) rfl) rfl
theorem wd_1_3 : Cond.initialized RX5 ∈ AL := tb_1 (List.mem_of_getElem? (i := 3) rfl) rfl
theorem wd_1_4 : Cond.initialized RX4 ∈ AL := tb_1 (List.mem_of_getElem? (i := 4) rfl) rfl
theorem wd_1_5 : Cond.initialized RX3 ∈ AL := tb_1 (List.mem_of_getElem? (i := 5) rfl) rfl
theorem wd_1_6 : Cond.initialized RX2 ∈ AL := tb_1 (List.mem_of_getElem? (i := 6) rfl) rfl
theorem wd_1_7 : Cond.initialized RX0 ∈ AL := tb_1 (List.mem_of_getElem? (i := 7) rfl) rfl
theorem wd_1_8 : Cond.initialized RX7 ∈ AL := tb_1 (List.mem_of_getElem? (i := 8) rfl) rfl
theorem wd_1_9 : Cond.initialized RJ6 ∈ AL := tb_1 (List.mem_of_getElem? (i := 9) rfl) rfl
theorem wd_1_10 : Cond.classLink RL 7 RX6 ∈ AL := tb_1 (List.mem_of_getElem? (i := 10) rfl) rfl
theorem wd_1_11 : Cond.instantiable RX6 8 ∈ AL := tb_1 (List.mem_of_getElem? (i := 11) rfl) rfl
theorem wd_1_12 : Cond.methodLink RL 9 yX6_init ∈ AL := tb_1 (List.mem_of_getElem? (i := 12) rfl) rfl
theorem wd_1_13 : Cond.instanceMethod yX6_init ∈ AL := tb_1 (List.mem_of_getElem? (i := 13) rfl) rfl
theorem wd_1_14 : Cond.code yX6_init cX6_init 1 none ∈ AL := tb_1 (List.mem_of_getElem? (i := 14) rfl) rfl
theorem wd_1_15 : Cond.methodLink RX6 3 objectInit ∈ AL := tb_1 (List.mem_of_getElem? (i := 15) rfl) rfl
theorem wd_1_16 : Cond.instanceMethod objectInit ∈ AL := tb_1 (List.mem_of_getElem? (i := 16) rfl) rfl
theorem wd_1_17 : Cond.code objectInit ⟨#[0xb1]⟩ 1 none ∈ AL := tb_1 (List.mem_of_getElem? (i := 17) rfl) rfl
theorem wd_1_18 : Cond.classLink RX6 9 RX1 ∈ AL := tb_1 (List.mem_of_getElem? (i := 18) rfl) rfl
theorem wd_1_19 : Cond.instantiable RX1 8 ∈ AL := tb_1 (List.mem_of_getElem? (i := 19) rfl) rfl
theorem wn_1_20 : Cond.methodLinkNest RX6 11 yX1_init "WindFrontiers" ∈ lw_tbl := List.mem_append_right _ (List.mem_append_left _ (List.mem_of_getElem? (i := 20) rfl))
theorem wd_1_21 : Cond.instanceMethod yX1_init ∈ AL := tb_1 (List.mem_of_getElem? (i := 21) rfl) rfl
theorem wd_1_22 : Cond.code yX1_init cX1_init 1 none ∈ AL := tb_1 (List.mem_of_getElem? (i := 22) rfl) rfl
theorem wd_1_23 : Cond.methodLink RX1 3 objectInit ∈ AL := tb_1 (List.mem_of_getElem? (i := 23) rfl) rfl
theorem wd_1_24 : Cond.classLink RX1 9 RX5 ∈ AL := tb_1 (List.mem_of_getElem? (i := 24) rfl) rfl
theorem wd_1_25 : Cond.instantiable RX5 2 ∈ AL := tb_1 (List.mem_of_getElem? (i := 25) rfl) rfl
theorem wn_1_26 : Cond.methodLinkNest RX1 11 yX5_init "WindFrontiers" ∈ lw_tbl := List.mem_append_right _ (List.mem_append_left _ (List.mem_of_getElem? (i := 26) rfl))
theorem wd_1_27 : Cond.instanceMethod yX5_init ∈ AL := tb_1 (List.mem_of_getElem? (i := 27) rfl) rfl
theorem wd_1_28 : Cond.code yX5_init cX5_init 1 none ∈ AL := tb_1 (List.mem_of_getElem? (i := 28) rfl) rfl
theorem wd_1_29 : Cond.methodLink RX5 3 objectInit ∈ AL := tb_1 (List.mem_of_getElem? (i := 29) rfl) rfl
theorem wd_1_30 : Cond.fieldLink RX5 9 "WindFrontiers$Text" "bytes" "[I" ∈ AL := tb_1 (List.mem_of_getElem? (i := 30) rfl) rfl
theorem wd_1_31 : Cond.fieldLink RX5 15 "WindFrontiers$Text" "length" "I" ∈ AL := tb_1 (List.mem_of_getElem? (i := 31) rfl) rfl
theorem wd_1_32 : Cond.fieldLink RX6 65 "WindFrontiers$Text" "length" "I" ∈ AL := tb_1 (List.mem_of_getElem? (i := 32) rfl) rfl
theorem wd_1_33 : Cond.laysFinal RX5 "WindFrontiers$Text" "bytes" "[I" ∈ AL := tb_1 (List.mem_of_getElem? (i := 33) rfl) rfl
theorem wd_1_35 : Cond.lays RX5 "WindFrontiers$Text" "length" "I" ∈ AL := tb_1 (List.mem_of_getElem? (i := 35) rfl) rfl
theorem wd_1_38 : Cond.arrayClass FieldType.int ∈ AL := tb_1 (List.mem_of_getElem? (i := 38) rfl) rfl
theorem wd_1_39 : Cond.classLink RX1 18 RX4 ∈ AL := tb_1 (List.mem_of_getElem? (i := 39) rfl) rfl
theorem wd_1_40 : Cond.instantiable RX4 6 ∈ AL := tb_1 (List.mem_of_getElem? (i := 40) rfl) rfl
theorem wn_1_41 : Cond.methodLinkNest RX1 20 yX4_init "WindFrontiers" ∈ lw_tbl := List.mem_append_right _ (List.mem_append_left _ (List.mem_of_getElem? (i := 41) rfl))
theorem wd_1_42 : Cond.instanceMethod yX4_init ∈ AL := tb_1 (List.mem_of_getElem? (i := 42) rfl) rfl
theorem wd_1_43 : Cond.code yX4_init cX4_init 1 none ∈ AL := tb_1 (List.mem_of_getElem? (i := 43) rfl) rfl
theorem wd_1_44 : Cond.methodLink RX4 3 objectInit ∈ AL := tb_1 (List.mem_of_getElem? (i := 44) rfl) rfl
theorem wd_1_45 : Cond.fieldLink RX4 9 "WindFrontiers$Strand" "wide" "I" ∈ AL := tb_1 (List.mem_of_getElem? (i := 45) rfl) rfl
theorem wd_1_46 : Cond.fieldLink RX1 74 "WindFrontiers$Strand" "wide" "I" ∈ AL := tb_1 (List.mem_of_getElem? (i := 46) rfl) rfl
theorem wd_1_47 : Cond.fieldLink RX6 201 "WindFrontiers$Strand" "wide" "I" ∈ AL := tb_1 (List.mem_of_getElem? (i := 47) rfl) rfl
theorem wd_1_48 : Cond.fieldLink RX4 15 "WindFrontiers$Strand" "rows" "I" ∈ AL := tb_1 (List.mem_of_getElem? (i := 48) rfl) rfl
theorem wd_1_49 : Cond.fieldLink RX1 77 "WindFrontiers$Strand" "rows" "I" ∈ AL := tb_1 (List.mem_of_getElem? (i := 49) rfl) rfl
theorem wd_1_50 : Cond.fieldLink RX6 150 "WindFrontiers$Strand" "rows" "I" ∈ AL := tb_1 (List.mem_of_getElem? (i := 50) rfl) rfl
theorem wd_1_51 : Cond.fieldLink RX4 22 "WindFrontiers$Strand" "cloth" "I" ∈ AL := tb_1 (List.mem_of_getElem? (i := 51) rfl) rfl
theorem wd_1_52 : Cond.fieldLink RX6 103 "WindFrontiers$Strand" "cloth" "I" ∈ AL := tb_1 (List.mem_of_getElem? (i := 52) rfl) rfl
theorem wd_1_53 : Cond.fieldLink RX1 92 "WindFrontiers$Strand" "cloth" "I" ∈ AL := tb_1 (List.mem_of_getElem? (i := 53) rfl) rfl
theorem wd_1_54 : Cond.fieldLink RX4 25 "WindFrontiers$Strand" "wind" "I" ∈ AL := tb_1 (List.mem_of_getElem? (i := 54) rfl) rfl
theorem wd_1_55 : Cond.fieldLink RX1 95 "WindFrontiers$Strand" "wind" "I" ∈ AL := tb_1 (List.mem_of_getElem? (i := 55) rfl) rfl
theorem wd_1_56 : Cond.fieldLink RX6 144 "WindFrontiers$Strand" "wind" "I" ∈ AL := tb_1 (List.mem_of_getElem? (i := 56) rfl) rfl
theorem wd_1_57 : Cond.fieldLink RX4 28 "WindFrontiers$Strand" "tide" "I" ∈ AL := tb_1 (List.mem_of_getElem? (i := 57) rfl) rfl
theorem wd_1_58 : Cond.fieldLink RX0 67 "WindFrontiers$Strand" "tide" "I" ∈ AL := tb_1 (List.mem_of_getElem? (i := 58) rfl) rfl
theorem wd_1_59 : Cond.fieldLink RX6 147 "WindFrontiers$Strand" "tide" "I" ∈ AL := tb_1 (List.mem_of_getElem? (i := 59) rfl) rfl
theorem wd_1_60 : Cond.fieldLink RX4 18 "WindFrontiers$Strand" "held" "[I" ∈ AL := tb_1 (List.mem_of_getElem? (i := 60) rfl) rfl
theorem wd_1_61 : Cond.lays RX4 "WindFrontiers$Strand" "wide" "I" ∈ AL := tb_1 (List.mem_of_getElem? (i := 61) rfl) rfl
theorem wd_1_63 : Cond.lays RX4 "WindFrontiers$Strand" "rows" "I" ∈ AL := tb_1 (List.mem_of_getElem? (i := 63) rfl) rfl
theorem wd_1_65 : Cond.lays RX4 "WindFrontiers$Strand" "cloth" "I" ∈ AL := tb_1 (List.mem_of_getElem? (i := 65) rfl) rfl
theorem wd_1_67 : Cond.lays RX4 "WindFrontiers$Strand" "wind" "I" ∈ AL := tb_1 (List.mem_of_getElem? (i := 67) rfl) rfl
theorem wd_1_69 : Cond.lays RX4 "WindFrontiers$Strand" "tide" "I" ∈ AL := tb_1 (List.mem_of_getElem? (i := 69) rfl) rfl
theorem wd_1_71 : Cond.laysFinal RX4 "WindFrontiers$Strand" "held" "[I" ∈ AL := tb_1 (List.mem_of_getElem? (i := 71) rfl) rfl
theorem wd_1_74 : Cond.fieldLink RX1 12 "WindFrontiers$Reader" "text" "LWindFrontiers$Text;" ∈ AL := tb_1 (List.mem_of_getElem? (i := 74) rfl) rfl
theorem wd_1_75 : Cond.fieldLink RX6 16 "WindFrontiers$Reader" "text" "LWindFrontiers$Text;" ∈ AL := tb_1 (List.mem_of_getElem? (i := 75) rfl) rfl
theorem wd_1_76 : Cond.fieldLink RX1 21 "WindFrontiers$Reader" "draft" "LWindFrontiers$Strand;" ∈ AL := tb_1 (List.mem_of_getElem? (i := 76) rfl) rfl
theorem wd_1_77 : Cond.fieldLink RX6 73 "WindFrontiers$Reader" "draft" "LWindFrontiers$Strand;" ∈ AL := tb_1 (List.mem_of_getElem? (i := 77) rfl) rfl
theorem wd_1_78 : Cond.fieldLink RX1 28 "WindFrontiers$Reader" "place" "I" ∈ AL := tb_1 (List.mem_of_getElem? (i := 78) rfl) rfl
theorem wd_1_79 : Cond.fieldLink RX1 49 "WindFrontiers$Reader" "start" "I" ∈ AL := tb_1 (List.mem_of_getElem? (i := 79) rfl) rfl
theorem wd_1_80 : Cond.fieldLink RX1 42 "WindFrontiers$Reader" "token" "I" ∈ AL := tb_1 (List.mem_of_getElem? (i := 80) rfl) rfl
theorem wd_1_81 : Cond.fieldLink RX1 52 "WindFrontiers$Reader" "value" "I" ∈ AL := tb_1 (List.mem_of_getElem? (i := 81) rfl) rfl
theorem wd_1_82 : Cond.fieldLink RX1 32 "WindFrontiers$Reader" "items" "I" ∈ AL := tb_1 (List.mem_of_getElem? (i := 82) rfl) rfl
theorem wd_1_83 : Cond.fieldLink RX1 35 "WindFrontiers$Reader" "windTold" "Z" ∈ AL := tb_1 (List.mem_of_getElem? (i := 83) rfl) rfl
theorem wd_1_84 : Cond.laysFinal RX1 "WindFrontiers$Reader" "text" "LWindFrontiers$Text;" ∈ AL := tb_1 (List.mem_of_getElem? (i := 84) rfl) rfl
theorem wd_1_86 : Cond.laysFinal RX1 "WindFrontiers$Reader" "draft" "LWindFrontiers$Strand;" ∈ AL := tb_1 (List.mem_of_getElem? (i := 86) rfl) rfl
theorem wd_1_88 : Cond.lays RX1 "WindFrontiers$Reader" "place" "I" ∈ AL := tb_1 (List.mem_of_getElem? (i := 88) rfl) rfl
theorem wd_1_90 : Cond.lays RX1 "WindFrontiers$Reader" "start" "I" ∈ AL := tb_1 (List.mem_of_getElem? (i := 90) rfl) rfl
theorem wd_1_92 : Cond.lays RX1 "WindFrontiers$Reader" "token" "I" ∈ AL := tb_1 (List.mem_of_getElem? (i := 92) rfl) rfl
theorem wd_1_94 : Cond.lays RX1 "WindFrontiers$Reader" "value" "I" ∈ AL := tb_1 (List.mem_of_getElem? (i := 94) rfl) rfl
theorem wd_1_96 : Cond.lays RX1 "WindFrontiers$Reader" "items" "I" ∈ AL := tb_1 (List.mem_of_getElem? (i := 96) rfl) rfl
theorem wd_1_98 : Cond.lays RX1 "WindFrontiers$Reader" "windTold" "Z" ∈ AL := tb_1 (List.mem_of_getElem? (i := 98) rfl) rfl
theorem wd_1_101 : Cond.classLink RX6 21 RX3 ∈ AL := tb_1 (List.mem_of_getElem? (i := 101) rfl) rfl
theorem wd_1_102 : Cond.instantiable RX3 4 ∈ AL := tb_1 (List.mem_of_getElem? (i := 102) rfl) rfl
theorem wd_1_103 : Cond.methodLink RX6 23 yX3_init ∈ AL := tb_1 (List.mem_of_getElem? (i := 103) rfl) rfl
theorem wd_1_104 : Cond.instanceMethod yX3_init ∈ AL := tb_1 (List.mem_of_getElem? (i := 104) rfl) rfl
theorem wd_1_105 : Cond.code yX3_init cX3_init 2 none ∈ AL := tb_1 (List.mem_of_getElem? (i := 105) rfl) rfl
theorem wd_1_106 : Cond.methodLink RX3 3 objectInit ∈ AL := tb_1 (List.mem_of_getElem? (i := 106) rfl) rfl
theorem wd_1_107 : Cond.classLink RX3 9 RX4 ∈ AL := tb_1 (List.mem_of_getElem? (i := 107) rfl) rfl
theorem wn_1_108 : Cond.methodLinkNest RX3 11 yX4_init "WindFrontiers" ∈ lw_tbl := List.mem_append_right _ (List.mem_append_left _ (List.mem_of_getElem? (i := 108) rfl))
theorem wn_1_109 : Cond.arrayOver (FieldType.object "WindFrontiers$Strand") ∈ lw_tbl := List.mem_append_right _ (List.mem_append_left _ (List.mem_of_getElem? (i := 109) rfl))
theorem wd_1_110 : Cond.fieldLink RX3 12 "WindFrontiers$Story" "present" "LWindFrontiers$Strand;" ∈ AL := tb_1 (List.mem_of_getElem? (i := 110) rfl) rfl
theorem wd_1_111 : Cond.fieldLink RX6 28 "WindFrontiers$Story" "present" "LWindFrontiers$Strand;" ∈ AL := tb_1 (List.mem_of_getElem? (i := 111) rfl) rfl
theorem wd_1_112 : Cond.fieldLink RX3 18 "WindFrontiers$Story" "before" "[LWindFrontiers$Strand;" ∈ AL := tb_1 (List.mem_of_getElem? (i := 112) rfl) rfl
theorem wd_1_113 : Cond.fieldLink RX3 22 "WindFrontiers$Story" "undoable" "I" ∈ AL := tb_1 (List.mem_of_getElem? (i := 113) rfl) rfl
theorem wd_1_114 : Cond.fieldLink RX6 82 "WindFrontiers$Story" "undoable" "I" ∈ AL := tb_1 (List.mem_of_getElem? (i := 114) rfl) rfl
theorem wd_1_115 : Cond.fieldLink RX6 85 "WindFrontiers$Story" "kept" "Z" ∈ AL := tb_1 (List.mem_of_getElem? (i := 115) rfl) rfl
theorem wd_1_116 : Cond.laysFinal RX3 "WindFrontiers$Story" "present" "LWindFrontiers$Strand;" ∈ AL := tb_1 (List.mem_of_getElem? (i := 116) rfl) rfl
theorem wd_1_118 : Cond.laysFinal RX3 "WindFrontiers$Story" "before" "[LWindFrontiers$Strand;" ∈ AL := tb_1 (List.mem_of_getElem? (i := 118) rfl) rfl
theorem wd_1_120 : Cond.lays RX3 "WindFrontiers$Story" "undoable" "I" ∈ AL := tb_1 (List.mem_of_getElem? (i := 120) rfl) rfl
theorem wd_1_122 : Cond.lays RX3 "WindFrontiers$Story" "kept" "Z" ∈ AL := tb_1 (List.mem_of_getElem? (i := 122) rfl) rfl
theorem wd_1_125 : Cond.classLink RX6 41 RX2 ∈ AL := tb_1 (List.mem_of_getElem? (i := 125) rfl) rfl
theorem wd_1_126 : Cond.instantiable RX2 5 ∈ AL := tb_1 (List.mem_of_getElem? (i := 126) rfl) rfl
theorem wn_1_127 : Cond.methodLinkNest RX6 43 yX2_init "WindFrontiers" ∈ lw_tbl := List.mem_append_right _ (List.mem_append_left _ (List.mem_of_getElem? (i := 127) rfl))
theorem wd_1_128 : Cond.instanceMethod yX2_init ∈ AL := tb_1 (List.mem_of_getElem? (i := 128) rfl) rfl
theorem wd_1_129 : Cond.code yX2_init cX2_init 1 none ∈ AL := tb_1 (List.mem_of_getElem? (i := 129) rfl) rfl
theorem wd_1_130 : Cond.methodLink RX2 3 objectInit ∈ AL := tb_1 (List.mem_of_getElem? (i := 130) rfl) rfl
theorem wd_1_131 : Cond.fieldLink RX2 9 "WindFrontiers$Seen" "much" "I" ∈ AL := tb_1 (List.mem_of_getElem? (i := 131) rfl) rfl
theorem wd_1_132 : Cond.fieldLink RX6 183 "WindFrontiers$Seen" "much" "I" ∈ AL := tb_1 (List.mem_of_getElem? (i := 132) rfl) rfl
theorem wd_1_133 : Cond.fieldLink RX2 15 "WindFrontiers$Seen" "stillByLeft" "I" ∈ AL := tb_1 (List.mem_of_getElem? (i := 133) rfl) rfl
theorem wd_1_134 : Cond.fieldLink RX2 18 "WindFrontiers$Seen" "stillByRight" "I" ∈ AL := tb_1 (List.mem_of_getElem? (i := 134) rfl) rfl
theorem wd_1_135 : Cond.fieldLink RX2 21 "WindFrontiers$Seen" "openByLeft" "I" ∈ AL := tb_1 (List.mem_of_getElem? (i := 135) rfl) rfl
theorem wd_1_136 : Cond.fieldLink RX2 24 "WindFrontiers$Seen" "openByRight" "I" ∈ AL := tb_1 (List.mem_of_getElem? (i := 136) rfl) rfl
theorem wd_1_137 : Cond.lays RX2 "WindFrontiers$Seen" "much" "I" ∈ AL := tb_1 (List.mem_of_getElem? (i := 137) rfl) rfl
theorem wd_1_139 : Cond.lays RX2 "WindFrontiers$Seen" "stillByLeft" "I" ∈ AL := tb_1 (List.mem_of_getElem? (i := 139) rfl) rfl
theorem wd_1_141 : Cond.lays RX2 "WindFrontiers$Seen" "stillByRight" "I" ∈ AL := tb_1 (List.mem_of_getElem? (i := 141) rfl) rfl
theorem wd_1_143 : Cond.lays RX2 "WindFrontiers$Seen" "openByLeft" "I" ∈ AL := tb_1 (List.mem_of_getElem? (i := 143) rfl) rfl
theorem wd_1_145 : Cond.lays RX2 "WindFrontiers$Seen" "openByRight" "I" ∈ AL := tb_1 (List.mem_of_getElem? (i := 145) rfl) rfl
theorem wd_1_148 : Cond.classLink RX6 48 RX0 ∈ AL := tb_1 (List.mem_of_getElem? (i := 148) rfl) rfl
theorem wd_1_149 : Cond.instantiable RX0 1 ∈ AL := tb_1 (List.mem_of_getElem? (i := 149) rfl) rfl
theorem wn_1_150 : Cond.methodLinkNest RX6 50 yX0_init "WindFrontiers" ∈ lw_tbl := List.mem_append_right _ (List.mem_append_left _ (List.mem_of_getElem? (i := 150) rfl))
theorem wd_1_151 : Cond.instanceMethod yX0_init ∈ AL := tb_1 (List.mem_of_getElem? (i := 151) rfl) rfl
theorem wd_1_152 : Cond.code yX0_init cX0_init 1 none ∈ AL := tb_1 (List.mem_of_getElem? (i := 152) rfl) rfl
theorem wd_1_153 : Cond.methodLink RX0 3 objectInit ∈ AL := tb_1 (List.mem_of_getElem? (i := 153) rfl) rfl
theorem wd_1_154 : Cond.fieldLink RX0 34 "WindFrontiers$Marks" "sum" "J" ∈ AL := tb_1 (List.mem_of_getElem? (i := 154) rfl) rfl
theorem wd_1_155 : Cond.fieldLink RX6 204 "WindFrontiers$Marks" "sum" "J" ∈ AL := tb_1 (List.mem_of_getElem? (i := 155) rfl) rfl
theorem wd_1_156 : Cond.lays RX0 "WindFrontiers$Marks" "sum" "J" ∈ AL := tb_1 (List.mem_of_getElem? (i := 156) rfl) rfl
theorem wd_1_159 : Cond.fieldLink RX6 12 "WindFrontiers" "reader" "LWindFrontiers$Reader;" ∈ AL := tb_1 (List.mem_of_getElem? (i := 159) rfl) rfl
theorem wd_1_160 : Cond.fieldLink RX6 20 "WindFrontiers" "text" "LWindFrontiers$Text;" ∈ AL := tb_1 (List.mem_of_getElem? (i := 160) rfl) rfl
theorem wd_1_161 : Cond.fieldLink RX6 24 "WindFrontiers" "story" "LWindFrontiers$Story;" ∈ AL := tb_1 (List.mem_of_getElem? (i := 161) rfl) rfl
theorem wd_1_162 : Cond.fieldLink RX6 32 "WindFrontiers" "shore" "LWindFrontiers$Strand;" ∈ AL := tb_1 (List.mem_of_getElem? (i := 162) rfl) rfl
theorem wd_1_163 : Cond.fieldLink RX6 35 "WindFrontiers" "firstImage" "LWindFrontiers$Story;" ∈ AL := tb_1 (List.mem_of_getElem? (i := 163) rfl) rfl
theorem wd_1_164 : Cond.fieldLink RX6 38 "WindFrontiers" "secondImage" "LWindFrontiers$Story;" ∈ AL := tb_1 (List.mem_of_getElem? (i := 164) rfl) rfl
theorem wd_1_165 : Cond.fieldLink RX6 44 "WindFrontiers" "seen" "LWindFrontiers$Seen;" ∈ AL := tb_1 (List.mem_of_getElem? (i := 165) rfl) rfl
theorem wd_1_166 : Cond.fieldLink RX6 51 "WindFrontiers" "marks" "LWindFrontiers$Marks;" ∈ AL := tb_1 (List.mem_of_getElem? (i := 166) rfl) rfl
theorem wd_1_167 : Cond.laysFinal RX6 "WindFrontiers" "reader" "LWindFrontiers$Reader;" ∈ AL := tb_1 (List.mem_of_getElem? (i := 167) rfl) rfl
theorem wd_1_169 : Cond.laysFinal RX6 "WindFrontiers" "text" "LWindFrontiers$Text;" ∈ AL := tb_1 (List.mem_of_getElem? (i := 169) rfl) rfl
theorem wd_1_171 : Cond.laysFinal RX6 "WindFrontiers" "story" "LWindFrontiers$Story;" ∈ AL := tb_1 (List.mem_of_getElem? (i := 171) rfl) rfl
theorem wd_1_173 : Cond.laysFinal RX6 "WindFrontiers" "shore" "LWindFrontiers$Strand;" ∈ AL := tb_1 (List.mem_of_getElem? (i := 173) rfl) rfl
theorem wd_1_175 : Cond.laysFinal RX6 "WindFrontiers" "firstImage" "LWindFrontiers$Story;" ∈ AL := tb_1 (List.mem_of_getElem? (i := 175) rfl) rfl
theorem wd_1_177 : Cond.laysFinal RX6 "WindFrontiers" "secondImage" "LWindFrontiers$Story;" ∈ AL := tb_1 (List.mem_of_getElem? (i := 177) rfl) rfl
theorem wd_1_179 : Cond.laysFinal RX6 "WindFrontiers" "seen" "LWindFrontiers$Seen;" ∈ AL := tb_1 (List.mem_of_getElem? (i := 179) rfl) rfl
theorem wd_1_181 : Cond.laysFinal RX6 "WindFrontiers" "marks" "LWindFrontiers$Marks;" ∈ AL := tb_1 (List.mem_of_getElem? (i := 181) rfl) rfl
theorem wd_1_184 : Cond.methodLink RL 13 yX6_type ∈ AL := tb_1 (List.mem_of_getElem? (i := 184) rfl) rfl
theorem wd_1_185 : Cond.instanceMethod yX6_type ∈ AL := tb_1 (List.mem_of_getElem? (i := 185) rfl) rfl
theorem wd_1_186 : Cond.selects RX6 yX6_type yX6_type ∈ AL := tb_1 (List.mem_of_getElem? (i := 186) rfl) rfl
theorem wd_1_187 : Cond.code yX6_type cX6_type 2 (some .int) ∈ AL := tb_1 (List.mem_of_getElem? (i := 187) rfl) rfl
theorem wd_1_188 : Cond.methodLink RX6 55 yX6_isWithin ∈ AL := tb_1 (List.mem_of_getElem? (i := 188) rfl) rfl
theorem wd_1_189 : Cond.static yX6_isWithin ∈ AL := tb_1 (List.mem_of_getElem? (i := 189) rfl) rfl
theorem wd_1_190 : Cond.code yX6_isWithin cX6_isWithin 2 (some .boolean) ∈ AL := tb_1 (List.mem_of_getElem? (i := 190) rfl) rfl
theorem wd_1_191 : Cond.methodLink RX6 59 yX5_append ∈ AL := tb_1 (List.mem_of_getElem? (i := 191) rfl) rfl
theorem wd_1_192 : Cond.instanceMethod yX5_append ∈ AL := tb_1 (List.mem_of_getElem? (i := 192) rfl) rfl
theorem wd_1_193 : Cond.selects RX5 yX5_append yX5_append ∈ AL := tb_1 (List.mem_of_getElem? (i := 193) rfl) rfl
theorem wd_1_194 : Cond.code yX5_append cX5_append 2 (some .boolean) ∈ AL := tb_1 (List.mem_of_getElem? (i := 194) rfl) rfl
theorem wd_1_195 : Cond.methodLink RL 18 yX6_clear ∈ AL := tb_1 (List.mem_of_getElem? (i := 195) rfl) rfl
theorem wd_1_196 : Cond.instanceMethod yX6_clear ∈ AL := tb_1 (List.mem_of_getElem? (i := 196) rfl) rfl
theorem wd_1_197 : Cond.selects RX6 yX6_clear yX6_clear ∈ AL := tb_1 (List.mem_of_getElem? (i := 197) rfl) rfl
theorem wd_1_198 : Cond.code yX6_clear cX6_clear 2 (some .int) ∈ AL := tb_1 (List.mem_of_getElem? (i := 198) rfl) rfl
theorem wd_1_199 : Cond.methodLink RL 23 yX6_strand ∈ AL := tb_1 (List.mem_of_getElem? (i := 199) rfl) rfl
theorem wd_1_200 : Cond.instanceMethod yX6_strand ∈ AL := tb_1 (List.mem_of_getElem? (i := 200) rfl) rfl
theorem wd_1_201 : Cond.selects RX6 yX6_strand yX6_strand ∈ AL := tb_1 (List.mem_of_getElem? (i := 201) rfl) rfl
theorem wd_1_202 : Cond.code yX6_strand cX6_strand 2 (some .int) ∈ AL := tb_1 (List.mem_of_getElem? (i := 202) rfl) rfl
theorem wd_1_203 : Cond.methodLink RX6 69 yX1_readAll ∈ AL := tb_1 (List.mem_of_getElem? (i := 203) rfl) rfl
theorem wd_1_204 : Cond.instanceMethod yX1_readAll ∈ AL := tb_1 (List.mem_of_getElem? (i := 204) rfl) rfl
theorem wd_1_205 : Cond.selects RX1 yX1_readAll yX1_readAll ∈ AL := tb_1 (List.mem_of_getElem? (i := 205) rfl) rfl
theorem wd_1_206 : Cond.code yX1_readAll cX1_readAll 2 (some .int) ∈ AL := tb_1 (List.mem_of_getElem? (i := 206) rfl) rfl
theorem wd_1_207 : Cond.methodLink RX1 25 yX4_startAnew ∈ AL := tb_1 (List.mem_of_getElem? (i := 207) rfl) rfl
theorem wd_1_208 : Cond.instanceMethod yX4_startAnew ∈ AL := tb_1 (List.mem_of_getElem? (i := 208) rfl) rfl
theorem wd_1_209 : Cond.selects RX4 yX4_startAnew yX4_startAnew ∈ AL := tb_1 (List.mem_of_getElem? (i := 209) rfl) rfl
theorem wd_1_210 : Cond.code yX4_startAnew cX4_startAnew 1 none ∈ AL := tb_1 (List.mem_of_getElem? (i := 210) rfl) rfl
theorem wd_1_211 : Cond.methodLink RX4 31 yX4_freeAllBut ∈ AL := tb_1 (List.mem_of_getElem? (i := 211) rfl) rfl
theorem wd_1_212 : Cond.instanceMethod yX4_freeAllBut ∈ AL := tb_1 (List.mem_of_getElem? (i := 212) rfl) rfl
theorem wd_1_213 : Cond.selects RX4 yX4_freeAllBut yX4_freeAllBut ∈ AL := tb_1 (List.mem_of_getElem? (i := 213) rfl) rfl
theorem wd_1_214 : Cond.code yX4_freeAllBut cX4_freeAllBut 3 none ∈ AL := tb_1 (List.mem_of_getElem? (i := 214) rfl) rfl
theorem wd_1_215 : Cond.methodLink RX1 39 yX1_readToken ∈ AL := tb_1 (List.mem_of_getElem? (i := 215) rfl) rfl
theorem wd_1_217 : Cond.instanceMethod yX1_readToken ∈ AL := tb_1 (List.mem_of_getElem? (i := 217) rfl) rfl
theorem wd_1_218 : Cond.code yX1_readToken cX1_readToken 4 none ∈ AL := tb_1 (List.mem_of_getElem? (i := 218) rfl) rfl
theorem wd_1_219 : Cond.methodLink RX1 102 yX5_byteAt ∈ AL := tb_1 (List.mem_of_getElem? (i := 219) rfl) rfl
theorem wd_1_220 : Cond.instanceMethod yX5_byteAt ∈ AL := tb_1 (List.mem_of_getElem? (i := 220) rfl) rfl
theorem wd_1_221 : Cond.selects RX5 yX5_byteAt yX5_byteAt ∈ AL := tb_1 (List.mem_of_getElem? (i := 221) rfl) rfl
theorem wd_1_222 : Cond.code yX5_byteAt cX5_byteAt 2 (some .int) ∈ AL := tb_1 (List.mem_of_getElem? (i := 222) rfl) rfl
theorem wd_1_223 : Cond.methodLink RX1 105 yX1_tokenOf ∈ AL := tb_1 (List.mem_of_getElem? (i := 223) rfl) rfl
theorem wd_1_224 : Cond.static yX1_tokenOf ∈ AL := tb_1 (List.mem_of_getElem? (i := 224) rfl) rfl
theorem wd_1_225 : Cond.code yX1_tokenOf cX1_tokenOf 1 (some .int) ∈ AL := tb_1 (List.mem_of_getElem? (i := 225) rfl) rfl
theorem wd_1_226 : Cond.methodLink RX1 45 yX1_isItem ∈ AL := tb_1 (List.mem_of_getElem? (i := 226) rfl) rfl
theorem wd_1_228 : Cond.instanceMethod yX1_isItem ∈ AL := tb_1 (List.mem_of_getElem? (i := 228) rfl) rfl
theorem wd_1_229 : Cond.code yX1_isItem cX1_isItem 1 (some .boolean) ∈ AL := tb_1 (List.mem_of_getElem? (i := 229) rfl) rfl
theorem wd_1_230 : Cond.methodLink RX1 55 yX1_isSize ∈ AL := tb_1 (List.mem_of_getElem? (i := 230) rfl) rfl
theorem wd_1_232 : Cond.instanceMethod yX1_isSize ∈ AL := tb_1 (List.mem_of_getElem? (i := 232) rfl) rfl
theorem wd_1_233 : Cond.code yX1_isSize cX1_isSize 1 (some .boolean) ∈ AL := tb_1 (List.mem_of_getElem? (i := 233) rfl) rfl
theorem wd_1_234 : Cond.methodLink RX1 70 yX1_isNumber ∈ AL := tb_1 (List.mem_of_getElem? (i := 234) rfl) rfl
theorem wd_1_236 : Cond.instanceMethod yX1_isNumber ∈ AL := tb_1 (List.mem_of_getElem? (i := 236) rfl) rfl
theorem wd_1_237 : Cond.code yX1_isNumber cX1_isNumber 3 (some .boolean) ∈ AL := tb_1 (List.mem_of_getElem? (i := 237) rfl) rfl
theorem wd_1_238 : Cond.methodLink RX1 58 yX1_isStop ∈ AL := tb_1 (List.mem_of_getElem? (i := 238) rfl) rfl
theorem wd_2_0 : Cond.instanceMethod yX1_isStop ∈ AL := tb_2 (List.mem_of_getElem? (i := 0) rfl) rfl
theorem wd_2_1 : Cond.code yX1_isStop cX1_isStop 1 (some .boolean) ∈ AL := tb_2 (List.mem_of_getElem? (i := 1) rfl) rfl
theorem wd_2_2 : Cond.methodLink RX1 61 yX1_isHolder ∈ AL := tb_2 (List.mem_of_getElem? (i := 2) rfl) rfl
theorem wd_2_4 : Cond.instanceMethod yX1_isHolder ∈ AL := tb_2 (List.mem_of_getElem? (i := 4) rfl) rfl
theorem wd_2_5 : Cond.code yX1_isHolder cX1_isHolder 3 (some .boolean) ∈ AL := tb_2 (List.mem_of_getElem? (i := 5) rfl) rfl
theorem wd_2_6 : Cond.methodLink RX1 80 yX4_heldByAny ∈ AL := tb_2 (List.mem_of_getElem? (i := 6) rfl) rfl
theorem wd_2_7 : Cond.instanceMethod yX4_heldByAny ∈ AL := tb_2 (List.mem_of_getElem? (i := 7) rfl) rfl
theorem wd_2_8 : Cond.selects RX4 yX4_heldByAny yX4_heldByAny ∈ AL := tb_2 (List.mem_of_getElem? (i := 8) rfl) rfl
theorem wd_2_9 : Cond.code yX4_heldByAny cX4_heldByAny 3 (some .int) ∈ AL := tb_2 (List.mem_of_getElem? (i := 9) rfl) rfl
theorem wd_2_10 : Cond.methodLink RX1 84 yX1_readFreeBit ∈ AL := tb_2 (List.mem_of_getElem? (i := 10) rfl) rfl
theorem wd_2_12 : Cond.instanceMethod yX1_readFreeBit ∈ AL := tb_2 (List.mem_of_getElem? (i := 12) rfl) rfl
theorem wd_2_13 : Cond.code yX1_readFreeBit cX1_readFreeBit 3 (some .int) ∈ AL := tb_2 (List.mem_of_getElem? (i := 13) rfl) rfl
theorem wn_2_14 : Cond.methodLinkNest RX1 98 yX6_bitOf "WindFrontiers" ∈ lw_tbl := List.mem_append_right _ (List.mem_append_right _ (List.mem_append_left _ (List.mem_of_getElem? (i := 14) rfl)))
theorem wd_2_15 : Cond.static yX6_bitOf ∈ AL := tb_2 (List.mem_of_getElem? (i := 15) rfl) rfl
theorem wd_2_16 : Cond.code yX6_bitOf cX6_bitOf 2 (some .int) ∈ AL := tb_2 (List.mem_of_getElem? (i := 16) rfl) rfl
theorem wd_2_17 : Cond.methodLink RX1 88 yX4_give ∈ AL := tb_2 (List.mem_of_getElem? (i := 17) rfl) rfl
theorem wd_2_18 : Cond.instanceMethod yX4_give ∈ AL := tb_2 (List.mem_of_getElem? (i := 18) rfl) rfl
theorem wd_2_19 : Cond.selects RX4 yX4_give yX4_give ∈ AL := tb_2 (List.mem_of_getElem? (i := 19) rfl) rfl
theorem wd_2_20 : Cond.code yX4_give cX4_give 3 none ∈ AL := tb_2 (List.mem_of_getElem? (i := 20) rfl) rfl
theorem wd_2_21 : Cond.methodLink RX1 64 yX1_isCloth ∈ AL := tb_2 (List.mem_of_getElem? (i := 21) rfl) rfl
theorem wd_2_23 : Cond.instanceMethod yX1_isCloth ∈ AL := tb_2 (List.mem_of_getElem? (i := 23) rfl) rfl
theorem wd_2_24 : Cond.code yX1_isCloth cX1_isCloth 2 (some .boolean) ∈ AL := tb_2 (List.mem_of_getElem? (i := 24) rfl) rfl
theorem wd_2_25 : Cond.methodLink RX1 67 yX1_isWind ∈ AL := tb_2 (List.mem_of_getElem? (i := 25) rfl) rfl
theorem wd_2_27 : Cond.instanceMethod yX1_isWind ∈ AL := tb_2 (List.mem_of_getElem? (i := 27) rfl) rfl
theorem wd_2_28 : Cond.code yX1_isWind cX1_isWind 1 (some .boolean) ∈ AL := tb_2 (List.mem_of_getElem? (i := 28) rfl) rfl
theorem wd_2_29 : Cond.methodLink RX6 76 yX4_becomes ∈ AL := tb_2 (List.mem_of_getElem? (i := 29) rfl) rfl
theorem wd_2_30 : Cond.instanceMethod yX4_becomes ∈ AL := tb_2 (List.mem_of_getElem? (i := 30) rfl) rfl
theorem wd_2_31 : Cond.selects RX4 yX4_becomes yX4_becomes ∈ AL := tb_2 (List.mem_of_getElem? (i := 31) rfl) rfl
theorem wd_2_32 : Cond.code yX4_becomes cX4_becomes 3 none ∈ AL := tb_2 (List.mem_of_getElem? (i := 32) rfl) rfl
theorem wd_2_33 : Cond.methodLink RX4 35 yX4_heldBy ∈ AL := tb_2 (List.mem_of_getElem? (i := 33) rfl) rfl
theorem wd_2_34 : Cond.instanceMethod yX4_heldBy ∈ AL := tb_2 (List.mem_of_getElem? (i := 34) rfl) rfl
theorem wd_2_35 : Cond.selects RX4 yX4_heldBy yX4_heldBy ∈ AL := tb_2 (List.mem_of_getElem? (i := 35) rfl) rfl
theorem wd_2_36 : Cond.code yX4_heldBy cX4_heldBy 2 (some .int) ∈ AL := tb_2 (List.mem_of_getElem? (i := 36) rfl) rfl
theorem wd_2_37 : Cond.methodLink RX6 89 yX2_dropAll ∈ AL := tb_2 (List.mem_of_getElem? (i := 37) rfl) rfl
theorem wd_2_38 : Cond.instanceMethod yX2_dropAll ∈ AL := tb_2 (List.mem_of_getElem? (i := 38) rfl) rfl
theorem wd_2_39 : Cond.selects RX2 yX2_dropAll yX2_dropAll ∈ AL := tb_2 (List.mem_of_getElem? (i := 39) rfl) rfl
theorem wd_2_40 : Cond.code yX2_dropAll cX2_dropAll 1 none ∈ AL := tb_2 (List.mem_of_getElem? (i := 40) rfl) rfl
theorem wd_2_41 : Cond.methodLink RL 27 yX6_cell ∈ AL := tb_2 (List.mem_of_getElem? (i := 41) rfl) rfl
theorem wd_2_42 : Cond.instanceMethod yX6_cell ∈ AL := tb_2 (List.mem_of_getElem? (i := 42) rfl) rfl
theorem wd_2_43 : Cond.selects RX6 yX6_cell yX6_cell ∈ AL := tb_2 (List.mem_of_getElem? (i := 43) rfl) rfl
theorem wd_2_44 : Cond.code yX6_cell cX6_cell 5 (some .int) ∈ AL := tb_2 (List.mem_of_getElem? (i := 44) rfl) rfl
theorem wd_2_45 : Cond.methodLink RX6 92 yX4_isCell ∈ AL := tb_2 (List.mem_of_getElem? (i := 45) rfl) rfl
theorem wd_2_46 : Cond.instanceMethod yX4_isCell ∈ AL := tb_2 (List.mem_of_getElem? (i := 46) rfl) rfl
theorem wd_2_47 : Cond.selects RX4 yX4_isCell yX4_isCell ∈ AL := tb_2 (List.mem_of_getElem? (i := 47) rfl) rfl
theorem wd_2_48 : Cond.code yX4_isCell cX4_isCell 3 (some .boolean) ∈ AL := tb_2 (List.mem_of_getElem? (i := 48) rfl) rfl
theorem wn_2_49 : Cond.methodLinkNest RX4 39 yX6_isWithin "WindFrontiers" ∈ lw_tbl := List.mem_append_right _ (List.mem_append_right _ (List.mem_append_left _ (List.mem_of_getElem? (i := 49) rfl)))
theorem wd_2_50 : Cond.methodLink RX6 95 yX6_bitOf ∈ AL := tb_2 (List.mem_of_getElem? (i := 50) rfl) rfl
theorem wd_2_51 : Cond.methodLink RX6 99 yX4_holderOf ∈ AL := tb_2 (List.mem_of_getElem? (i := 51) rfl) rfl
theorem wd_2_52 : Cond.instanceMethod yX4_holderOf ∈ AL := tb_2 (List.mem_of_getElem? (i := 52) rfl) rfl
theorem wd_2_53 : Cond.selects RX4 yX4_holderOf yX4_holderOf ∈ AL := tb_2 (List.mem_of_getElem? (i := 53) rfl) rfl
theorem wd_2_54 : Cond.code yX4_holderOf cX4_holderOf 3 (some .int) ∈ AL := tb_2 (List.mem_of_getElem? (i := 54) rfl) rfl
theorem wd_2_55 : Cond.methodLink RX6 106 yX6_oneIf ∈ AL := tb_2 (List.mem_of_getElem? (i := 55) rfl) rfl
theorem wd_2_56 : Cond.static yX6_oneIf ∈ AL := tb_2 (List.mem_of_getElem? (i := 56) rfl) rfl
theorem wd_2_57 : Cond.code yX6_oneIf cX6_oneIf 1 (some .int) ∈ AL := tb_2 (List.mem_of_getElem? (i := 57) rfl) rfl
theorem wd_2_58 : Cond.methodLink RX6 110 yX4_dryCells ∈ AL := tb_2 (List.mem_of_getElem? (i := 58) rfl) rfl
theorem wd_2_59 : Cond.instanceMethod yX4_dryCells ∈ AL := tb_2 (List.mem_of_getElem? (i := 59) rfl) rfl
theorem wd_2_60 : Cond.selects RX4 yX4_dryCells yX4_dryCells ∈ AL := tb_2 (List.mem_of_getElem? (i := 60) rfl) rfl
theorem wd_2_61 : Cond.code yX4_dryCells cX4_dryCells 1 (some .int) ∈ AL := tb_2 (List.mem_of_getElem? (i := 61) rfl) rfl
theorem wd_2_62 : Cond.methodLink RX4 43 yX4_cellsFrom ∈ AL := tb_2 (List.mem_of_getElem? (i := 62) rfl) rfl
theorem wd_2_64 : Cond.instanceMethod yX4_cellsFrom ∈ AL := tb_2 (List.mem_of_getElem? (i := 64) rfl) rfl
theorem wd_2_65 : Cond.code yX4_cellsFrom cX4_cellsFrom 4 (some .int) ∈ AL := tb_2 (List.mem_of_getElem? (i := 65) rfl) rfl
theorem wd_2_66 : Cond.methodLink RX4 50 yX4_rowOf ∈ AL := tb_2 (List.mem_of_getElem? (i := 66) rfl) rfl
theorem wd_2_68 : Cond.instanceMethod yX4_rowOf ∈ AL := tb_2 (List.mem_of_getElem? (i := 68) rfl) rfl
theorem wd_2_69 : Cond.code yX4_rowOf cX4_rowOf 2 (some .int) ∈ AL := tb_2 (List.mem_of_getElem? (i := 69) rfl) rfl
theorem wd_2_70 : Cond.methodLink RX6 113 yX4_stillBy ∈ AL := tb_2 (List.mem_of_getElem? (i := 70) rfl) rfl
theorem wd_2_71 : Cond.instanceMethod yX4_stillBy ∈ AL := tb_2 (List.mem_of_getElem? (i := 71) rfl) rfl
theorem wd_2_72 : Cond.selects RX4 yX4_stillBy yX4_stillBy ∈ AL := tb_2 (List.mem_of_getElem? (i := 72) rfl) rfl
theorem wd_2_73 : Cond.code yX4_stillBy cX4_stillBy 2 (some .int) ∈ AL := tb_2 (List.mem_of_getElem? (i := 73) rfl) rfl
theorem wd_2_74 : Cond.methodLink RX4 53 yX4_stillWith ∈ AL := tb_2 (List.mem_of_getElem? (i := 74) rfl) rfl
theorem wd_2_75 : Cond.instanceMethod yX4_stillWith ∈ AL := tb_2 (List.mem_of_getElem? (i := 75) rfl) rfl
theorem wd_2_76 : Cond.selects RX4 yX4_stillWith yX4_stillWith ∈ AL := tb_2 (List.mem_of_getElem? (i := 76) rfl) rfl
theorem wd_2_77 : Cond.code yX4_stillWith cX4_stillWith 4 (some .int) ∈ AL := tb_2 (List.mem_of_getElem? (i := 77) rfl) rfl
theorem wd_2_78 : Cond.methodLink RX4 57 yX4_rightOf ∈ AL := tb_2 (List.mem_of_getElem? (i := 78) rfl) rfl
theorem wd_2_79 : Cond.static yX4_rightOf ∈ AL := tb_2 (List.mem_of_getElem? (i := 79) rfl) rfl
theorem wd_2_80 : Cond.code yX4_rightOf cX4_rightOf 1 (some .int) ∈ AL := tb_2 (List.mem_of_getElem? (i := 80) rfl) rfl
theorem wd_2_81 : Cond.constant RX4 90 (-541201) ∈ AL := tb_2 (List.mem_of_getElem? (i := 81) rfl) rfl
theorem wd_2_82 : Cond.methodLink RX4 60 yX4_leftOf ∈ AL := tb_2 (List.mem_of_getElem? (i := 82) rfl) rfl
theorem wd_2_83 : Cond.static yX4_leftOf ∈ AL := tb_2 (List.mem_of_getElem? (i := 83) rfl) rfl
theorem wd_2_84 : Cond.code yX4_leftOf cX4_leftOf 1 (some .int) ∈ AL := tb_2 (List.mem_of_getElem? (i := 84) rfl) rfl
theorem wd_2_85 : Cond.constant RX4 91 (-33826) ∈ AL := tb_2 (List.mem_of_getElem? (i := 85) rfl) rfl
theorem wd_2_86 : Cond.methodLink RX4 46 yX4_dryCells ∈ AL := tb_2 (List.mem_of_getElem? (i := 86) rfl) rfl
theorem wd_2_87 : Cond.methodLink RL 32 yX6_family ∈ AL := tb_2 (List.mem_of_getElem? (i := 87) rfl) rfl
theorem wd_2_88 : Cond.instanceMethod yX6_family ∈ AL := tb_2 (List.mem_of_getElem? (i := 88) rfl) rfl
theorem wd_2_89 : Cond.selects RX6 yX6_family yX6_family ∈ AL := tb_2 (List.mem_of_getElem? (i := 89) rfl) rfl
theorem wd_2_90 : Cond.code yX6_family cX6_family 3 (some .int) ∈ AL := tb_2 (List.mem_of_getElem? (i := 90) rfl) rfl
theorem wd_2_91 : Cond.methodLink RX6 116 yX6_isFamily ∈ AL := tb_2 (List.mem_of_getElem? (i := 91) rfl) rfl
theorem wd_2_92 : Cond.static yX6_isFamily ∈ AL := tb_2 (List.mem_of_getElem? (i := 92) rfl) rfl
theorem wd_2_93 : Cond.code yX6_isFamily cX6_isFamily 1 (some .boolean) ∈ AL := tb_2 (List.mem_of_getElem? (i := 93) rfl) rfl
theorem wd_2_94 : Cond.methodLink RX6 119 yX4_heldBy ∈ AL := tb_2 (List.mem_of_getElem? (i := 94) rfl) rfl
theorem wd_2_95 : Cond.methodLink RX6 122 yX4_shelterOf ∈ AL := tb_2 (List.mem_of_getElem? (i := 95) rfl) rfl
theorem wd_2_96 : Cond.instanceMethod yX4_shelterOf ∈ AL := tb_2 (List.mem_of_getElem? (i := 96) rfl) rfl
theorem wd_2_97 : Cond.selects RX4 yX4_shelterOf yX4_shelterOf ∈ AL := tb_2 (List.mem_of_getElem? (i := 97) rfl) rfl
theorem wd_2_98 : Cond.code yX4_shelterOf cX4_shelterOf 2 (some .int) ∈ AL := tb_2 (List.mem_of_getElem? (i := 98) rfl) rfl
theorem wd_2_99 : Cond.methodLink RX4 63 yX4_shelterWith ∈ AL := tb_2 (List.mem_of_getElem? (i := 99) rfl) rfl
theorem wd_2_100 : Cond.instanceMethod yX4_shelterWith ∈ AL := tb_2 (List.mem_of_getElem? (i := 100) rfl) rfl
theorem wd_2_101 : Cond.selects RX4 yX4_shelterWith yX4_shelterWith ∈ AL := tb_2 (List.mem_of_getElem? (i := 101) rfl) rfl
theorem wd_2_102 : Cond.code yX4_shelterWith cX4_shelterWith 3 (some .int) ∈ AL := tb_2 (List.mem_of_getElem? (i := 102) rfl) rfl
theorem wd_2_103 : Cond.methodLink RX4 66 yJ6_bitCount_0f7a4 ∈ AL := tb_2 (List.mem_of_getElem? (i := 103) rfl) rfl
theorem wd_2_104 : Cond.static yJ6_bitCount_0f7a4 ∈ AL := tb_2 (List.mem_of_getElem? (i := 104) rfl) rfl
theorem wd_2_105 : Cond.code yJ6_bitCount_0f7a4 cJ6_bitCount_0f7a4 1 (some .int) ∈ AL := tb_2 (List.mem_of_getElem? (i := 105) rfl) rfl
theorem wd_2_106 : Cond.constant RJ6 265 (1431655765) ∈ AL := tb_2 (List.mem_of_getElem? (i := 106) rfl) rfl
theorem wd_2_107 : Cond.constant RJ6 266 (858993459) ∈ AL := tb_2 (List.mem_of_getElem? (i := 107) rfl) rfl
theorem wd_2_108 : Cond.constant RJ6 267 (252645135) ∈ AL := tb_2 (List.mem_of_getElem? (i := 108) rfl) rfl
theorem wd_2_109 : Cond.methodLink RX6 125 yX4_losesAfter ∈ AL := tb_2 (List.mem_of_getElem? (i := 109) rfl) rfl
theorem wd_2_110 : Cond.instanceMethod yX4_losesAfter ∈ AL := tb_2 (List.mem_of_getElem? (i := 110) rfl) rfl
theorem wd_2_111 : Cond.selects RX4 yX4_losesAfter yX4_losesAfter ∈ AL := tb_2 (List.mem_of_getElem? (i := 111) rfl) rfl
theorem wd_2_112 : Cond.code yX4_losesAfter cX4_losesAfter 3 (some .int) ∈ AL := tb_2 (List.mem_of_getElem? (i := 112) rfl) rfl
theorem wd_2_113 : Cond.methodLink RL 37 yX6_takes ∈ AL := tb_2 (List.mem_of_getElem? (i := 113) rfl) rfl
theorem wd_2_114 : Cond.instanceMethod yX6_takes ∈ AL := tb_2 (List.mem_of_getElem? (i := 114) rfl) rfl
theorem wd_2_115 : Cond.selects RX6 yX6_takes yX6_takes ∈ AL := tb_2 (List.mem_of_getElem? (i := 115) rfl) rfl
theorem wd_2_116 : Cond.code yX6_takes cX6_takes 5 (some .int) ∈ AL := tb_2 (List.mem_of_getElem? (i := 116) rfl) rfl
theorem wd_2_117 : Cond.methodLink RX6 128 yX3_remember ∈ AL := tb_2 (List.mem_of_getElem? (i := 117) rfl) rfl
theorem wd_2_118 : Cond.instanceMethod yX3_remember ∈ AL := tb_2 (List.mem_of_getElem? (i := 118) rfl) rfl
theorem wd_2_119 : Cond.selects RX3 yX3_remember yX3_remember ∈ AL := tb_2 (List.mem_of_getElem? (i := 119) rfl) rfl
theorem wd_2_120 : Cond.code yX3_remember cX3_remember 1 none ∈ AL := tb_2 (List.mem_of_getElem? (i := 120) rfl) rfl
theorem wd_2_121 : Cond.methodLink RX3 26 yX3_dropOldest ∈ AL := tb_2 (List.mem_of_getElem? (i := 121) rfl) rfl
theorem wd_2_123 : Cond.instanceMethod yX3_dropOldest ∈ AL := tb_2 (List.mem_of_getElem? (i := 123) rfl) rfl
theorem wd_2_124 : Cond.code yX3_dropOldest cX3_dropOldest 2 none ∈ AL := tb_2 (List.mem_of_getElem? (i := 124) rfl) rfl
theorem wd_2_125 : Cond.methodLink RX3 29 yX3_beforeAt ∈ AL := tb_2 (List.mem_of_getElem? (i := 125) rfl) rfl
theorem wd_2_127 : Cond.instanceMethod yX3_beforeAt ∈ AL := tb_2 (List.mem_of_getElem? (i := 127) rfl) rfl
theorem wd_2_128 : Cond.code yX3_beforeAt cX3_beforeAt 2 (some (FieldType.object "WindFrontiers$Strand")) ∈ AL := tb_2 (List.mem_of_getElem? (i := 128) rfl) rfl
theorem wd_2_129 : Cond.methodLink RX3 33 yX3_copy ∈ AL := tb_2 (List.mem_of_getElem? (i := 129) rfl) rfl
theorem wd_2_130 : Cond.static yX3_copy ∈ AL := tb_2 (List.mem_of_getElem? (i := 130) rfl) rfl
theorem wd_2_131 : Cond.code yX3_copy cX3_copy 2 none ∈ AL := tb_2 (List.mem_of_getElem? (i := 131) rfl) rfl
theorem wd_2_132 : Cond.methodLink RX3 37 yX4_becomes ∈ AL := tb_2 (List.mem_of_getElem? (i := 132) rfl) rfl
theorem wd_2_133 : Cond.methodLink RX6 131 yX4_give ∈ AL := tb_2 (List.mem_of_getElem? (i := 133) rfl) rfl
theorem wd_2_134 : Cond.methodLink RX6 135 yJ6_bitCount_0f7a4 ∈ AL := tb_2 (List.mem_of_getElem? (i := 134) rfl) rfl
theorem wd_2_135 : Cond.methodLink RL 41 yX6_leaves ∈ AL := tb_2 (List.mem_of_getElem? (i := 135) rfl) rfl
theorem wd_2_136 : Cond.instanceMethod yX6_leaves ∈ AL := tb_2 (List.mem_of_getElem? (i := 136) rfl) rfl
theorem wd_2_137 : Cond.selects RX6 yX6_leaves yX6_leaves ∈ AL := tb_2 (List.mem_of_getElem? (i := 137) rfl) rfl
theorem wd_2_138 : Cond.code yX6_leaves cX6_leaves 5 (some .int) ∈ AL := tb_2 (List.mem_of_getElem? (i := 138) rfl) rfl
theorem wd_2_139 : Cond.methodLink RX6 140 yX4_freeAllBut ∈ AL := tb_2 (List.mem_of_getElem? (i := 139) rfl) rfl
theorem wd_2_140 : Cond.methodLink RL 45 yX6_puts ∈ AL := tb_2 (List.mem_of_getElem? (i := 140) rfl) rfl
theorem wd_2_141 : Cond.instanceMethod yX6_puts ∈ AL := tb_2 (List.mem_of_getElem? (i := 141) rfl) rfl
theorem wd_2_142 : Cond.selects RX6 yX6_puts yX6_puts ∈ AL := tb_2 (List.mem_of_getElem? (i := 142) rfl) rfl
theorem wd_2_143 : Cond.code yX6_puts cX6_puts 5 (some .int) ∈ AL := tb_2 (List.mem_of_getElem? (i := 143) rfl) rfl
theorem wd_2_144 : Cond.methodLink RL 49 yX6_veers ∈ AL := tb_2 (List.mem_of_getElem? (i := 144) rfl) rfl
theorem wd_2_145 : Cond.instanceMethod yX6_veers ∈ AL := tb_2 (List.mem_of_getElem? (i := 145) rfl) rfl
theorem wd_2_146 : Cond.selects RX6 yX6_veers yX6_veers ∈ AL := tb_2 (List.mem_of_getElem? (i := 146) rfl) rfl
theorem wd_2_147 : Cond.code yX6_veers cX6_veers 1 (some .int) ∈ AL := tb_2 (List.mem_of_getElem? (i := 147) rfl) rfl
theorem wd_2_148 : Cond.methodLink RL 53 yX6_tide ∈ AL := tb_2 (List.mem_of_getElem? (i := 148) rfl) rfl
theorem wd_2_149 : Cond.instanceMethod yX6_tide ∈ AL := tb_2 (List.mem_of_getElem? (i := 149) rfl) rfl
theorem wd_2_150 : Cond.selects RX6 yX6_tide yX6_tide ∈ AL := tb_2 (List.mem_of_getElem? (i := 150) rfl) rfl
theorem wd_2_151 : Cond.code yX6_tide cX6_tide 3 (some .int) ∈ AL := tb_2 (List.mem_of_getElem? (i := 151) rfl) rfl
theorem wd_2_152 : Cond.methodLink RX6 153 yX4_tideBecomes ∈ AL := tb_2 (List.mem_of_getElem? (i := 152) rfl) rfl
theorem wd_2_153 : Cond.instanceMethod yX4_tideBecomes ∈ AL := tb_2 (List.mem_of_getElem? (i := 153) rfl) rfl
theorem wd_2_154 : Cond.selects RX4 yX4_tideBecomes yX4_tideBecomes ∈ AL := tb_2 (List.mem_of_getElem? (i := 154) rfl) rfl
theorem wd_2_155 : Cond.code yX4_tideBecomes cX4_tideBecomes 2 none ∈ AL := tb_2 (List.mem_of_getElem? (i := 155) rfl) rfl
theorem wd_2_156 : Cond.methodLink RL 57 yX6_undo ∈ AL := tb_2 (List.mem_of_getElem? (i := 156) rfl) rfl
theorem wd_2_157 : Cond.instanceMethod yX6_undo ∈ AL := tb_2 (List.mem_of_getElem? (i := 157) rfl) rfl
theorem wd_2_158 : Cond.selects RX6 yX6_undo yX6_undo ∈ AL := tb_2 (List.mem_of_getElem? (i := 158) rfl) rfl
theorem wd_2_159 : Cond.code yX6_undo cX6_undo 1 (some .int) ∈ AL := tb_2 (List.mem_of_getElem? (i := 159) rfl) rfl
theorem wd_2_160 : Cond.methodLink RX6 156 yX3_goBack ∈ AL := tb_2 (List.mem_of_getElem? (i := 160) rfl) rfl
theorem wd_2_161 : Cond.instanceMethod yX3_goBack ∈ AL := tb_2 (List.mem_of_getElem? (i := 161) rfl) rfl
theorem wd_2_162 : Cond.selects RX3 yX3_goBack yX3_goBack ∈ AL := tb_2 (List.mem_of_getElem? (i := 162) rfl) rfl
theorem wd_2_163 : Cond.code yX3_goBack cX3_goBack 1 (some .boolean) ∈ AL := tb_2 (List.mem_of_getElem? (i := 163) rfl) rfl
theorem wd_2_164 : Cond.methodLink RL 61 yX6_now ∈ AL := tb_2 (List.mem_of_getElem? (i := 164) rfl) rfl
theorem wd_2_165 : Cond.instanceMethod yX6_now ∈ AL := tb_2 (List.mem_of_getElem? (i := 165) rfl) rfl
theorem wd_2_166 : Cond.selects RX6 yX6_now yX6_now ∈ AL := tb_2 (List.mem_of_getElem? (i := 166) rfl) rfl
theorem wd_2_167 : Cond.code yX6_now cX6_now 2 (some .int) ∈ AL := tb_2 (List.mem_of_getElem? (i := 167) rfl) rfl
theorem wd_2_168 : Cond.methodLink RX6 160 yX4_heldByAny ∈ AL := tb_2 (List.mem_of_getElem? (i := 168) rfl) rfl
theorem wd_2_169 : Cond.methodLink RX6 163 yX4_borderLength ∈ AL := tb_2 (List.mem_of_getElem? (i := 169) rfl) rfl
theorem wd_2_170 : Cond.instanceMethod yX4_borderLength ∈ AL := tb_2 (List.mem_of_getElem? (i := 170) rfl) rfl
theorem wd_2_171 : Cond.selects RX4 yX4_borderLength yX4_borderLength ∈ AL := tb_2 (List.mem_of_getElem? (i := 171) rfl) rfl
theorem wd_2_172 : Cond.code yX4_borderLength cX4_borderLength 3 (some .int) ∈ AL := tb_2 (List.mem_of_getElem? (i := 172) rfl) rfl
theorem wd_2_173 : Cond.methodLink RX4 71 yX4_heldByAny ∈ AL := tb_2 (List.mem_of_getElem? (i := 173) rfl) rfl
theorem wd_2_174 : Cond.methodLink RX4 74 yX4_twosIn ∈ AL := tb_2 (List.mem_of_getElem? (i := 174) rfl) rfl
theorem wd_2_175 : Cond.static yX4_twosIn ∈ AL := tb_2 (List.mem_of_getElem? (i := 175) rfl) rfl
theorem wd_2_176 : Cond.code yX4_twosIn cX4_twosIn 1 (some .int) ∈ AL := tb_2 (List.mem_of_getElem? (i := 176) rfl) rfl
theorem wd_2_177 : Cond.methodLink RL 65 yX6_water ∈ AL := tb_2 (List.mem_of_getElem? (i := 177) rfl) rfl
theorem wd_2_178 : Cond.instanceMethod yX6_water ∈ AL := tb_2 (List.mem_of_getElem? (i := 178) rfl) rfl
theorem wd_2_179 : Cond.selects RX6 yX6_water yX6_water ∈ AL := tb_2 (List.mem_of_getElem? (i := 179) rfl) rfl
theorem wd_2_180 : Cond.code yX6_water cX6_water 5 (some .int) ∈ AL := tb_2 (List.mem_of_getElem? (i := 180) rfl) rfl
theorem wd_2_181 : Cond.methodLink RX6 166 yX4_fewestOthers ∈ AL := tb_2 (List.mem_of_getElem? (i := 181) rfl) rfl
theorem wd_2_182 : Cond.instanceMethod yX4_fewestOthers ∈ AL := tb_2 (List.mem_of_getElem? (i := 182) rfl) rfl
theorem wd_2_183 : Cond.selects RX4 yX4_fewestOthers yX4_fewestOthers ∈ AL := tb_2 (List.mem_of_getElem? (i := 183) rfl) rfl
theorem wd_2_184 : Cond.code yX4_fewestOthers cX4_fewestOthers 8 (some .int) ∈ AL := tb_2 (List.mem_of_getElem? (i := 184) rfl) rfl
theorem wn_2_185 : Cond.methodLinkNest RX4 77 yX6_oneIf "WindFrontiers" ∈ lw_tbl := List.mem_append_right _ (List.mem_append_right _ (List.mem_append_left _ (List.mem_of_getElem? (i := 185) rfl)))
theorem wd_2_186 : Cond.methodLink RX4 81 yX4_floodedOver ∈ AL := tb_2 (List.mem_of_getElem? (i := 186) rfl) rfl
theorem wd_2_187 : Cond.static yX4_floodedOver ∈ AL := tb_2 (List.mem_of_getElem? (i := 187) rfl) rfl
theorem wd_2_188 : Cond.code yX4_floodedOver cX4_floodedOver 4 (some .int) ∈ AL := tb_2 (List.mem_of_getElem? (i := 188) rfl) rfl
theorem wd_2_189 : Cond.methodLink RX4 84 yX4_besideAny ∈ AL := tb_2 (List.mem_of_getElem? (i := 189) rfl) rfl
theorem wd_2_190 : Cond.static yX4_besideAny ∈ AL := tb_2 (List.mem_of_getElem? (i := 190) rfl) rfl
theorem wd_2_191 : Cond.code yX4_besideAny cX4_besideAny 1 (some .int) ∈ AL := tb_2 (List.mem_of_getElem? (i := 191) rfl) rfl
theorem wd_2_192 : Cond.methodLink RL 69 yX6_help ∈ AL := tb_2 (List.mem_of_getElem? (i := 192) rfl) rfl
theorem wd_2_193 : Cond.instanceMethod yX6_help ∈ AL := tb_2 (List.mem_of_getElem? (i := 193) rfl) rfl
theorem wd_2_194 : Cond.selects RX6 yX6_help yX6_help ∈ AL := tb_2 (List.mem_of_getElem? (i := 194) rfl) rfl
theorem wd_2_195 : Cond.code yX6_help cX6_help 4 (some .int) ∈ AL := tb_2 (List.mem_of_getElem? (i := 195) rfl) rfl
theorem wd_2_196 : Cond.methodLink RX6 169 yX4_bestCloth ∈ AL := tb_2 (List.mem_of_getElem? (i := 196) rfl) rfl
theorem wd_2_197 : Cond.instanceMethod yX4_bestCloth ∈ AL := tb_2 (List.mem_of_getElem? (i := 197) rfl) rfl
theorem wd_2_198 : Cond.selects RX4 yX4_bestCloth yX4_bestCloth ∈ AL := tb_2 (List.mem_of_getElem? (i := 198) rfl) rfl
theorem wd_2_199 : Cond.code yX4_bestCloth cX4_bestCloth 7 (some .int) ∈ AL := tb_2 (List.mem_of_getElem? (i := 199) rfl) rfl
theorem wd_2_200 : Cond.methodLink RX4 87 yX4_bareCells ∈ AL := tb_2 (List.mem_of_getElem? (i := 200) rfl) rfl
theorem wd_2_201 : Cond.instanceMethod yX4_bareCells ∈ AL := tb_2 (List.mem_of_getElem? (i := 201) rfl) rfl
theorem wd_2_202 : Cond.selects RX4 yX4_bareCells yX4_bareCells ∈ AL := tb_2 (List.mem_of_getElem? (i := 202) rfl) rfl
theorem wd_2_203 : Cond.code yX4_bareCells cX4_bareCells 1 (some .int) ∈ AL := tb_2 (List.mem_of_getElem? (i := 203) rfl) rfl
theorem wd_2_204 : Cond.methodLink RX6 172 yX4_shelterWith ∈ AL := tb_2 (List.mem_of_getElem? (i := 204) rfl) rfl
theorem wd_2_205 : Cond.methodLink RL 73 yX6_odds ∈ AL := tb_2 (List.mem_of_getElem? (i := 205) rfl) rfl
theorem wd_2_206 : Cond.instanceMethod yX6_odds ∈ AL := tb_2 (List.mem_of_getElem? (i := 206) rfl) rfl
theorem wd_2_207 : Cond.selects RX6 yX6_odds yX6_odds ∈ AL := tb_2 (List.mem_of_getElem? (i := 207) rfl) rfl
theorem wd_2_208 : Cond.code yX6_odds cX6_odds 11 (some .int) ∈ AL := tb_2 (List.mem_of_getElem? (i := 208) rfl) rfl
theorem wd_2_209 : Cond.methodLink RX6 175 yX6_inLeastTerms ∈ AL := tb_2 (List.mem_of_getElem? (i := 209) rfl) rfl
theorem wd_2_210 : Cond.static yX6_inLeastTerms ∈ AL := tb_2 (List.mem_of_getElem? (i := 210) rfl) rfl
theorem wd_2_211 : Cond.code yX6_inLeastTerms cX6_inLeastTerms 6 (some .int) ∈ AL := tb_2 (List.mem_of_getElem? (i := 211) rfl) rfl
theorem wd_2_212 : Cond.methodLink RL 78 yX6_saw ∈ AL := tb_2 (List.mem_of_getElem? (i := 212) rfl) rfl
theorem wd_2_213 : Cond.instanceMethod yX6_saw ∈ AL := tb_2 (List.mem_of_getElem? (i := 213) rfl) rfl
theorem wd_2_214 : Cond.selects RX6 yX6_saw yX6_saw ∈ AL := tb_2 (List.mem_of_getElem? (i := 214) rfl) rfl
theorem wd_2_215 : Cond.code yX6_saw cX6_saw 5 (some .int) ∈ AL := tb_2 (List.mem_of_getElem? (i := 215) rfl) rfl
theorem wd_2_216 : Cond.methodLink RX6 179 yX2_add ∈ AL := tb_2 (List.mem_of_getElem? (i := 216) rfl) rfl
theorem wd_2_217 : Cond.instanceMethod yX2_add ∈ AL := tb_2 (List.mem_of_getElem? (i := 217) rfl) rfl
theorem wd_2_218 : Cond.selects RX2 yX2_add yX2_add ∈ AL := tb_2 (List.mem_of_getElem? (i := 218) rfl) rfl
theorem wd_2_219 : Cond.code yX2_add cX2_add 4 (some .boolean) ∈ AL := tb_2 (List.mem_of_getElem? (i := 219) rfl) rfl
theorem wd_2_220 : Cond.methodLink RL 83 yX6_forget ∈ AL := tb_2 (List.mem_of_getElem? (i := 220) rfl) rfl
theorem wd_2_221 : Cond.instanceMethod yX6_forget ∈ AL := tb_2 (List.mem_of_getElem? (i := 221) rfl) rfl
theorem wd_2_222 : Cond.selects RX6 yX6_forget yX6_forget ∈ AL := tb_2 (List.mem_of_getElem? (i := 222) rfl) rfl
theorem wd_2_223 : Cond.code yX6_forget cX6_forget 2 (some .int) ∈ AL := tb_2 (List.mem_of_getElem? (i := 223) rfl) rfl
theorem wd_2_224 : Cond.methodLink RL 87 yX6_moved ∈ AL := tb_2 (List.mem_of_getElem? (i := 224) rfl) rfl
theorem wd_2_225 : Cond.instanceMethod yX6_moved ∈ AL := tb_2 (List.mem_of_getElem? (i := 225) rfl) rfl
theorem wd_2_226 : Cond.selects RX6 yX6_moved yX6_moved ∈ AL := tb_2 (List.mem_of_getElem? (i := 226) rfl) rfl
theorem wd_2_227 : Cond.code yX6_moved cX6_moved 6 (some .int) ∈ AL := tb_2 (List.mem_of_getElem? (i := 227) rfl) rfl
theorem wd_2_228 : Cond.methodLink RX6 186 yX6_mayHaveMoved ∈ AL := tb_2 (List.mem_of_getElem? (i := 228) rfl) rfl
theorem wd_2_230 : Cond.instanceMethod yX6_mayHaveMoved ∈ AL := tb_2 (List.mem_of_getElem? (i := 230) rfl) rfl
theorem wd_2_231 : Cond.code yX6_mayHaveMoved cX6_mayHaveMoved 6 (some .boolean) ∈ AL := tb_2 (List.mem_of_getElem? (i := 231) rfl) rfl
theorem wd_2_232 : Cond.methodLink RX6 208 yX4_bareCells ∈ AL := tb_2 (List.mem_of_getElem? (i := 232) rfl) rfl
theorem wd_2_233 : Cond.methodLink RX6 211 yX4_stillWith ∈ AL := tb_2 (List.mem_of_getElem? (i := 233) rfl) rfl
theorem wd_2_234 : Cond.methodLink RX6 214 yX2_agrees ∈ AL := tb_2 (List.mem_of_getElem? (i := 234) rfl) rfl
theorem wd_2_235 : Cond.instanceMethod yX2_agrees ∈ AL := tb_2 (List.mem_of_getElem? (i := 235) rfl) rfl
theorem wd_2_236 : Cond.selects RX2 yX2_agrees yX2_agrees ∈ AL := tb_2 (List.mem_of_getElem? (i := 236) rfl) rfl
theorem wd_2_237 : Cond.code yX2_agrees cX2_agrees 3 (some .boolean) ∈ AL := tb_2 (List.mem_of_getElem? (i := 237) rfl) rfl
theorem wd_2_238 : Cond.methodLink RL 91 yX6_mark ∈ AL := tb_2 (List.mem_of_getElem? (i := 238) rfl) rfl
theorem wd_2_239 : Cond.instanceMethod yX6_mark ∈ AL := tb_2 (List.mem_of_getElem? (i := 239) rfl) rfl
theorem wd_3_0 : Cond.selects RX6 yX6_mark yX6_mark ∈ AL := tb_3 (List.mem_of_getElem? (i := 0) rfl) rfl
theorem wd_3_1 : Cond.code yX6_mark cX6_mark 4 (some .int) ∈ AL := tb_3 (List.mem_of_getElem? (i := 1) rfl) rfl
theorem wd_3_2 : Cond.methodLink RX6 189 yX0_markAs ∈ AL := tb_3 (List.mem_of_getElem? (i := 2) rfl) rfl
theorem wd_3_3 : Cond.instanceMethod yX0_markAs ∈ AL := tb_3 (List.mem_of_getElem? (i := 3) rfl) rfl
theorem wd_3_4 : Cond.selects RX0 yX0_markAs yX0_markAs ∈ AL := tb_3 (List.mem_of_getElem? (i := 4) rfl) rfl
theorem wd_3_5 : Cond.code yX0_markAs cX0_markAs 5 (some .int) ∈ AL := tb_3 (List.mem_of_getElem? (i := 5) rfl) rfl
theorem wd_3_6 : Cond.methodLink RX0 9 yX0_asCell ∈ AL := tb_3 (List.mem_of_getElem? (i := 6) rfl) rfl
theorem wd_3_8 : Cond.instanceMethod yX0_asCell ∈ AL := tb_3 (List.mem_of_getElem? (i := 8) rfl) rfl
theorem wd_3_9 : Cond.code yX0_asCell cX0_asCell 2 (some .int) ∈ AL := tb_3 (List.mem_of_getElem? (i := 9) rfl) rfl
theorem wd_3_10 : Cond.methodLink RX0 15 yX0_asCastle ∈ AL := tb_3 (List.mem_of_getElem? (i := 10) rfl) rfl
theorem wd_3_12 : Cond.instanceMethod yX0_asCastle ∈ AL := tb_3 (List.mem_of_getElem? (i := 12) rfl) rfl
theorem wd_3_13 : Cond.code yX0_asCastle cX0_asCastle 4 (some .int) ∈ AL := tb_3 (List.mem_of_getElem? (i := 13) rfl) rfl
theorem wd_3_14 : Cond.constantLong RX0 38 (10) ∈ AL := tb_3 (List.mem_of_getElem? (i := 14) rfl) rfl
theorem wn_3_15 : Cond.methodLinkNest RX0 40 yX6_bitOf "WindFrontiers" ∈ lw_tbl := List.mem_append_right _ (List.mem_append_right _ (List.mem_append_right _ (List.mem_append_left _ (List.mem_of_getElem? (i := 15) rfl))))
theorem wd_3_16 : Cond.methodLink RX0 43 yX4_cellsBeside ∈ AL := tb_3 (List.mem_of_getElem? (i := 16) rfl) rfl
theorem wd_3_17 : Cond.instanceMethod yX4_cellsBeside ∈ AL := tb_3 (List.mem_of_getElem? (i := 17) rfl) rfl
theorem wd_3_18 : Cond.selects RX4 yX4_cellsBeside yX4_cellsBeside ∈ AL := tb_3 (List.mem_of_getElem? (i := 18) rfl) rfl
theorem wd_3_19 : Cond.code yX4_cellsBeside cX4_cellsBeside 2 (some .int) ∈ AL := tb_3 (List.mem_of_getElem? (i := 19) rfl) rfl
theorem wd_3_20 : Cond.methodLink RX0 19 yX0_asCorridor ∈ AL := tb_3 (List.mem_of_getElem? (i := 20) rfl) rfl
theorem wd_3_22 : Cond.instanceMethod yX0_asCorridor ∈ AL := tb_3 (List.mem_of_getElem? (i := 22) rfl) rfl
theorem wd_3_23 : Cond.code yX0_asCorridor cX0_asCorridor 3 (some .int) ∈ AL := tb_3 (List.mem_of_getElem? (i := 23) rfl) rfl
theorem wd_3_24 : Cond.constantLong RX0 48 (100) ∈ AL := tb_3 (List.mem_of_getElem? (i := 24) rfl) rfl
theorem wd_3_25 : Cond.methodLink RX0 23 yX0_asEmpire ∈ AL := tb_3 (List.mem_of_getElem? (i := 25) rfl) rfl
theorem wd_3_27 : Cond.instanceMethod yX0_asEmpire ∈ AL := tb_3 (List.mem_of_getElem? (i := 27) rfl) rfl
theorem wd_3_28 : Cond.code yX0_asEmpire cX0_asEmpire 4 (some .int) ∈ AL := tb_3 (List.mem_of_getElem? (i := 28) rfl) rfl
theorem wd_3_29 : Cond.constantLong RX0 50 (1000) ∈ AL := tb_3 (List.mem_of_getElem? (i := 29) rfl) rfl
theorem wd_3_30 : Cond.methodLink RX0 26 yX0_asPoland ∈ AL := tb_3 (List.mem_of_getElem? (i := 30) rfl) rfl
theorem wd_3_32 : Cond.instanceMethod yX0_asPoland ∈ AL := tb_3 (List.mem_of_getElem? (i := 32) rfl) rfl
theorem wd_3_33 : Cond.code yX0_asPoland cX0_asPoland 5 (some .int) ∈ AL := tb_3 (List.mem_of_getElem? (i := 33) rfl) rfl
theorem wd_3_34 : Cond.constantLong RX0 52 (10000) ∈ AL := tb_3 (List.mem_of_getElem? (i := 34) rfl) rfl
theorem wd_3_35 : Cond.methodLink RX0 54 yX4_holderOf ∈ AL := tb_3 (List.mem_of_getElem? (i := 35) rfl) rfl
theorem wd_3_36 : Cond.methodLink RX0 57 yX4_heldBy ∈ AL := tb_3 (List.mem_of_getElem? (i := 36) rfl) rfl
theorem wd_3_37 : Cond.methodLink RX0 60 yJ6_bitCount_0f7a4 ∈ AL := tb_3 (List.mem_of_getElem? (i := 37) rfl) rfl
theorem wd_3_38 : Cond.methodLink RX0 29 yX0_asSalient ∈ AL := tb_3 (List.mem_of_getElem? (i := 38) rfl) rfl
theorem wd_3_40 : Cond.instanceMethod yX0_asSalient ∈ AL := tb_3 (List.mem_of_getElem? (i := 40) rfl) rfl
theorem wd_3_41 : Cond.code yX0_asSalient cX0_asSalient 3 (some .int) ∈ AL := tb_3 (List.mem_of_getElem? (i := 41) rfl) rfl
theorem wd_3_42 : Cond.constantLong RX0 65 (100000) ∈ AL := tb_3 (List.mem_of_getElem? (i := 42) rfl) rfl
theorem wd_3_43 : Cond.constant RX0 33 (-1000000) ∈ AL := tb_3 (List.mem_of_getElem? (i := 43) rfl) rfl
theorem wd_3_44 : Cond.constant RX6 193 (-1000000) ∈ AL := tb_3 (List.mem_of_getElem? (i := 44) rfl) rfl
theorem wd_3_45 : Cond.methodLink RL 95 yX6_keep ∈ AL := tb_3 (List.mem_of_getElem? (i := 45) rfl) rfl
theorem wd_3_46 : Cond.instanceMethod yX6_keep ∈ AL := tb_3 (List.mem_of_getElem? (i := 46) rfl) rfl
theorem wd_3_47 : Cond.selects RX6 yX6_keep yX6_keep ∈ AL := tb_3 (List.mem_of_getElem? (i := 47) rfl) rfl
theorem wd_3_48 : Cond.code yX6_keep cX6_keep 3 (some .int) ∈ AL := tb_3 (List.mem_of_getElem? (i := 48) rfl) rfl
theorem wd_3_49 : Cond.methodLink RX6 194 yX6_imageOf ∈ AL := tb_3 (List.mem_of_getElem? (i := 49) rfl) rfl
theorem wd_3_51 : Cond.instanceMethod yX6_imageOf ∈ AL := tb_3 (List.mem_of_getElem? (i := 51) rfl) rfl
theorem wd_3_52 : Cond.code yX6_imageOf cX6_imageOf 2 (some (FieldType.object "WindFrontiers$Story")) ∈ AL := tb_3 (List.mem_of_getElem? (i := 52) rfl) rfl
theorem wd_3_53 : Cond.methodLink RX6 198 yX3_becomes ∈ AL := tb_3 (List.mem_of_getElem? (i := 53) rfl) rfl
theorem wd_3_54 : Cond.instanceMethod yX3_becomes ∈ AL := tb_3 (List.mem_of_getElem? (i := 54) rfl) rfl
theorem wd_3_55 : Cond.selects RX3 yX3_becomes yX3_becomes ∈ AL := tb_3 (List.mem_of_getElem? (i := 55) rfl) rfl
theorem wd_3_56 : Cond.code yX3_becomes cX3_becomes 3 none ∈ AL := tb_3 (List.mem_of_getElem? (i := 56) rfl) rfl
theorem wd_3_57 : Cond.methodLink RL 99 yX6_back ∈ AL := tb_3 (List.mem_of_getElem? (i := 57) rfl) rfl
theorem wd_3_58 : Cond.instanceMethod yX6_back ∈ AL := tb_3 (List.mem_of_getElem? (i := 58) rfl) rfl
theorem wd_3_59 : Cond.selects RX6 yX6_back yX6_back ∈ AL := tb_3 (List.mem_of_getElem? (i := 59) rfl) rfl
theorem wd_3_60 : Cond.code yX6_back cX6_back 3 (some .int) ∈ AL := tb_3 (List.mem_of_getElem? (i := 60) rfl) rfl
theorem wd_3_61 : Cond.methodLink RL 103 yX6_count ∈ AL := tb_3 (List.mem_of_getElem? (i := 61) rfl) rfl
theorem wd_3_62 : Cond.instanceMethod yX6_count ∈ AL := tb_3 (List.mem_of_getElem? (i := 62) rfl) rfl
theorem wd_3_63 : Cond.selects RX6 yX6_count yX6_count ∈ AL := tb_3 (List.mem_of_getElem? (i := 63) rfl) rfl
theorem wd_3_64 : Cond.code yX6_count cX6_count 2 (some .int) ∈ AL := tb_3 (List.mem_of_getElem? (i := 64) rfl) rfl
theorem wd_3_65 : Cond.methodLink RL 107 yX6_trace ∈ AL := tb_3 (List.mem_of_getElem? (i := 65) rfl) rfl
theorem wd_3_66 : Cond.instanceMethod yX6_trace ∈ AL := tb_3 (List.mem_of_getElem? (i := 66) rfl) rfl
theorem wd_3_67 : Cond.selects RX6 yX6_trace yX6_trace ∈ AL := tb_3 (List.mem_of_getElem? (i := 67) rfl) rfl
theorem wd_3_68 : Cond.code yX6_trace cX6_trace 1 (some .long) ∈ AL := tb_3 (List.mem_of_getElem? (i := 68) rfl) rfl
theorem wd_3_69 : Cond.classLink RL 10 RX7 ∈ AL := tb_3 (List.mem_of_getElem? (i := 69) rfl) rfl
theorem wd_3_70 : Cond.instantiable RX7 22 ∈ AL := tb_3 (List.mem_of_getElem? (i := 70) rfl) rfl
theorem wd_3_71 : Cond.methodLink RL 12 yX7_init ∈ AL := tb_3 (List.mem_of_getElem? (i := 71) rfl) rfl
theorem wd_3_72 : Cond.instanceMethod yX7_init ∈ AL := tb_3 (List.mem_of_getElem? (i := 72) rfl) rfl
theorem wd_3_73 : Cond.code yX7_init cX7_init 1 none ∈ AL := tb_3 (List.mem_of_getElem? (i := 73) rfl) rfl
theorem wd_3_74 : Cond.methodLink RX7 1 objectInit ∈ AL := tb_3 (List.mem_of_getElem? (i := 74) rfl) rfl
theorem wd_3_75 : Cond.fieldLink RX7 7 "WindFrontiersModel" "wide" "I" ∈ AL := tb_3 (List.mem_of_getElem? (i := 75) rfl) rfl
theorem wd_3_76 : Cond.fieldLink RX7 13 "WindFrontiersModel" "rows" "I" ∈ AL := tb_3 (List.mem_of_getElem? (i := 76) rfl) rfl
theorem wd_3_77 : Cond.fieldLink RX7 16 "WindFrontiersModel" "st" "[I" ∈ AL := tb_3 (List.mem_of_getElem? (i := 77) rfl) rfl
theorem wd_3_78 : Cond.fieldLink RX7 20 "WindFrontiersModel" "images" "[I" ∈ AL := tb_3 (List.mem_of_getElem? (i := 78) rfl) rfl
theorem wd_3_79 : Cond.fieldLink RX7 23 "WindFrontiersModel" "isKept" "[Z" ∈ AL := tb_3 (List.mem_of_getElem? (i := 79) rfl) rfl
theorem wd_3_80 : Cond.fieldLink RX7 109 "WindFrontiersModel" "seenMany" "I" ∈ AL := tb_3 (List.mem_of_getElem? (i := 80) rfl) rfl
theorem wd_3_81 : Cond.fieldLink RX7 27 "WindFrontiersModel" "seen" "[I" ∈ AL := tb_3 (List.mem_of_getElem? (i := 81) rfl) rfl
theorem wd_3_82 : Cond.fieldLink RX7 164 "WindFrontiersModel" "trace" "J" ∈ AL := tb_3 (List.mem_of_getElem? (i := 82) rfl) rfl
theorem wd_3_83 : Cond.fieldLink RX7 30 "WindFrontiersModel" "text" "[I" ∈ AL := tb_3 (List.mem_of_getElem? (i := 83) rfl) rfl
theorem wd_3_84 : Cond.fieldLink RX7 43 "WindFrontiersModel" "texted" "I" ∈ AL := tb_3 (List.mem_of_getElem? (i := 84) rfl) rfl
theorem wd_3_85 : Cond.fieldLink RX7 46 "WindFrontiersModel" "cursor" "I" ∈ AL := tb_3 (List.mem_of_getElem? (i := 85) rfl) rfl
theorem wd_3_86 : Cond.fieldLink RX7 53 "WindFrontiersModel" "start" "I" ∈ AL := tb_3 (List.mem_of_getElem? (i := 86) rfl) rfl
theorem wd_3_87 : Cond.fieldLink RX7 59 "WindFrontiersModel" "token" "I" ∈ AL := tb_3 (List.mem_of_getElem? (i := 87) rfl) rfl
theorem wd_3_88 : Cond.fieldLink RX7 56 "WindFrontiersModel" "number" "I" ∈ AL := tb_3 (List.mem_of_getElem? (i := 88) rfl) rfl
theorem wd_3_89 : Cond.fieldLink RX7 69 "WindFrontiersModel" "isWrong" "Z" ∈ AL := tb_3 (List.mem_of_getElem? (i := 89) rfl) rfl
theorem wd_3_90 : Cond.fieldLink RX7 93 "WindFrontiersModel" "items" "I" ∈ AL := tb_3 (List.mem_of_getElem? (i := 90) rfl) rfl
theorem wd_3_91 : Cond.fieldLink RX7 76 "WindFrontiersModel" "saidWide" "I" ∈ AL := tb_3 (List.mem_of_getElem? (i := 91) rfl) rfl
theorem wd_3_92 : Cond.fieldLink RX7 83 "WindFrontiersModel" "saidRows" "I" ∈ AL := tb_3 (List.mem_of_getElem? (i := 92) rfl) rfl
theorem wd_3_93 : Cond.fieldLink RX7 33 "WindFrontiersModel" "saidHolder" "[I" ∈ AL := tb_3 (List.mem_of_getElem? (i := 93) rfl) rfl
theorem wd_3_94 : Cond.fieldLink RX7 86 "WindFrontiersModel" "saidCloth" "I" ∈ AL := tb_3 (List.mem_of_getElem? (i := 94) rfl) rfl
theorem wd_3_95 : Cond.fieldLink RX7 96 "WindFrontiersModel" "saidWind" "I" ∈ AL := tb_3 (List.mem_of_getElem? (i := 95) rfl) rfl
theorem wd_3_96 : Cond.fieldLink RX7 36 "WindFrontiersModel" "far" "[I" ∈ AL := tb_3 (List.mem_of_getElem? (i := 96) rfl) rfl
theorem wd_3_97 : Cond.lays RX7 "WindFrontiersModel" "wide" "I" ∈ AL := tb_3 (List.mem_of_getElem? (i := 97) rfl) rfl
theorem wd_3_99 : Cond.lays RX7 "WindFrontiersModel" "rows" "I" ∈ AL := tb_3 (List.mem_of_getElem? (i := 99) rfl) rfl
theorem wd_3_101 : Cond.laysFinal RX7 "WindFrontiersModel" "st" "[I" ∈ AL := tb_3 (List.mem_of_getElem? (i := 101) rfl) rfl
theorem wd_3_103 : Cond.laysFinal RX7 "WindFrontiersModel" "images" "[I" ∈ AL := tb_3 (List.mem_of_getElem? (i := 103) rfl) rfl
theorem wd_3_105 : Cond.laysFinal RX7 "WindFrontiersModel" "isKept" "[Z" ∈ AL := tb_3 (List.mem_of_getElem? (i := 105) rfl) rfl
theorem wd_3_107 : Cond.lays RX7 "WindFrontiersModel" "seenMany" "I" ∈ AL := tb_3 (List.mem_of_getElem? (i := 107) rfl) rfl
theorem wd_3_109 : Cond.laysFinal RX7 "WindFrontiersModel" "seen" "[I" ∈ AL := tb_3 (List.mem_of_getElem? (i := 109) rfl) rfl
theorem wd_3_111 : Cond.lays RX7 "WindFrontiersModel" "trace" "J" ∈ AL := tb_3 (List.mem_of_getElem? (i := 111) rfl) rfl
theorem wd_3_113 : Cond.laysFinal RX7 "WindFrontiersModel" "text" "[I" ∈ AL := tb_3 (List.mem_of_getElem? (i := 113) rfl) rfl
theorem wd_3_115 : Cond.lays RX7 "WindFrontiersModel" "texted" "I" ∈ AL := tb_3 (List.mem_of_getElem? (i := 115) rfl) rfl
theorem wd_3_117 : Cond.lays RX7 "WindFrontiersModel" "cursor" "I" ∈ AL := tb_3 (List.mem_of_getElem? (i := 117) rfl) rfl
theorem wd_3_119 : Cond.lays RX7 "WindFrontiersModel" "start" "I" ∈ AL := tb_3 (List.mem_of_getElem? (i := 119) rfl) rfl
theorem wd_3_121 : Cond.lays RX7 "WindFrontiersModel" "token" "I" ∈ AL := tb_3 (List.mem_of_getElem? (i := 121) rfl) rfl
theorem wd_3_123 : Cond.lays RX7 "WindFrontiersModel" "number" "I" ∈ AL := tb_3 (List.mem_of_getElem? (i := 123) rfl) rfl
theorem wd_3_125 : Cond.lays RX7 "WindFrontiersModel" "isWrong" "Z" ∈ AL := tb_3 (List.mem_of_getElem? (i := 125) rfl) rfl
theorem wd_3_127 : Cond.lays RX7 "WindFrontiersModel" "items" "I" ∈ AL := tb_3 (List.mem_of_getElem? (i := 127) rfl) rfl
theorem wd_3_129 : Cond.lays RX7 "WindFrontiersModel" "saidWide" "I" ∈ AL := tb_3 (List.mem_of_getElem? (i := 129) rfl) rfl
theorem wd_3_131 : Cond.lays RX7 "WindFrontiersModel" "saidRows" "I" ∈ AL := tb_3 (List.mem_of_getElem? (i := 131) rfl) rfl
theorem wd_3_133 : Cond.laysFinal RX7 "WindFrontiersModel" "saidHolder" "[I" ∈ AL := tb_3 (List.mem_of_getElem? (i := 133) rfl) rfl
theorem wd_3_135 : Cond.lays RX7 "WindFrontiersModel" "saidCloth" "I" ∈ AL := tb_3 (List.mem_of_getElem? (i := 135) rfl) rfl
theorem wd_3_137 : Cond.lays RX7 "WindFrontiersModel" "saidWind" "I" ∈ AL := tb_3 (List.mem_of_getElem? (i := 137) rfl) rfl
theorem wd_3_139 : Cond.laysFinal RX7 "WindFrontiersModel" "far" "[I" ∈ AL := tb_3 (List.mem_of_getElem? (i := 139) rfl) rfl
theorem wd_3_142 : Cond.arrayClass FieldType.boolean ∈ AL := tb_3 (List.mem_of_getElem? (i := 142) rfl) rfl
theorem wd_3_143 : Cond.methodLink RL 17 yX7_type ∈ AL := tb_3 (List.mem_of_getElem? (i := 143) rfl) rfl
theorem wd_3_144 : Cond.instanceMethod yX7_type ∈ AL := tb_3 (List.mem_of_getElem? (i := 144) rfl) rfl
theorem wd_3_145 : Cond.selects RX7 yX7_type yX7_type ∈ AL := tb_3 (List.mem_of_getElem? (i := 145) rfl) rfl
theorem wd_3_146 : Cond.code yX7_type cX7_type 2 (some .int) ∈ AL := tb_3 (List.mem_of_getElem? (i := 146) rfl) rfl
theorem wd_3_147 : Cond.methodLink RX7 39 yX7_in ∈ AL := tb_3 (List.mem_of_getElem? (i := 147) rfl) rfl
theorem wd_3_148 : Cond.static yX7_in ∈ AL := tb_3 (List.mem_of_getElem? (i := 148) rfl) rfl
theorem wd_3_149 : Cond.code yX7_in cX7_in 3 (some .boolean) ∈ AL := tb_3 (List.mem_of_getElem? (i := 149) rfl) rfl
theorem wd_3_150 : Cond.methodLink RL 22 yX7_clear ∈ AL := tb_3 (List.mem_of_getElem? (i := 150) rfl) rfl
theorem wd_3_151 : Cond.instanceMethod yX7_clear ∈ AL := tb_3 (List.mem_of_getElem? (i := 151) rfl) rfl
theorem wd_3_152 : Cond.selects RX7 yX7_clear yX7_clear ∈ AL := tb_3 (List.mem_of_getElem? (i := 152) rfl) rfl
theorem wd_3_153 : Cond.code yX7_clear cX7_clear 2 (some .int) ∈ AL := tb_3 (List.mem_of_getElem? (i := 153) rfl) rfl
theorem wd_3_154 : Cond.methodLink RL 26 yX7_strand ∈ AL := tb_3 (List.mem_of_getElem? (i := 154) rfl) rfl
theorem wd_3_155 : Cond.instanceMethod yX7_strand ∈ AL := tb_3 (List.mem_of_getElem? (i := 155) rfl) rfl
theorem wd_3_156 : Cond.selects RX7 yX7_strand yX7_strand ∈ AL := tb_3 (List.mem_of_getElem? (i := 156) rfl) rfl
theorem wd_3_157 : Cond.code yX7_strand cX7_strand 2 (some .int) ∈ AL := tb_3 (List.mem_of_getElem? (i := 157) rfl) rfl
theorem wd_3_158 : Cond.methodLink RX7 73 yX7_next ∈ AL := tb_3 (List.mem_of_getElem? (i := 158) rfl) rfl
theorem wd_3_160 : Cond.instanceMethod yX7_next ∈ AL := tb_3 (List.mem_of_getElem? (i := 160) rfl) rfl
theorem wd_3_161 : Cond.code yX7_next cX7_next 2 none ∈ AL := tb_3 (List.mem_of_getElem? (i := 161) rfl) rfl
theorem wd_3_162 : Cond.methodLink RX7 49 yX7_letterAt ∈ AL := tb_3 (List.mem_of_getElem? (i := 162) rfl) rfl
theorem wd_3_164 : Cond.instanceMethod yX7_letterAt ∈ AL := tb_3 (List.mem_of_getElem? (i := 164) rfl) rfl
theorem wd_3_165 : Cond.code yX7_letterAt cX7_letterAt 2 (some .int) ∈ AL := tb_3 (List.mem_of_getElem? (i := 165) rfl) rfl
theorem wd_3_166 : Cond.methodLink RX7 62 yX7_isFigure ∈ AL := tb_3 (List.mem_of_getElem? (i := 166) rfl) rfl
theorem wd_3_167 : Cond.static yX7_isFigure ∈ AL := tb_3 (List.mem_of_getElem? (i := 167) rfl) rfl
theorem wd_3_168 : Cond.code yX7_isFigure cX7_isFigure 1 (some .boolean) ∈ AL := tb_3 (List.mem_of_getElem? (i := 168) rfl) rfl
theorem wd_3_169 : Cond.methodLink RX7 66 yX7_isLetter ∈ AL := tb_3 (List.mem_of_getElem? (i := 169) rfl) rfl
theorem wd_3_170 : Cond.static yX7_isLetter ∈ AL := tb_3 (List.mem_of_getElem? (i := 170) rfl) rfl
theorem wd_3_171 : Cond.code yX7_isLetter cX7_isLetter 1 (some .boolean) ∈ AL := tb_3 (List.mem_of_getElem? (i := 171) rfl) rfl
theorem wd_3_172 : Cond.methodLink RX7 103 yX7_readItem ∈ AL := tb_3 (List.mem_of_getElem? (i := 172) rfl) rfl
theorem wd_3_174 : Cond.instanceMethod yX7_readItem ∈ AL := tb_3 (List.mem_of_getElem? (i := 174) rfl) rfl
theorem wd_3_175 : Cond.code yX7_readItem cX7_readItem 5 none ∈ AL := tb_3 (List.mem_of_getElem? (i := 175) rfl) rfl
theorem wd_3_176 : Cond.methodLink RX7 79 yX7_takesNumber ∈ AL := tb_3 (List.mem_of_getElem? (i := 176) rfl) rfl
theorem wd_3_178 : Cond.instanceMethod yX7_takesNumber ∈ AL := tb_3 (List.mem_of_getElem? (i := 178) rfl) rfl
theorem wd_3_179 : Cond.code yX7_takesNumber cX7_takesNumber 5 (some .int) ∈ AL := tb_3 (List.mem_of_getElem? (i := 179) rfl) rfl
theorem wd_3_180 : Cond.methodLink RX7 99 yX7_takesCell ∈ AL := tb_3 (List.mem_of_getElem? (i := 180) rfl) rfl
theorem wd_3_182 : Cond.instanceMethod yX7_takesCell ∈ AL := tb_3 (List.mem_of_getElem? (i := 182) rfl) rfl
theorem wd_3_183 : Cond.code yX7_takesCell cX7_takesCell 5 (some .int) ∈ AL := tb_3 (List.mem_of_getElem? (i := 183) rfl) rfl
theorem wd_3_184 : Cond.methodLink RX7 89 yX7_has ∈ AL := tb_3 (List.mem_of_getElem? (i := 184) rfl) rfl
theorem wd_3_185 : Cond.static yX7_has ∈ AL := tb_3 (List.mem_of_getElem? (i := 185) rfl) rfl
theorem wd_3_186 : Cond.code yX7_has cX7_has 2 (some .boolean) ∈ AL := tb_3 (List.mem_of_getElem? (i := 186) rfl) rfl
theorem wd_3_187 : Cond.methodLink RX7 106 yX7_settles ∈ AL := tb_3 (List.mem_of_getElem? (i := 187) rfl) rfl
theorem wd_3_189 : Cond.instanceMethod yX7_settles ∈ AL := tb_3 (List.mem_of_getElem? (i := 189) rfl) rfl
theorem wd_3_190 : Cond.code yX7_settles cX7_settles 2 none ∈ AL := tb_3 (List.mem_of_getElem? (i := 190) rfl) rfl
theorem wd_3_191 : Cond.methodLink RL 31 yX7_cell ∈ AL := tb_3 (List.mem_of_getElem? (i := 191) rfl) rfl
theorem wd_3_192 : Cond.instanceMethod yX7_cell ∈ AL := tb_3 (List.mem_of_getElem? (i := 192) rfl) rfl
theorem wd_3_193 : Cond.selects RX7 yX7_cell yX7_cell ∈ AL := tb_3 (List.mem_of_getElem? (i := 193) rfl) rfl
theorem wd_3_194 : Cond.code yX7_cell cX7_cell 5 (some .int) ∈ AL := tb_3 (List.mem_of_getElem? (i := 194) rfl) rfl
theorem wd_3_195 : Cond.methodLink RX7 112 yX7_isCell ∈ AL := tb_3 (List.mem_of_getElem? (i := 195) rfl) rfl
theorem wd_3_197 : Cond.instanceMethod yX7_isCell ∈ AL := tb_3 (List.mem_of_getElem? (i := 197) rfl) rfl
theorem wd_3_198 : Cond.code yX7_isCell cX7_isCell 3 (some .boolean) ∈ AL := tb_3 (List.mem_of_getElem? (i := 198) rfl) rfl
theorem wd_3_199 : Cond.methodLink RX7 125 yX7_isDry ∈ AL := tb_3 (List.mem_of_getElem? (i := 199) rfl) rfl
theorem wd_3_201 : Cond.instanceMethod yX7_isDry ∈ AL := tb_3 (List.mem_of_getElem? (i := 201) rfl) rfl
theorem wd_3_202 : Cond.code yX7_isDry cX7_isDry 2 (some .boolean) ∈ AL := tb_3 (List.mem_of_getElem? (i := 202) rfl) rfl
theorem wd_3_203 : Cond.methodLink RX7 118 yX7_isStill ∈ AL := tb_3 (List.mem_of_getElem? (i := 203) rfl) rfl
theorem wd_3_205 : Cond.instanceMethod yX7_isStill ∈ AL := tb_3 (List.mem_of_getElem? (i := 205) rfl) rfl
theorem wd_3_206 : Cond.code yX7_isStill cX7_isStill 6 (some .boolean) ∈ AL := tb_3 (List.mem_of_getElem? (i := 206) rfl) rfl
theorem wd_3_207 : Cond.methodLink RX7 115 yX7_isCloth ∈ AL := tb_3 (List.mem_of_getElem? (i := 207) rfl) rfl
theorem wd_3_209 : Cond.instanceMethod yX7_isCloth ∈ AL := tb_3 (List.mem_of_getElem? (i := 209) rfl) rfl
theorem wd_3_210 : Cond.code yX7_isCloth cX7_isCloth 4 (some .boolean) ∈ AL := tb_3 (List.mem_of_getElem? (i := 210) rfl) rfl
theorem wd_3_211 : Cond.methodLink RL 36 yX7_family ∈ AL := tb_3 (List.mem_of_getElem? (i := 211) rfl) rfl
theorem wd_3_212 : Cond.instanceMethod yX7_family ∈ AL := tb_3 (List.mem_of_getElem? (i := 212) rfl) rfl
theorem wd_3_213 : Cond.selects RX7 yX7_family yX7_family ∈ AL := tb_3 (List.mem_of_getElem? (i := 213) rfl) rfl
theorem wd_3_214 : Cond.code yX7_family cX7_family 3 (some .int) ∈ AL := tb_3 (List.mem_of_getElem? (i := 214) rfl) rfl
theorem wd_3_215 : Cond.methodLink RX7 128 yX7_isFamily ∈ AL := tb_3 (List.mem_of_getElem? (i := 215) rfl) rfl
theorem wd_3_216 : Cond.static yX7_isFamily ∈ AL := tb_3 (List.mem_of_getElem? (i := 216) rfl) rfl
theorem wd_3_217 : Cond.code yX7_isFamily cX7_isFamily 1 (some .boolean) ∈ AL := tb_3 (List.mem_of_getElem? (i := 217) rfl) rfl
theorem wd_3_218 : Cond.methodLink RX7 122 yX7_heldBy ∈ AL := tb_3 (List.mem_of_getElem? (i := 218) rfl) rfl
theorem wd_3_220 : Cond.instanceMethod yX7_heldBy ∈ AL := tb_3 (List.mem_of_getElem? (i := 220) rfl) rfl
theorem wd_3_221 : Cond.code yX7_heldBy cX7_heldBy 4 (some .int) ∈ AL := tb_3 (List.mem_of_getElem? (i := 221) rfl) rfl
theorem wd_3_222 : Cond.methodLink RX7 131 yX7_stillOnes ∈ AL := tb_3 (List.mem_of_getElem? (i := 222) rfl) rfl
theorem wd_3_224 : Cond.instanceMethod yX7_stillOnes ∈ AL := tb_3 (List.mem_of_getElem? (i := 224) rfl) rfl
theorem wd_3_225 : Cond.code yX7_stillOnes cX7_stillOnes 6 (some .int) ∈ AL := tb_3 (List.mem_of_getElem? (i := 225) rfl) rfl
theorem wd_3_226 : Cond.methodLink RX7 134 yX7_bits ∈ AL := tb_3 (List.mem_of_getElem? (i := 226) rfl) rfl
theorem wd_3_227 : Cond.static yX7_bits ∈ AL := tb_3 (List.mem_of_getElem? (i := 227) rfl) rfl
theorem wd_3_228 : Cond.code yX7_bits cX7_bits 3 (some .int) ∈ AL := tb_3 (List.mem_of_getElem? (i := 228) rfl) rfl
theorem wd_3_229 : Cond.methodLink RX7 137 yX7_losesOf ∈ AL := tb_3 (List.mem_of_getElem? (i := 229) rfl) rfl
theorem wd_3_231 : Cond.instanceMethod yX7_losesOf ∈ AL := tb_3 (List.mem_of_getElem? (i := 231) rfl) rfl
theorem wd_3_232 : Cond.code yX7_losesOf cX7_losesOf 4 (some .int) ∈ AL := tb_3 (List.mem_of_getElem? (i := 232) rfl) rfl
theorem wd_3_233 : Cond.methodLink RL 40 yX7_takes ∈ AL := tb_3 (List.mem_of_getElem? (i := 233) rfl) rfl
theorem wd_3_234 : Cond.instanceMethod yX7_takes ∈ AL := tb_3 (List.mem_of_getElem? (i := 234) rfl) rfl
theorem wd_3_235 : Cond.selects RX7 yX7_takes yX7_takes ∈ AL := tb_3 (List.mem_of_getElem? (i := 235) rfl) rfl
theorem wd_3_236 : Cond.code yX7_takes cX7_takes 5 (some .int) ∈ AL := tb_3 (List.mem_of_getElem? (i := 236) rfl) rfl
theorem wd_3_237 : Cond.methodLink RX7 140 yX7_remembers ∈ AL := tb_3 (List.mem_of_getElem? (i := 237) rfl) rfl
theorem wd_3_239 : Cond.instanceMethod yX7_remembers ∈ AL := tb_3 (List.mem_of_getElem? (i := 239) rfl) rfl
theorem wd_4_0 : Cond.code yX7_remembers cX7_remembers 3 none ∈ AL := tb_4 (List.mem_of_getElem? (i := 0) rfl) rfl
theorem wd_4_1 : Cond.methodLink RL 44 yX7_leaves ∈ AL := tb_4 (List.mem_of_getElem? (i := 1) rfl) rfl
theorem wd_4_2 : Cond.instanceMethod yX7_leaves ∈ AL := tb_4 (List.mem_of_getElem? (i := 2) rfl) rfl
theorem wd_4_3 : Cond.selects RX7 yX7_leaves yX7_leaves ∈ AL := tb_4 (List.mem_of_getElem? (i := 3) rfl) rfl
theorem wd_4_4 : Cond.code yX7_leaves cX7_leaves 5 (some .int) ∈ AL := tb_4 (List.mem_of_getElem? (i := 4) rfl) rfl
theorem wd_4_5 : Cond.methodLink RL 48 yX7_puts ∈ AL := tb_4 (List.mem_of_getElem? (i := 5) rfl) rfl
theorem wd_4_6 : Cond.instanceMethod yX7_puts ∈ AL := tb_4 (List.mem_of_getElem? (i := 6) rfl) rfl
theorem wd_4_7 : Cond.selects RX7 yX7_puts yX7_puts ∈ AL := tb_4 (List.mem_of_getElem? (i := 7) rfl) rfl
theorem wd_4_8 : Cond.code yX7_puts cX7_puts 5 (some .int) ∈ AL := tb_4 (List.mem_of_getElem? (i := 8) rfl) rfl
theorem wd_4_9 : Cond.methodLink RL 52 yX7_veers ∈ AL := tb_4 (List.mem_of_getElem? (i := 9) rfl) rfl
theorem wd_4_10 : Cond.instanceMethod yX7_veers ∈ AL := tb_4 (List.mem_of_getElem? (i := 10) rfl) rfl
theorem wd_4_11 : Cond.selects RX7 yX7_veers yX7_veers ∈ AL := tb_4 (List.mem_of_getElem? (i := 11) rfl) rfl
theorem wd_4_12 : Cond.code yX7_veers cX7_veers 1 (some .int) ∈ AL := tb_4 (List.mem_of_getElem? (i := 12) rfl) rfl
theorem wd_4_13 : Cond.methodLink RL 56 yX7_tide ∈ AL := tb_4 (List.mem_of_getElem? (i := 13) rfl) rfl
theorem wd_4_14 : Cond.instanceMethod yX7_tide ∈ AL := tb_4 (List.mem_of_getElem? (i := 14) rfl) rfl
theorem wd_4_15 : Cond.selects RX7 yX7_tide yX7_tide ∈ AL := tb_4 (List.mem_of_getElem? (i := 15) rfl) rfl
theorem wd_4_16 : Cond.code yX7_tide cX7_tide 3 (some .int) ∈ AL := tb_4 (List.mem_of_getElem? (i := 16) rfl) rfl
theorem wd_4_17 : Cond.methodLink RL 60 yX7_undo ∈ AL := tb_4 (List.mem_of_getElem? (i := 17) rfl) rfl
theorem wd_4_18 : Cond.instanceMethod yX7_undo ∈ AL := tb_4 (List.mem_of_getElem? (i := 18) rfl) rfl
theorem wd_4_19 : Cond.selects RX7 yX7_undo yX7_undo ∈ AL := tb_4 (List.mem_of_getElem? (i := 19) rfl) rfl
theorem wd_4_20 : Cond.code yX7_undo cX7_undo 3 (some .int) ∈ AL := tb_4 (List.mem_of_getElem? (i := 20) rfl) rfl
theorem wd_4_21 : Cond.methodLink RL 64 yX7_now ∈ AL := tb_4 (List.mem_of_getElem? (i := 21) rfl) rfl
theorem wd_4_22 : Cond.instanceMethod yX7_now ∈ AL := tb_4 (List.mem_of_getElem? (i := 22) rfl) rfl
theorem wd_4_23 : Cond.selects RX7 yX7_now yX7_now ∈ AL := tb_4 (List.mem_of_getElem? (i := 23) rfl) rfl
theorem wd_4_24 : Cond.code yX7_now cX7_now 4 (some .int) ∈ AL := tb_4 (List.mem_of_getElem? (i := 24) rfl) rfl
theorem wd_4_25 : Cond.methodLink RX7 146 yX7_border ∈ AL := tb_4 (List.mem_of_getElem? (i := 25) rfl) rfl
theorem wd_4_27 : Cond.instanceMethod yX7_border ∈ AL := tb_4 (List.mem_of_getElem? (i := 27) rfl) rfl
theorem wd_4_28 : Cond.code yX7_border cX7_border 4 (some .int) ∈ AL := tb_4 (List.mem_of_getElem? (i := 28) rfl) rfl
theorem wd_4_29 : Cond.methodLink RX7 143 yX7_isBorder ∈ AL := tb_4 (List.mem_of_getElem? (i := 29) rfl) rfl
theorem wd_4_31 : Cond.instanceMethod yX7_isBorder ∈ AL := tb_4 (List.mem_of_getElem? (i := 31) rfl) rfl
theorem wd_4_32 : Cond.code yX7_isBorder cX7_isBorder 5 (some .boolean) ∈ AL := tb_4 (List.mem_of_getElem? (i := 32) rfl) rfl
theorem wd_4_33 : Cond.methodLink RL 68 yX7_water ∈ AL := tb_4 (List.mem_of_getElem? (i := 33) rfl) rfl
theorem wd_4_34 : Cond.instanceMethod yX7_water ∈ AL := tb_4 (List.mem_of_getElem? (i := 34) rfl) rfl
theorem wd_4_35 : Cond.selects RX7 yX7_water yX7_water ∈ AL := tb_4 (List.mem_of_getElem? (i := 35) rfl) rfl
theorem wd_4_36 : Cond.code yX7_water cX7_water 4 (some .int) ∈ AL := tb_4 (List.mem_of_getElem? (i := 36) rfl) rfl
theorem wd_4_37 : Cond.methodLink RX7 156 yX7_findFar ∈ AL := tb_4 (List.mem_of_getElem? (i := 37) rfl) rfl
theorem wd_4_39 : Cond.instanceMethod yX7_findFar ∈ AL := tb_4 (List.mem_of_getElem? (i := 39) rfl) rfl
theorem wd_4_40 : Cond.code yX7_findFar cX7_findFar 5 none ∈ AL := tb_4 (List.mem_of_getElem? (i := 40) rfl) rfl
theorem wd_4_41 : Cond.methodLink RX7 150 yX7_costOf ∈ AL := tb_4 (List.mem_of_getElem? (i := 41) rfl) rfl
theorem wd_4_43 : Cond.instanceMethod yX7_costOf ∈ AL := tb_4 (List.mem_of_getElem? (i := 43) rfl) rfl
theorem wd_4_44 : Cond.code yX7_costOf cX7_costOf 3 (some .int) ∈ AL := tb_4 (List.mem_of_getElem? (i := 44) rfl) rfl
theorem wd_4_45 : Cond.methodLink RX7 153 yX7_leastBeside ∈ AL := tb_4 (List.mem_of_getElem? (i := 45) rfl) rfl
theorem wd_4_47 : Cond.instanceMethod yX7_leastBeside ∈ AL := tb_4 (List.mem_of_getElem? (i := 47) rfl) rfl
theorem wd_4_48 : Cond.code yX7_leastBeside cX7_leastBeside 8 (some .int) ∈ AL := tb_4 (List.mem_of_getElem? (i := 48) rfl) rfl
theorem wd_4_49 : Cond.methodLink RL 72 yX7_help ∈ AL := tb_4 (List.mem_of_getElem? (i := 49) rfl) rfl
theorem wd_4_50 : Cond.instanceMethod yX7_help ∈ AL := tb_4 (List.mem_of_getElem? (i := 50) rfl) rfl
theorem wd_4_51 : Cond.selects RX7 yX7_help yX7_help ∈ AL := tb_4 (List.mem_of_getElem? (i := 51) rfl) rfl
theorem wd_4_52 : Cond.code yX7_help cX7_help 9 (some .int) ∈ AL := tb_4 (List.mem_of_getElem? (i := 52) rfl) rfl
theorem wd_4_53 : Cond.methodLink RL 77 yX7_odds ∈ AL := tb_4 (List.mem_of_getElem? (i := 53) rfl) rfl
theorem wd_4_54 : Cond.instanceMethod yX7_odds ∈ AL := tb_4 (List.mem_of_getElem? (i := 54) rfl) rfl
theorem wd_4_55 : Cond.selects RX7 yX7_odds yX7_odds ∈ AL := tb_4 (List.mem_of_getElem? (i := 55) rfl) rfl
theorem wd_4_56 : Cond.code yX7_odds cX7_odds 12 (some .int) ∈ AL := tb_4 (List.mem_of_getElem? (i := 56) rfl) rfl
theorem wd_4_57 : Cond.methodLink RL 82 yX7_saw ∈ AL := tb_4 (List.mem_of_getElem? (i := 57) rfl) rfl
theorem wd_4_58 : Cond.instanceMethod yX7_saw ∈ AL := tb_4 (List.mem_of_getElem? (i := 58) rfl) rfl
theorem wd_4_59 : Cond.selects RX7 yX7_saw yX7_saw ∈ AL := tb_4 (List.mem_of_getElem? (i := 59) rfl) rfl
theorem wd_4_60 : Cond.code yX7_saw cX7_saw 5 (some .int) ∈ AL := tb_4 (List.mem_of_getElem? (i := 60) rfl) rfl
theorem wd_4_61 : Cond.methodLink RL 86 yX7_forget ∈ AL := tb_4 (List.mem_of_getElem? (i := 61) rfl) rfl
theorem wd_4_62 : Cond.instanceMethod yX7_forget ∈ AL := tb_4 (List.mem_of_getElem? (i := 62) rfl) rfl
theorem wd_4_63 : Cond.selects RX7 yX7_forget yX7_forget ∈ AL := tb_4 (List.mem_of_getElem? (i := 63) rfl) rfl
theorem wd_4_64 : Cond.code yX7_forget cX7_forget 2 (some .int) ∈ AL := tb_4 (List.mem_of_getElem? (i := 64) rfl) rfl
theorem wd_4_65 : Cond.methodLink RL 90 yX7_moved ∈ AL := tb_4 (List.mem_of_getElem? (i := 65) rfl) rfl
theorem wd_4_66 : Cond.instanceMethod yX7_moved ∈ AL := tb_4 (List.mem_of_getElem? (i := 66) rfl) rfl
theorem wd_4_67 : Cond.selects RX7 yX7_moved yX7_moved ∈ AL := tb_4 (List.mem_of_getElem? (i := 67) rfl) rfl
theorem wd_4_68 : Cond.code yX7_moved cX7_moved 7 (some .int) ∈ AL := tb_4 (List.mem_of_getElem? (i := 68) rfl) rfl
theorem wd_4_69 : Cond.methodLink RX7 160 yX7_isSo ∈ AL := tb_4 (List.mem_of_getElem? (i := 69) rfl) rfl
theorem wd_4_71 : Cond.instanceMethod yX7_isSo ∈ AL := tb_4 (List.mem_of_getElem? (i := 71) rfl) rfl
theorem wd_4_72 : Cond.code yX7_isSo cX7_isSo 5 (some .boolean) ∈ AL := tb_4 (List.mem_of_getElem? (i := 72) rfl) rfl
theorem wd_4_73 : Cond.methodLink RL 94 yX7_mark ∈ AL := tb_4 (List.mem_of_getElem? (i := 73) rfl) rfl
theorem wd_4_74 : Cond.instanceMethod yX7_mark ∈ AL := tb_4 (List.mem_of_getElem? (i := 74) rfl) rfl
theorem wd_4_75 : Cond.selects RX7 yX7_mark yX7_mark ∈ AL := tb_4 (List.mem_of_getElem? (i := 75) rfl) rfl
theorem wd_4_76 : Cond.code yX7_mark cX7_mark 6 (some .int) ∈ AL := tb_4 (List.mem_of_getElem? (i := 76) rfl) rfl
theorem wd_4_77 : Cond.constant RX7 163 (-1000000) ∈ AL := tb_4 (List.mem_of_getElem? (i := 77) rfl) rfl
theorem wd_4_78 : Cond.constantLong RX7 168 (11) ∈ AL := tb_4 (List.mem_of_getElem? (i := 78) rfl) rfl
theorem wd_4_79 : Cond.constantLong RX7 170 (101) ∈ AL := tb_4 (List.mem_of_getElem? (i := 79) rfl) rfl
theorem wd_4_80 : Cond.constantLong RX7 172 (1011) ∈ AL := tb_4 (List.mem_of_getElem? (i := 80) rfl) rfl
theorem wd_4_81 : Cond.constantLong RX7 174 (10101) ∈ AL := tb_4 (List.mem_of_getElem? (i := 81) rfl) rfl
theorem wd_4_82 : Cond.constantLong RX7 176 (100001) ∈ AL := tb_4 (List.mem_of_getElem? (i := 82) rfl) rfl
theorem wd_4_83 : Cond.methodLink RL 98 yX7_keep ∈ AL := tb_4 (List.mem_of_getElem? (i := 83) rfl) rfl
theorem wd_4_84 : Cond.instanceMethod yX7_keep ∈ AL := tb_4 (List.mem_of_getElem? (i := 84) rfl) rfl
theorem wd_4_85 : Cond.selects RX7 yX7_keep yX7_keep ∈ AL := tb_4 (List.mem_of_getElem? (i := 85) rfl) rfl
theorem wd_4_86 : Cond.code yX7_keep cX7_keep 3 (some .int) ∈ AL := tb_4 (List.mem_of_getElem? (i := 86) rfl) rfl
theorem wd_4_87 : Cond.methodLink RL 102 yX7_back ∈ AL := tb_4 (List.mem_of_getElem? (i := 87) rfl) rfl
theorem wd_4_88 : Cond.instanceMethod yX7_back ∈ AL := tb_4 (List.mem_of_getElem? (i := 88) rfl) rfl
theorem wd_4_89 : Cond.selects RX7 yX7_back yX7_back ∈ AL := tb_4 (List.mem_of_getElem? (i := 89) rfl) rfl
theorem wd_4_90 : Cond.code yX7_back cX7_back 3 (some .int) ∈ AL := tb_4 (List.mem_of_getElem? (i := 90) rfl) rfl
theorem wd_4_91 : Cond.methodLink RL 106 yX7_count ∈ AL := tb_4 (List.mem_of_getElem? (i := 91) rfl) rfl
theorem wd_4_92 : Cond.instanceMethod yX7_count ∈ AL := tb_4 (List.mem_of_getElem? (i := 92) rfl) rfl
theorem wd_4_93 : Cond.selects RX7 yX7_count yX7_count ∈ AL := tb_4 (List.mem_of_getElem? (i := 93) rfl) rfl
theorem wd_4_94 : Cond.code yX7_count cX7_count 2 (some .int) ∈ AL := tb_4 (List.mem_of_getElem? (i := 94) rfl) rfl
theorem wd_4_95 : Cond.methodLink RL 111 yX7_trace ∈ AL := tb_4 (List.mem_of_getElem? (i := 95) rfl) rfl
theorem wd_4_96 : Cond.instanceMethod yX7_trace ∈ AL := tb_4 (List.mem_of_getElem? (i := 96) rfl) rfl
theorem wd_4_97 : Cond.selects RX7 yX7_trace yX7_trace ∈ AL := tb_4 (List.mem_of_getElem? (i := 97) rfl) rfl
theorem wd_4_98 : Cond.code yX7_trace cX7_trace 1 (some .long) ∈ AL := tb_4 (List.mem_of_getElem? (i := 98) rfl) rfl
theorem inA0 : ∀ w ∈ u_ws RX0 TX0 1, w ∈ AL := by
  intro w hw
  obtain ⟨k, hk, rfl⟩ := List.mem_map.mp hw
  have hk := List.mem_range.mp hk
  obtain rfl : k = 0 := by omega
  exact wd_1_156
theorem inA1 : ∀ w ∈ u_ws RX1 TX1 8, w ∈ AL := by
  intro w hw
  obtain ⟨k, hk, rfl⟩ := List.mem_map.mp hw
  have hk := List.mem_range.mp hk
  rcases (show k = 0 ∨ k = 1 ∨ k = 2 ∨ k = 3 ∨ k = 4 ∨ k = 5 ∨ k = 6 ∨ k = 7 by omega) with rfl | rfl | rfl | rfl | rfl | rfl | rfl | rfl
  · exact wd_1_84
  · exact wd_1_86
  · exact wd_1_88
  · exact wd_1_90
  · exact wd_1_92
  · exact wd_1_94
  · exact wd_1_96
  · exact wd_1_98
theorem inA2 : ∀ w ∈ u_ws RX2 TX2 5, w ∈ AL := by
  intro w hw
  obtain ⟨k, hk, rfl⟩ := List.mem_map.mp hw
  have hk := List.mem_range.mp hk
  rcases (show k = 0 ∨ k = 1 ∨ k = 2 ∨ k = 3 ∨ k = 4 by omega) with rfl | rfl | rfl | rfl | rfl
  · exact wd_1_137
  · exact wd_1_139
  · exact wd_1_141
  · exact wd_1_143
  · exact wd_1_145
theorem inA3 : ∀ w ∈ u_ws RX3 TX3 4, w ∈ AL := by
  intro w hw
  obtain ⟨k, hk, rfl⟩ := List.mem_map.mp hw
  have hk := List.mem_range.mp hk
  rcases (show k = 0 ∨ k = 1 ∨ k = 2 ∨ k = 3 by omega) with rfl | rfl | rfl | rfl
  · exact wd_1_116
  · exact wd_1_118
  · exact wd_1_120
  · exact wd_1_122
theorem inA4 : ∀ w ∈ u_ws RX4 TX4 6, w ∈ AL := by
  intro w hw
  obtain ⟨k, hk, rfl⟩ := List.mem_map.mp hw
  have hk := List.mem_range.mp hk
  rcases (show k = 0 ∨ k = 1 ∨ k = 2 ∨ k = 3 ∨ k = 4 ∨ k = 5 by omega) with rfl | rfl | rfl | rfl | rfl | rfl
  · exact wd_1_61
  · exact wd_1_63
  · exact wd_1_65
  · exact wd_1_67
  · exact wd_1_69
  · exact wd_1_71
theorem inA5 : ∀ w ∈ u_ws RX5 TX5 2, w ∈ AL := by
  intro w hw
  obtain ⟨k, hk, rfl⟩ := List.mem_map.mp hw
  have hk := List.mem_range.mp hk
  rcases (show k = 0 ∨ k = 1 by omega) with rfl | rfl
  · exact wd_1_33
  · exact wd_1_35
theorem inA6 : ∀ w ∈ u_ws RX6 TX6 8, w ∈ AL := by
  intro w hw
  obtain ⟨k, hk, rfl⟩ := List.mem_map.mp hw
  have hk := List.mem_range.mp hk
  rcases (show k = 0 ∨ k = 1 ∨ k = 2 ∨ k = 3 ∨ k = 4 ∨ k = 5 ∨ k = 6 ∨ k = 7 by omega) with rfl | rfl | rfl | rfl | rfl | rfl | rfl | rfl
  · exact wd_1_167
  · exact wd_1_169
  · exact wd_1_171
  · exact wd_1_173
  · exact wd_1_175
  · exact wd_1_177
  · exact wd_1_179
  · exact wd_1_181
theorem inA7 : ∀ w ∈ u_ws RX7 TX7 22, w ∈ AL := by
  intro w hw
  obtain ⟨k, hk, rfl⟩ := List.mem_map.mp hw
  have hk := List.mem_range.mp hk
  rcases (show k = 0 ∨ k = 1 ∨ k = 2 ∨ k = 3 ∨ k = 4 ∨ k = 5 ∨ k = 6 ∨ k = 7 ∨ k = 8 ∨ k = 9 ∨ k = 10 ∨ k = 11 ∨ k = 12 ∨ k = 13 ∨ k = 14 ∨ k = 15 ∨ k = 16 ∨ k = 17 ∨ k = 18 ∨ k = 19 ∨ k = 20 ∨ k = 21 by omega) with rfl | rfl | rfl | rfl | rfl | rfl | rfl | rfl | rfl | rfl | rfl | rfl | rfl | rfl | rfl | rfl | rfl | rfl | rfl | rfl | rfl | rfl
  · exact wd_3_97
  · exact wd_3_99
  · exact wd_3_101
  · exact wd_3_103
  · exact wd_3_105
  · exact wd_3_107
  · exact wd_3_109
  · exact wd_3_111
  · exact wd_3_113
  · exact wd_3_115
  · exact wd_3_117
  · exact wd_3_119
  · exact wd_3_121
  · exact wd_3_123
  · exact wd_3_125
  · exact wd_3_127
  · exact wd_3_129
  · exact wd_3_131
  · exact wd_3_133
  · exact wd_3_135
  · exact wd_3_137
  · exact wd_3_139
